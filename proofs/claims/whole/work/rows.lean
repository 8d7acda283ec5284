section
-- ===== PART A: goes FIRST, ahead of the names: the tables' words, and 'selects' of the private methods out of them =====
/-- a private method of a class that the tables say can be made, by its rows of tables_1 -/
def lw_okq (q : MethodName × Nat) : Prop := (q.1.cls ≠ "java/lang/invoke/MethodHandle" ∧ q.1.cls ≠ "java/lang/invoke/VarHandle") ∧ Cond.instantiable q.1.cls q.2 ∈ tables_1 ∧ Cond.privateMethod q.1 ∈ tables_1 ∧ Cond.instanceMethod q.1 ∈ tables_1
theorem lw_p0 : lw_okq (⟨"OwnSunday$Reader", "readNumbers", "([BII)I"⟩, 2) := ⟨⟨by decide +kernel, by decide +kernel⟩, List.mem_of_getElem? (i := 21) (by decide +kernel), List.mem_of_getElem? (i := 268) (by decide +kernel), List.mem_of_getElem? (i := 269) (by decide +kernel)⟩
theorem lw_p1 : lw_okq (⟨"OwnSunday$Reader", "take", "(IILOwnSunday$Town;LOwnSunday$Book;)Z"⟩, 2) := ⟨⟨by decide +kernel, by decide +kernel⟩, List.mem_of_getElem? (i := 21) (by decide +kernel), List.mem_of_getElem? (i := 278) (by decide +kernel), List.mem_of_getElem? (i := 279) (by decide +kernel)⟩
theorem lw_p2 : lw_okq (⟨"OwnSunday$Reader", "takeWeeks", "(LOwnSunday$Town;)Z"⟩, 2) := ⟨⟨by decide +kernel, by decide +kernel⟩, List.mem_of_getElem? (i := 21) (by decide +kernel), List.mem_of_getElem? (i := 282) (by decide +kernel), List.mem_of_getElem? (i := 283) (by decide +kernel)⟩
theorem lw_p3 : lw_okq (⟨"OwnSunday$Reader", "takeHouse", "(ILOwnSunday$Town;LOwnSunday$Book;)Z"⟩, 2) := ⟨⟨by decide +kernel, by decide +kernel⟩, List.mem_of_getElem? (i := 21) (by decide +kernel), List.mem_of_getElem? (i := 289) (by decide +kernel), List.mem_of_getElem? (i := 290) (by decide +kernel)⟩
theorem lw_p4 : lw_okq (⟨"OwnSunday$Reader", "takeNew", "(LOwnSunday$Town;LOwnSunday$Book;)Z"⟩, 2) := ⟨⟨by decide +kernel, by decide +kernel⟩, List.mem_of_getElem? (i := 21) (by decide +kernel), List.mem_of_getElem? (i := 295) (by decide +kernel), List.mem_of_getElem? (i := 296) (by decide +kernel)⟩
theorem lw_p5 : lw_okq (⟨"OwnSunday$Reader", "takeWork", "(LOwnSunday$Town;)Z"⟩, 2) := ⟨⟨by decide +kernel, by decide +kernel⟩, List.mem_of_getElem? (i := 21) (by decide +kernel), List.mem_of_getElem? (i := 305) (by decide +kernel), List.mem_of_getElem? (i := 306) (by decide +kernel)⟩
theorem lw_p6 : lw_okq (⟨"OwnSunday$Reader", "takeCook", "(LOwnSunday$Town;)Z"⟩, 2) := ⟨⟨by decide +kernel, by decide +kernel⟩, List.mem_of_getElem? (i := 21) (by decide +kernel), List.mem_of_getElem? (i := 313) (by decide +kernel), List.mem_of_getElem? (i := 314) (by decide +kernel)⟩
theorem lw_p7 : lw_okq (⟨"OwnSunday$Reader", "placeOfWrongRest", "(LOwnSunday$Town;LOwnSunday$Book;)I"⟩, 2) := ⟨⟨by decide +kernel, by decide +kernel⟩, List.mem_of_getElem? (i := 21) (by decide +kernel), List.mem_of_getElem? (i := 317) (by decide +kernel), List.mem_of_getElem? (i := 318) (by decide +kernel)⟩
theorem lw_p8 : lw_okq (⟨"OwnSunday", "isHouse", "(I)Z"⟩, 12) := ⟨⟨by decide +kernel, by decide +kernel⟩, List.mem_of_getElem? (i := 13) (by decide +kernel), List.mem_of_getElem? (i := 329) (by decide +kernel), List.mem_of_getElem? (i := 330) (by decide +kernel)⟩
theorem lw_p9 : lw_okq (⟨"OwnSunday", "fillRota", "()V"⟩, 12) := ⟨⟨by decide +kernel, by decide +kernel⟩, List.mem_of_getElem? (i := 13) (by decide +kernel), List.mem_of_getElem? (i := 345) (by decide +kernel), List.mem_of_getElem? (i := 346) (by decide +kernel)⟩
theorem lw_p10 : lw_okq (⟨"OwnSunday", "upOn", "(J)I"⟩, 12) := ⟨⟨by decide +kernel, by decide +kernel⟩, List.mem_of_getElem? (i := 13) (by decide +kernel), List.mem_of_getElem? (i := 366) (by decide +kernel), List.mem_of_getElem? (i := 367) (by decide +kernel)⟩
theorem lw_p11 : lw_okq (⟨"OwnSunday", "handsOn", "(IJ)I"⟩, 12) := ⟨⟨by decide +kernel, by decide +kernel⟩, List.mem_of_getElem? (i := 13) (by decide +kernel), List.mem_of_getElem? (i := 381) (by decide +kernel), List.mem_of_getElem? (i := 382) (by decide +kernel)⟩
theorem lw_p12 : lw_okq (⟨"OwnSunday", "firstShort", "(I)I"⟩, 12) := ⟨⟨by decide +kernel, by decide +kernel⟩, List.mem_of_getElem? (i := 13) (by decide +kernel), List.mem_of_getElem? (i := 395) (by decide +kernel), List.mem_of_getElem? (i := 396) (by decide +kernel)⟩
theorem lw_p13 : lw_okq (⟨"OwnSunday", "isWork", "(I)Z"⟩, 12) := ⟨⟨by decide +kernel, by decide +kernel⟩, List.mem_of_getElem? (i := 13) (by decide +kernel), List.mem_of_getElem? (i := 409) (by decide +kernel), List.mem_of_getElem? (i := 410) (by decide +kernel)⟩
theorem lw_p14 : lw_okq (⟨"OwnSunday", "isSet", "(I)Z"⟩, 12) := ⟨⟨by decide +kernel, by decide +kernel⟩, List.mem_of_getElem? (i := 13) (by decide +kernel), List.mem_of_getElem? (i := 417) (by decide +kernel), List.mem_of_getElem? (i := 418) (by decide +kernel)⟩
theorem lw_p15 : lw_okq (⟨"OwnSunday", "allUp", "(IJ)Z"⟩, 12) := ⟨⟨by decide +kernel, by decide +kernel⟩, List.mem_of_getElem? (i := 13) (by decide +kernel), List.mem_of_getElem? (i := 421) (by decide +kernel), List.mem_of_getElem? (i := 422) (by decide +kernel)⟩
def lw_privs_1 : List (MethodName × Nat) := [(⟨"OwnSunday$Reader", "readNumbers", "([BII)I"⟩, 2), (⟨"OwnSunday$Reader", "take", "(IILOwnSunday$Town;LOwnSunday$Book;)Z"⟩, 2), (⟨"OwnSunday$Reader", "takeWeeks", "(LOwnSunday$Town;)Z"⟩, 2), (⟨"OwnSunday$Reader", "takeHouse", "(ILOwnSunday$Town;LOwnSunday$Book;)Z"⟩, 2), (⟨"OwnSunday$Reader", "takeNew", "(LOwnSunday$Town;LOwnSunday$Book;)Z"⟩, 2), (⟨"OwnSunday$Reader", "takeWork", "(LOwnSunday$Town;)Z"⟩, 2), (⟨"OwnSunday$Reader", "takeCook", "(LOwnSunday$Town;)Z"⟩, 2), (⟨"OwnSunday$Reader", "placeOfWrongRest", "(LOwnSunday$Town;LOwnSunday$Book;)I"⟩, 2), (⟨"OwnSunday", "isHouse", "(I)Z"⟩, 12), (⟨"OwnSunday", "fillRota", "()V"⟩, 12), (⟨"OwnSunday", "upOn", "(J)I"⟩, 12), (⟨"OwnSunday", "handsOn", "(IJ)I"⟩, 12), (⟨"OwnSunday", "firstShort", "(I)I"⟩, 12), (⟨"OwnSunday", "isWork", "(I)Z"⟩, 12), (⟨"OwnSunday", "isSet", "(I)Z"⟩, 12), (⟨"OwnSunday", "allUp", "(IJ)Z"⟩, 12)]
theorem lw_r1 : ∀ q ∈ lw_privs_1, lw_okq q := List.forall_mem_cons.mpr ⟨lw_p0, List.forall_mem_cons.mpr ⟨lw_p1, List.forall_mem_cons.mpr ⟨lw_p2, List.forall_mem_cons.mpr ⟨lw_p3, List.forall_mem_cons.mpr ⟨lw_p4, List.forall_mem_cons.mpr ⟨lw_p5, List.forall_mem_cons.mpr ⟨lw_p6, List.forall_mem_cons.mpr ⟨lw_p7, List.forall_mem_cons.mpr ⟨lw_p8, List.forall_mem_cons.mpr ⟨lw_p9, List.forall_mem_cons.mpr ⟨lw_p10, List.forall_mem_cons.mpr ⟨lw_p11, List.forall_mem_cons.mpr ⟨lw_p12, List.forall_mem_cons.mpr ⟨lw_p13, List.forall_mem_cons.mpr ⟨lw_p14, List.forall_mem_cons.mpr ⟨lw_p15, fun _ h => absurd h List.not_mem_nil⟩⟩⟩⟩⟩⟩⟩⟩⟩⟩⟩⟩⟩⟩⟩⟩
theorem lw_p16 : lw_okq (⟨"OwnSunday", "daysAllUp", "(IJI)I"⟩, 12) := ⟨⟨by decide +kernel, by decide +kernel⟩, List.mem_of_getElem? (i := 13) (by decide +kernel), List.mem_of_getElem? (i := 430) (by decide +kernel), List.mem_of_getElem? (i := 431) (by decide +kernel)⟩
theorem lw_p17 : lw_okq (⟨"OwnSunday$Rota", "mostOfWeek", "(III)I"⟩, 3) := ⟨⟨by decide +kernel, by decide +kernel⟩, List.mem_of_getElem? (i := 133) (by decide +kernel), List.mem_of_getElem? (i := 455) (by decide +kernel), List.mem_of_getElem? (i := 456) (by decide +kernel)⟩
theorem lw_p18 : lw_okq (⟨"OwnSunday", "firstDayResting", "(I)I"⟩, 12) := ⟨⟨by decide +kernel, by decide +kernel⟩, List.mem_of_getElem? (i := 13) (by decide +kernel), List.mem_of_getElem? (i := 460) (by decide +kernel), List.mem_of_getElem? (i := 461) (by decide +kernel)⟩
theorem lw_p19 : lw_okq (⟨"OwnSunday", "daysToDo", "(IJJ)I"⟩, 12) := ⟨⟨by decide +kernel, by decide +kernel⟩, List.mem_of_getElem? (i := 13) (by decide +kernel), List.mem_of_getElem? (i := 468) (by decide +kernel), List.mem_of_getElem? (i := 469) (by decide +kernel)⟩
theorem lw_p20 : lw_okq (⟨"OwnSunday", "isNewHouse", "(I)Z"⟩, 12) := ⟨⟨by decide +kernel, by decide +kernel⟩, List.mem_of_getElem? (i := 13) (by decide +kernel), List.mem_of_getElem? (i := 476) (by decide +kernel), List.mem_of_getElem? (i := 477) (by decide +kernel)⟩
theorem lw_p21 : lw_okq (⟨"OwnSunday", "goThroughSettled", "()V"⟩, 12) := ⟨⟨by decide +kernel, by decide +kernel⟩, List.mem_of_getElem? (i := 13) (by decide +kernel), List.mem_of_getElem? (i := 480) (by decide +kernel), List.mem_of_getElem? (i := 481) (by decide +kernel)⟩
theorem lw_p22 : lw_okq (⟨"OwnSunday", "anyEverShort", "()Z"⟩, 12) := ⟨⟨by decide +kernel, by decide +kernel⟩, List.mem_of_getElem? (i := 13) (by decide +kernel), List.mem_of_getElem? (i := 494) (by decide +kernel), List.mem_of_getElem? (i := 495) (by decide +kernel)⟩
theorem lw_p23 : lw_okq (⟨"OwnSunday", "everShort", "(I)Z"⟩, 12) := ⟨⟨by decide +kernel, by decide +kernel⟩, List.mem_of_getElem? (i := 13) (by decide +kernel), List.mem_of_getElem? (i := 498) (by decide +kernel), List.mem_of_getElem? (i := 499) (by decide +kernel)⟩
theorem lw_p24 : lw_okq (⟨"OwnSunday$Ways", "ofHouse", "([II)I"⟩, 10) := ⟨⟨by decide +kernel, by decide +kernel⟩, List.mem_of_getElem? (i := 151) (by decide +kernel), List.mem_of_getElem? (i := 525) (by decide +kernel), List.mem_of_getElem? (i := 526) (by decide +kernel)⟩
theorem lw_p25 : lw_okq (⟨"OwnSunday", "findChanges", "(I)V"⟩, 12) := ⟨⟨by decide +kernel, by decide +kernel⟩, List.mem_of_getElem? (i := 13) (by decide +kernel), List.mem_of_getElem? (i := 533) (by decide +kernel), List.mem_of_getElem? (i := 534) (by decide +kernel)⟩
theorem lw_p26 : lw_okq (⟨"OwnSunday", "findOneChange", "(I)Z"⟩, 12) := ⟨⟨by decide +kernel, by decide +kernel⟩, List.mem_of_getElem? (i := 13) (by decide +kernel), List.mem_of_getElem? (i := 538) (by decide +kernel), List.mem_of_getElem? (i := 539) (by decide +kernel)⟩
theorem lw_p27 : lw_okq (⟨"OwnSunday", "helpfulRest", "(II)I"⟩, 12) := ⟨⟨by decide +kernel, by decide +kernel⟩, List.mem_of_getElem? (i := 13) (by decide +kernel), List.mem_of_getElem? (i := 542) (by decide +kernel), List.mem_of_getElem? (i := 543) (by decide +kernel)⟩
theorem lw_p28 : lw_okq (⟨"OwnSunday", "hasSkillOf", "(II)Z"⟩, 12) := ⟨⟨by decide +kernel, by decide +kernel⟩, List.mem_of_getElem? (i := 13) (by decide +kernel), List.mem_of_getElem? (i := 546) (by decide +kernel), List.mem_of_getElem? (i := 547) (by decide +kernel)⟩
theorem lw_p29 : lw_okq (⟨"OwnSunday", "weekLength", "(I)I"⟩, 12) := ⟨⟨by decide +kernel, by decide +kernel⟩, List.mem_of_getElem? (i := 13) (by decide +kernel), List.mem_of_getElem? (i := 550) (by decide +kernel), List.mem_of_getElem? (i := 551) (by decide +kernel)⟩
theorem lw_p30 : lw_okq (⟨"OwnSunday", "findTwoChanges", "(I)V"⟩, 12) := ⟨⟨by decide +kernel, by decide +kernel⟩, List.mem_of_getElem? (i := 13) (by decide +kernel), List.mem_of_getElem? (i := 556) (by decide +kernel), List.mem_of_getElem? (i := 557) (by decide +kernel)⟩
theorem lw_p31 : lw_okq (⟨"OwnSunday", "findSecondChange", "(III)Z"⟩, 12) := ⟨⟨by decide +kernel, by decide +kernel⟩, List.mem_of_getElem? (i := 13) (by decide +kernel), List.mem_of_getElem? (i := 560) (by decide +kernel), List.mem_of_getElem? (i := 561) (by decide +kernel)⟩
def lw_privs_2 : List (MethodName × Nat) := [(⟨"OwnSunday", "daysAllUp", "(IJI)I"⟩, 12), (⟨"OwnSunday$Rota", "mostOfWeek", "(III)I"⟩, 3), (⟨"OwnSunday", "firstDayResting", "(I)I"⟩, 12), (⟨"OwnSunday", "daysToDo", "(IJJ)I"⟩, 12), (⟨"OwnSunday", "isNewHouse", "(I)Z"⟩, 12), (⟨"OwnSunday", "goThroughSettled", "()V"⟩, 12), (⟨"OwnSunday", "anyEverShort", "()Z"⟩, 12), (⟨"OwnSunday", "everShort", "(I)Z"⟩, 12), (⟨"OwnSunday$Ways", "ofHouse", "([II)I"⟩, 10), (⟨"OwnSunday", "findChanges", "(I)V"⟩, 12), (⟨"OwnSunday", "findOneChange", "(I)Z"⟩, 12), (⟨"OwnSunday", "helpfulRest", "(II)I"⟩, 12), (⟨"OwnSunday", "hasSkillOf", "(II)Z"⟩, 12), (⟨"OwnSunday", "weekLength", "(I)I"⟩, 12), (⟨"OwnSunday", "findTwoChanges", "(I)V"⟩, 12), (⟨"OwnSunday", "findSecondChange", "(III)Z"⟩, 12)]
theorem lw_r2 : ∀ q ∈ lw_privs_2, lw_okq q := List.forall_mem_cons.mpr ⟨lw_p16, List.forall_mem_cons.mpr ⟨lw_p17, List.forall_mem_cons.mpr ⟨lw_p18, List.forall_mem_cons.mpr ⟨lw_p19, List.forall_mem_cons.mpr ⟨lw_p20, List.forall_mem_cons.mpr ⟨lw_p21, List.forall_mem_cons.mpr ⟨lw_p22, List.forall_mem_cons.mpr ⟨lw_p23, List.forall_mem_cons.mpr ⟨lw_p24, List.forall_mem_cons.mpr ⟨lw_p25, List.forall_mem_cons.mpr ⟨lw_p26, List.forall_mem_cons.mpr ⟨lw_p27, List.forall_mem_cons.mpr ⟨lw_p28, List.forall_mem_cons.mpr ⟨lw_p29, List.forall_mem_cons.mpr ⟨lw_p30, List.forall_mem_cons.mpr ⟨lw_p31, fun _ h => absurd h List.not_mem_nil⟩⟩⟩⟩⟩⟩⟩⟩⟩⟩⟩⟩⟩⟩⟩⟩
theorem lw_p32 : lw_okq (⟨"OwnSunday", "shortDaysWed", "(III)I"⟩, 12) := ⟨⟨by decide +kernel, by decide +kernel⟩, List.mem_of_getElem? (i := 13) (by decide +kernel), List.mem_of_getElem? (i := 568) (by decide +kernel), List.mem_of_getElem? (i := 569) (by decide +kernel)⟩
theorem lw_p33 : lw_okq (⟨"OwnSunday", "goThroughFits", "()V"⟩, 12) := ⟨⟨by decide +kernel, by decide +kernel⟩, List.mem_of_getElem? (i := 13) (by decide +kernel), List.mem_of_getElem? (i := 588) (by decide +kernel), List.mem_of_getElem? (i := 589) (by decide +kernel)⟩
theorem lw_p34 : lw_okq (⟨"OwnSunday", "allSeenWasSo", "()Z"⟩, 12) := ⟨⟨by decide +kernel, by decide +kernel⟩, List.mem_of_getElem? (i := 13) (by decide +kernel), List.mem_of_getElem? (i := 592) (by decide +kernel), List.mem_of_getElem? (i := 593) (by decide +kernel)⟩
theorem lw_p35 : lw_okq (⟨"OwnSunday", "cookRests", "(J)Z"⟩, 12) := ⟨⟨by decide +kernel, by decide +kernel⟩, List.mem_of_getElem? (i := 13) (by decide +kernel), List.mem_of_getElem? (i := 613) (by decide +kernel), List.mem_of_getElem? (i := 614) (by decide +kernel)⟩
theorem lw_p36 : lw_okq (⟨"OwnSundayModel", "begins", "()V"⟩, 30) := ⟨⟨by decide +kernel, by decide +kernel⟩, List.mem_of_getElem? (i := 646) (by decide +kernel), List.mem_of_getElem? (i := 652) (by decide +kernel), List.mem_of_getElem? (i := 653) (by decide +kernel)⟩
theorem lw_p37 : lw_okq (⟨"OwnSundayModel", "takes", "()V"⟩, 30) := ⟨⟨by decide +kernel, by decide +kernel⟩, List.mem_of_getElem? (i := 646) (by decide +kernel), List.mem_of_getElem? (i := 656) (by decide +kernel), List.mem_of_getElem? (i := 657) (by decide +kernel)⟩
theorem lw_p38 : lw_okq (⟨"OwnSundayModel", "isItem", "()Z"⟩, 30) := ⟨⟨by decide +kernel, by decide +kernel⟩, List.mem_of_getElem? (i := 646) (by decide +kernel), List.mem_of_getElem? (i := 768) (by decide +kernel), List.mem_of_getElem? (i := 769) (by decide +kernel)⟩
theorem lw_p39 : lw_okq (⟨"OwnSundayModel", "number", "()I"⟩, 30) := ⟨⟨by decide +kernel, by decide +kernel⟩, List.mem_of_getElem? (i := 646) (by decide +kernel), List.mem_of_getElem? (i := 775) (by decide +kernel), List.mem_of_getElem? (i := 776) (by decide +kernel)⟩
theorem lw_p40 : lw_okq (⟨"OwnSundayModel", "isGood", "(II)Z"⟩, 30) := ⟨⟨by decide +kernel, by decide +kernel⟩, List.mem_of_getElem? (i := 646) (by decide +kernel), List.mem_of_getElem? (i := 782) (by decide +kernel), List.mem_of_getElem? (i := 783) (by decide +kernel)⟩
theorem lw_p41 : lw_okq (⟨"OwnSundayModel", "isHouse", "(I)Z"⟩, 30) := ⟨⟨by decide +kernel, by decide +kernel⟩, List.mem_of_getElem? (i := 646) (by decide +kernel), List.mem_of_getElem? (i := 800) (by decide +kernel), List.mem_of_getElem? (i := 801) (by decide +kernel)⟩
theorem lw_p42 : lw_okq (⟨"OwnSundayModel", "upOn", "(J)I"⟩, 30) := ⟨⟨by decide +kernel, by decide +kernel⟩, List.mem_of_getElem? (i := 646) (by decide +kernel), List.mem_of_getElem? (i := 812) (by decide +kernel), List.mem_of_getElem? (i := 813) (by decide +kernel)⟩
theorem lw_p43 : lw_okq (⟨"OwnSundayModel", "isUp", "(IJ)Z"⟩, 30) := ⟨⟨by decide +kernel, by decide +kernel⟩, List.mem_of_getElem? (i := 646) (by decide +kernel), List.mem_of_getElem? (i := 816) (by decide +kernel), List.mem_of_getElem? (i := 817) (by decide +kernel)⟩
theorem lw_p44 : lw_okq (⟨"OwnSundayModel", "weekOf", "(I)I"⟩, 30) := ⟨⟨by decide +kernel, by decide +kernel⟩, List.mem_of_getElem? (i := 646) (by decide +kernel), List.mem_of_getElem? (i := 820) (by decide +kernel), List.mem_of_getElem? (i := 821) (by decide +kernel)⟩
theorem lw_p45 : lw_okq (⟨"OwnSundayModel", "handsOn", "(IJ)I"⟩, 30) := ⟨⟨by decide +kernel, by decide +kernel⟩, List.mem_of_getElem? (i := 646) (by decide +kernel), List.mem_of_getElem? (i := 828) (by decide +kernel), List.mem_of_getElem? (i := 829) (by decide +kernel)⟩
theorem lw_p46 : lw_okq (⟨"OwnSundayModel", "shortOn", "(J)I"⟩, 30) := ⟨⟨by decide +kernel, by decide +kernel⟩, List.mem_of_getElem? (i := 646) (by decide +kernel), List.mem_of_getElem? (i := 838) (by decide +kernel), List.mem_of_getElem? (i := 839) (by decide +kernel)⟩
theorem lw_p47 : lw_okq (⟨"OwnSundayModel", "isShort", "(IJ)Z"⟩, 30) := ⟨⟨by decide +kernel, by decide +kernel⟩, List.mem_of_getElem? (i := 646) (by decide +kernel), List.mem_of_getElem? (i := 842) (by decide +kernel), List.mem_of_getElem? (i := 843) (by decide +kernel)⟩
def lw_privs_3 : List (MethodName × Nat) := [(⟨"OwnSunday", "shortDaysWed", "(III)I"⟩, 12), (⟨"OwnSunday", "goThroughFits", "()V"⟩, 12), (⟨"OwnSunday", "allSeenWasSo", "()Z"⟩, 12), (⟨"OwnSunday", "cookRests", "(J)Z"⟩, 12), (⟨"OwnSundayModel", "begins", "()V"⟩, 30), (⟨"OwnSundayModel", "takes", "()V"⟩, 30), (⟨"OwnSundayModel", "isItem", "()Z"⟩, 30), (⟨"OwnSundayModel", "number", "()I"⟩, 30), (⟨"OwnSundayModel", "isGood", "(II)Z"⟩, 30), (⟨"OwnSundayModel", "isHouse", "(I)Z"⟩, 30), (⟨"OwnSundayModel", "upOn", "(J)I"⟩, 30), (⟨"OwnSundayModel", "isUp", "(IJ)Z"⟩, 30), (⟨"OwnSundayModel", "weekOf", "(I)I"⟩, 30), (⟨"OwnSundayModel", "handsOn", "(IJ)I"⟩, 30), (⟨"OwnSundayModel", "shortOn", "(J)I"⟩, 30), (⟨"OwnSundayModel", "isShort", "(IJ)Z"⟩, 30)]
theorem lw_r3 : ∀ q ∈ lw_privs_3, lw_okq q := List.forall_mem_cons.mpr ⟨lw_p32, List.forall_mem_cons.mpr ⟨lw_p33, List.forall_mem_cons.mpr ⟨lw_p34, List.forall_mem_cons.mpr ⟨lw_p35, List.forall_mem_cons.mpr ⟨lw_p36, List.forall_mem_cons.mpr ⟨lw_p37, List.forall_mem_cons.mpr ⟨lw_p38, List.forall_mem_cons.mpr ⟨lw_p39, List.forall_mem_cons.mpr ⟨lw_p40, List.forall_mem_cons.mpr ⟨lw_p41, List.forall_mem_cons.mpr ⟨lw_p42, List.forall_mem_cons.mpr ⟨lw_p43, List.forall_mem_cons.mpr ⟨lw_p44, List.forall_mem_cons.mpr ⟨lw_p45, List.forall_mem_cons.mpr ⟨lw_p46, List.forall_mem_cons.mpr ⟨lw_p47, fun _ h => absurd h List.not_mem_nil⟩⟩⟩⟩⟩⟩⟩⟩⟩⟩⟩⟩⟩⟩⟩⟩
theorem lw_p48 : lw_okq (⟨"OwnSundayModel", "isWork", "(I)Z"⟩, 30) := ⟨⟨by decide +kernel, by decide +kernel⟩, List.mem_of_getElem? (i := 646) (by decide +kernel), List.mem_of_getElem? (i := 851) (by decide +kernel), List.mem_of_getElem? (i := 852) (by decide +kernel)⟩
theorem lw_p49 : lw_okq (⟨"OwnSundayModel", "period", "()I"⟩, 30) := ⟨⟨by decide +kernel, by decide +kernel⟩, List.mem_of_getElem? (i := 646) (by decide +kernel), List.mem_of_getElem? (i := 855) (by decide +kernel), List.mem_of_getElem? (i := 856) (by decide +kernel)⟩
theorem lw_p50 : lw_okq (⟨"OwnSundayModel", "isSet", "(I)Z"⟩, 30) := ⟨⟨by decide +kernel, by decide +kernel⟩, List.mem_of_getElem? (i := 646) (by decide +kernel), List.mem_of_getElem? (i := 863) (by decide +kernel), List.mem_of_getElem? (i := 864) (by decide +kernel)⟩
theorem lw_p51 : lw_okq (⟨"OwnSundayModel", "areUp", "(IJ)Z"⟩, 30) := ⟨⟨by decide +kernel, by decide +kernel⟩, List.mem_of_getElem? (i := 646) (by decide +kernel), List.mem_of_getElem? (i := 867) (by decide +kernel), List.mem_of_getElem? (i := 868) (by decide +kernel)⟩
theorem lw_p52 : lw_okq (⟨"OwnSundayModel", "mostRest", "()I"⟩, 30) := ⟨⟨by decide +kernel, by decide +kernel⟩, List.mem_of_getElem? (i := 646) (by decide +kernel), List.mem_of_getElem? (i := 888) (by decide +kernel), List.mem_of_getElem? (i := 889) (by decide +kernel)⟩
theorem lw_p53 : lw_okq (⟨"OwnSundayModel", "settles", "(Z)V"⟩, 30) := ⟨⟨by decide +kernel, by decide +kernel⟩, List.mem_of_getElem? (i := 646) (by decide +kernel), List.mem_of_getElem? (i := 904) (by decide +kernel), List.mem_of_getElem? (i := 905) (by decide +kernel)⟩
theorem lw_p54 : lw_okq (⟨"OwnSundayModel", "fitsSeen", "()Z"⟩, 30) := ⟨⟨by decide +kernel, by decide +kernel⟩, List.mem_of_getElem? (i := 646) (by decide +kernel), List.mem_of_getElem? (i := 908) (by decide +kernel), List.mem_of_getElem? (i := 909) (by decide +kernel)⟩
theorem lw_p55 : lw_okq (⟨"OwnSundayModel", "isAll", "()Z"⟩, 30) := ⟨⟨by decide +kernel, by decide +kernel⟩, List.mem_of_getElem? (i := 646) (by decide +kernel), List.mem_of_getElem? (i := 912) (by decide +kernel), List.mem_of_getElem? (i := 913) (by decide +kernel)⟩
theorem lw_p56 : lw_okq (⟨"OwnSundayModel", "counts", "(Z)V"⟩, 30) := ⟨⟨by decide +kernel, by decide +kernel⟩, List.mem_of_getElem? (i := 646) (by decide +kernel), List.mem_of_getElem? (i := 916) (by decide +kernel), List.mem_of_getElem? (i := 917) (by decide +kernel)⟩
theorem lw_p57 : lw_okq (⟨"OwnSundayModel", "goesOn", "(I)Z"⟩, 30) := ⟨⟨by decide +kernel, by decide +kernel⟩, List.mem_of_getElem? (i := 646) (by decide +kernel), List.mem_of_getElem? (i := 924) (by decide +kernel), List.mem_of_getElem? (i := 925) (by decide +kernel)⟩
theorem lw_p58 : lw_okq (⟨"OwnSundayModel", "changesOne", "(III)Z"⟩, 30) := ⟨⟨by decide +kernel, by decide +kernel⟩, List.mem_of_getElem? (i := 646) (by decide +kernel), List.mem_of_getElem? (i := 928) (by decide +kernel), List.mem_of_getElem? (i := 929) (by decide +kernel)⟩
theorem lw_p59 : lw_okq (⟨"OwnSundayModel", "changesTwo", "(I)Z"⟩, 30) := ⟨⟨by decide +kernel, by decide +kernel⟩, List.mem_of_getElem? (i := 646) (by decide +kernel), List.mem_of_getElem? (i := 932) (by decide +kernel), List.mem_of_getElem? (i := 933) (by decide +kernel)⟩
theorem lw_p60 : lw_okq (⟨"OwnSundayModel", "days", "(II)I"⟩, 30) := ⟨⟨by decide +kernel, by decide +kernel⟩, List.mem_of_getElem? (i := 646) (by decide +kernel), List.mem_of_getElem? (i := 940) (by decide +kernel), List.mem_of_getElem? (i := 941) (by decide +kernel)⟩
theorem lw_p61 : lw_okq (⟨"OwnSundayModel", "newMany", "()I"⟩, 30) := ⟨⟨by decide +kernel, by decide +kernel⟩, List.mem_of_getElem? (i := 646) (by decide +kernel), List.mem_of_getElem? (i := 979) (by decide +kernel), List.mem_of_getElem? (i := 980) (by decide +kernel)⟩
def lw_privs_4 : List (MethodName × Nat) := [(⟨"OwnSundayModel", "isWork", "(I)Z"⟩, 30), (⟨"OwnSundayModel", "period", "()I"⟩, 30), (⟨"OwnSundayModel", "isSet", "(I)Z"⟩, 30), (⟨"OwnSundayModel", "areUp", "(IJ)Z"⟩, 30), (⟨"OwnSundayModel", "mostRest", "()I"⟩, 30), (⟨"OwnSundayModel", "settles", "(Z)V"⟩, 30), (⟨"OwnSundayModel", "fitsSeen", "()Z"⟩, 30), (⟨"OwnSundayModel", "isAll", "()Z"⟩, 30), (⟨"OwnSundayModel", "counts", "(Z)V"⟩, 30), (⟨"OwnSundayModel", "goesOn", "(I)Z"⟩, 30), (⟨"OwnSundayModel", "changesOne", "(III)Z"⟩, 30), (⟨"OwnSundayModel", "changesTwo", "(I)Z"⟩, 30), (⟨"OwnSundayModel", "days", "(II)I"⟩, 30), (⟨"OwnSundayModel", "newMany", "()I"⟩, 30)]
theorem lw_r4 : ∀ q ∈ lw_privs_4, lw_okq q := List.forall_mem_cons.mpr ⟨lw_p48, List.forall_mem_cons.mpr ⟨lw_p49, List.forall_mem_cons.mpr ⟨lw_p50, List.forall_mem_cons.mpr ⟨lw_p51, List.forall_mem_cons.mpr ⟨lw_p52, List.forall_mem_cons.mpr ⟨lw_p53, List.forall_mem_cons.mpr ⟨lw_p54, List.forall_mem_cons.mpr ⟨lw_p55, List.forall_mem_cons.mpr ⟨lw_p56, List.forall_mem_cons.mpr ⟨lw_p57, List.forall_mem_cons.mpr ⟨lw_p58, List.forall_mem_cons.mpr ⟨lw_p59, List.forall_mem_cons.mpr ⟨lw_p60, List.forall_mem_cons.mpr ⟨lw_p61, fun _ h => absurd h List.not_mem_nil⟩⟩⟩⟩⟩⟩⟩⟩⟩⟩⟩⟩⟩⟩
def lw_privs : List (MethodName × Nat) := lw_privs_1 ++ (lw_privs_2 ++ (lw_privs_3 ++ (lw_privs_4)))
def lw_tbl : List Cond := k2_sels lw_privs ++ tables_1
theorem lw_privs_ok : ∀ q ∈ lw_privs, lw_okq q := by
  show ∀ q ∈ lw_privs_1 ++ (lw_privs_2 ++ (lw_privs_3 ++ (lw_privs_4))), lw_okq q
  exact List.forall_mem_append.mpr ⟨lw_r1, List.forall_mem_append.mpr ⟨lw_r2, List.forall_mem_append.mpr ⟨lw_r3, lw_r4⟩⟩⟩
end
section
def va_AOA (t : FieldType) (U : State) : Prop := (Cond.arrayOver (.array t)).before #[] U = true
theorem va_AOA.of {t : FieldType} {A : Array Value} {U : State} (h : (Cond.arrayOver (.array t)).before A U = true) : va_AOA t U := h
theorem va_AOA.use {t : FieldType} {A : Array Value} {U : State} (h : va_AOA t U) : (Cond.arrayOver (.array t)).before A U = true := h
/-! ===== BEGIN words of one list among another's, by their places ===== -/
theorem goodIn_r {big : List Cond} (ws : List Cond) (ps : List Nat) (hp : ws = ps.filterMap (fun i => big[i]?)) (h : ws.all goodWord = true) : GoodIn big ws := by
  intro w hw
  have h1 := List.all_eq_true.mp h w hw
  rw [hp] at hw
  obtain ⟨i, -, hi⟩ := List.mem_filterMap.mp hw
  have hm : w ∈ big := by first | exact List.mem_of_getElem? hi | exact List.getElem?_mem hi
  exact ⟨hm, good_of_word h1⟩
theorem goodIn_app {big a b : List Cond} (ha : GoodIn big a) (hb : GoodIn big b) : GoodIn big (a ++ b) := fun w h => (List.mem_append.mp h).elim (ha w) (hb w)
theorem goodIn_ca {big a b : List Cond} {c : Cond} (ha : GoodIn big (c :: a)) (hb : GoodIn big b) : GoodIn big (c :: (a ++ b)) := fun w h => (List.mem_cons.mp h).elim (fun e => ha w (List.mem_cons.mpr (Or.inl e))) (fun h => (List.mem_append.mp h).elim (fun h => ha w (List.mem_cons.mpr (Or.inr h))) (hb w))
theorem goodIn_sub {big ws : List Cond} (hm : ∀ w ∈ ws, w ∈ big) (h : ws.all goodWord = true) : GoodIn big ws := fun w hw => ⟨hm w hw, good_of_word (List.all_eq_true.mp h w hw)⟩
/-! ===== END ===== -/

/-! ===== BEGIN new T[n][m]: the outer array a place, the inner ones among the pooled ===== -/
/-- f, but v at every address of l -/
def vr_up {α : Type} (f : Nat → α) (l : List Nat) (v : α) : Nat → α := fun a => if a ∈ l then v else f a
theorem vr_up_in {α : Type} {f : Nat → α} {l : List Nat} {v : α} {a : Nat} (h : a ∈ l) : vr_up f l v a = v := if_pos h
theorem vr_up_ne {α : Type} {f : Nat → α} {l : List Nat} {v : α} {a : Nat} (h : a ∉ l) : vr_up f l v a = f a := if_neg h
theorem vr_rows {L l : List Nat} {f : Nat → va_E} {e : va_E} (h : ∀ a, a ∈ l → a ∉ L) : va_pl L f ++ l.map (fun a => (a, e)) = va_pl (L ++ l) (vr_up f l e) := by
  unfold va_pl
  rw [List.map_append]
  congr 1
  · apply List.map_congr_left
    intro a ha
    rw [vr_up_ne (fun q => h a q ha)]
  · apply List.map_congr_left
    intro a ha
    rw [vr_up_in ha]
theorem vr_lay {X rows : va_W} {x : Nat × va_E} {pl : va_W} {D : va_G} {cl : List vw_C} {H : Heap} (hP : va_P D cl (((X ++ pl) ++ [x]) ++ rows) H) : va_P D cl ((X ++ [x]) ++ (pl ++ rows)) H := by
  rw [List.append_assoc (X ++ pl)] at hP
  have h := va_P.swap hP
  rw [← List.append_assoc X] at h
  have h2 := va_P.swap h
  rw [List.append_assoc (X ++ [x])] at h2
  exact h2
theorem vr_layD {X rows : va_W} {x : Nat × va_E} {pl : va_W} {A : Nat → Prop} (hD : va_D A (((X ++ pl) ++ [x]) ++ rows)) : va_D A ((X ++ [x]) ++ (pl ++ rows)) := by
  rw [List.append_assoc (X ++ pl)] at hD
  have h := va_D.swap hD
  rw [← List.append_assoc X] at h
  have h2 := va_D.swap h
  rw [List.append_assoc (X ++ [x])] at h2
  exact h2
theorem vr_outer (c : ClassId) (N h0 : Nat) : ∀ i : Nat, Jvm.Free.Multi.outerC c N h0 i = arrV c N (fun j => va_rf (if j < i then some (h0 + 1 + j) else none))
  | 0 => by
    show ({ cls := c, slots := Array.replicate N .null, vm := .none } : Cell) = _
    rw [arrV_new]
    refine congrArg (arrV c N) (funext fun j => ?_)
    simp [va_rf]
  | i + 1 => by
    show (Jvm.Free.Multi.outerC c N h0 i).setSlot i (.ref (h0 + 1 + i)) = _
    rw [vr_outer c N h0 i, arrV_store]
    refine congrArg (arrV c N) (funext fun j => ?_)
    by_cases e : j = i
    · subst e
      simp [updV, va_rf]
    · by_cases h : j < i
      · simp [updV, e, h, Nat.lt_succ_of_lt h]
      · simp [updV, e, h, show ¬ j < i + 1 by omega]
section VGM
variable {p : Program} {l : Launch} {e : Env} {R : Room} {s : State} {m : MethodId} {args : Array Value} {below : List Frame} {meth : Method} {c : Code} {H : Heap} {locs : List Loc} {cells slots : Nat} {Q : State → Prop}
variable {cc : ByteArray} {pc : Nat} {ls : Array Slot} {rest : List Value} {D : va_G} {cl : List vw_C} {A : Nat → Prop} {a : Nat} {tys : List (ClassId × FieldType)} {ws : va_W} {H0 : Heap}
theorem va_mna {X : va_W} {L : List Nat} {f : Nat → va_E} {cc : ByteArray} (hexec : p.tables.exec = Jvm.exec) (hb : c.code = cc) {own : String} {index : Nat} {ty : FieldType} {cy : ClassId} (hown : s.vm.findClass own = some m.cls) (hclink : (Cond.classLink own index ("[" ++ (FieldType.array ty).toString)).before args s = true) (hover : va_AOA ty s) (harr : (Cond.arrayClass ty).before args s = true) (hcy : s.vm.findClass (FieldType.array ty).toString = some cy)
    (hK : va_K D cl tys s) (hP : va_P D cl (X ++ va_pl L f) H) (hD : va_D A (X ++ va_pl L f)) (hS : va_S A H0 H locs) (hA : ∀ q, H0.size ≤ q → A q) {n k : Int32} {N' K' : Nat} {z : vp_A} (hn : ¬ n < 0) (hk : ¬ k < 0) (hN : n.toNatClampNeg = N') (hM : k.toNatClampNeg = K')
    (hb1 : N' * 4 ≤ 536870912) (hb2 : K' * componentBytes ty ≤ 536870912) (hb3 : K' ≤ 536870912) (hdf : fits ty (defaultValue ty) = true) (hdd : (defaultValue ty).isDefault = true) (hcells : cells + (1 + N') ≤ R.cells) (hslots : slots + (N' + N' * K') ≤ R.slots) (hz : ∀ c : ClassId, Jvm.Free.Multi.innerC c K' (defaultValue ty) = vp_cell c z) (hdg : decode cc pc = .ok (.multianewarray index 2, 4))
    (kk : ∀ (q : Nat) (r : Nat → Nat) (cA : ClassId) (H1 : Heap), (∀ i j : Nat, i < N' → j < N' → r i = r j → i = j) → (∀ i : Nat, i < N' → r i ∉ L) → va_K D cl (tys ++ [(cA, .array ty)]) s →
      va_P D cl ((X ++ [(q, .inl (cA, N', .inr (.inr (.inr (.inr (fun i => if i < N' then some (r i) else none))))))]) ++ va_pl (L ++ (List.range N').map r) (vr_up f ((List.range N').map r) (.inl (cy, z)))) H1 → va_D A ((X ++ [(q, .inl (cA, N', .inr (.inr (.inr (.inr (fun i => if i < N' then some (r i) else none))))))]) ++ va_pl (L ++ (List.range N').map r) (vr_up f ((List.range N').map r) (.inl (cy, z)))) → va_S A H0 H1 locs →
      W p l e R s m args below meth c H1 locs (cells + 1 + N') (slots + N' + N' * K') Q (F0 m (pc + 4) ls (.ref q :: rest))) : W p l e R s m args below meth c H locs cells slots Q (F0 m pc ls (.int k :: .int n :: rest)) := by
  subst hN
  subst hM
  intro T hT Xs
  obtain ⟨vm₁, cA, comp, -, fA, fC, hO, -, X', step⟩ := Xs.multianewarray2F hexec hown hclink (va_AOA.use hover) harr (g := F0 m pc ls (.int k :: .int n :: rest)) rfl (by rw [hb]; exact hdg) rfl hn hk hb1 hb2 hb3 hdf hdd hcells hslots
  have ec : some cy = some comp := hcy.symm.trans fC
  cases ec
  generalize hF : Jvm.Free.Multi.fill (T.setVm vm₁) cA cy n.toNatClampNeg k.toNatClampNeg (defaultValue ty) n.toNatClampNeg = F at X' step
  have hTh : (T.setVm vm₁).heap = H := hT
  obtain ⟨f1, f2, -, -⟩ := Jvm.Free.Multi.fill_facts (T.setVm vm₁) cA cy n.toNatClampNeg k.toNatClampNeg (defaultValue ty) n.toNatClampNeg
  rw [hF, hTh] at f1 f2
  have hold : ∀ x : Nat, x < H.size → F.heap[x]? = H[x]? := fun x hx => by
    have := Jvm.Free.Multi.fill_old (T.setVm vm₁) cA cy n.toNatClampNeg k.toNatClampNeg (defaultValue ty) (a := x) (by rw [hTh]; exact hx) n.toNatClampNeg
    rw [hF, hTh] at this
    exact this
  have hrow : ∀ j : Nat, j < n.toNatClampNeg → F.heap[H.size + 1 + j]? = some (vp_cell cy z) := fun j hj => by
    have := Jvm.Free.Multi.fill_inner (T.setVm vm₁) cA cy n.toNatClampNeg k.toNatClampNeg (defaultValue ty) n.toNatClampNeg j hj
    rw [hF, hTh, hz] at this
    exact this
  have hout : Jvm.Free.Multi.outerC cA n.toNatClampNeg H.size n.toNatClampNeg = vp_cell cA (n.toNatClampNeg, .inr (.inr (.inr (.inr (fun i => if i < n.toNatClampNeg then some (H.size + 1 + i) else none))))) := by
    rw [vp_cell_q]
    exact vr_outer cA n.toNatClampNeg H.size n.toNatClampNeg
  rw [hout] at f2
  have hlt : ∀ a, a ∈ L → a < H.size := fun a ha => by
    obtain ⟨k9, hk9⟩ := va_pl_get (X := X) (f := f) ha
    exact (hP k9 _ hk9).lt
  have hnl : ∀ i : Nat, i < n.toNatClampNeg → H.size + 1 + i ∉ L := fun i _ h => by
    have := hlt _ h
    omega
  have hnm : ∀ a, a ∈ (List.range n.toNatClampNeg).map (fun i => H.size + 1 + i) → a ∉ L := fun a ha h => by
    obtain ⟨i, -, rfl⟩ := List.mem_map.mp ha
    have := hlt _ h
    omega
  have hP0 : va_P D cl (X ++ va_pl L f) F.heap := hP.kept (fun k9 x hx => hold x.1 ((hP k9 x hx).lt))
  have hP1 : va_P D cl ((X ++ va_pl L f) ++ [(H.size, .inl (cA, n.toNatClampNeg, .inr (.inr (.inr (.inr (fun i => if i < n.toNatClampNeg then some (H.size + 1 + i) else none))))))]) F.heap := hP0.app (fun k9 x hx => by
    have h0 : k9 < 1 := (List.getElem?_eq_some_iff.mp hx).1
    rw [show k9 = 0 by omega] at hx
    cases hx
    exact f2)
  have hP2 : va_P D cl (((X ++ va_pl L f) ++ [(H.size, .inl (cA, n.toNatClampNeg, .inr (.inr (.inr (.inr (fun i => if i < n.toNatClampNeg then some (H.size + 1 + i) else none))))))]) ++ ((List.range n.toNatClampNeg).map (fun i => H.size + 1 + i)).map (fun a => (a, .inl (cy, z)))) F.heap := hP1.app (fun k9 x hx => by
    obtain ⟨a, ha, rfl⟩ := List.mem_map.mp (List.mem_of_getElem? hx)
    obtain ⟨i, hi, rfl⟩ := List.mem_map.mp ha
    exact hrow i (List.mem_range.mp hi))
  have hD2 : va_D A (((X ++ va_pl L f) ++ [(H.size, .inl (cA, n.toNatClampNeg, .inr (.inr (.inr (.inr (fun i => if i < n.toNatClampNeg then some (H.size + 1 + i) else none))))))]) ++ ((List.range n.toNatClampNeg).map (fun i => H.size + 1 + i)).map (fun a => (a, .inl (cy, z)))) := by
    have hD1 := hD.push (e := .inl (cA, n.toNatClampNeg, .inr (.inr (.inr (.inr (fun i => if i < n.toNatClampNeg then some (H.size + 1 + i) else none)))))) hP rfl (hA _ hS.1)
    generalize hW1 : (X ++ va_pl L f) ++ [(H.size, .inl (cA, n.toNatClampNeg, .inr (.inr (.inr (.inr (fun i => if i < n.toNatClampNeg then some (H.size + 1 + i) else none))))))] = W1 at hD1 hP1 ⊢
    have hle : ∀ (k9 : Nat) (x : Nat × va_E), W1[k9]? = some x → x.1 ≤ H.size := fun k9 x hx => by
      rw [← hW1] at hx
      by_cases hl : k9 < (X ++ va_pl L f).length
      · rw [List.getElem?_append_left hl] at hx
        exact Nat.le_of_lt ((hP k9 x hx).lt)
      · rw [List.getElem?_append_right (by omega)] at hx
        have h0 : k9 - (X ++ va_pl L f).length < 1 := (List.getElem?_eq_some_iff.mp hx).1
        rw [show k9 - (X ++ va_pl L f).length = 0 by omega] at hx
        cases hx
        exact Nat.le_refl _
    have hr : ∀ (k9 : Nat) (x : Nat × va_E), (((List.range n.toNatClampNeg).map (fun i => H.size + 1 + i)).map (fun a => ((a, .inl (cy, z)) : Nat × va_E)))[k9]? = some x → x.1 = H.size + 1 + k9 := fun k9 x hx => by
      rw [List.getElem?_map, List.getElem?_map] at hx
      by_cases h9 : k9 < n.toNatClampNeg
      · rw [List.getElem?_range h9] at hx
        cases hx
        rfl
      · have hn0 : (List.range n.toNatClampNeg)[k9]? = none := List.getElem?_eq_none (by rw [List.length_range]; omega)
        rw [hn0] at hx
        cases hx
    refine ⟨fun i j x y hi hj hxy => ?_, fun k9 x hx => ?_⟩
    · by_cases h1 : i < W1.length <;> by_cases h2 : j < W1.length
      · rw [List.getElem?_append_left h1] at hi
        rw [List.getElem?_append_left h2] at hj
        exact hD1.1 i j x y hi hj hxy
      · rw [List.getElem?_append_left h1] at hi
        rw [List.getElem?_append_right (by omega)] at hj
        have := hle _ _ hi
        have := hr _ _ hj
        omega
      · rw [List.getElem?_append_right (by omega)] at hi
        rw [List.getElem?_append_left h2] at hj
        have := hle _ _ hj
        have := hr _ _ hi
        omega
      · rw [List.getElem?_append_right (by omega)] at hi hj
        have := hr _ _ hi
        have := hr _ _ hj
        omega
    · by_cases h1 : k9 < W1.length
      · rw [List.getElem?_append_left h1] at hx
        exact hD1.2 k9 x hx
      · rw [List.getElem?_append_right (by omega)] at hx
        have := hr _ _ hx
        exact hA _ (by have := hS.1; omega)
  have hAr : ArrOfT s cA (.array ty) := fun N9 z9 => by
    obtain ⟨-, k9, hk9, cm9, hkk9⟩ := (hO 0 0 0).1
    exact ⟨(fun q hq => by cases hq), k9, hk9, cm9, hkk9⟩
  have hK2 : va_K D cl (tys ++ [(cA, .array ty)]) s := ⟨hK.1, fun k9 x hx => by
    by_cases hl : k9 < tys.length
    · rw [List.getElem?_append_left hl] at hx
      exact hK.2 k9 x hx
    · rw [List.getElem?_append_right (by omega)] at hx
      have h0 : k9 - tys.length < 1 := (List.getElem?_eq_some_iff.mp hx).1
      rw [show k9 - tys.length = 0 by omega] at hx
      cases hx
      exact ⟨hAr, fA⟩⟩
  obtain ⟨t, a1, b1⟩ := kk H.size (fun i => H.size + 1 + i) cA F.heap (fun i j _ _ h => by have h9 : H.size + 1 + i = H.size + 1 + j := h; omega) hnl hK2 (by rw [← vr_rows hnm]; exact vr_lay hP2) (by rw [← vr_rows hnm]; exact vr_layD hD2) ⟨by rw [f1]; have := hS.1; omega, fun x h1 h2 => (hold x (Nat.lt_of_lt_of_le h1 hS.1)).trans (hS.2.1 x h1 h2), hS.2.2⟩ F rfl X'
  refine ⟨t, step t ?_, b1⟩
  have e : T.heap.size = H.size := by rw [hT]
  rw [e]
  exact a1
end VGM
/-! ===== END ===== -/

def RX0 : String := "OwnSunday$Book"
def TX0 : u_T := fun k => match k with
  | 0 => ("OwnSunday$Book", "week", "[I", true)
  | 1 => ("OwnSunday$Book", "rest", "[I", true)
  | 2 => ("OwnSunday$Book", "newHouses", "I", false)
  | 3 => ("OwnSunday$Book", "seenCount", "I", false)
  | 4 => ("OwnSunday$Book", "seenDay", "[J", true)
  | 5 => ("OwnSunday$Book", "seenWork", "[I", true)
  | _ => ("OwnSunday$Book", "seenWentBits", "I", false)
def tyX0 : Nat → FieldType := fun k => match k with
  | 0 => .array .int
  | 1 => .array .int
  | 2 => .int
  | 3 => .int
  | 4 => .array .long
  | 5 => .array .int
  | _ => .int
abbrev wsX00 : List Cond := u_ws RX0 TX0 7
theorem nmX0 : ∀ a, a < 7 → ∀ b, b < 7 → a ≠ b → (TX0 a).2.1 ≠ (TX0 b).2.1 := by decide +kernel
theorem tyX0_ok : ∀ k, k < 7 → parseFieldDescriptor (TX0 k).2.2.1 = some (tyX0 k) := by decide +kernel
abbrev cX0_init : ByteArray := prog_2_method_1_code
def yX0_init : MethodName := ⟨RX0, "<init>", "()V"⟩
abbrev cX0_begin : ByteArray := prog_2_method_2_code
def yX0_begin : MethodName := ⟨RX0, "begin", "()V"⟩
abbrev cX0_settleAt : ByteArray := prog_2_method_3_code
def yX0_settleAt : MethodName := ⟨RX0, "settleAt", "(III)V"⟩
abbrev cX0_isNew : ByteArray := prog_2_method_4_code
def yX0_isNew : MethodName := ⟨RX0, "isNew", "(I)Z"⟩
abbrev cX0_seenWent : ByteArray := prog_2_method_5_code
def yX0_seenWent : MethodName := ⟨RX0, "seenWent", "(I)Z"⟩
abbrev cX0_addSeen : ByteArray := prog_2_method_6_code
def yX0_addSeen : MethodName := ⟨RX0, "addSeen", "(JIZ)V"⟩
abbrev cX0_copyFrom : ByteArray := prog_2_method_7_code
def yX0_copyFrom : MethodName := ⟨RX0, "copyFrom", "(LOwnSunday$Book;)V"⟩
def RX1 : String := "OwnSunday$Reader"
def TX1 : u_T := fun k => match k with
  | 0 => ("OwnSunday$Reader", "number", "[I", true)
  | _ => ("OwnSunday$Reader", "placeOfHouse", "[I", true)
def tyX1 : Nat → FieldType := fun k => match k with
  | 0 => .array .int
  | _ => .array .int
abbrev wsX10 : List Cond := u_ws RX1 TX1 2
theorem nmX1 : ∀ a, a < 2 → ∀ b, b < 2 → a ≠ b → (TX1 a).2.1 ≠ (TX1 b).2.1 := by decide +kernel
theorem tyX1_ok : ∀ k, k < 2 → parseFieldDescriptor (TX1 k).2.2.1 = some (tyX1 k) := by decide +kernel
abbrev cX1_init : ByteArray := prog_3_method_1_code
def yX1_init : MethodName := ⟨RX1, "<init>", "()V"⟩
abbrev cX1_read : ByteArray := prog_3_method_2_code
def yX1_read : MethodName := ⟨RX1, "read", "([BILOwnSunday$Town;LOwnSunday$Book;)I"⟩
abbrev cX1_readNumbers : ByteArray := prog_3_method_3_code
def yX1_readNumbers : MethodName := ⟨RX1, "readNumbers", "([BII)I"⟩
abbrev cX1_numbersOf : ByteArray := prog_3_method_4_code
def yX1_numbersOf : MethodName := ⟨RX1, "numbersOf", "(I)I"⟩
abbrev cX1_isFigure : ByteArray := prog_3_method_5_code
def yX1_isFigure : MethodName := ⟨RX1, "isFigure", "([BII)Z"⟩
abbrev cX1_take : ByteArray := prog_3_method_6_code
def yX1_take : MethodName := ⟨RX1, "take", "(IILOwnSunday$Town;LOwnSunday$Book;)Z"⟩
abbrev cX1_takeWeeks : ByteArray := prog_3_method_7_code
def yX1_takeWeeks : MethodName := ⟨RX1, "takeWeeks", "(LOwnSunday$Town;)Z"⟩
abbrev cX1_isWeekLength : ByteArray := prog_3_method_8_code
def yX1_isWeekLength : MethodName := ⟨RX1, "isWeekLength", "(I)Z"⟩
abbrev cX1_takeHouse : ByteArray := prog_3_method_9_code
def yX1_takeHouse : MethodName := ⟨RX1, "takeHouse", "(ILOwnSunday$Town;LOwnSunday$Book;)Z"⟩
abbrev cX1_takeNew : ByteArray := prog_3_method_10_code
def yX1_takeNew : MethodName := ⟨RX1, "takeNew", "(LOwnSunday$Town;LOwnSunday$Book;)Z"⟩
abbrev cX1_takeWork : ByteArray := prog_3_method_11_code
def yX1_takeWork : MethodName := ⟨RX1, "takeWork", "(LOwnSunday$Town;)Z"⟩
abbrev cX1_takeCook : ByteArray := prog_3_method_12_code
def yX1_takeCook : MethodName := ⟨RX1, "takeCook", "(LOwnSunday$Town;)Z"⟩
abbrev cX1_placeOfWrongRest : ByteArray := prog_3_method_13_code
def yX1_placeOfWrongRest : MethodName := ⟨RX1, "placeOfWrongRest", "(LOwnSunday$Town;LOwnSunday$Book;)I"⟩
def RX2 : String := "OwnSunday$Rota"
def TX2 : u_T := fun k => match k with
  | 0 => ("OwnSunday$Rota", "length", "[I", true)
  | 1 => ("OwnSunday$Rota", "resting", "[[I", true)
  | _ => ("OwnSunday$Rota", "common", "I", false)
def tyX2 : Nat → FieldType := fun k => match k with
  | 0 => .array .int
  | 1 => .array (.array .int)
  | _ => .int
abbrev wsX20 : List Cond := u_ws RX2 TX2 3
theorem nmX2 : ∀ a, a < 3 → ∀ b, b < 3 → a ≠ b → (TX2 a).2.1 ≠ (TX2 b).2.1 := by decide +kernel
theorem tyX2_ok : ∀ k, k < 3 → parseFieldDescriptor (TX2 k).2.2.1 = some (tyX2 k) := by decide +kernel
abbrev cX2_init : ByteArray := prog_4_method_1_code
def yX2_init : MethodName := ⟨RX2, "<init>", "()V"⟩
abbrev cX2_fill : ByteArray := prog_4_method_2_code
def yX2_fill : MethodName := ⟨RX2, "fill", "(LOwnSunday$Town;LOwnSunday$Book;I)V"⟩
abbrev cX2_put : ByteArray := prog_4_method_3_code
def yX2_put : MethodName := ⟨RX2, "put", "(III)V"⟩
abbrev cX2_lift : ByteArray := prog_4_method_4_code
def yX2_lift : MethodName := ⟨RX2, "lift", "(III)V"⟩
abbrev cX2_restingOn : ByteArray := prog_4_method_5_code
def yX2_restingOn : MethodName := ⟨RX2, "restingOn", "(J)I"⟩
abbrev cX2_mostResting : ByteArray := prog_4_method_6_code
def yX2_mostResting : MethodName := ⟨RX2, "mostResting", "(I)I"⟩
abbrev cX2_mostOfWeek : ByteArray := prog_4_method_7_code
def yX2_mostOfWeek : MethodName := ⟨RX2, "mostOfWeek", "(III)I"⟩
def RX3 : String := "OwnSunday$Town"
def TX3 : u_T := fun k => match k with
  | 0 => ("OwnSunday$Town", "length", "[I", true)
  | 1 => ("OwnSunday$Town", "houses", "I", false)
  | 2 => ("OwnSunday$Town", "skills", "[I", true)
  | 3 => ("OwnSunday$Town", "street", "[I", true)
  | 4 => ("OwnSunday$Town", "skilled", "[I", true)
  | 5 => ("OwnSunday$Town", "works", "I", false)
  | 6 => ("OwnSunday$Town", "workSkill", "[I", true)
  | 7 => ("OwnSunday$Town", "workNeed", "[I", true)
  | 8 => ("OwnSunday$Town", "workDays", "[I", true)
  | _ => ("OwnSunday$Town", "cook", "I", false)
def tyX3 : Nat → FieldType := fun k => match k with
  | 0 => .array .int
  | 1 => .int
  | 2 => .array .int
  | 3 => .array .int
  | 4 => .array .int
  | 5 => .int
  | 6 => .array .int
  | 7 => .array .int
  | 8 => .array .int
  | _ => .int
abbrev wsX30 : List Cond := u_ws RX3 TX3 10
theorem nmX3 : ∀ a, a < 10 → ∀ b, b < 10 → a ≠ b → (TX3 a).2.1 ≠ (TX3 b).2.1 := by decide +kernel
theorem tyX3_ok : ∀ k, k < 10 → parseFieldDescriptor (TX3 k).2.2.1 = some (tyX3 k) := by decide +kernel
abbrev cX3_init : ByteArray := prog_5_method_1_code
def yX3_init : MethodName := ⟨RX3, "<init>", "()V"⟩
abbrev cX3_begin : ByteArray := prog_5_method_2_code
def yX3_begin : MethodName := ⟨RX3, "begin", "()V"⟩
abbrev cX3_addHouse : ByteArray := prog_5_method_3_code
def yX3_addHouse : MethodName := ⟨RX3, "addHouse", "(II)V"⟩
abbrev cX3_addWork : ByteArray := prog_5_method_4_code
def yX3_addWork : MethodName := ⟨RX3, "addWork", "(III)V"⟩
abbrev cX3_period : ByteArray := prog_5_method_5_code
def yX3_period : MethodName := ⟨RX3, "period", "()I"⟩
abbrev cX3_housesOfStreet : ByteArray := prog_5_method_6_code
def yX3_housesOfStreet : MethodName := ⟨RX3, "housesOfStreet", "(I)I"⟩
abbrev cX3_isShort : ByteArray := prog_5_method_7_code
def yX3_isShort : MethodName := ⟨RX3, "isShort", "(II)Z"⟩
def RX4 : String := "OwnSunday$Ways"
def TX4 : u_T := fun k => match k with
  | 0 => ("OwnSunday$Ways", "newcomers", "I", false)
  | 1 => ("OwnSunday$Ways", "newcomer", "[I", true)
  | 2 => ("OwnSunday$Ways", "week", "[I", true)
  | 3 => ("OwnSunday$Ways", "length", "[I", true)
  | 4 => ("OwnSunday$Ways", "rest", "[I", true)
  | 5 => ("OwnSunday$Ways", "total", "I", false)
  | 6 => ("OwnSunday$Ways", "found", "I", false)
  | 7 => ("OwnSunday$Ways", "least", "I", false)
  | 8 => ("OwnSunday$Ways", "chosen", "[I", true)
  | _ => ("OwnSunday$Ways", "some", "[I", true)
def tyX4 : Nat → FieldType := fun k => match k with
  | 0 => .int
  | 1 => .array .int
  | 2 => .array .int
  | 3 => .array .int
  | 4 => .array .int
  | 5 => .int
  | 6 => .int
  | 7 => .int
  | 8 => .array .int
  | _ => .array .int
abbrev wsX40 : List Cond := u_ws RX4 TX4 10
theorem nmX4 : ∀ a, a < 10 → ∀ b, b < 10 → a ≠ b → (TX4 a).2.1 ≠ (TX4 b).2.1 := by decide +kernel
theorem tyX4_ok : ∀ k, k < 10 → parseFieldDescriptor (TX4 k).2.2.1 = some (tyX4 k) := by decide +kernel
abbrev cX4_init : ByteArray := prog_6_method_1_code
def yX4_init : MethodName := ⟨RX4, "<init>", "()V"⟩
abbrev cX4_begin : ByteArray := prog_6_method_2_code
def yX4_begin : MethodName := ⟨RX4, "begin", "(LOwnSunday$Town;LOwnSunday$Book;)V"⟩
abbrev cX4_advance : ByteArray := prog_6_method_3_code
def yX4_advance : MethodName := ⟨RX4, "advance", "()V"⟩
abbrev cX4_putInto : ByteArray := prog_6_method_4_code
def yX4_putInto : MethodName := ⟨RX4, "putInto", "(LOwnSunday$Rota;)V"⟩
abbrev cX4_liftFrom : ByteArray := prog_6_method_5_code
def yX4_liftFrom : MethodName := ⟨RX4, "liftFrom", "(LOwnSunday$Rota;)V"⟩
abbrev cX4_find : ByteArray := prog_6_method_6_code
def yX4_find : MethodName := ⟨RX4, "find", "(I)V"⟩
abbrev cX4_chosenRest : ByteArray := prog_6_method_7_code
def yX4_chosenRest : MethodName := ⟨RX4, "chosenRest", "(I)I"⟩
abbrev cX4_restsOfSome : ByteArray := prog_6_method_8_code
def yX4_restsOfSome : MethodName := ⟨RX4, "restsOfSome", "(I)I"⟩
abbrev cX4_ofHouse : ByteArray := prog_6_method_9_code
def yX4_ofHouse : MethodName := ⟨RX4, "ofHouse", "([II)I"⟩
def RX5 : String := "OwnSunday"
def TX5 : u_T := fun k => match k with
  | 0 => ("OwnSunday", "text", "[B", true)
  | 1 => ("OwnSunday", "size", "I", false)
  | 2 => ("OwnSunday", "reader", "LOwnSunday$Reader;", true)
  | 3 => ("OwnSunday", "draftTown", "LOwnSunday$Town;", true)
  | 4 => ("OwnSunday", "draftBook", "LOwnSunday$Book;", true)
  | 5 => ("OwnSunday", "town", "LOwnSunday$Town;", true)
  | 6 => ("OwnSunday", "book", "LOwnSunday$Book;", true)
  | 7 => ("OwnSunday", "kept", "[LOwnSunday$Book;", true)
  | 8 => ("OwnSunday", "keptCount", "I", false)
  | 9 => ("OwnSunday", "rota", "LOwnSunday$Rota;", true)
  | 10 => ("OwnSunday", "ways", "LOwnSunday$Ways;", true)
  | _ => ("OwnSunday", "changes", "[I", true)
def tyX5 : Nat → FieldType := fun k => match k with
  | 0 => .array .byte
  | 1 => .int
  | 2 => .object "OwnSunday$Reader"
  | 3 => .object "OwnSunday$Town"
  | 4 => .object "OwnSunday$Book"
  | 5 => .object "OwnSunday$Town"
  | 6 => .object "OwnSunday$Book"
  | 7 => .array (.object "OwnSunday$Book")
  | 8 => .int
  | 9 => .object "OwnSunday$Rota"
  | 10 => .object "OwnSunday$Ways"
  | _ => .array .int
abbrev wsX50 : List Cond := u_ws RX5 TX5 12
theorem nmX5 : ∀ a, a < 12 → ∀ b, b < 12 → a ≠ b → (TX5 a).2.1 ≠ (TX5 b).2.1 := by decide +kernel
theorem tyX5_ok : ∀ k, k < 12 → parseFieldDescriptor (TX5 k).2.2.1 = some (tyX5 k) := by decide +kernel
abbrev cX5_init : ByteArray := prog_1_method_1_code
def yX5_init : MethodName := ⟨RX5, "<init>", "()V"⟩
abbrev cX5_write : ByteArray := prog_1_method_2_code
def yX5_write : MethodName := ⟨RX5, "write", "(IJ)I"⟩
abbrev cX5_wipe : ByteArray := prog_1_method_3_code
def yX5_wipe : MethodName := ⟨RX5, "wipe", "()I"⟩
abbrev cX5_fault : ByteArray := prog_1_method_4_code
def yX5_fault : MethodName := ⟨RX5, "fault", "()I"⟩
abbrev cX5_lay : ByteArray := prog_1_method_5_code
def yX5_lay : MethodName := ⟨RX5, "lay", "()I"⟩
abbrev cX5_house : ByteArray := prog_1_method_6_code
def yX5_house : MethodName := ⟨RX5, "house", "(II)I"⟩
abbrev cX5_up : ByteArray := prog_1_method_7_code
def yX5_up : MethodName := ⟨RX5, "up", "(J)I"⟩
abbrev cX5_hands : ByteArray := prog_1_method_8_code
def yX5_hands : MethodName := ⟨RX5, "hands", "(IJ)I"⟩
abbrev cX5_judge : ByteArray := prog_1_method_9_code
def yX5_judge : MethodName := ⟨RX5, "judge", "(JI)J"⟩
abbrev cX5_still : ByteArray := prog_1_method_10_code
def yX5_still : MethodName := ⟨RX5, "still", "(I)I"⟩
abbrev cX5_together : ByteArray := prog_1_method_11_code
def yX5_together : MethodName := ⟨RX5, "together", "(IJ)J"⟩
abbrev cX5_often : ByteArray := prog_1_method_12_code
def yX5_often : MethodName := ⟨RX5, "often", "(IJJ)J"⟩
abbrev cX5_longest : ByteArray := prog_1_method_13_code
def yX5_longest : MethodName := ⟨RX5, "longest", "(I)I"⟩
abbrev cX5_street : ByteArray := prog_1_method_14_code
def yX5_street : MethodName := ⟨RX5, "street", "(IJ)J"⟩
abbrev cX5_same : ByteArray := prog_1_method_15_code
def yX5_same : MethodName := ⟨RX5, "same", "(I)I"⟩
abbrev cX5_harvest : ByteArray := prog_1_method_16_code
def yX5_harvest : MethodName := ⟨RX5, "harvest", "(IJJ)J"⟩
abbrev cX5_settled : ByteArray := prog_1_method_17_code
def yX5_settled : MethodName := ⟨RX5, "settled", "(I)I"⟩
abbrev cX5_years : ByteArray := prog_1_method_18_code
def yX5_years : MethodName := ⟨RX5, "years", "(II)I"⟩
abbrev cX5_wedding : ByteArray := prog_1_method_19_code
def yX5_wedding : MethodName := ⟨RX5, "wedding", "(III)I"⟩
abbrev cX5_seen : ByteArray := prog_1_method_20_code
def yX5_seen : MethodName := ⟨RX5, "seen", "(JIZ)I"⟩
abbrev cX5_forget : ByteArray := prog_1_method_21_code
def yX5_forget : MethodName := ⟨RX5, "forget", "()I"⟩
abbrev cX5_fits : ByteArray := prog_1_method_22_code
def yX5_fits : MethodName := ⟨RX5, "fits", "(IZ)I"⟩
abbrev cX5_fire : ByteArray := prog_1_method_23_code
def yX5_fire : MethodName := ⟨RX5, "fire", "(IIJI)I"⟩
abbrev cX5_change : ByteArray := prog_1_method_24_code
def yX5_change : MethodName := ⟨RX5, "change", "(II)I"⟩
abbrev cX5_wed : ByteArray := prog_1_method_25_code
def yX5_wed : MethodName := ⟨RX5, "wed", "(II)I"⟩
abbrev cX5_settle : ByteArray := prog_1_method_26_code
def yX5_settle : MethodName := ⟨RX5, "settle", "()I"⟩
abbrev cX5_keep : ByteArray := prog_1_method_27_code
def yX5_keep : MethodName := ⟨RX5, "keep", "()I"⟩
abbrev cX5_back : ByteArray := prog_1_method_28_code
def yX5_back : MethodName := ⟨RX5, "back", "()I"⟩
abbrev cX5_count : ByteArray := prog_1_method_29_code
def yX5_count : MethodName := ⟨RX5, "count", "(I)I"⟩
abbrev cX5_isHouse : ByteArray := prog_1_method_30_code
def yX5_isHouse : MethodName := ⟨RX5, "isHouse", "(I)Z"⟩
abbrev cX5_isNewHouse : ByteArray := prog_1_method_31_code
def yX5_isNewHouse : MethodName := ⟨RX5, "isNewHouse", "(I)Z"⟩
abbrev cX5_isWork : ByteArray := prog_1_method_32_code
def yX5_isWork : MethodName := ⟨RX5, "isWork", "(I)Z"⟩
abbrev cX5_isSet : ByteArray := prog_1_method_33_code
def yX5_isSet : MethodName := ⟨RX5, "isSet", "(I)Z"⟩
abbrev cX5_isSkill : ByteArray := prog_1_method_34_code
def yX5_isSkill : MethodName := ⟨RX5, "isSkill", "(I)Z"⟩
abbrev cX5_isDay : ByteArray := prog_1_method_35_code
def yX5_isDay : MethodName := ⟨RX5, "isDay", "(J)Z"⟩
abbrev cX5_fillRota : ByteArray := prog_1_method_36_code
def yX5_fillRota : MethodName := ⟨RX5, "fillRota", "()V"⟩
abbrev cX5_weekLength : ByteArray := prog_1_method_37_code
def yX5_weekLength : MethodName := ⟨RX5, "weekLength", "(I)I"⟩
abbrev cX5_upOn : ByteArray := prog_1_method_38_code
def yX5_upOn : MethodName := ⟨RX5, "upOn", "(J)I"⟩
abbrev cX5_handsOn : ByteArray := prog_1_method_39_code
def yX5_handsOn : MethodName := ⟨RX5, "handsOn", "(IJ)I"⟩
abbrev cX5_allUp : ByteArray := prog_1_method_40_code
def yX5_allUp : MethodName := ⟨RX5, "allUp", "(IJ)Z"⟩
abbrev cX5_cookRests : ByteArray := prog_1_method_41_code
def yX5_cookRests : MethodName := ⟨RX5, "cookRests", "(J)Z"⟩
abbrev cX5_dayOfFire : ByteArray := prog_1_method_42_code
def yX5_dayOfFire : MethodName := ⟨RX5, "dayOfFire", "(IIJ)J"⟩
abbrev cX5_firstShort : ByteArray := prog_1_method_43_code
def yX5_firstShort : MethodName := ⟨RX5, "firstShort", "(I)I"⟩
abbrev cX5_daysAllUp : ByteArray := prog_1_method_44_code
def yX5_daysAllUp : MethodName := ⟨RX5, "daysAllUp", "(IJI)I"⟩
abbrev cX5_firstDayResting : ByteArray := prog_1_method_45_code
def yX5_firstDayResting : MethodName := ⟨RX5, "firstDayResting", "(I)I"⟩
abbrev cX5_daysToDo : ByteArray := prog_1_method_46_code
def yX5_daysToDo : MethodName := ⟨RX5, "daysToDo", "(IJJ)I"⟩
abbrev cX5_everShort : ByteArray := prog_1_method_47_code
def yX5_everShort : MethodName := ⟨RX5, "everShort", "(I)Z"⟩
abbrev cX5_anyEverShort : ByteArray := prog_1_method_48_code
def yX5_anyEverShort : MethodName := ⟨RX5, "anyEverShort", "()Z"⟩
abbrev cX5_shortDaysWed : ByteArray := prog_1_method_49_code
def yX5_shortDaysWed : MethodName := ⟨RX5, "shortDaysWed", "(III)I"⟩
abbrev cX5_goThroughSettled : ByteArray := prog_1_method_50_code
def yX5_goThroughSettled : MethodName := ⟨RX5, "goThroughSettled", "()V"⟩
abbrev cX5_goThroughFits : ByteArray := prog_1_method_51_code
def yX5_goThroughFits : MethodName := ⟨RX5, "goThroughFits", "()V"⟩
abbrev cX5_allSeenWasSo : ByteArray := prog_1_method_52_code
def yX5_allSeenWasSo : MethodName := ⟨RX5, "allSeenWasSo", "()Z"⟩
abbrev cX5_findChanges : ByteArray := prog_1_method_53_code
def yX5_findChanges : MethodName := ⟨RX5, "findChanges", "(I)V"⟩
abbrev cX5_findOneChange : ByteArray := prog_1_method_54_code
def yX5_findOneChange : MethodName := ⟨RX5, "findOneChange", "(I)Z"⟩
abbrev cX5_findTwoChanges : ByteArray := prog_1_method_55_code
def yX5_findTwoChanges : MethodName := ⟨RX5, "findTwoChanges", "(I)V"⟩
abbrev cX5_findSecondChange : ByteArray := prog_1_method_56_code
def yX5_findSecondChange : MethodName := ⟨RX5, "findSecondChange", "(III)Z"⟩
abbrev cX5_hasSkillOf : ByteArray := prog_1_method_57_code
def yX5_hasSkillOf : MethodName := ⟨RX5, "hasSkillOf", "(II)Z"⟩
abbrev cX5_helpfulRest : ByteArray := prog_1_method_58_code
def yX5_helpfulRest : MethodName := ⟨RX5, "helpfulRest", "(II)I"⟩
def RX6 : String := "OwnSundayModel"
def TX6 : u_T := fun k => match k with
  | 0 => ("OwnSundayModel", "length", "I", false)
  | 1 => ("OwnSundayModel", "text", "[B", true)
  | 2 => ("OwnSundayModel", "at", "I", false)
  | 3 => ("OwnSundayModel", "weeks", "[I", true)
  | 4 => ("OwnSundayModel", "houses", "[I", true)
  | 5 => ("OwnSundayModel", "works", "[I", true)
  | 6 => ("OwnSundayModel", "cook", "[I", true)
  | 7 => ("OwnSundayModel", "house", "[I", true)
  | 8 => ("OwnSundayModel", "place", "[I", true)
  | 9 => ("OwnSundayModel", "work", "[I", true)
  | 10 => ("OwnSundayModel", "isNew", "[Z", true)
  | 11 => ("OwnSundayModel", "seen", "I", false)
  | 12 => ("OwnSundayModel", "seenDay", "[J", true)
  | 13 => ("OwnSundayModel", "seenWork", "[I", true)
  | 14 => ("OwnSundayModel", "went", "[Z", true)
  | 15 => ("OwnSundayModel", "kept", "I", false)
  | 16 => ("OwnSundayModel", "keptHouse", "[I", true)
  | 17 => ("OwnSundayModel", "keptNew", "[Z", true)
  | 18 => ("OwnSundayModel", "keptSeen", "[I", true)
  | 19 => ("OwnSundayModel", "keptDay", "[J", true)
  | 20 => ("OwnSundayModel", "keptWork", "[I", true)
  | 21 => ("OwnSundayModel", "keptWent", "[Z", true)
  | 22 => ("OwnSundayModel", "old", "[I", true)
  | 23 => ("OwnSundayModel", "first", "[I", true)
  | 24 => ("OwnSundayModel", "some", "[I", true)
  | 25 => ("OwnSundayModel", "ways", "I", false)
  | 26 => ("OwnSundayModel", "fairest", "I", false)
  | 27 => ("OwnSundayModel", "changes", "[I", true)
  | 28 => ("OwnSundayModel", "got", "[I", true)
  | _ => ("OwnSundayModel", "sameDay", "I", false)
def tyX6 : Nat → FieldType := fun k => match k with
  | 0 => .int
  | 1 => .array .byte
  | 2 => .int
  | 3 => .array .int
  | 4 => .array .int
  | 5 => .array .int
  | 6 => .array .int
  | 7 => .array .int
  | 8 => .array .int
  | 9 => .array .int
  | 10 => .array .boolean
  | 11 => .int
  | 12 => .array .long
  | 13 => .array .int
  | 14 => .array .boolean
  | 15 => .int
  | 16 => .array .int
  | 17 => .array .boolean
  | 18 => .array .int
  | 19 => .array .long
  | 20 => .array .int
  | 21 => .array .boolean
  | 22 => .array .int
  | 23 => .array .int
  | 24 => .array .int
  | 25 => .int
  | 26 => .int
  | 27 => .array .int
  | 28 => .array .int
  | _ => .int
abbrev wsX60 : List Cond := u_ws RX6 TX6 30
theorem nmX6 : ∀ a, a < 30 → ∀ b, b < 30 → a ≠ b → (TX6 a).2.1 ≠ (TX6 b).2.1 := by decide +kernel
theorem tyX6_ok : ∀ k, k < 30 → parseFieldDescriptor (TX6 k).2.2.1 = some (tyX6 k) := by decide +kernel
abbrev cX6_init : ByteArray := prog_8_method_1_code
def yX6_init : MethodName := ⟨RX6, "<init>", "()V"⟩
abbrev cX6_in : ByteArray := prog_8_method_2_code
def yX6_in : MethodName := ⟨RX6, "in", "(JJJ)Z"⟩
abbrev cX6_write : ByteArray := prog_8_method_3_code
def yX6_write : MethodName := ⟨RX6, "write", "(IJ)I"⟩
abbrev cX6_wipe : ByteArray := prog_8_method_4_code
def yX6_wipe : MethodName := ⟨RX6, "wipe", "()I"⟩
abbrev cX6_number : ByteArray := prog_8_method_5_code
def yX6_number : MethodName := ⟨RX6, "number", "()I"⟩
abbrev cX6_parts : ByteArray := prog_8_method_6_code
def yX6_parts : MethodName := ⟨RX6, "parts", "(I)I"⟩
abbrev cX6_isItem : ByteArray := prog_8_method_7_code
def yX6_isItem : MethodName := ⟨RX6, "isItem", "()Z"⟩
abbrev cX6_isGood : ByteArray := prog_8_method_8_code
def yX6_isGood : MethodName := ⟨RX6, "isGood", "(II)Z"⟩
abbrev cX6_begins : ByteArray := prog_8_method_9_code
def yX6_begins : MethodName := ⟨RX6, "begins", "()V"⟩
abbrev cX6_takes : ByteArray := prog_8_method_10_code
def yX6_takes : MethodName := ⟨RX6, "takes", "()V"⟩
abbrev cX6_fault : ByteArray := prog_8_method_11_code
def yX6_fault : MethodName := ⟨RX6, "fault", "()I"⟩
abbrev cX6_lay : ByteArray := prog_8_method_12_code
def yX6_lay : MethodName := ⟨RX6, "lay", "()I"⟩
abbrev cX6_isHouse : ByteArray := prog_8_method_13_code
def yX6_isHouse : MethodName := ⟨RX6, "isHouse", "(I)Z"⟩
abbrev cX6_isWork : ByteArray := prog_8_method_14_code
def yX6_isWork : MethodName := ⟨RX6, "isWork", "(I)Z"⟩
abbrev cX6_isDay : ByteArray := prog_8_method_15_code
def yX6_isDay : MethodName := ⟨RX6, "isDay", "(J)Z"⟩
abbrev cX6_house : ByteArray := prog_8_method_16_code
def yX6_house : MethodName := ⟨RX6, "house", "(II)I"⟩
abbrev cX6_weekOf : ByteArray := prog_8_method_17_code
def yX6_weekOf : MethodName := ⟨RX6, "weekOf", "(I)I"⟩
abbrev cX6_isUp : ByteArray := prog_8_method_18_code
def yX6_isUp : MethodName := ⟨RX6, "isUp", "(IJ)Z"⟩
abbrev cX6_period : ByteArray := prog_8_method_19_code
def yX6_period : MethodName := ⟨RX6, "period", "()I"⟩
abbrev cX6_upOn : ByteArray := prog_8_method_20_code
def yX6_upOn : MethodName := ⟨RX6, "upOn", "(J)I"⟩
abbrev cX6_bits : ByteArray := prog_8_method_21_code
def yX6_bits : MethodName := ⟨RX6, "bits", "(I)I"⟩
abbrev cX6_handsOn : ByteArray := prog_8_method_22_code
def yX6_handsOn : MethodName := ⟨RX6, "handsOn", "(IJ)I"⟩
abbrev cX6_up : ByteArray := prog_8_method_23_code
def yX6_up : MethodName := ⟨RX6, "up", "(J)I"⟩
abbrev cX6_hands : ByteArray := prog_8_method_24_code
def yX6_hands : MethodName := ⟨RX6, "hands", "(IJ)I"⟩
abbrev cX6_isShort : ByteArray := prog_8_method_25_code
def yX6_isShort : MethodName := ⟨RX6, "isShort", "(IJ)Z"⟩
abbrev cX6_shortOn : ByteArray := prog_8_method_26_code
def yX6_shortOn : MethodName := ⟨RX6, "shortOn", "(J)I"⟩
abbrev cX6_judge : ByteArray := prog_8_method_27_code
def yX6_judge : MethodName := ⟨RX6, "judge", "(JI)J"⟩
abbrev cX6_still : ByteArray := prog_8_method_28_code
def yX6_still : MethodName := ⟨RX6, "still", "(I)I"⟩
abbrev cX6_isSet : ByteArray := prog_8_method_29_code
def yX6_isSet : MethodName := ⟨RX6, "isSet", "(I)Z"⟩
abbrev cX6_areUp : ByteArray := prog_8_method_30_code
def yX6_areUp : MethodName := ⟨RX6, "areUp", "(IJ)Z"⟩
abbrev cX6_together : ByteArray := prog_8_method_31_code
def yX6_together : MethodName := ⟨RX6, "together", "(IJ)J"⟩
abbrev cX6_often : ByteArray := prog_8_method_32_code
def yX6_often : MethodName := ⟨RX6, "often", "(IJJ)J"⟩
abbrev cX6_longest : ByteArray := prog_8_method_33_code
def yX6_longest : MethodName := ⟨RX6, "longest", "(I)I"⟩
abbrev cX6_street : ByteArray := prog_8_method_34_code
def yX6_street : MethodName := ⟨RX6, "street", "(IJ)J"⟩
abbrev cX6_mostRest : ByteArray := prog_8_method_35_code
def yX6_mostRest : MethodName := ⟨RX6, "mostRest", "()I"⟩
abbrev cX6_same : ByteArray := prog_8_method_36_code
def yX6_same : MethodName := ⟨RX6, "same", "(I)I"⟩
abbrev cX6_harvest : ByteArray := prog_8_method_37_code
def yX6_harvest : MethodName := ⟨RX6, "harvest", "(IJJ)J"⟩
abbrev cX6_isAll : ByteArray := prog_8_method_38_code
def yX6_isAll : MethodName := ⟨RX6, "isAll", "()Z"⟩
abbrev cX6_fitsSeen : ByteArray := prog_8_method_39_code
def yX6_fitsSeen : MethodName := ⟨RX6, "fitsSeen", "()Z"⟩
abbrev cX6_settles : ByteArray := prog_8_method_40_code
def yX6_settles : MethodName := ⟨RX6, "settles", "(Z)V"⟩
abbrev cX6_counts : ByteArray := prog_8_method_41_code
def yX6_counts : MethodName := ⟨RX6, "counts", "(Z)V"⟩
abbrev cX6_settled : ByteArray := prog_8_method_42_code
def yX6_settled : MethodName := ⟨RX6, "settled", "(I)I"⟩
abbrev cX6_goesOn : ByteArray := prog_8_method_43_code
def yX6_goesOn : MethodName := ⟨RX6, "goesOn", "(I)Z"⟩
abbrev cX6_changesOne : ByteArray := prog_8_method_44_code
def yX6_changesOne : MethodName := ⟨RX6, "changesOne", "(III)Z"⟩
abbrev cX6_changesTwo : ByteArray := prog_8_method_45_code
def yX6_changesTwo : MethodName := ⟨RX6, "changesTwo", "(I)Z"⟩
abbrev cX6_years : ByteArray := prog_8_method_46_code
def yX6_years : MethodName := ⟨RX6, "years", "(II)I"⟩
abbrev cX6_days : ByteArray := prog_8_method_47_code
def yX6_days : MethodName := ⟨RX6, "days", "(II)I"⟩
abbrev cX6_wedding : ByteArray := prog_8_method_48_code
def yX6_wedding : MethodName := ⟨RX6, "wedding", "(III)I"⟩
abbrev cX6_seen : ByteArray := prog_8_method_49_code
def yX6_seen : MethodName := ⟨RX6, "seen", "(JIZ)I"⟩
abbrev cX6_forget : ByteArray := prog_8_method_50_code
def yX6_forget : MethodName := ⟨RX6, "forget", "()I"⟩
abbrev cX6_fits : ByteArray := prog_8_method_51_code
def yX6_fits : MethodName := ⟨RX6, "fits", "(IZ)I"⟩
abbrev cX6_fireDay : ByteArray := prog_8_method_52_code
def yX6_fireDay : MethodName := ⟨RX6, "fireDay", "(IIJ)J"⟩
abbrev cX6_fire : ByteArray := prog_8_method_53_code
def yX6_fire : MethodName := ⟨RX6, "fire", "(IIJI)I"⟩
abbrev cX6_change : ByteArray := prog_8_method_54_code
def yX6_change : MethodName := ⟨RX6, "change", "(II)I"⟩
abbrev cX6_wed : ByteArray := prog_8_method_55_code
def yX6_wed : MethodName := ⟨RX6, "wed", "(II)I"⟩
abbrev cX6_newMany : ByteArray := prog_8_method_56_code
def yX6_newMany : MethodName := ⟨RX6, "newMany", "()I"⟩
abbrev cX6_settle : ByteArray := prog_8_method_57_code
def yX6_settle : MethodName := ⟨RX6, "settle", "()I"⟩
abbrev cX6_keep : ByteArray := prog_8_method_58_code
def yX6_keep : MethodName := ⟨RX6, "keep", "()I"⟩
abbrev cX6_back : ByteArray := prog_8_method_59_code
def yX6_back : MethodName := ⟨RX6, "back", "()I"⟩
abbrev cX6_count : ByteArray := prog_8_method_60_code
def yX6_count : MethodName := ⟨RX6, "count", "(I)I"⟩
def RJ6 : String := "java/lang/Integer"
def TJ6 : u_T := fun k => match k with
  | _ => ("", "", "", false)
def tyJ6 : Nat → FieldType := fun k => match k with
  | _ => .int
abbrev wsJ60 : List Cond := u_ws RJ6 TJ6 0
theorem nmJ6 : ∀ a, a < 0 → ∀ b, b < 0 → a ≠ b → (TJ6 a).2.1 ≠ (TJ6 b).2.1 := by decide +kernel
theorem tyJ6_ok : ∀ k, k < 0 → parseFieldDescriptor (TJ6 k).2.2.1 = some (tyJ6 k) := by decide +kernel
abbrev cJ6_bitCount_0f7a4 : ByteArray := prog_9_method_49_code
def yJ6_bitCount_0f7a4 : MethodName := ⟨RJ6, "bitCount", "(I)I"⟩
def RJ9 : String := "java/lang/Math"
def TJ9 : u_T := fun k => match k with
  | _ => ("", "", "", false)
def tyJ9 : Nat → FieldType := fun k => match k with
  | _ => .int
abbrev wsJ90 : List Cond := u_ws RJ9 TJ9 0
theorem nmJ9 : ∀ a, a < 0 → ∀ b, b < 0 → a ≠ b → (TJ9 a).2.1 ≠ (TJ9 b).2.1 := by decide +kernel
theorem tyJ9_ok : ∀ k, k < 0 → parseFieldDescriptor (TJ9 k).2.2.1 = some (tyJ9 k) := by decide +kernel
abbrev cJ9_max_7cf53 : ByteArray := prog_10_method_65_code
def yJ9_max_7cf53 : MethodName := ⟨RJ9, "max", "(II)I"⟩
abbrev cJ9_min_7cf53 : ByteArray := prog_10_method_69_code
def yJ9_min_7cf53 : MethodName := ⟨RJ9, "min", "(II)I"⟩
def RJ10 : String := "java/lang/System"
def TJ10 : u_T := fun k => match k with
  | _ => ("", "", "", false)
def tyJ10 : Nat → FieldType := fun k => match k with
  | _ => .int
abbrev wsJ100 : List Cond := u_ws RJ10 TJ10 0
theorem nmJ10 : ∀ a, a < 0 → ∀ b, b < 0 → a ≠ b → (TJ10 a).2.1 ≠ (TJ10 b).2.1 := by decide +kernel
theorem tyJ10_ok : ∀ k, k < 0 → parseFieldDescriptor (TJ10 k).2.2.1 = some (tyJ10 k) := by decide +kernel
def RJ7 : String := "java/util/Arrays"
def TJ7 : u_T := fun k => match k with
  | _ => ("", "", "", false)
def tyJ7 : Nat → FieldType := fun k => match k with
  | _ => .int
abbrev wsJ70 : List Cond := u_ws RJ7 TJ7 0
theorem nmJ7 : ∀ a, a < 0 → ∀ b, b < 0 → a ≠ b → (TJ7 a).2.1 ≠ (TJ7 b).2.1 := by decide +kernel
theorem tyJ7_ok : ∀ k, k < 0 → parseFieldDescriptor (TJ7 k).2.2.1 = some (tyJ7 k) := by decide +kernel
abbrev cJ7_fill_53178 : ByteArray := prog_12_method_103_code
def yJ7_fill_53178 : MethodName := ⟨RJ7, "fill", "([II)V"⟩
def RL : String := "OwnSundayLaw"
abbrev cL_law : ByteArray := code
def yL_law : MethodName := ⟨RL, "law", "([I)Z"⟩
abbrev vwCl : List vw_C := [(RX0, TX0, 7), (RX1, TX1, 2), (RX2, TX2, 3), (RX3, TX3, 10), (RX4, TX4, 10), (RX5, TX5, 12), (RX6, TX6, 30)]
abbrev mz_E : Type := MethodName × ByteArray × Nat × Option FieldType × Nat × Nat × Nat × Nat × Nat × Nat × Nat
/-- the methods: name, code, locals, answer, kind (0 static, 1 virtual, 2 init), class, parameters, places of its words (code, kind, selects, initialized) -/
def mz_T : List mz_E := [
  (yX0_init, cX0_init, 1, none, 2, 0, 0, 156, 155, 0, 66),
  (yX0_begin, cX0_begin, 1, none, 1, 0, 0, 265, 263, 264, 66),
  (yX0_settleAt, cX0_settleAt, 4, none, 1, 0, 3, 269, 267, 268, 66),
  (yX0_isNew, cX0_isNew, 2, some .boolean, 1, 0, 1, 397, 395, 396, 66),
  (yX0_seenWent, cX0_seenWent, 2, some .boolean, 1, 0, 1, 660, 658, 659, 66),
  (yX0_addSeen, cX0_addSeen, 6, none, 1, 0, 3, 640, 638, 639, 66),
  (yX0_copyFrom, cX0_copyFrom, 2, none, 1, 0, 1, 697, 695, 696, 66),
  (yX1_init, cX1_init, 1, none, 2, 1, 0, 86, 85, 0, 64),
  (yX1_read, cX1_read, 8, some .int, 1, 1, 4, 326, 324, 325, 64),
  (yX1_readNumbers, cX1_readNumbers, 8, some .int, 1, 1, 3, 332, 331, 0, 64),
  (yX1_numbersOf, cX1_numbersOf, 1, some .int, 0, 1, 1, 335, 334, 0, 64),
  (yX1_isFigure, cX1_isFigure, 3, some .boolean, 0, 1, 3, 338, 337, 0, 64),
  (yX1_take, cX1_take, 5, some .boolean, 1, 1, 4, 342, 341, 1, 64),
  (yX1_takeWeeks, cX1_takeWeeks, 2, some .boolean, 1, 1, 1, 346, 345, 2, 64),
  (yX1_isWeekLength, cX1_isWeekLength, 1, some .boolean, 0, 1, 1, 349, 348, 0, 64),
  (yX1_takeHouse, cX1_takeHouse, 4, some .boolean, 1, 1, 3, 353, 352, 3, 64),
  (yX1_takeNew, cX1_takeNew, 4, some .boolean, 1, 1, 2, 359, 358, 4, 64),
  (yX1_takeWork, cX1_takeWork, 2, some .boolean, 1, 1, 1, 369, 368, 5, 64),
  (yX1_takeCook, cX1_takeCook, 2, some .boolean, 1, 1, 1, 377, 376, 6, 64),
  (yX1_placeOfWrongRest, cX1_placeOfWrongRest, 4, some .int, 1, 1, 2, 381, 380, 7, 64),
  (yX2_init, cX2_init, 1, none, 2, 2, 0, 198, 197, 0, 67),
  (yX2_fill, cX2_fill, 5, none, 1, 2, 3, 413, 411, 412, 67),
  (yX2_put, cX2_put, 4, none, 1, 2, 3, 426, 424, 425, 67),
  (yX2_lift, cX2_lift, 4, none, 1, 2, 3, 577, 575, 576, 67),
  (yX2_restingOn, cX2_restingOn, 3, some .int, 1, 2, 1, 434, 432, 433, 67),
  (yX2_mostResting, cX2_mostResting, 4, some .int, 1, 2, 1, 515, 513, 514, 67),
  (yX2_mostOfWeek, cX2_mostOfWeek, 7, some .int, 1, 2, 3, 519, 518, 17, 67),
  (yX3_init, cX3_init, 1, none, 2, 3, 0, 101, 100, 0, 65),
  (yX3_begin, cX3_begin, 1, none, 1, 3, 0, 258, 256, 257, 65),
  (yX3_addHouse, cX3_addHouse, 4, none, 1, 3, 2, 273, 271, 272, 65),
  (yX3_addWork, cX3_addWork, 4, none, 1, 3, 3, 373, 371, 372, 65),
  (yX3_period, cX3_period, 4, some .int, 1, 3, 0, 418, 416, 417, 65),
  (yX3_housesOfStreet, cX3_housesOfStreet, 4, some .int, 1, 3, 1, 507, 505, 506, 65),
  (yX3_isShort, cX3_isShort, 3, some .boolean, 1, 3, 2, 463, 461, 462, 65),
  (yX4_init, cX4_init, 1, none, 2, 4, 0, 216, 215, 0, 68),
  (yX4_begin, cX4_begin, 4, none, 1, 4, 2, 548, 546, 547, 68),
  (yX4_advance, cX4_advance, 2, none, 1, 4, 0, 581, 579, 580, 68),
  (yX4_putInto, cX4_putInto, 3, none, 1, 4, 1, 553, 551, 552, 68),
  (yX4_liftFrom, cX4_liftFrom, 3, none, 1, 4, 1, 573, 571, 572, 68),
  (yX4_find, cX4_find, 3, none, 1, 4, 1, 566, 564, 565, 68),
  (yX4_chosenRest, cX4_chosenRest, 2, some .int, 1, 4, 1, 585, 583, 584, 68),
  (yX4_restsOfSome, cX4_restsOfSome, 2, some .int, 1, 4, 1, 664, 662, 663, 68),
  (yX4_ofHouse, cX4_ofHouse, 4, some .int, 1, 4, 2, 589, 588, 24, 68),
  (yX5_init, cX5_init, 2, none, 2, 5, 0, 78, 77, 0, 63),
  (yX5_write, cX5_write, 5, some .int, 1, 5, 2, 314, 312, 313, 63),
  (yX5_wipe, cX5_wipe, 2, some .int, 1, 5, 0, 318, 316, 317, 63),
  (yX5_fault, cX5_fault, 1, some .int, 1, 5, 0, 322, 320, 321, 63),
  (yX5_lay, cX5_lay, 1, some .int, 1, 5, 0, 385, 383, 384, 63),
  (yX5_house, cX5_house, 3, some .int, 1, 5, 2, 389, 387, 388, 63),
  (yX5_up, cX5_up, 3, some .int, 1, 5, 1, 401, 399, 400, 63),
  (yX5_hands, cX5_hands, 4, some .int, 1, 5, 2, 438, 436, 437, 63),
  (yX5_judge, cX5_judge, 7, some .long, 1, 5, 2, 450, 448, 449, 63),
  (yX5_still, cX5_still, 6, some .int, 1, 5, 1, 469, 467, 468, 63),
  (yX5_together, cX5_together, 6, some .long, 1, 5, 2, 477, 475, 476, 63),
  (yX5_often, cX5_often, 10, some .long, 1, 5, 3, 489, 487, 488, 63),
  (yX5_longest, cX5_longest, 6, some .int, 1, 5, 1, 498, 496, 497, 63),
  (yX5_street, cX5_street, 7, some .long, 1, 5, 2, 503, 501, 502, 63),
  (yX5_same, cX5_same, 3, some .int, 1, 5, 1, 511, 509, 510, 63),
  (yX5_harvest, cX5_harvest, 11, some .long, 1, 5, 3, 528, 526, 527, 63),
  (yX5_settled, cX5_settled, 2, some .int, 1, 5, 1, 536, 534, 535, 63),
  (yX5_years, cX5_years, 3, some .int, 1, 5, 2, 593, 591, 592, 63),
  (yX5_wedding, cX5_wedding, 6, some .int, 1, 5, 3, 628, 626, 627, 63),
  (yX5_seen, cX5_seen, 5, some .int, 1, 5, 3, 636, 634, 635, 63),
  (yX5_forget, cX5_forget, 2, some .int, 1, 5, 0, 644, 642, 643, 63),
  (yX5_fits, cX5_fits, 3, some .int, 1, 5, 2, 648, 646, 647, 63),
  (yX5_fire, cX5_fire, 8, some .int, 1, 5, 4, 668, 666, 667, 63),
  (yX5_change, cX5_change, 4, some .int, 1, 5, 2, 681, 679, 680, 63),
  (yX5_wed, cX5_wed, 4, some .int, 1, 5, 2, 685, 683, 684, 63),
  (yX5_settle, cX5_settle, 2, some .int, 1, 5, 0, 689, 687, 688, 63),
  (yX5_keep, cX5_keep, 1, some .int, 1, 5, 0, 693, 691, 692, 63),
  (yX5_back, cX5_back, 1, some .int, 1, 5, 0, 702, 700, 701, 63),
  (yX5_count, cX5_count, 2, some .int, 1, 5, 1, 706, 704, 705, 63),
  (yX5_isHouse, cX5_isHouse, 2, some .boolean, 1, 5, 1, 393, 392, 8, 63),
  (yX5_isNewHouse, cX5_isNewHouse, 2, some .boolean, 1, 5, 1, 540, 539, 20, 63),
  (yX5_isWork, cX5_isWork, 2, some .boolean, 1, 5, 1, 473, 472, 13, 63),
  (yX5_isSet, cX5_isSet, 2, some .boolean, 1, 5, 1, 481, 480, 14, 63),
  (yX5_isSkill, cX5_isSkill, 1, some .boolean, 0, 5, 1, 441, 440, 0, 63),
  (yX5_isDay, cX5_isDay, 2, some .boolean, 0, 5, 1, 404, 403, 0, 63),
  (yX5_fillRota, cX5_fillRota, 1, none, 1, 5, 0, 409, 408, 9, 63),
  (yX5_weekLength, cX5_weekLength, 2, some .int, 1, 5, 1, 614, 613, 29, 63),
  (yX5_upOn, cX5_upOn, 3, some .int, 1, 5, 1, 430, 429, 10, 63),
  (yX5_handsOn, cX5_handsOn, 4, some .int, 1, 5, 2, 445, 444, 11, 63),
  (yX5_allUp, cX5_allUp, 4, some .boolean, 1, 5, 2, 485, 484, 15, 63),
  (yX5_cookRests, cX5_cookRests, 3, some .boolean, 1, 5, 1, 677, 676, 35, 63),
  (yX5_dayOfFire, cX5_dayOfFire, 6, some .long, 0, 5, 3, 671, 670, 0, 63),
  (yX5_firstShort, cX5_firstShort, 3, some .int, 1, 5, 1, 459, 458, 12, 63),
  (yX5_daysAllUp, cX5_daysAllUp, 7, some .int, 1, 5, 3, 494, 493, 16, 63),
  (yX5_firstDayResting, cX5_firstDayResting, 4, some .int, 1, 5, 1, 524, 523, 18, 63),
  (yX5_daysToDo, cX5_daysToDo, 10, some .int, 1, 5, 3, 532, 531, 19, 63),
  (yX5_everShort, cX5_everShort, 3, some .boolean, 1, 5, 1, 562, 561, 23, 63),
  (yX5_anyEverShort, cX5_anyEverShort, 2, some .boolean, 1, 5, 0, 558, 557, 22, 63),
  (yX5_shortDaysWed, cX5_shortDaysWed, 7, some .int, 1, 5, 3, 632, 631, 32, 63),
  (yX5_goThroughSettled, cX5_goThroughSettled, 2, none, 1, 5, 0, 544, 543, 21, 63),
  (yX5_goThroughFits, cX5_goThroughFits, 2, none, 1, 5, 0, 652, 651, 33, 63),
  (yX5_allSeenWasSo, cX5_allSeenWasSo, 3, some .boolean, 1, 5, 0, 656, 655, 34, 63),
  (yX5_findChanges, cX5_findChanges, 2, none, 1, 5, 1, 597, 596, 25, 63),
  (yX5_findOneChange, cX5_findOneChange, 4, some .boolean, 1, 5, 1, 602, 601, 26, 63),
  (yX5_findTwoChanges, cX5_findTwoChanges, 5, none, 1, 5, 1, 620, 619, 30, 63),
  (yX5_findSecondChange, cX5_findSecondChange, 6, some .boolean, 1, 5, 3, 624, 623, 31, 63),
  (yX5_hasSkillOf, cX5_hasSkillOf, 3, some .boolean, 1, 5, 2, 610, 609, 28, 63),
  (yX5_helpfulRest, cX5_helpfulRest, 7, some .int, 1, 5, 2, 606, 605, 27, 63),
  (yX6_init, cX6_init, 1, none, 2, 6, 0, 711, 710, 0, 70),
  (yX6_in, cX6_in, 6, some .boolean, 0, 6, 3, 820, 819, 0, 70),
  (yX6_write, cX6_write, 5, some .int, 1, 6, 2, 816, 814, 815, 70),
  (yX6_wipe, cX6_wipe, 2, some .int, 1, 6, 0, 824, 822, 823, 70),
  (yX6_number, cX6_number, 3, some .int, 1, 6, 0, 839, 838, 39, 70),
  (yX6_parts, cX6_parts, 1, some .int, 0, 6, 1, 835, 834, 0, 70),
  (yX6_isItem, cX6_isItem, 6, some .boolean, 1, 6, 0, 832, 831, 38, 70),
  (yX6_isGood, cX6_isGood, 6, some .boolean, 1, 6, 2, 846, 845, 40, 70),
  (yX6_begins, cX6_begins, 2, none, 1, 6, 0, 716, 715, 36, 70),
  (yX6_takes, cX6_takes, 2, none, 1, 6, 0, 720, 719, 37, 70),
  (yX6_fault, cX6_fault, 2, some .int, 1, 6, 0, 828, 826, 827, 70),
  (yX6_lay, cX6_lay, 1, some .int, 1, 6, 0, 855, 853, 854, 70),
  (yX6_isHouse, cX6_isHouse, 2, some .boolean, 1, 6, 1, 864, 863, 41, 70),
  (yX6_isWork, cX6_isWork, 2, some .boolean, 1, 6, 1, 915, 914, 48, 70),
  (yX6_isDay, cX6_isDay, 2, some .boolean, 0, 6, 1, 871, 870, 0, 70),
  (yX6_house, cX6_house, 3, some .int, 1, 6, 2, 860, 858, 859, 70),
  (yX6_weekOf, cX6_weekOf, 2, some .int, 1, 6, 1, 884, 883, 44, 70),
  (yX6_isUp, cX6_isUp, 4, some .boolean, 1, 6, 2, 880, 879, 43, 70),
  (yX6_period, cX6_period, 2, some .int, 1, 6, 0, 919, 918, 49, 70),
  (yX6_upOn, cX6_upOn, 5, some .int, 1, 6, 1, 876, 875, 42, 70),
  (yX6_bits, cX6_bits, 3, some .int, 0, 6, 1, 955, 954, 0, 70),
  (yX6_handsOn, cX6_handsOn, 6, some .int, 1, 6, 2, 892, 891, 45, 70),
  (yX6_up, cX6_up, 3, some .int, 1, 6, 1, 868, 866, 867, 70),
  (yX6_hands, cX6_hands, 4, some .int, 1, 6, 2, 888, 886, 887, 70),
  (yX6_isShort, cX6_isShort, 4, some .boolean, 1, 6, 2, 906, 905, 47, 70),
  (yX6_shortOn, cX6_shortOn, 4, some .int, 1, 6, 1, 902, 901, 46, 70),
  (yX6_judge, cX6_judge, 7, some .long, 1, 6, 2, 896, 894, 895, 70),
  (yX6_still, cX6_still, 5, some .int, 1, 6, 1, 911, 909, 910, 70),
  (yX6_isSet, cX6_isSet, 2, some .boolean, 1, 6, 1, 927, 926, 50, 70),
  (yX6_areUp, cX6_areUp, 4, some .boolean, 1, 6, 2, 931, 930, 51, 70),
  (yX6_together, cX6_together, 6, some .long, 1, 6, 2, 923, 921, 922, 70),
  (yX6_often, cX6_often, 14, some .long, 1, 6, 3, 935, 933, 934, 70),
  (yX6_longest, cX6_longest, 7, some .int, 1, 6, 1, 940, 938, 939, 70),
  (yX6_street, cX6_street, 7, some .long, 1, 6, 2, 944, 942, 943, 70),
  (yX6_mostRest, cX6_mostRest, 4, some .int, 1, 6, 0, 952, 951, 52, 70),
  (yX6_same, cX6_same, 3, some .int, 1, 6, 1, 948, 946, 947, 70),
  (yX6_harvest, cX6_harvest, 12, some .long, 1, 6, 3, 959, 957, 958, 70),
  (yX6_isAll, cX6_isAll, 3, some .boolean, 1, 6, 0, 976, 975, 55, 70),
  (yX6_fitsSeen, cX6_fitsSeen, 3, some .boolean, 1, 6, 0, 972, 971, 54, 70),
  (yX6_settles, cX6_settles, 6, none, 1, 6, 1, 968, 967, 53, 70),
  (yX6_counts, cX6_counts, 5, none, 1, 6, 1, 980, 979, 56, 70),
  (yX6_settled, cX6_settled, 2, some .int, 1, 6, 1, 963, 961, 962, 70),
  (yX6_goesOn, cX6_goesOn, 4, some .boolean, 1, 6, 1, 988, 987, 57, 70),
  (yX6_changesOne, cX6_changesOne, 8, some .boolean, 1, 6, 3, 992, 991, 58, 70),
  (yX6_changesTwo, cX6_changesTwo, 6, some .boolean, 1, 6, 1, 996, 995, 59, 70),
  (yX6_years, cX6_years, 4, some .int, 1, 6, 2, 984, 982, 983, 70),
  (yX6_days, cX6_days, 7, some .int, 1, 6, 2, 1004, 1003, 60, 70),
  (yX6_wedding, cX6_wedding, 6, some .int, 1, 6, 3, 1000, 998, 999, 70),
  (yX6_seen, cX6_seen, 5, some .int, 1, 6, 3, 1008, 1006, 1007, 70),
  (yX6_forget, cX6_forget, 2, some .int, 1, 6, 0, 1012, 1010, 1011, 70),
  (yX6_fits, cX6_fits, 3, some .int, 1, 6, 2, 1016, 1014, 1015, 70),
  (yX6_fireDay, cX6_fireDay, 6, some .long, 0, 6, 3, 1025, 1024, 0, 70),
  (yX6_fire, cX6_fire, 8, some .int, 1, 6, 4, 1020, 1018, 1019, 70),
  (yX6_change, cX6_change, 4, some .int, 1, 6, 2, 1031, 1029, 1030, 70),
  (yX6_wed, cX6_wed, 4, some .int, 1, 6, 2, 1035, 1033, 1034, 70),
  (yX6_newMany, cX6_newMany, 3, some .int, 1, 6, 0, 1043, 1042, 61, 70),
  (yX6_settle, cX6_settle, 3, some .int, 1, 6, 0, 1039, 1037, 1038, 70),
  (yX6_keep, cX6_keep, 2, some .int, 1, 6, 0, 1047, 1045, 1046, 70),
  (yX6_back, cX6_back, 2, some .int, 1, 6, 0, 1051, 1049, 1050, 70),
  (yX6_count, cX6_count, 2, some .int, 1, 6, 1, 1055, 1053, 1054, 70),
  (yJ6_bitCount_0f7a4, cJ6_bitCount_0f7a4, 1, some .int, 0, 8, 1, 362, 361, 0, 71),
  (yJ7_fill_53178, cJ7_fill_53178, 4, none, 0, 10, 2, 261, 260, 0, 69),
  (yL_law, cL_law, 4, some .boolean, 0, 7, 1, 0, 0, 0, 62)]
def mz_cn : List String := [RX0, RX1, RX2, RX3, RX4, RX5, RX6, RL, RJ6, RJ9, RJ7]
/-- field links: class, index, class of the field, its slot, the place of the word -/
def mz_F : List ((Nat × Nat) × (Nat × Nat × Nat)) := [((1, 9), (1, 0, 88)), ((1, 15), (1, 1, 89)), ((3, 9), (3, 0, 103)), ((2, 24), (3, 0, 104)), ((4, 55), (3, 0, 105)), ((1, 68), (3, 0, 106)), ((5, 261), (3, 0, 107)), ((5, 66), (3, 1, 108)), ((3, 33), (3, 1, 109)), ((4, 43), (3, 1, 110)), ((2, 43), (3, 1, 111)), ((1, 71), (3, 1, 112)), ((3, 15), (3, 2, 113)), ((5, 98), (3, 2, 114)), ((3, 18), (3, 3, 115)), ((5, 101), (3, 3, 116)), ((3, 21), (3, 4, 117)), ((5, 264), (3, 4, 118)), ((3, 43), (3, 5, 119)), ((1, 91), (3, 5, 120)), ((5, 252), (3, 5, 121)), ((3, 24), (3, 6, 122)), ((5, 274), (3, 6, 123)), ((3, 27), (3, 7, 124)), ((5, 277), (3, 7, 125)), ((3, 30), (3, 8, 126)), ((5, 153), (3, 8, 127)), ((3, 46), (3, 9, 128)), ((1, 97), (3, 9, 129)), ((5, 267), (3, 9, 130)), ((0, 9), (0, 0, 158)), ((4, 54), (0, 0, 159)), ((2, 46), (0, 0, 160)), ((5, 92), (0, 0, 161)), ((1, 103), (0, 0, 162)), ((0, 15), (0, 1, 163)), ((2, 51), (0, 1, 164)), ((5, 95), (0, 1, 165)), ((1, 100), (0, 1, 166)), ((0, 25), (0, 2, 167)), ((1, 83), (0, 2, 168)), ((5, 236), (0, 2, 169)), ((0, 29), (0, 3, 170)), ((5, 208), (0, 3, 171)), ((0, 18), (0, 4, 172)), ((5, 315), (0, 4, 173)), ((0, 22), (0, 5, 174)), ((5, 312), (0, 5, 175)), ((0, 32), (0, 6, 176)), ((2, 9), (2, 0, 202)), ((2, 17), (2, 1, 203)), ((2, 20), (2, 2, 204)), ((4, 30), (4, 0, 218)), ((5, 239), (4, 0, 219)), ((4, 9), (4, 1, 220)), ((5, 242), (4, 1, 221)), ((4, 15), (4, 2, 222)), ((4, 18), (4, 3, 223)), ((4, 21), (4, 4, 224)), ((4, 34), (4, 5, 225)), ((5, 289), (4, 5, 226)), ((4, 37), (4, 6, 227)), ((5, 191), (4, 6, 228)), ((4, 40), (4, 7, 229)), ((5, 194), (4, 7, 230)), ((4, 24), (4, 8, 231)), ((5, 245), (4, 8, 232)), ((4, 27), (4, 9, 233)), ((5, 9), (5, 0, 274)), ((5, 78), (5, 1, 275)), ((5, 16), (5, 2, 276)), ((5, 23), (5, 3, 277)), ((5, 30), (5, 4, 278)), ((5, 34), (5, 5, 279)), ((5, 37), (5, 6, 280)), ((5, 40), (5, 7, 281)), ((5, 85), (5, 8, 282)), ((5, 47), (5, 9, 283)), ((5, 54), (5, 10, 284)), ((5, 58), (5, 11, 285)), ((6, 94), (6, 0, 721)), ((6, 7), (6, 1, 722)), ((6, 98), (6, 2, 723)), ((6, 13), (6, 3, 724)), ((6, 17), (6, 4, 725)), ((6, 20), (6, 5, 726)), ((6, 23), (6, 6, 727)), ((6, 26), (6, 7, 728)), ((6, 29), (6, 8, 729)), ((6, 32), (6, 9, 730)), ((6, 35), (6, 10, 731)), ((6, 129), (6, 11, 732)), ((6, 39), (6, 12, 733)), ((6, 43), (6, 13, 734)), ((6, 46), (6, 14, 735)), ((6, 132), (6, 15, 736)), ((6, 49), (6, 16, 737)), ((6, 52), (6, 17, 738)), ((6, 55), (6, 18, 739)), ((6, 58), (6, 19, 740)), ((6, 61), (6, 20, 741)), ((6, 64), (6, 21, 742)), ((6, 67), (6, 22, 743)), ((6, 70), (6, 23, 744)), ((6, 73), (6, 24, 745)), ((6, 202), (6, 25, 746)), ((6, 205), (6, 26, 747)), ((6, 76), (6, 27, 748)), ((6, 79), (6, 28, 749)), ((6, 196), (6, 29, 750))]
/-- method links: class, index, the method (1000 arraycopy, 1001 Object()), 1 by the nest, the place of the word -/
def mz_L : List ((Nat × Nat) × (Nat × Nat × Nat)) := [((7, 9), (43, 0, 76)), ((5, 3), (1001, 0, 79)), ((1, 3), (1001, 0, 87)), ((3, 3), (1001, 0, 102)), ((0, 3), (1001, 0, 157)), ((2, 3), (1001, 0, 199)), ((4, 3), (1001, 0, 217)), ((5, 62), (28, 0, 255)), ((3, 37), (162, 0, 259)), ((5, 65), (1, 0, 262)), ((5, 70), (2, 0, 266)), ((5, 74), (29, 0, 270)), ((7, 15), (44, 0, 311)), ((7, 20), (45, 0, 315)), ((7, 25), (46, 0, 319)), ((5, 81), (8, 0, 323)), ((1, 18), (28, 0, 327)), ((1, 23), (1, 0, 328)), ((1, 26), (9, 0, 329)), ((1, 38), (10, 0, 333)), ((1, 42), (11, 0, 336)), ((1, 30), (12, 0, 339)), ((1, 46), (13, 0, 343)), ((1, 64), (14, 0, 347)), ((1, 50), (15, 0, 350)), ((1, 75), (2, 0, 354)), ((1, 79), (29, 0, 355)), ((1, 54), (16, 0, 356)), ((1, 86), (161, 0, 360)), ((1, 58), (17, 0, 366)), ((1, 94), (30, 0, 370)), ((1, 61), (18, 0, 374)), ((1, 34), (19, 0, 378)), ((7, 29), (47, 0, 382)), ((7, 33), (48, 0, 386)), ((5, 88), (72, 0, 390)), ((5, 104), (3, 0, 394)), ((7, 38), (49, 0, 398)), ((5, 107), (77, 0, 402)), ((5, 111), (78, 0, 406)), ((5, 257), (21, 0, 410)), ((2, 27), (162, 0, 414)), ((2, 33), (31, 0, 415)), ((3, 49), (1002, 0, 419)), ((2, 37), (1002, 0, 422)), ((2, 54), (22, 0, 423)), ((5, 114), (80, 0, 427)), ((5, 137), (24, 0, 431)), ((7, 43), (50, 0, 435)), ((5, 118), (76, 0, 439)), ((5, 121), (81, 0, 442)), ((5, 228), (161, 0, 446)), ((7, 47), (51, 0, 447)), ((5, 127), (31, 0, 452)), ((5, 131), (1003, 0, 453)), ((5, 140), (85, 0, 456)), ((5, 149), (33, 0, 460)), ((3, 55), (161, 0, 464)), ((7, 52), (52, 0, 466)), ((5, 146), (74, 0, 470)), ((7, 57), (53, 0, 474)), ((5, 156), (75, 0, 478)), ((5, 159), (82, 0, 482)), ((7, 62), (54, 0, 486)), ((5, 165), (86, 0, 491)), ((7, 67), (55, 0, 495)), ((5, 169), (1002, 0, 499)), ((7, 71), (56, 0, 500)), ((5, 172), (32, 0, 504)), ((7, 75), (57, 0, 508)), ((5, 175), (25, 0, 512)), ((2, 58), (26, 0, 516)), ((2, 62), (161, 0, 520)), ((5, 178), (87, 0, 521)), ((7, 79), (58, 0, 525)), ((5, 181), (88, 0, 529)), ((7, 83), (59, 0, 533)), ((5, 185), (73, 0, 537)), ((5, 188), (92, 0, 541)), ((5, 286), (35, 0, 545)), ((4, 48), (3, 0, 549)), ((5, 292), (37, 0, 550)), ((4, 56), (22, 0, 554)), ((5, 296), (90, 0, 555)), ((5, 280), (89, 0, 559)), ((5, 300), (39, 0, 563)), ((4, 65), (1000, 0, 567)), ((5, 303), (38, 0, 570)), ((4, 62), (23, 0, 574)), ((5, 306), (36, 0, 578)), ((5, 197), (40, 0, 582)), ((4, 71), (42, 0, 586)), ((7, 87), (60, 0, 590)), ((5, 200), (95, 0, 594)), ((5, 322), (162, 0, 598)), ((5, 327), (96, 0, 599)), ((5, 333), (100, 0, 603)), ((5, 336), (99, 0, 607)), ((5, 233), (79, 0, 611)), ((5, 339), (23, 0, 615)), ((5, 283), (22, 0, 616)), ((5, 330), (97, 0, 617)), ((5, 342), (98, 0, 621)), ((7, 91), (61, 0, 625)), ((5, 204), (91, 0, 629)), ((7, 96), (62, 0, 633)), ((5, 211), (5, 0, 637)), ((7, 101), (63, 0, 641)), ((7, 105), (64, 0, 645)), ((5, 215), (93, 0, 649)), ((5, 309), (94, 0, 653)), ((5, 319), (4, 0, 657)), ((5, 218), (41, 0, 661)), ((7, 110), (65, 0, 665)), ((5, 221), (84, 0, 669)), ((5, 225), (83, 0, 674)), ((7, 115), (66, 0, 678)), ((7, 119), (67, 0, 682)), ((7, 123), (68, 0, 686)), ((7, 127), (69, 0, 690)), ((5, 248), (6, 0, 694)), ((0, 35), (1000, 0, 698)), ((7, 131), (70, 0, 699)), ((7, 135), (71, 0, 703)), ((7, 12), (101, 0, 709)), ((6, 1), (1001, 0, 712)), ((6, 82), (109, 0, 713)), ((6, 85), (110, 0, 717)), ((7, 19), (103, 0, 813)), ((6, 90), (102, 0, 818)), ((7, 24), (104, 0, 821)), ((7, 28), (111, 0, 825)), ((6, 135), (107, 0, 829)), ((6, 107), (106, 0, 833)), ((6, 111), (105, 0, 836)), ((6, 115), (108, 0, 843)), ((7, 32), (112, 0, 852)), ((6, 139), (111, 0, 856)), ((7, 37), (116, 0, 857)), ((6, 144), (113, 0, 861)), ((7, 42), (123, 0, 865)), ((6, 155), (115, 0, 869)), ((6, 159), (120, 0, 873)), ((6, 151), (118, 0, 877)), ((6, 148), (117, 0, 881)), ((7, 46), (124, 0, 885)), ((6, 163), (122, 0, 889)), ((7, 51), (127, 0, 893)), ((6, 174), (126, 0, 899)), ((6, 167), (125, 0, 903)), ((7, 56), (128, 0, 908)), ((6, 179), (114, 0, 912)), ((6, 182), (119, 0, 916)), ((7, 61), (131, 0, 920)), ((6, 185), (129, 0, 924)), ((6, 188), (130, 0, 928)), ((7, 66), (132, 0, 932)), ((7, 70), (133, 0, 937)), ((7, 74), (134, 0, 941)), ((7, 78), (136, 0, 945)), ((6, 199), (135, 0, 949)), ((6, 193), (121, 0, 953)), ((7, 82), (137, 0, 956)), ((7, 86), (142, 0, 960)), ((6, 220), (140, 0, 965)), ((6, 208), (139, 0, 969)), ((6, 211), (138, 0, 973)), ((6, 214), (141, 0, 977)), ((7, 90), (146, 0, 981)), ((6, 223), (143, 0, 985)), ((6, 226), (144, 0, 989)), ((6, 230), (145, 0, 993)), ((7, 95), (148, 0, 997)), ((6, 233), (147, 0, 1001)), ((7, 100), (149, 0, 1005)), ((7, 104), (150, 0, 1009)), ((7, 109), (151, 0, 1013)), ((7, 114), (153, 0, 1017)), ((6, 245), (152, 0, 1023)), ((7, 118), (154, 0, 1028)), ((7, 122), (155, 0, 1032)), ((7, 126), (157, 0, 1036)), ((6, 249), (156, 0, 1040)), ((7, 130), (158, 0, 1044)), ((7, 134), (159, 0, 1048)), ((7, 138), (160, 0, 1052)), ((5, 15), (7, 1, 84)), ((5, 22), (27, 1, 99)), ((5, 29), (0, 1, 154)), ((5, 46), (20, 1, 196)), ((5, 53), (34, 1, 214))]
def mz_C : List ((Nat × Nat) × (Nat × Nat)) := [((7, 7), (5, 74)), ((5, 13), (1, 82)), ((5, 20), (3, 97)), ((5, 27), (0, 152)), ((5, 44), (2, 194)), ((2, 15), (100, 200)), ((5, 51), (4, 212)), ((7, 10), (6, 707))]
def mz_K : List ((Nat × Nat) × (Int × Nat)) := [((8, 265), ((1431655765), 363)), ((8, 266), ((858993459), 364)), ((8, 267), ((252645135), 365)), ((5, 255), ((1000000000000000), 405)), ((5, 125), ((-1), 451)), ((5, 144), ((-4), 465)), ((5, 163), ((1000000000000), 490)), ((5, 270), ((7919), 672)), ((5, 272), ((65521), 673)), ((6, 88), ((8), 817)), ((6, 101), ((48), 840)), ((6, 103), ((57), 841)), ((6, 105), ((2), 842)), ((6, 119), ((12), 847)), ((6, 121), ((31), 848)), ((6, 123), ((3), 849)), ((6, 125), ((4), 850)), ((6, 127), ((9), 851)), ((6, 142), ((1000000000000000), 872)), ((6, 170), ((-1), 897)), ((6, 172), ((1000), 898)), ((6, 177), ((-4), 907)), ((6, 191), ((1000000000000), 936)), ((6, 218), ((-2), 964)), ((6, 241), ((9999), 1021)), ((6, 243), ((999), 1022)), ((6, 237), ((7919), 1026)), ((6, 239), ((65521), 1027)), ((7, 13), ((4294967295), 1056))]
end
section
/-! THE SMALL MACHINE: ints and longs as whole numbers, references as numbers of cells, the heap as a list of shapes and one table of numbers -/
abbrev AV : Type := Int ⊕ Int ⊕ Nat
abbrev AL : Type := List (Option AV)
abbrev SC : Type := (Nat × Nat × (Nat → Option Nat)) ⊕ (Nat × List (Option (Option Nat)))
abbrev MM : Type := Nat → Nat → Int
abbrev ZZ : Type := List SC × Nat × Nat
def mz_nul : Nat → Option Nat := fun _ => none
abbrev vI (a : Int) : AV := Sum.inl a
abbrev vL (a : Int) : AV := Sum.inr (Sum.inl a)
abbrev vR (k : Nat) : AV := Sum.inr (Sum.inr k)
def iN (a : Int) : Int32 := Int32.ofInt a
def jN (a : Int) : Int64 := Int64.ofInt a
def rgI (a : Int) : Prop := -2147483648 ≤ a ∧ a ≤ 2147483647
def rgL (a : Int) : Prop := -9223372036854775808 ≤ a ∧ a ≤ 9223372036854775807
def mset (M : MM) (k j : Nat) (a : Int) : MM := fun k' j' => if k' = k ∧ j' = j then a else M k' j'
def mnew (M : MM) (k : Nat) : MM := fun k' j' => if k' = k then 0 else M k' j'
def mcpy (M : MM) (sk dk sp dp n : Nat) : MM := fun k j => if k = dk ∧ dp ≤ j ∧ j < dp + n then M sk (sp + (j - dp)) else M k j
def fld (sh : List SC) (r k : Nat) : Option (Option (Option Nat)) := match sh[r]? with
  | some (Sum.inr q) => q.2[k]?
  | _ => none
def arr (sh : List SC) (r : Nat) : Option (Nat × Nat × (Nat → Option Nat)) := match sh[r]? with
  | some (Sum.inl a) => some a
  | _ => none
def cls (sh : List SC) (r : Nat) : Option Nat := match sh[r]? with
  | some (Sum.inr q) => some q.1
  | _ => none
def is2 (v : AV) : Bool := match v with
  | Sum.inr (Sum.inl _) => true
  | _ => false
def lget : AL → Nat → Option AV
  | [], _ => none
  | x :: _, 0 => x
  | _ :: t, i + 1 => lget t i
def lclr (x : Option AV) : Option AV := match x with
  | some (Sum.inr (Sum.inl _)) => none
  | x => x
def lst1 : AL → Nat → AV → AL
  | [], _, _ => []
  | _ :: t, 0, v => some v :: t
  | x :: t, 1, v => lclr x :: lst1 t 0 v
  | x :: t, i + 2, v => x :: lst1 t (i + 1) v
def lst2 : AL → Nat → AV → AL
  | [], _, _ => []
  | [_], 0, v => [some v]
  | _ :: _ :: t, 0, v => some v :: none :: t
  | x :: t, 1, v => lclr x :: lst2 t 0 v
  | x :: t, i + 2, v => x :: lst2 t (i + 1) v
def cat (v : AV) : Nat := if is2 v then 2 else 1
def cats : List AV → Nat
  | [] => 0
  | v :: t => cat v + cats t
def sls : List AV → AL
  | [] => []
  | v :: t => if is2 v then some v :: none :: sls t else some v :: sls t
def entL (n : Nat) (args : List AV) : AL := sls args ++ List.replicate (n - (sls args).length) none
/-- a reference that a making of the cells n .. n' - 1 leaves as it is -/
def rfv (n n' : Nat) (v : AV) : Prop := match v with
  | Sum.inr (Sum.inr k) => k < n ∨ n' ≤ k
  | _ => True
def rfs : List AV → Nat → Nat → Prop
  | [], _, _ => True
  | v :: t, n, n' => rfv n n' v ∧ rfs t n n'
def rfq : AL → Nat → Nat → Prop
  | [], _, _ => True
  | none :: t, n, n' => rfq t n n'
  | some v :: t, n, n' => rfv n n' v ∧ rfq t n n'
def bAnd (x y : Int) : Int := (iN x &&& iN y).toInt
def bOr (x y : Int) : Int := (iN x ||| iN y).toInt
def bXor (x y : Int) : Int := (iN x ^^^ iN y).toInt
def bShl (x y : Int) : Int := (iN x <<< (iN y &&& 31)).toInt
def bShr (x y : Int) : Int := (iN x >>> (iN y &&& 31)).toInt
def bUsr (x y : Int) : Int := ((iN x).toUInt32 >>> ((iN y).toUInt32 &&& Int32.toUInt32 31)).toInt32.toInt
def bByt (x : Int) : Int := (iN x).toInt8.toInt32.toInt
def lAnd (x y : Int) : Int := (jN x &&& jN y).toInt
def lOr (x y : Int) : Int := (jN x ||| jN y).toInt
def lShl (x y : Int) : Int := (jN x <<< ((iN y).toInt64 &&& 63)).toInt
def lShr (x y : Int) : Int := (jN x >>> ((iN y).toInt64 &&& 63)).toInt
def lUsr (x y : Int) : Int := ((jN x).toUInt64 >>> ((iN y).toInt64.toUInt64 &&& Int64.toUInt64 63)).toInt64.toInt
abbrev PP : Type := Option AV → List SC → MM → Prop
abbrev CC : Type := Nat → List AV → List SC → MM → Nat → Nat → PP → Prop
abbrev KK : Type := AL → List AV → ZZ → MM → Prop
abbrev RR : Type := Option AV → ZZ → MM → Prop
abbrev XX : Type := Option (Nat × (Nat → Int))
def scr : Nat := 1000000
def pI (st : List AV) (k : Int → List AV → Prop) : Prop := match st with
  | Sum.inl a :: t => k a t
  | _ => False
def pL (st : List AV) (k : Int → List AV → Prop) : Prop := match st with
  | Sum.inr (Sum.inl a) :: t => k a t
  | _ => False
def pR (st : List AV) (k : Nat → List AV → Prop) : Prop := match st with
  | Sum.inr (Sum.inr a) :: t => k a t
  | _ => False
/-- a value of one slot -/
def pV (st : List AV) (k : AV → List AV → Prop) : Prop := match st with
  | Sum.inl a :: t => k (Sum.inl a) t
  | Sum.inr (Sum.inr a) :: t => k (Sum.inr (Sum.inr a)) t
  | _ => False
def gI (x : Option AV) (k : Int → Prop) : Prop := match x with
  | some (Sum.inl a) => k a
  | _ => False
def gL (x : Option AV) (k : Int → Prop) : Prop := match x with
  | some (Sum.inr (Sum.inl a)) => k a
  | _ => False
def gR (x : Option AV) (k : Nat → Prop) : Prop := match x with
  | some (Sum.inr (Sum.inr a)) => k a
  | _ => False
def gF (x : Option (Option (Option Nat))) (kn : Prop) (kr : Nat → Prop) : Prop := match x with
  | some none => kn
  | some (some (some q)) => kr q
  | _ => False
/-- an array of a kind, the index in it -/
def gA (x : Option (Nat × Nat × (Nat → Option Nat))) (j : Int) (k : Nat → (Nat → Option Nat) → Prop) : Prop := match x with
  | some (t, n, f) => (0 ≤ j ∧ j < n) ∧ n ≤ 100000 ∧ k t f
  | none => False
def gQ (x : Option Nat) (k : Nat → Prop) : Prop := match x with
  | some q => k q
  | none => False
def swl (J : Nat → KK) (a : Int) (ls : AL) (st : List AV) (Z : ZZ) (M : MM) : List Int → Int → Prop
  | [], _ => True
  | o :: t, v => (a = v → J o.toNat ls st Z M) ∧ swl J a ls st Z M t (v + 1)
def lkl (J : Nat → KK) (a : Int) (ls : AL) (st : List AV) (Z : ZZ) (M : MM) (d : Int) : List (Int × Int) → Prop
  | [] => J d.toNat ls st Z M
  | q :: t => (a = q.1 → J q.2.toNat ls st Z M) ∧ (a ≠ q.1 → lkl J a ls st Z M d t)
def cnd (c : Jvm.ClassFile.Cond) (x y : Int) : Prop := match c with
  | .eq => x = y
  | .ne => x ≠ y
  | .lt => x < y
  | .ge => y ≤ x
  | .gt => y < x
  | .le => x ≤ y
/-- the fields of a new object of a class: none a number, some none a reference that is null -/
def newF (ci : Nat) : List (Option (Option Nat)) := match ci with
  | 0 => [some none, some none, none, none, some none, some none, none]
  | 1 => [some none, some none]
  | 2 => [some none, some none, none]
  | 3 => [some none, none, some none, some none, some none, none, some none, some none, some none, none]
  | 4 => [none, some none, some none, some none, some none, none, none, none, some none, some none]
  | 5 => [some none, none, some none, some none, some none, some none, some none, some none, none, some none, some none, some none]
  | 6 => [none, some none, none, some none, some none, some none, some none, some none, some none, some none, some none, none, some none, some none, some none, none, some none, some none, some none, some none, some none, some none, some none, some none, some none, none, none, some none, some none, none]
  | _ => []
def newT (t : ArrayType) : Nat := match t with
  | .int => 0
  | .byte => 1
  | .boolean => 2
  | .long => 3
  | _ => 9
/-- a call: what it takes off the stack, whom it asks, how it goes on -/
def wpc (C : CC) (mc ms : Nat) (y n : Nat) (K : KK) (ls : AL) (st : List AV) (Z : ZZ) (M : MM) : Prop :=
  n ≤ st.length ∧ cats (st.drop n) ≤ 8 ∧ ∃ c s : Nat, Z.2.1 + c ≤ mc ∧ Z.2.2 + s ≤ ms ∧
    C y (st.take n).reverse Z.1 M c s (fun r sh M' => (sh.length = Z.1.length ∨ (rfs (st.drop n) Z.1.length sh.length ∧ rfq ls Z.1.length sh.length)) ∧ K ls (r.toList ++ st.drop n) (sh, Z.2.1 + c, Z.2.2 + s) M')
/-- the class of the receiver: the n-th below the top -/
def rcv (sh : List SC) (st : List AV) (n y : Nat) : Prop := gR st[n]? (fun r => match mz_T[y]? with
  | some e => cls sh r = some e.2.2.2.2.2.1
  | none => False)
/-- one instruction: J goes to a place, K to the next, Rt ends -/
def wpi (C : CC) (X : XX) (mc ms : Nat) (J : Nat → KK) (Rt : RR) (i : Instr) (x : Int) (K : KK) (ls : AL) (st : List AV) (Z : ZZ) (M : MM) : Prop := match i with
  | .iconst n => K ls (vI n :: st) Z M
  | .ldc2_w _ => K ls (vL x :: st) Z M
  | .iload k => gI (lget ls k) fun a => K ls (vI a :: st) Z M
  | .lload k => gL (lget ls k) fun a => K ls (vL a :: st) Z M
  | .aload k => gR (lget ls k) fun a => K ls (vR a :: st) Z M
  | .istore k => pI st fun a st => k < ls.length ∧ K (lst1 ls k (vI a)) st Z M
  | .astore k => pR st fun a st => k < ls.length ∧ K (lst1 ls k (vR a)) st Z M
  | .lstore k => pL st fun a st => k + 1 < ls.length ∧ K (lst2 ls k (vL a)) st Z M
  | .iinc k n => gI (lget ls k) fun a => k < ls.length ∧ K (lst1 ls k (vI (a + n))) st Z M
  | .iadd => pI st fun b st => pI st fun a st => K ls (vI (a + b) :: st) Z M
  | .isub => pI st fun b st => pI st fun a st => K ls (vI (a - b) :: st) Z M
  | .imul => pI st fun b st => pI st fun a st => K ls (vI (a * b) :: st) Z M
  | .idiv => pI st fun b st => pI st fun a st => (0 ≤ a ∧ a ≤ 2147483647 ∧ 0 < b ∧ b ≤ 2147483647) ∧ K ls (vI (a / b) :: st) Z M
  | .irem => pI st fun b st => pI st fun a st => (0 ≤ a ∧ a ≤ 2147483647 ∧ 0 < b ∧ b ≤ 2147483647) ∧ K ls (vI (a % b) :: st) Z M
  | .iand => pI st fun b st => pI st fun a st => K ls (vI (bAnd a b) :: st) Z M
  | .ior => pI st fun b st => pI st fun a st => K ls (vI (bOr a b) :: st) Z M
  | .ixor => pI st fun b st => pI st fun a st => K ls (vI (bXor a b) :: st) Z M
  | .ishl => pI st fun b st => pI st fun a st => K ls (vI (bShl a b) :: st) Z M
  | .ishr => pI st fun b st => pI st fun a st => K ls (vI (bShr a b) :: st) Z M
  | .iushr => pI st fun b st => pI st fun a st => K ls (vI (bUsr a b) :: st) Z M
  | .ladd => pL st fun b st => pL st fun a st => K ls (vL (a + b) :: st) Z M
  | .lsub => pL st fun b st => pL st fun a st => K ls (vL (a - b) :: st) Z M
  | .lmul => pL st fun b st => pL st fun a st => K ls (vL (a * b) :: st) Z M
  | .ldiv => pL st fun b st => pL st fun a st => (0 ≤ a ∧ a ≤ 9223372036854775807 ∧ 0 < b ∧ b ≤ 9223372036854775807) ∧ K ls (vL (a / b) :: st) Z M
  | .lrem => pL st fun b st => pL st fun a st => (0 ≤ a ∧ a ≤ 9223372036854775807 ∧ 0 < b ∧ b ≤ 9223372036854775807) ∧ K ls (vL (a % b) :: st) Z M
  | .land => pL st fun b st => pL st fun a st => K ls (vL (lAnd a b) :: st) Z M
  | .lor => pL st fun b st => pL st fun a st => K ls (vL (lOr a b) :: st) Z M
  | .lshl => pI st fun b st => pL st fun a st => K ls (vL (lShl a b) :: st) Z M
  | .lshr => pI st fun b st => pL st fun a st => K ls (vL (lShr a b) :: st) Z M
  | .lushr => pI st fun b st => pL st fun a st => K ls (vL (lUsr a b) :: st) Z M
  | .lcmp => pL st fun b st => pL st fun a st => rgL a ∧ rgL b ∧ K ls (vI (if a < b then -1 else if a = b then 0 else 1) :: st) Z M
  | .i2l => pI st fun a st => rgI a ∧ K ls (vL a :: st) Z M
  | .l2i => pL st fun a st => K ls (vI a :: st) Z M
  | .i2b => pI st fun a st => K ls (vI (bByt a) :: st) Z M
  | .dup => pV st fun v st => K ls (v :: v :: st) Z M
  | .dup2 => pV st fun v st => pV st fun w st => K ls (v :: w :: v :: w :: st) Z M
  | .pop => pV st fun _ st => K ls st Z M
  | .goto t => J t.toNat ls st Z M
  | .if_icmp c t => pI st fun b st => pI st fun a st => rgI a ∧ rgI b ∧ (cnd c a b → J t.toNat ls st Z M) ∧ (¬ cnd c a b → K ls st Z M)
  | .ifCond c t => pI st fun a st => rgI a ∧ (cnd c a 0 → J t.toNat ls st Z M) ∧ (¬ cnd c a 0 → K ls st Z M)
  | .tableswitch d lo hi os => pI st fun a st => rgI a ∧ (a < lo ∨ hi < a → J d.toNat ls st Z M) ∧ swl J a ls st Z M os.toList lo
  | .lookupswitch d ps => pI st fun a st => rgI a ∧ lkl J a ls st Z M d ps.toList
  | .getfield k => pR st fun r st => cls Z.1 r = some x.toNat ∧ gF (fld Z.1 r k) (K ls (vI (M r k) :: st) Z M) (fun q => K ls (vR q :: st) Z M)
  | .putfield k => pI st fun a st => pR st fun r st => cls Z.1 r = some x.toNat ∧ gF (fld Z.1 r k) (K ls st Z (mset M r k a)) (fun _ => False)
  | .putstatic k => pR st fun q st => pR st fun r st => (match Z.1[r]? with
      | some (Sum.inr o) => o.1 = x.toNat ∧ (∃ z, o.2[k]? = some (some z)) ∧ q < Z.1.length ∧ K ls st (Z.1.set r (Sum.inr (o.1, o.2.set k (some (some q)))), Z.2.1, Z.2.2) M
      | _ => False)
  | .iaload => pI st fun j st => pR st fun r st => if r = scr then (match X with | some q => (0 ≤ j ∧ j < q.1) ∧ q.1 ≤ 100000 ∧ K ls (vI (q.2 j.toNat) :: st) Z M | none => False) else gA (arr Z.1 r) j fun t _ => t = 0 ∧ K ls (vI (M r j.toNat) :: st) Z M
  | .baload => pI st fun j st => pR st fun r st => gA (arr Z.1 r) j fun t _ => (t = 1 ∨ t = 2) ∧ K ls (vI (M r j.toNat) :: st) Z M
  | .laload => pI st fun j st => pR st fun r st => gA (arr Z.1 r) j fun t _ => t = 3 ∧ K ls (vL (M r j.toNat) :: st) Z M
  | .aaload => pI st fun j st => pR st fun r st => gA (arr Z.1 r) j fun t f => (t = 4 ∨ t = 5) ∧ gQ (f j.toNat) fun q => K ls (vR q :: st) Z M
  | .iastore => pI st fun a st => pI st fun j st => pR st fun r st => gA (arr Z.1 r) j fun t _ => t = 0 ∧ K ls st Z (mset M r j.toNat a)
  | .bastore => pI st fun a st => pI st fun j st => pR st fun r st => gA (arr Z.1 r) j fun t _ => (t = 1 ∨ (t = 2 ∧ (a = 0 ∨ a = 1))) ∧ K ls st Z (mset M r j.toNat (if t = 1 then bByt a else a))
  | .lastore => pL st fun a st => pI st fun j st => pR st fun r st => gA (arr Z.1 r) j fun t _ => t = 3 ∧ K ls st Z (mset M r j.toNat a)
  | .aastore => pR st fun q st => pI st fun j st => pR st fun r st => (match arr Z.1 r with
      | some (t, n, f) => t = 4 ∧ (0 ≤ j ∧ j < n) ∧ n ≤ 100000 ∧ cls Z.1 q = some 0 ∧ K ls st (Z.1.set r (Sum.inl (4, n, fun z => if z = j.toNat then some q else f z)), Z.2.1, Z.2.2) M
      | _ => False)
  | .arraylength => pR st fun r st => if r = scr then (match X with | some q => q.1 ≤ 100000 ∧ K ls (vI q.1 :: st) Z M | none => False) else (match arr Z.1 r with | some (t, n, _) => t < 6 ∧ n ≤ 100000 ∧ K ls (vI n :: st) Z M | _ => False)
  | .new ci => Z.2.1 + 1 ≤ mc ∧ Z.2.2 + (newF ci).length ≤ ms ∧ rfs st Z.1.length (Z.1.length + 1) ∧ rfq ls Z.1.length (Z.1.length + 1) ∧ Z.1.length < 100000 ∧ K ls (vR Z.1.length :: st) (Z.1 ++ [Sum.inr (ci, newF ci)], Z.2.1 + 1, Z.2.2 + (newF ci).length) (mnew M Z.1.length)
  | .newarray t => pI st fun n st => newT t < 4 ∧ 0 ≤ n ∧ n ≤ 100000 ∧ Z.2.1 + 1 ≤ mc ∧ Z.2.2 + n.toNat ≤ ms ∧ rfs st Z.1.length (Z.1.length + 1) ∧ rfq ls Z.1.length (Z.1.length + 1) ∧ Z.1.length < 100000 ∧ K ls (vR Z.1.length :: st) (Z.1 ++ [Sum.inl (newT t, n.toNat, mz_nul)], Z.2.1 + 1, Z.2.2 + n.toNat) (mnew M Z.1.length)
  | .anewarray _ => pI st fun n st => 0 ≤ n ∧ n ≤ 100000 ∧ Z.2.1 + 1 ≤ mc ∧ Z.2.2 + n.toNat ≤ ms ∧ rfs st Z.1.length (Z.1.length + 1) ∧ rfq ls Z.1.length (Z.1.length + 1) ∧ Z.1.length < 100000 ∧ K ls (vR Z.1.length :: st) (Z.1 ++ [Sum.inl (4, n.toNat, mz_nul)], Z.2.1 + 1, Z.2.2 + n.toNat) (mnew M Z.1.length)
  | .multianewarray _ _ => pI st fun k st => pI st fun n st => n = 2 ∧ 0 ≤ k ∧ k ≤ 100000 ∧ Z.2.1 + 3 ≤ mc ∧ Z.2.2 + (2 + 2 * k.toNat) ≤ ms ∧ rfs st Z.1.length (Z.1.length + 3) ∧ rfq ls Z.1.length (Z.1.length + 3) ∧ Z.1.length + 3 ≤ 100000 ∧
      K ls (vR Z.1.length :: st) (Z.1 ++ [Sum.inl (5, 2, fun j => if j < 2 then some (Z.1.length + 1 + j) else none), Sum.inl (0, k.toNat, mz_nul), Sum.inl (0, k.toNat, mz_nul)], Z.2.1 + 3, Z.2.2 + (2 + 2 * k.toNat)) (mnew (mnew (mnew M Z.1.length) (Z.1.length + 1)) (Z.1.length + 2))
  | .invokestatic y => if y < 1000 then wpc C mc ms y x.toNat K ls st Z M
      else if y = 1000 then pI st fun n st => pI st fun dp st => pR st fun dk st => pI st fun sp st => pR st fun sk st => (match arr Z.1 sk, arr Z.1 dk with
          | some (t, n0, _), some (t1, n1, _) => t = t1 ∧ (t = 0 ∨ t = 3) ∧ 0 ≤ sp ∧ 0 ≤ dp ∧ 0 ≤ n ∧ sp + n ≤ n0 ∧ dp + n ≤ n1 ∧ n0 ≤ 100000 ∧ n1 ≤ 100000 ∧ st = [] ∧ K ls st Z (mcpy M sk dk sp.toNat dp.toNat n.toNat)
          | _, _ => False)
      else if y = 1002 then pI st fun b st => pI st fun a st => rgI a ∧ rgI b ∧ cats st ≤ 8 ∧ Z.2.1 ≤ mc ∧ Z.2.2 ≤ ms ∧ K ls (vI (max a b) :: st) Z M
      else if y = 1003 then pI st fun b st => pI st fun a st => rgI a ∧ rgI b ∧ cats st ≤ 8 ∧ Z.2.1 ≤ mc ∧ Z.2.2 ≤ ms ∧ K ls (vI (min a b) :: st) Z M
      else False
  | .invokevirtual y => rcv Z.1 st (x.toNat - 1) y ∧ wpc C mc ms y x.toNat K ls st Z M
  | .invokespecial y => if y = 1001 then pR st fun _ st => cats st ≤ 8 ∧ K ls st Z M
      else gR st[x.toNat - 1]? (fun _ => True) ∧ wpc C mc ms y x.toNat K ls st Z M
  | .ireturn => pI st fun a st => st = [] ∧ Rt (some (vI a)) Z M
  | .lreturn => pL st fun a st => st = [] ∧ Rt (some (vL a)) Z M
  | .return_ => st = [] ∧ Rt none Z M
  | _ => False
/-- what an instruction is in the small machine: places are absolute, pool numbers are looked up -/
def ownOf (y : Nat) : Nat := match mz_T[y]? with | some e => e.2.2.2.2.2.1 | none => 99
def nmOf (y : Nat) : String := match mz_T[y]? with | some e => e.1.name | none => ""
def npOf (y : Nat) : Nat := match mz_T[y]? with | some e => (if e.2.2.2.2.1 = 0 then e.2.2.2.2.2.2.1 else e.2.2.2.2.2.2.1 + 1) | none => 99
def kdOf (y : Nat) : Nat := match mz_T[y]? with | some e => e.2.2.2.2.1 | none => 9
def isRefD (d : String) : Bool := match parseFieldDescriptor d with
  | some (.array _) => true
  | some (.object _) => true
  | _ => false
/-- a field that is written: a number that isn't final; a reference that is, by its class's own constructor -/
def pfK (y : Nat) (q : Nat × Nat × Nat) : Option Bool := match vwCl[q.1]? with
  | some r => if (r.2.1 q.2.1).2.2.1 = "I" ∧ (r.2.1 q.2.1).2.2.2 = false then some false else if (r.2.1 q.2.1).2.2.2 = true ∧ nmOf y = "<init>" ∧ q.1 = ownOf y ∧ (r.2.1 q.2.1).1 = r.1 ∧ isRefD (r.2.1 q.2.1).2.2.1 = true then some true else none
  | none => none
def lenOK (i : Instr) (len : Nat) : Bool := match i with
  | .iload _ | .lload _ | .aload _ | .istore _ | .lstore _ | .astore _ | .bipush _ | .newarray _ => len == 2
  | .sipush _ | .ldc_w _ | .ldc2_w _ | .goto _ | .if_icmp _ _ | .ifCond _ _ | .iinc _ _ | .getfield _ | .putfield _ | .new _ | .anewarray _ | .invokestatic _ | .invokevirtual _ | .invokespecial _ => len == 3
  | .multianewarray _ _ => len == 4
  | .tableswitch _ _ _ _ | .lookupswitch _ _ => true
  | _ => len == 1
def res0 (y : Nat) (pc : Nat) (i : Instr) : Option (Instr × Int) := match i with
  | .iload_n k => some (.iload k, 0)
  | .lload_n k => some (.lload k, 0)
  | .aload_n k => some (.aload k, 0)
  | .istore_n k => some (.istore k, 0)
  | .lstore_n k => some (.lstore k, 0)
  | .astore_n k => some (.astore k, 0)
  | .iload k => some (.iload k, 0)
  | .lload k => some (.lload k, 0)
  | .aload k => some (.aload k, 0)
  | .istore k => some (.istore k, 0)
  | .lstore k => some (.lstore k, 0)
  | .astore k => some (.astore k, 0)
  | .iinc k n => some (.iinc k n, 0)
  | .iconst n => some (.iconst n, 0)
  | .bipush n => if -128 ≤ n ∧ n ≤ 127 then some (.iconst n, 0) else none
  | .sipush n => if -32768 ≤ n ∧ n ≤ 32767 then some (.iconst n, 0) else none
  | .lconst k => some (.ldc2_w 0, ((k : Nat) : Int))
  | .ldc_w ix => (match mz_K.lookup (ownOf y, ix) with | some q => if ownOf y = 8 then some (.iconst q.1, 0) else none | none => none)
  | .ldc2_w ix => (match mz_K.lookup (ownOf y, ix) with | some q => if ownOf y ≠ 8 then some (.ldc2_w 0, q.1) else none | none => none)
  | .goto o => if 0 ≤ pc + o then some (.goto (pc + o), 0) else none
  | .if_icmp c o => if 0 ≤ pc + o then some (.if_icmp c (pc + o), 0) else none
  | .ifCond c o => if 0 ≤ pc + o then some (.ifCond c (pc + o), 0) else none
  | .tableswitch d lo hi os => if (os.toList.length : Int) = hi - lo + 1 ∧ 0 ≤ pc + d ∧ (os.toList.all fun o => decide (0 ≤ pc + o)) = true then some (.tableswitch (pc + d) lo hi (os.toList.map fun o => (pc : Int) + o).toArray, 0) else none
  | .lookupswitch d ps => if (ps.toList.zip (ps.toList.drop 1)).all (fun (a, next) => a.1 < next.1) = true ∧ 0 ≤ pc + d ∧ (ps.toList.all fun o => decide (0 ≤ pc + o.2)) = true then some (.lookupswitch (pc + d) (ps.toList.map fun o => (o.1, (pc : Int) + o.2)).toArray, 0) else none
  | .getfield ix => (match mz_F.lookup (ownOf y, ix) with | some q => some (.getfield q.2.1, q.1) | none => none)
  | .putfield ix => (match mz_F.lookup (ownOf y, ix) with
      | some q => (match pfK y q with
        | some false => some (.putfield q.2.1, (q.1 : Int))
        | some true => some (.putstatic q.2.1, (q.1 : Int))
        | none => none)
      | none => none)
  | .new ix => (match mz_C.lookup (ownOf y, ix) with | some q => if q.1 < 7 then some (.new q.1, 0) else none | none => none)
  | .newarray t => some (.newarray t, 0)
  | .anewarray ix => (match mz_C.lookup (ownOf y, ix) with | some q => if q.1 = 0 then some (.anewarray 0, 0) else none | none => none)
  | .multianewarray ix n => (match mz_C.lookup (ownOf y, ix) with | some q => if q.1 = 100 ∧ n = 2 then some (.multianewarray 0 2, 0) else none | none => none)
  | .invokestatic ix => (match mz_L.lookup (ownOf y, ix) with | some q => if q.2.1 = 0 ∧ (q.1 = 1000 ∨ q.1 = 1002 ∨ q.1 = 1003 ∨ (kdOf q.1 = 0 ∧ q.1 < 163)) then some (.invokestatic q.1, (npOf q.1 : Int)) else none | none => none)
  | .invokevirtual ix => (match mz_L.lookup (ownOf y, ix) with | some q => if q.2.1 = 0 ∧ kdOf q.1 = 1 ∧ q.1 < 163 then some (.invokevirtual q.1, (npOf q.1 : Int)) else none | none => none)
  | .invokespecial ix => (match mz_L.lookup (ownOf y, ix) with | some q => if (q.1 = 1001 ∧ q.2.1 = 0) ∨ (kdOf q.1 = 2 ∧ q.1 < 163) then some (.invokespecial q.1, (npOf q.1 : Int)) else none | none => none)
  | .iadd => some (.iadd, 0)
  | .isub => some (.isub, 0)
  | .imul => some (.imul, 0)
  | .idiv => some (.idiv, 0)
  | .irem => some (.irem, 0)
  | .iand => some (.iand, 0)
  | .ior => some (.ior, 0)
  | .ixor => some (.ixor, 0)
  | .ishl => some (.ishl, 0)
  | .ishr => some (.ishr, 0)
  | .iushr => some (.iushr, 0)
  | .ladd => some (.ladd, 0)
  | .lsub => some (.lsub, 0)
  | .lmul => some (.lmul, 0)
  | .ldiv => some (.ldiv, 0)
  | .lrem => some (.lrem, 0)
  | .land => some (.land, 0)
  | .lor => some (.lor, 0)
  | .lshl => some (.lshl, 0)
  | .lshr => some (.lshr, 0)
  | .lushr => some (.lushr, 0)
  | .lcmp => some (.lcmp, 0)
  | .i2l => some (.i2l, 0)
  | .l2i => some (.l2i, 0)
  | .i2b => some (.i2b, 0)
  | .dup => some (.dup, 0)
  | .dup2 => some (.dup2, 0)
  | .pop => some (.pop, 0)
  | .iaload => some (.iaload, 0)
  | .baload => some (.baload, 0)
  | .laload => some (.laload, 0)
  | .aaload => some (.aaload, 0)
  | .iastore => some (.iastore, 0)
  | .bastore => some (.bastore, 0)
  | .lastore => some (.lastore, 0)
  | .aastore => some (.aastore, 0)
  | .arraylength => some (.arraylength, 0)
  | .ireturn => some (.ireturn, 0)
  | .lreturn => some (.lreturn, 0)
  | .return_ => some (.return_, 0)
  | _ => none
def res (y : Nat) (pc : Nat) (i : Instr) (len : Nat) : Option (Instr × Int) := if lenOK i len = true then res0 y pc i else none
def mbOf (y : Nat) : ByteArray := match mz_T[y]? with | some e => e.2.1 | none => ByteArray.empty
def mlOf (y : Nat) : Nat := match mz_T[y]? with | some e => e.2.2.1 | none => 0
def mrOf (y : Nat) : Option FieldType := match mz_T[y]? with | some e => e.2.2.2.1 | none => none
/-- an answer of the method's kind -/
def rok (t : Option FieldType) (r : Option AV) : Prop := match t, r with
  | none, none => True
  | some .int, some (Sum.inl _) => True
  | some .boolean, some (Sum.inl a) => a = 0 ∨ a = 1
  | some .long, some (Sum.inr (Sum.inl _)) => True
  | _, _ => False
def Rtn (y mc ms : Nat) (Post : PP) : RR := fun r Z M => Z.2.1 ≤ mc ∧ Z.2.2 ≤ ms ∧ rok (mrOf y) r ∧ Post r Z.1 M
/-- S holds wherever one instruction leads to it -/
def Clo (C : CC) (y : Nat) (X : XX) (mc ms : Nat) (Rt : RR) (S : Nat → KK) : Prop :=
  ∀ (C' : CC) (J : Nat → KK) (R' : RR) (K : KK) (pc : Nat) (i : Instr) (len : Nat) (i' : Instr) (x : Int) (ls : AL) (st : List AV) (Z : ZZ) (M : MM),
    (∀ z a sh M c s P, C' z a sh M c s P → C z a sh M c s P) → (∀ t ls st Z M, J t ls st Z M → S t ls st Z M) → (∀ r Z M, R' r Z M → Rt r Z M) → (∀ ls st Z M, K ls st Z M → S (pc + len) ls st Z M) →
    decode (mbOf y) pc = .ok (i, len) → res y pc i len = some (i', x) → wpi C' X mc ms J R' i' x K ls st Z M → S pc ls st Z M
/-- method y, asked with args, comes to an end with Post, by calls at most d deep, making at most mc cells of ms slots -/
def Run : Nat → CC
  | 0 => fun _ _ _ _ _ _ _ => False
  | d + 1 => fun y args sh M mc ms Post => cats args ≤ mlOf y ∧ ∀ S : Nat → KK, Clo (Run d) y none mc ms (Rtn y mc ms Post) S → S 0 (entL (mlOf y) args) [] (sh, 0, 0) M
theorem Run.mono : ∀ (d d' : Nat) {y : Nat} {a : List AV} {sh : List SC} {M : MM} {mc ms : Nat} {P Q : PP}, d ≤ d' → Run d y a sh M mc ms P → (∀ r sh M, P r sh M → Q r sh M) → Run d' y a sh M mc ms Q
  | 0, _, _, _, _, _, _, _, _, _, _, h, _ => h.elim
  | d + 1, 0, _, _, _, _, _, _, _, _, hd, _, _ => absurd hd (by omega)
  | d + 1, d' + 1, y, a, sh, M, mc, ms, P, Q, hd, h, hPQ => by
    refine ⟨h.1, fun S hS => h.2 S ?_⟩
    intro C' J R' K pc i len i' x ls st Z M hC hJ hR hK
    exact hS C' J R' K pc i len i' x ls st Z M (fun z a sh M c s P h => Run.mono d d' (by omega) (hC z a sh M c s P h) (fun _ _ _ h => h)) hJ (fun r Z M h => ⟨(hR r Z M h).1, (hR r Z M h).2.1, (hR r Z M h).2.2.1, hPQ _ _ _ (hR r Z M h).2.2.2⟩) hK
abbrev BL : Type := List (Instr × Int × Nat)
def blk (y : Nat) : Nat → BL → Bool
  | _, [] => true
  | pc, q :: t => (match decode (mbOf y) pc with
      | .ok (i, len) => decide (len = q.2.2) && decide (res y pc i len = some (q.1, q.2.1))
      | _ => false) && blk y (pc + q.2.2) t
def wpl (C : CC) (X : XX) (mc ms : Nat) (J : Nat → KK) (Rt : RR) : BL → Nat → KK
  | [], pc => J pc
  | q :: t, pc => fun ls st Z M => wpi C X mc ms J Rt q.1 q.2.1 (wpl C X mc ms J Rt t (pc + q.2.2)) ls st Z M
theorem wpl_ok {C : CC} {y : Nat} {X : XX} {mc ms : Nat} {Rt : RR} {S J : Nat → KK} (hS : Clo C y X mc ms Rt S) (hJ : ∀ t ls st Z M, J t ls st Z M → S t ls st Z M) : ∀ (b : BL) (pc : Nat) (ls : AL) (st : List AV) (Z : ZZ) (M : MM), blk y pc b = true → wpl C X mc ms J Rt b pc ls st Z M → S pc ls st Z M
  | [], pc, ls, st, Z, M, _, h => hJ pc ls st Z M h
  | q :: t, pc, ls, st, Z, M, hb, h => by
    unfold blk at hb
    rw [Bool.and_eq_true] at hb
    cases hd : decode (mbOf y) pc with
    | error e => rw [hd] at hb; exact absurd hb.1 (by simp)
    | ok p =>
      obtain ⟨i, len⟩ := p
      rw [hd] at hb
      have h1 := hb.1
      simp only [Bool.and_eq_true, decide_eq_true_eq] at h1
      obtain ⟨h1, h2⟩ := h1
      subst h1
      exact hS C J Rt _ pc i _ q.1 q.2.1 ls st Z M (fun _ _ _ _ _ _ _ h => h) hJ (fun _ _ _ h => h) (fun ls st Z M h2 => wpl_ok hS hJ t (pc + q.2.2) ls st Z M hb.2 h2) hd h2 h
/-- on from a place, through jumps, up to the places that sp names -/
def wpx (C : CC) (X : XX) (mc ms : Nat) (S : Nat → KK) (Rt : RR) (bt : Nat → BL) (sp : Nat → Bool) : Nat → Nat → KK
  | 0, pc => S pc
  | f + 1, pc => wpl C X mc ms (fun t => cond (sp t) (S t) (wpx C X mc ms S Rt bt sp f t)) Rt (bt pc) pc
theorem wpx_ok {C : CC} {y : Nat} {X : XX} {mc ms : Nat} {Rt : RR} {S : Nat → KK} (hS : Clo C y X mc ms Rt S) {bt : Nat → BL} {sp : Nat → Bool} (hb : ∀ pc, blk y pc (bt pc) = true) : ∀ (f pc : Nat) (ls : AL) (st : List AV) (Z : ZZ) (M : MM), wpx C X mc ms S Rt bt sp f pc ls st Z M → S pc ls st Z M
  | 0, _, _, _, _, _, h => h
  | f + 1, pc, ls, st, Z, M, h => wpl_ok hS (fun t ls st Z M h => by
      cases hs : sp t with
      | true => rw [hs] at h; exact h
      | false => rw [hs] at h; exact wpx_ok hS hb f t ls st Z M h) (bt pc) pc ls st Z M (hb pc) h
end
section
/-! the tables of the small machine are the Statement's words -/
def mz_okM (e : mz_E) : Bool := match e with
  | (y, b, L, r, kd, ow, n, p1, p2, p3, p4) => decide (lw_tbl[p4]? = some (Cond.initialized y.cls)) && decide (y.cls ≠ "java/lang/invoke/MethodHandle") && decide (y.cls ≠ "java/lang/invoke/VarHandle") && decide ((parseMethodDescriptor y.desc).map (fun d => d.parameters.length) = some n) && plainName y.cls && decide (L ≤ 14) && decide (mz_cn[ow]? = some y.cls) &&
    (if kd = 0 then decide (lw_tbl[p2]? = some (Cond.static y)) else if kd = 1 then decide (lw_tbl[p2]? = some (Cond.instanceMethod y)) && decide (lw_tbl[p3]? = some (Cond.selects y.cls y y)) && decide ((vwCl[ow]?).map (fun q => q.1) = some y.cls) else decide (kd = 2) && decide (lw_tbl[p2]? = some (Cond.instanceMethod y)) && decide (y.name = "<init>") && decide (r = none))
set_option maxRecDepth 100000 in
theorem mz_T_code : mz_T.dropLast.map (fun e => lw_tbl[e.2.2.2.2.2.2.2.1]?) = mz_T.dropLast.map (fun e => some (Cond.code e.1 e.2.1 e.2.2.1 e.2.2.2.1)) := rfl
set_option maxRecDepth 100000 in
theorem mz_T_ok : mz_T.dropLast.all mz_okM = true := by decide +kernel
def mz_okF (q : (Nat × Nat) × (Nat × Nat × Nat)) : Bool := match mz_cn[q.1.1]?, vwCl[q.2.1]? with
  | some own, some (_, T, N) => decide (q.2.2.1 < N) && decide (lw_tbl[q.2.2.2]? = some (Cond.fieldLink own q.1.2 (T q.2.2.1).1 (T q.2.2.1).2.1 (T q.2.2.1).2.2.1))
  | _, _ => false
set_option maxRecDepth 100000 in
theorem mz_F_ok : mz_F.all mz_okF = true := by decide +kernel
def mz_okL (q : (Nat × Nat) × (Nat × Nat × Nat)) : Bool := match mz_cn[q.1.1]? with
  | some own => if q.2.1 = 1000 then decide (q.2.2.1 = 0) && decide (lw_tbl[q.2.2.2]? = some (Cond.methodLink own q.1.2 arraycopyName)) else if q.2.1 = 1002 then decide (q.2.2.1 = 0) && decide (lw_tbl[q.2.2.2]? = some (Cond.methodLink own q.1.2 Lib.Math.max.name)) else if q.2.1 = 1003 then decide (q.2.2.1 = 0) && decide (lw_tbl[q.2.2.2]? = some (Cond.methodLink own q.1.2 Lib.Math.min.name)) else if q.2.1 = 1001 then decide (q.2.2.1 = 0) && decide (lw_tbl[q.2.2.2]? = some (Cond.methodLink own q.1.2 objectInit)) else match mz_T[q.2.1]? with
    | some e => decide (q.2.1 < 163) && (if q.2.2.1 = 0 then decide (lw_tbl[q.2.2.2]? = some (Cond.methodLink own q.1.2 e.1)) else decide (lw_tbl[q.2.2.2]? = some (Cond.methodLinkNest own q.1.2 e.1 "OwnSunday")))
    | none => false
  | none => false
set_option maxRecDepth 100000 in
theorem mz_L_ok : mz_L.all mz_okL = true := by decide +kernel
def mz_okC (q : (Nat × Nat) × (Nat × Nat)) : Bool := match mz_cn[q.1.1]? with
  | some own => if q.2.1 = 100 then decide (lw_tbl[q.2.2]? = some (Cond.classLink own q.1.2 ("[" ++ (FieldType.array .int).toString))) else match vwCl[q.2.1]? with
    | some r => decide (lw_tbl[q.2.2]? = some (Cond.classLink own q.1.2 r.1))
    | none => false
  | none => false
set_option maxRecDepth 100000 in
theorem mz_C_ok : mz_C.all mz_okC = true := by decide +kernel
def mz_okK (q : (Nat × Nat) × (Int × Nat)) : Bool := match mz_cn[q.1.1]? with
  | some own => decide (lw_tbl[q.2.2]? = some (Cond.constant own q.1.2 (Int32.ofInt q.2.1))) || decide (lw_tbl[q.2.2]? = some (Cond.constantLong own q.1.2 (Int64.ofInt q.2.1)))
  | none => false
set_option maxRecDepth 100000 in
theorem mz_K_ok : mz_K.all mz_okK = true := by decide +kernel
/-- the words that every method bears -/
def mz_GW : List Cond := lw_tbl.filter goodWord
theorem mz_GW_good : ∀ w ∈ mz_GW, goodWord w = true := fun w h => (List.mem_filter.mp h).2
theorem mz_gw {w : Cond} {p : Nat} (h : lw_tbl[p]? = some w) (hg : goodWord w = true) : w ∈ mz_GW := List.mem_filter.mpr ⟨List.mem_of_getElem? h, hg⟩
theorem mz_goodIn : GoodIn mz_GW mz_GW := fun w h => ⟨h, good_of_word (mz_GW_good w h)⟩
set_option maxRecDepth 100000 in
theorem mz_inX0 : ∀ w ∈ wsX00, w ∈ lw_tbl ∧ goodWord w = true := by decide +kernel
set_option maxRecDepth 100000 in
theorem mz_inX1 : ∀ w ∈ wsX10, w ∈ lw_tbl ∧ goodWord w = true := by decide +kernel
set_option maxRecDepth 100000 in
theorem mz_inX2 : ∀ w ∈ wsX20, w ∈ lw_tbl ∧ goodWord w = true := by decide +kernel
set_option maxRecDepth 100000 in
theorem mz_inX3 : ∀ w ∈ wsX30, w ∈ lw_tbl ∧ goodWord w = true := by decide +kernel
set_option maxRecDepth 100000 in
theorem mz_inX4 : ∀ w ∈ wsX40, w ∈ lw_tbl ∧ goodWord w = true := by decide +kernel
set_option maxRecDepth 100000 in
theorem mz_inX5 : ∀ w ∈ wsX50, w ∈ lw_tbl ∧ goodWord w = true := by decide +kernel
set_option maxRecDepth 100000 in
theorem mz_inX6 : ∀ w ∈ wsX60, w ∈ lw_tbl ∧ goodWord w = true := by decide +kernel
end
section
/-! numbers -/
theorem iN_toInt {a : Int} (h : rgI a) : (iN a).toInt = a := Int32.toInt_ofInt_of_le h.1 (by have := h.2; omega)
theorem jN_toInt {a : Int} (h : rgL a) : (jN a).toInt = a := Int64.toInt_ofInt_of_le h.1 (by have := h.2; omega)
theorem iN_of (x : Int32) : iN x.toInt = x := Int32.ofInt_toInt x
theorem jN_of (x : Int64) : jN x.toInt = x := Int64.ofInt_toInt x
theorem iN_add (a b : Int) : iN a + iN b = iN (a + b) := (Int32.ofInt_add a b).symm
theorem iN_sub (a b : Int) : iN a - iN b = iN (a - b) := (Int32.ofInt_sub a b).symm
theorem iN_mul (a b : Int) : iN a * iN b = iN (a * b) := (Int32.ofInt_mul a b).symm
theorem jN_add (a b : Int) : jN a + jN b = jN (a + b) := (Int64.ofInt_add a b).symm
theorem jN_sub (a b : Int) : jN a - jN b = jN (a - b) := (Int64.ofInt_sub a b).symm
theorem jN_mul (a b : Int) : jN a * jN b = jN (a * b) := (Int64.ofInt_mul a b).symm
theorem iN_ne0 {b : Int} (h0 : 0 < b) (h : b ≤ 2147483647) : ¬ iN b = 0 := fun h2 => by
  have h3 := iN_toInt (a := b) ⟨by omega, h⟩
  rw [h2] at h3
  have h4 : (0 : Int32).toInt = 0 := by decide
  omega
theorem jN_ne0 {b : Int} (h0 : 0 < b) (h : b ≤ 9223372036854775807) : ¬ jN b = 0 := fun h2 => by
  have h3 := jN_toInt (a := b) ⟨by omega, h⟩
  rw [h2] at h3
  have h4 : (0 : Int64).toInt = 0 := by decide
  omega
theorem iN_div {a b : Int} (h : 0 ≤ a ∧ a ≤ 2147483647 ∧ 0 < b ∧ b ≤ 2147483647) : iN a / iN b = iN (a / b) := by
  obtain ⟨h0, h1, h2, h3⟩ := h
  have hle : a / b ≤ a := Int.ediv_le_self b h0
  have hge : 0 ≤ a / b := Int.ediv_nonneg h0 (by omega)
  apply Int32.toInt_inj.mp
  rw [Int32.toInt_div, iN_toInt ⟨by omega, h1⟩, iN_toInt ⟨by omega, h3⟩, iN_toInt ⟨by omega, by omega⟩, Int.tdiv_eq_ediv_of_nonneg h0]
  apply Int.bmod_eq_of_le <;> omega
theorem jN_div {a b : Int} (h : 0 ≤ a ∧ a ≤ 9223372036854775807 ∧ 0 < b ∧ b ≤ 9223372036854775807) : jN a / jN b = jN (a / b) := by
  obtain ⟨h0, h1, h2, h3⟩ := h
  have hle : a / b ≤ a := Int.ediv_le_self b h0
  have hge : 0 ≤ a / b := Int.ediv_nonneg h0 (by omega)
  apply Int64.toInt_inj.mp
  rw [Int64.toInt_div, jN_toInt ⟨by omega, h1⟩, jN_toInt ⟨by omega, h3⟩, jN_toInt ⟨by omega, by omega⟩, Int.tdiv_eq_ediv_of_nonneg h0]
  apply Int.bmod_eq_of_le <;> omega
theorem iN_rem {a b : Int} (h : 0 ≤ a ∧ a ≤ 2147483647 ∧ 0 < b ∧ b ≤ 2147483647) : iN a - iN a / iN b * iN b = iN (a % b) := by
  rw [iN_div h, iN_mul, iN_sub, Int.emod_def, Int.mul_comm b]
theorem jN_rem {a b : Int} (h : 0 ≤ a ∧ a ≤ 9223372036854775807 ∧ 0 < b ∧ b ≤ 9223372036854775807) : jN a - jN a / jN b * jN b = jN (a % b) := by
  rw [jN_div h, jN_mul, jN_sub, Int.emod_def, Int.mul_comm b]
theorem iN_lt {a b : Int} (ha : rgI a) (hb : rgI b) : iN a < iN b ↔ a < b := by rw [Int32.lt_iff_toInt_lt, iN_toInt ha, iN_toInt hb]
theorem iN_le {a b : Int} (ha : rgI a) (hb : rgI b) : iN a ≤ iN b ↔ a ≤ b := by rw [Int32.le_iff_toInt_le, iN_toInt ha, iN_toInt hb]
theorem iN_eq {a b : Int} (ha : rgI a) (hb : rgI b) : iN a = iN b ↔ a = b := by rw [← Int32.toInt_inj, iN_toInt ha, iN_toInt hb]
theorem jN_lt {a b : Int} (ha : rgL a) (hb : rgL b) : jN a < jN b ↔ a < b := by rw [Int64.lt_iff_toInt_lt, jN_toInt ha, jN_toInt hb]
theorem jN_eq {a b : Int} (ha : rgL a) (hb : rgL b) : jN a = jN b ↔ a = b := by rw [← Int64.toInt_inj, jN_toInt ha, jN_toInt hb]
theorem iN_0 : iN 0 = 0 := by decide
theorem rgI_0 : rgI 0 := by unfold rgI; omega
theorem iN_clamp {j : Int} {n : Nat} (h : 0 ≤ j ∧ j < n) (hn : n ≤ 100000) : (iN j).toNatClampNeg = j.toNat := Int32.toNatClampNeg_ofInt_of_le (by omega) (by omega)
theorem iN_in {j : Int} {n : Nat} (h : 0 ≤ j ∧ j < n) (hn : n ≤ 100000) : vp_in (iN j) n := by
  rw [vp_in_iff, iN_toInt ⟨by omega, by omega⟩]
  exact ⟨h.1, h.2⟩
theorem iN_i2l {a : Int} (h : rgI a) : (iN a).toInt64 = jN a := by
  apply Int64.toInt_inj.mp
  rw [Int32.toInt_toInt64, iN_toInt h, jN_toInt ⟨by have := h.1; omega, by have := h.2; omega⟩]
theorem jN_l2i (a : Int) : (jN a).toInt32 = iN a := Int64.toInt32_ofInt
theorem iN_bi {n : Int} (h : -128 ≤ n ∧ n ≤ 127) : (Int8.ofInt n).toInt32 = iN n := Int8.toInt32_ofInt h.1 h.2
theorem iN_si {n : Int} (h : -32768 ≤ n ∧ n ≤ 32767) : (Int16.ofInt n).toInt32 = iN n := Int16.toInt32_ofInt h.1 h.2
/-! values, locals -/
def cvV (ad : Nat → Nat) (v : AV) : Value := match v with
  | Sum.inl a => .int (iN a)
  | Sum.inr (Sum.inl a) => .long (jN a)
  | Sum.inr (Sum.inr k) => .ref (ad k)
theorem cvV_cat (ad : Nat → Nat) (v : AV) : (cvV ad v).category = cat v := by
  rcases v with a | a | a <;> rfl
theorem cvV_cats (ad : Nat → Nat) : ∀ st : List AV, ((st.map (cvV ad)).map fun v => v.category).sum = cats st
  | [] => rfl
  | v :: t => by
    have := cvV_cats ad t
    simp only [List.map_cons, List.sum_cons, cats] at this ⊢
    rw [this, cvV_cat]
def llst (ad : Nat → Nat) : Nat → AL → List (Nat × Value)
  | _, [] => []
  | i, none :: t => llst ad (i + 1) t
  | i, some v :: t => (i, cvV ad v) :: llst ad (i + 1) t
theorem llst_mem (ad : Nat → Nat) : ∀ (al : AL) (i : Nat) (q : Nat × Value), q ∈ llst ad i al ↔ ∃ (k : Nat) (v : AV), lget al k = some v ∧ q = (i + k, cvV ad v)
  | [], i, q => by simp [llst, lget]
  | none :: t, i, q => by
    rw [llst, llst_mem ad t (i + 1) q]
    constructor
    · rintro ⟨k, v, h1, h2⟩
      exact ⟨k + 1, v, h1, by rw [h2]; congr 1; omega⟩
    · rintro ⟨k, v, h1, h2⟩
      match k, h1, h2 with
      | 0, h1, _ => cases h1
      | k + 1, h1, h2 => exact ⟨k, v, h1, by rw [h2]; congr 1; omega⟩
  | some u :: t, i, q => by
    rw [llst, List.mem_cons, llst_mem ad t (i + 1) q]
    constructor
    · rintro (rfl | ⟨k, v, h1, h2⟩)
      · exact ⟨0, u, rfl, rfl⟩
      · exact ⟨k + 1, v, h1, by rw [h2]; congr 1; omega⟩
    · rintro ⟨k, v, h1, h2⟩
      match k, h1, h2 with
      | 0, h1, h2 => cases h1; exact Or.inl h2
      | k + 1, h1, h2 => exact Or.inr ⟨k, v, h1, by rw [h2]; congr 1; omega⟩
def LocR (ad : Nat → Nat) (al : AL) (ls : Array Slot) : Prop := lv_has ls al.length (llst ad 0 al)
theorem LocR.get {ad : Nat → Nat} {al : AL} {ls : Array Slot} (h : LocR ad al ls) {i : Nat} {v : AV} (hg : lget al i = some v) : ls[i]? = some (.val (cvV ad v)) := h.2.2 (i, cvV ad v) ((llst_mem ad al 0 _).mpr ⟨i, v, hg, by rw [Nat.zero_add]⟩)
theorem lst1_len : ∀ (al : AL) (i : Nat) (v : AV), (lst1 al i v).length = al.length
  | [], _, _ => rfl
  | _ :: _, 0, _ => rfl
  | x :: t, 1, v => by simp [lst1, lst1_len t 0 v]
  | x :: t, i + 2, v => by simp [lst1, lst1_len t (i + 1) v]
theorem lst2_len : ∀ (al : AL) (i : Nat) (v : AV), (lst2 al i v).length = al.length
  | [], _, _ => rfl
  | [_], 0, _ => rfl
  | _ :: _ :: _, 0, _ => rfl
  | x :: t, 1, v => by simp [lst2, lst2_len t 0 v]
  | x :: t, i + 2, v => by simp [lst2, lst2_len t (i + 1) v]
theorem lclr_some {x : Option AV} {u : AV} (h : lclr x = some u) : x = some u ∧ is2 u = false := by
  match x, h with
  | some (Sum.inl a), h => cases h; exact ⟨rfl, rfl⟩
  | some (Sum.inr (Sum.inl a)), h => cases h
  | some (Sum.inr (Sum.inr a)), h => cases h; exact ⟨rfl, rfl⟩
  | none, h => cases h
theorem lst1_get : ∀ (al : AL) (i : Nat) (v : AV) (j : Nat) (u : AV), lget (lst1 al i v) j = some u → (j = i ∧ u = v) ∨ (j ≠ i ∧ lget al j = some u ∧ ¬ (j + 1 = i ∧ is2 u = true))
  | [], _, _, _, _, h => by simp [lst1, lget] at h
  | x :: t, 0, v, 0, u, h => by simp [lst1, lget] at h; exact Or.inl ⟨rfl, h.symm⟩
  | x :: t, 0, v, j + 1, u, h => Or.inr ⟨by omega, h, by omega⟩
  | x :: t, 1, v, 0, u, h => by
    have h2 := lclr_some (x := x) h
    exact Or.inr ⟨by omega, h2.1, by rw [h2.2]; simp⟩
  | x :: t, 1, v, j + 1, u, h => by
    rcases lst1_get t 0 v j u h with ⟨h1, h2⟩ | ⟨h1, h2, h3⟩
    · exact Or.inl ⟨by omega, h2⟩
    · exact Or.inr ⟨by omega, h2, by omega⟩
  | x :: t, i + 2, v, 0, u, h => Or.inr ⟨by omega, h, by omega⟩
  | x :: t, i + 2, v, j + 1, u, h => by
    rcases lst1_get t (i + 1) v j u h with ⟨h1, h2⟩ | ⟨h1, h2, h3⟩
    · exact Or.inl ⟨by omega, h2⟩
    · exact Or.inr ⟨by omega, h2, fun h4 => h3 ⟨by omega, h4.2⟩⟩
theorem lst2_get : ∀ (al : AL) (i : Nat) (v : AV) (j : Nat) (u : AV), lget (lst2 al i v) j = some u → (j = i ∧ u = v) ∨ (j ≠ i ∧ j ≠ i + 1 ∧ lget al j = some u ∧ ¬ (j + 1 = i ∧ is2 u = true))
  | [], _, _, _, _, h => by simp [lst2, lget] at h
  | [x], 0, v, 0, u, h => by simp [lst2, lget] at h; exact Or.inl ⟨rfl, h.symm⟩
  | [x], 0, v, j + 1, u, h => by simp [lst2, lget] at h
  | x :: y :: t, 0, v, 0, u, h => by simp [lst2, lget] at h; exact Or.inl ⟨rfl, h.symm⟩
  | x :: y :: t, 0, v, 1, u, h => by simp [lst2, lget] at h
  | x :: y :: t, 0, v, j + 2, u, h => Or.inr ⟨by omega, by omega, h, by omega⟩
  | x :: t, 1, v, 0, u, h => by
    have h2 := lclr_some (x := x) (by simpa [lst2, lget] using h)
    exact Or.inr ⟨by omega, by omega, h2.1, by rw [h2.2]; simp⟩
  | x :: t, 1, v, j + 1, u, h => by
    rcases lst2_get t 0 v j u (by simpa [lst2, lget] using h) with ⟨h1, h2⟩ | ⟨h1, h2, h3, h4⟩
    · exact Or.inl ⟨by omega, h2⟩
    · exact Or.inr ⟨by omega, by omega, h3, by omega⟩
  | x :: t, i + 2, v, 0, u, h => Or.inr ⟨by omega, by omega, by simpa [lst2, lget] using h, by omega⟩
  | x :: t, i + 2, v, j + 1, u, h => by
    rcases lst2_get t (i + 1) v j u (by simpa [lst2, lget] using h) with ⟨h1, h2⟩ | ⟨h1, h2, h3, h4⟩
    · exact Or.inl ⟨by omega, h2⟩
    · exact Or.inr ⟨by omega, by omega, h3, fun h5 => h4 ⟨by omega, h5.2⟩⟩
theorem is2_cat {ad : Nat → Nat} {u : AV} (h : ((cvV ad u).category == 2) = true) : is2 u = true := by
  rcases u with a | a | a
  · cases h
  · rfl
  · cases h
theorem LocR.st1 {ad : Nat → Nat} {al : AL} {ls' : Array Slot} {i : Nat} {v : AV} (h : lv_has ls' al.length ((i, cvV ad v) :: (llst ad 0 al).filter (fun q => !(q.1 == i) && !(q.1 + 1 == i && q.2.category == 2)))) : LocR ad (lst1 al i v) ls' := by
  refine ⟨by rw [lst1_len]; exact h.1, h.2.1, fun q hq => h.2.2 q ?_⟩
  obtain ⟨k, u, h1, rfl⟩ := (llst_mem ad _ 0 q).mp hq
  rw [Nat.zero_add]
  rcases lst1_get al i v k u h1 with ⟨rfl, rfl⟩ | ⟨h2, h3, h4⟩
  · exact List.mem_cons_self
  · refine List.mem_cons_of_mem _ (List.mem_filter.mpr ⟨(llst_mem ad al 0 _).mpr ⟨k, u, h3, by rw [Nat.zero_add]⟩, ?_⟩)
    simp only [Bool.and_eq_true, Bool.not_eq_true', beq_eq_false_iff_ne, ne_eq, Bool.and_eq_false_iff]
    refine ⟨h2, ?_⟩
    by_cases h5 : k + 1 = i
    · right
      cases h6 : ((cvV ad u).category == 2) with
      | false => exact beq_eq_false_iff_ne.mp h6
      | true => exact absurd ⟨h5, is2_cat h6⟩ h4
    · exact Or.inl h5
theorem LocR.st2 {ad : Nat → Nat} {al : AL} {ls' : Array Slot} {i : Nat} {v : AV} (h : lv_has ls' al.length ((i, cvV ad v) :: (llst ad 0 al).filter (fun q => !(q.1 == i) && (!(q.1 == i + 1) && !(q.1 + 1 == i && q.2.category == 2))))) : LocR ad (lst2 al i v) ls' := by
  refine ⟨by rw [lst2_len]; exact h.1, h.2.1, fun q hq => h.2.2 q ?_⟩
  obtain ⟨k, u, h1, rfl⟩ := (llst_mem ad _ 0 q).mp hq
  rw [Nat.zero_add]
  rcases lst2_get al i v k u h1 with ⟨rfl, rfl⟩ | ⟨h2, h20, h3, h4⟩
  · exact List.mem_cons_self
  · refine List.mem_cons_of_mem _ (List.mem_filter.mpr ⟨(llst_mem ad al 0 _).mpr ⟨k, u, h3, by rw [Nat.zero_add]⟩, ?_⟩)
    simp only [Bool.and_eq_true, Bool.not_eq_true', beq_eq_false_iff_ne, ne_eq, Bool.and_eq_false_iff]
    refine ⟨h2, h20, ?_⟩
    by_cases h5 : k + 1 = i
    · right
      cases h6 : ((cvV ad u).category == 2) with
      | false => exact beq_eq_false_iff_ne.mp h6
      | true => exact absurd ⟨h5, is2_cat h6⟩ h4
    · exact Or.inl h5
/-- another placing of cells that agrees on what the locals and the stack hold -/
theorem cvV_mv {ad ad' : Nat → Nat} {n n' : Nat} (h : ∀ k, k < n ∨ n' ≤ k → ad' k = ad k) {v : AV} (hv : rfv n n' v) : cvV ad' v = cvV ad v := by
  rcases v with a | a | a
  · rfl
  · rfl
  · show Value.ref (ad' a) = Value.ref (ad a)
    rw [h a hv]
theorem rfs_mv {ad ad' : Nat → Nat} {n n' : Nat} (h : ∀ k, k < n ∨ n' ≤ k → ad' k = ad k) : ∀ {st : List AV}, rfs st n n' → st.map (cvV ad') = st.map (cvV ad)
  | [], _ => rfl
  | v :: t, hv => by
    rw [List.map_cons, List.map_cons, cvV_mv h hv.1, rfs_mv h hv.2]
theorem rfq_get : ∀ {al : AL} {n n' i : Nat} {v : AV}, rfq al n n' → lget al i = some v → rfv n n' v
  | [], _, _, _, _, _, hg => by cases hg
  | none :: t, n, n', 0, v, _, hg => by cases hg
  | some u :: t, n, n', 0, v, h, hg => by cases hg; exact h.1
  | none :: t, n, n', i + 1, v, h, hg => rfq_get (al := t) h hg
  | some u :: t, n, n', i + 1, v, h, hg => rfq_get (al := t) h.2 hg
theorem LocR.mv {ad ad' : Nat → Nat} {n n' : Nat} (h : ∀ k, k < n ∨ n' ≤ k → ad' k = ad k) {al : AL} {ls : Array Slot} (hl : LocR ad al ls) (hv : rfq al n n') : LocR ad' al ls := by
  refine ⟨hl.1, hl.2.1, fun q hq => hl.2.2 q ?_⟩
  obtain ⟨k, u, h1, rfl⟩ := (llst_mem ad' _ 0 q).mp hq
  rw [cvV_mv h (rfq_get hv h1)]
  exact (llst_mem ad al 0 _).mpr ⟨k, u, h1, rfl⟩
theorem LocR.all {ad ad' : Nat → Nat} {al : AL} {ls : Array Slot} (hl : LocR ad al ls) (h : ∀ k, ad' k = ad k) : LocR ad' al ls := by
  rw [show ad' = ad from funext h]; exact hl
/-! the world -/
def fvV (ad : Nat → Nat) (g : Nat → Int) (j : Nat) (x : Option (Option Nat)) : Value := match x with
  | none => .int (iN (g j))
  | some none => .null
  | some (some q) => .ref (ad q)
def eA (cT : Nat → ClassId) (ad : Nat → Nat) (g : Nat → Int) (a : Nat × Nat × (Nat → Option Nat)) : va_E :=
  .inl (cT a.1, a.2.1, if a.1 < 3 then .inl (fun j => iN (g j)) else if a.1 = 3 then .inr (.inl (fun j => jN (g j))) else .inr (.inr (.inr (.inr (fun j => (a.2.2 j).map ad)))))
def eO (ad : Nat → Nat) (g : Nat → Int) (o : Nat × List (Option (Option Nat))) : va_E := .inr (o.1, o.2.mapIdx (fvV ad g))
def elV (cT : Nat → ClassId) (ad : Nat → Nat) (g : Nat → Int) (x : SC) : va_E := match x with
  | Sum.inl a => eA cT ad g a
  | Sum.inr o => eO ad g o
def wsOf (cT : Nat → ClassId) (ad : Nat → Nat) (sh : List SC) (M : MM) : va_W := sh.mapIdx (fun k x => (ad k, elV cT ad (M k) x))
theorem wsOf_get (cT : Nat → ClassId) (ad : Nat → Nat) (sh : List SC) (M : MM) (k : Nat) : (wsOf cT ad sh M)[k]? = (sh[k]?).map (fun x => (ad k, elV cT ad (M k) x)) := by
  simp [wsOf]
theorem wsOf_at {cT : Nat → ClassId} {ad : Nat → Nat} {sh : List SC} {M : MM} {k : Nat} {x : SC} (h : sh[k]? = some x) : (wsOf cT ad sh M)[k]? = some (ad k, elV cT ad (M k) x) := by
  rw [wsOf_get, h]; rfl
theorem wsOf_len (cT : Nat → ClassId) (ad : Nat → Nat) (sh : List SC) (M : MM) : (wsOf cT ad sh M).length = sh.length := by simp [wsOf]
/-- one cell changed -/
theorem wsOf_set {cT : Nat → ClassId} {ad : Nat → Nat} {sh : List SC} {M M' : MM} {r : Nat} {x x' : SC} {e : va_E} (h : sh[r]? = some x) (hM : ∀ k, k ≠ r → M' k = M k) (he : elV cT ad (M' r) x' = e) : wsOf cT ad (sh.set r x') M' = (wsOf cT ad sh M).set r (ad r, e) := by
  apply List.ext_getElem?
  intro k
  have hlt : r < sh.length := (List.getElem?_eq_some_iff.mp h).1
  rw [wsOf_get, List.getElem?_set, List.getElem?_set, wsOf_len, wsOf_get]
  by_cases hk : r = k
  · subst hk
    simp [hlt, he]
  · rw [if_neg hk, if_neg hk, hM k (fun z => hk z.symm)]
theorem wsOf_set' {cT : Nat → ClassId} {ad : Nat → Nat} {sh : List SC} {M M' : MM} {r : Nat} {x : SC} {e : va_E} (h : sh[r]? = some x) (hM : ∀ k, k ≠ r → M' k = M k) (he : elV cT ad (M' r) x = e) : wsOf cT ad sh M' = (wsOf cT ad sh M).set r (ad r, e) := by
  have h2 : sh.set r x = sh := by
    apply List.ext_getElem?
    intro k
    rw [List.getElem?_set]
    by_cases hk : r = k
    · subst hk
      rw [if_pos rfl, h]
      simp [(List.getElem?_eq_some_iff.mp h).1]
    · rw [if_neg hk]
  have h3 := wsOf_set (cT := cT) (ad := ad) (M := M) (M' := M') (x' := x) h hM he
  rwa [h2] at h3
theorem mset_ne {M : MM} {r j : Nat} {a : Int} (k : Nat) (h : k ≠ r) : mset M r j a k = M k := by
  funext i
  simp [mset, h]
theorem mset_at (M : MM) (r j : Nat) (a : Int) (i : Nat) : mset M r j a r i = if i = j then a else M r i := by simp [mset]
theorem arr_spec {sh : List SC} {r t n : Nat} {f : Nat → Option Nat} (h : arr sh r = some (t, n, f)) : sh[r]? = some (Sum.inl (t, n, f)) := by
  unfold arr at h
  split at h
  · rename_i a ha
    rw [ha, Option.some.inj h]
  · cases h
theorem cls_spec {sh : List SC} {r ci : Nat} (h : cls sh r = some ci) : ∃ fs, sh[r]? = some (Sum.inr (ci, fs)) := by
  unfold cls at h
  split at h
  · rename_i a ha
    exact ⟨a.2, by rw [ha, ← Option.some.inj h]⟩
  · cases h
/-- a world grown by a cell -/
theorem wsOf_app {cT : Nat → ClassId} {ad ad' : Nat → Nat} {sh : List SC} {M M' : MM} {x : SC} {e : va_E} {q : Nat} (hM : ∀ k, k < sh.length → M' k = M k) (ha : ∀ k, k < sh.length → ad' k = ad k) (hq : ad' sh.length = q) (he : elV cT ad' (M' sh.length) x = e)
    (hin : ∀ (k : Nat) (x : SC), sh[k]? = some x → elV cT ad' (M k) x = elV cT ad (M k) x) : wsOf cT ad' (sh ++ [x]) M' = wsOf cT ad sh M ++ [(q, e)] := by
  apply List.ext_getElem?
  intro k
  rw [wsOf_get]
  by_cases hk : k < sh.length
  · rw [List.getElem?_append_left hk, List.getElem?_append_left (by rw [wsOf_len]; exact hk), wsOf_get, hM k hk, ha k hk]
    cases hx : sh[k]? with
    | none => rfl
    | some y => simp only [Option.map_some]; rw [hin k y hx]
  · rw [List.getElem?_append_right (by omega), List.getElem?_append_right (by rw [wsOf_len]; omega), wsOf_len]
    by_cases h2 : k = sh.length
    · subst h2
      simp [hq, he]
    · rw [List.getElem?_eq_none (by simp; omega), List.getElem?_eq_none (by simp; omega)]
      rfl
end
section
/-! what an instruction of the small machine says of the machine itself -/
theorem pI_spec {st : List AV} {k : Int → List AV → Prop} (h : pI st k) : ∃ a t, st = vI a :: t ∧ k a t := by
  match st, h with
  | Sum.inl a :: t, h => exact ⟨a, t, rfl, h⟩
  | [], h => exact h.elim
  | Sum.inr (Sum.inl _) :: _, h => exact h.elim
  | Sum.inr (Sum.inr _) :: _, h => exact h.elim
theorem pL_spec {st : List AV} {k : Int → List AV → Prop} (h : pL st k) : ∃ a t, st = vL a :: t ∧ k a t := by
  match st, h with
  | Sum.inr (Sum.inl a) :: t, h => exact ⟨a, t, rfl, h⟩
  | [], h => exact h.elim
  | Sum.inl _ :: _, h => exact h.elim
  | Sum.inr (Sum.inr _) :: _, h => exact h.elim
theorem pR_spec {st : List AV} {k : Nat → List AV → Prop} (h : pR st k) : ∃ a t, st = vR a :: t ∧ k a t := by
  match st, h with
  | Sum.inr (Sum.inr a) :: t, h => exact ⟨a, t, rfl, h⟩
  | [], h => exact h.elim
  | Sum.inl _ :: _, h => exact h.elim
  | Sum.inr (Sum.inl _) :: _, h => exact h.elim
theorem pV_spec {st : List AV} {k : AV → List AV → Prop} (h : pV st k) : ∃ a t, st = a :: t ∧ cat a = 1 ∧ k a t := by
  match st, h with
  | Sum.inr (Sum.inr a) :: t, h => exact ⟨_, t, rfl, rfl, h⟩
  | [], h => exact h.elim
  | Sum.inl _ :: t, h => exact ⟨_, t, rfl, rfl, h⟩
  | Sum.inr (Sum.inl _) :: _, h => exact h.elim
theorem gI_spec {x : Option AV} {k : Int → Prop} (h : gI x k) : ∃ a, x = some (vI a) ∧ k a := by
  match x, h with
  | some (Sum.inl a), h => exact ⟨a, rfl, h⟩
  | none, h => exact h.elim
  | some (Sum.inr (Sum.inl _)), h => exact h.elim
  | some (Sum.inr (Sum.inr _)), h => exact h.elim
theorem gL_spec {x : Option AV} {k : Int → Prop} (h : gL x k) : ∃ a, x = some (vL a) ∧ k a := by
  match x, h with
  | some (Sum.inr (Sum.inl a)), h => exact ⟨a, rfl, h⟩
  | none, h => exact h.elim
  | some (Sum.inl _), h => exact h.elim
  | some (Sum.inr (Sum.inr _)), h => exact h.elim
theorem gR_spec {x : Option AV} {k : Nat → Prop} (h : gR x k) : ∃ a, x = some (vR a) ∧ k a := by
  match x, h with
  | some (Sum.inr (Sum.inr a)), h => exact ⟨a, rfl, h⟩
  | none, h => exact h.elim
  | some (Sum.inl _), h => exact h.elim
  | some (Sum.inr (Sum.inl _)), h => exact h.elim
theorem gA_spec {x : Option (Nat × Nat × (Nat → Option Nat))} {j : Int} {k : Nat → (Nat → Option Nat) → Prop} (h : gA x j k) : ∃ t n f, x = some (t, n, f) ∧ (0 ≤ j ∧ j < (n : Int)) ∧ n ≤ 100000 ∧ k t f := by
  match x, h with
  | some (t, n, f), h => exact ⟨t, n, f, rfl, h⟩
  | none, h => exact h.elim
theorem gQ_spec {x : Option Nat} {k : Nat → Prop} (h : gQ x k) : ∃ q, x = some q ∧ k q := by
  match x, h with
  | some q, h => exact ⟨q, rfl, h⟩
  | none, h => exact h.elim
theorem gF_spec {x : Option (Option (Option Nat))} {kn : Prop} {kr : Nat → Prop} (h : gF x kn kr) : (x = some none ∧ kn) ∨ ∃ q, x = some (some (some q)) ∧ kr q := by
  match x, h with
  | some none, h => exact Or.inl ⟨rfl, h⟩
  | some (some (some q)), h => exact Or.inr ⟨q, rfl, h⟩
  | none, h => exact h.elim
  | some (some none), h => exact h.elim
def wfC (n : Nat) (x : SC) : Prop := match x with
  | Sum.inl a => ∀ (j q : Nat), a.2.2 j = some q → q < n
  | Sum.inr o => ∀ (j q : Nat), o.2[j]? = some (some (some q)) → q < n
def wfS (sh : List SC) : Prop := ∀ (k : Nat) (x : SC), sh[k]? = some x → wfC sh.length x
def cnOf (k : Nat) : String := (mz_cn[k]?).getD ""
def tyL (cT : Nat → ClassId) : List (ClassId × FieldType) := [(cT 0, .int), (cT 1, .byte), (cT 2, .boolean), (cT 3, .long), (cT 4, .object "OwnSunday$Book"), (cT 5, .array .int)]
/-- the machine goes on well from every picture of the small one -/
def SimS (p : Program) (l : Launch) (e : Env) (R : Room) (s : State) (m : MethodId) (args : Array Value) (below : List Frame) (meth : Method) (c : Code) (Qf : State → Prop) (D : va_G) (cT : Nat → ClassId) (A : Nat → Prop) (nL : Nat) (ad0 : Nat → Nat) (n0 : Nat) : Nat → KK := fun pc ls st Z M =>
  ∀ (ad : Nat → Nat) (H : Heap) (locs : List Loc) (als : Array Slot), (∀ k, k < n0 ∨ Z.1.length ≤ k → ad k = ad0 k) → n0 ≤ Z.1.length → Z.1.length ≤ 100000 → wfS Z.1 → ls.length = nL → LocR ad ls als → va_P D vwCl (wsOf cT ad Z.1 M) H → va_D A (wsOf cT ad Z.1 M) → va_S A s.heap H locs →
    W p l e R s m args below meth c H locs Z.2.1 Z.2.2 Qf (F0 m pc als (st.map (cvV ad)))
section SND
variable {p : Program} {l : Launch} {e : Env} {R : Room} {s : State} {m : MethodId} {args : Array Value} {below : List Frame} {meth : Method} {c : Code} {Qf : State → Prop} {D : va_G} {cT : Nat → ClassId} {A : Nat → Prop} {nL : Nat} {ad0 : Nat → Nat} {n0 : Nat}
variable {cc : ByteArray} {C : CC} {X : XX} {mc ms : Nat} {J : Nat → KK} {Rt : RR} {x : Int} {K : KK} {ls : AL} {st : List AV} {Z : ZZ} {M : MM} {pc len : Nat}

theorem sn_iadd (hx : p.tables.exec = Jvm.exec) (hb : c.code = cc) (hdg : decode cc pc = .ok (.iadd, 1)) (hJ : ∀ t ls st Z M, J t ls st Z M → SimS p l e R s m args below meth c Qf D cT A nL ad0 n0 t ls st Z M) (hK : ∀ ls st Z M, K ls st Z M → SimS p l e R s m args below meth c Qf D cT A nL ad0 n0 (pc + 1) ls st Z M) (h : wpi C X mc ms J Rt (.iadd) x K ls st Z M) : SimS p l e R s m args below meth c Qf D cT A nL ad0 n0 pc ls st Z M := by
  obtain ⟨b, st, rfl, h⟩ := pI_spec h
  obtain ⟨a, st, rfl, h⟩ := pI_spec h
  intro ad H locs als i1 i2 i3 i4 i5 i6 i7 i8 i9
  refine lv_iadd hx hb hdg ?_
  rw [iN_add]
  exact hK _ _ _ _ h ad H locs als i1 i2 i3 i4 i5 i6 i7 i8 i9
theorem sn_isub (hx : p.tables.exec = Jvm.exec) (hb : c.code = cc) (hdg : decode cc pc = .ok (.isub, 1)) (hJ : ∀ t ls st Z M, J t ls st Z M → SimS p l e R s m args below meth c Qf D cT A nL ad0 n0 t ls st Z M) (hK : ∀ ls st Z M, K ls st Z M → SimS p l e R s m args below meth c Qf D cT A nL ad0 n0 (pc + 1) ls st Z M) (h : wpi C X mc ms J Rt (.isub) x K ls st Z M) : SimS p l e R s m args below meth c Qf D cT A nL ad0 n0 pc ls st Z M := by
  obtain ⟨b, st, rfl, h⟩ := pI_spec h
  obtain ⟨a, st, rfl, h⟩ := pI_spec h
  intro ad H locs als i1 i2 i3 i4 i5 i6 i7 i8 i9
  refine lv_isub hx hb hdg ?_
  rw [iN_sub]
  exact hK _ _ _ _ h ad H locs als i1 i2 i3 i4 i5 i6 i7 i8 i9
theorem sn_imul (hx : p.tables.exec = Jvm.exec) (hb : c.code = cc) (hdg : decode cc pc = .ok (.imul, 1)) (hJ : ∀ t ls st Z M, J t ls st Z M → SimS p l e R s m args below meth c Qf D cT A nL ad0 n0 t ls st Z M) (hK : ∀ ls st Z M, K ls st Z M → SimS p l e R s m args below meth c Qf D cT A nL ad0 n0 (pc + 1) ls st Z M) (h : wpi C X mc ms J Rt (.imul) x K ls st Z M) : SimS p l e R s m args below meth c Qf D cT A nL ad0 n0 pc ls st Z M := by
  obtain ⟨b, st, rfl, h⟩ := pI_spec h
  obtain ⟨a, st, rfl, h⟩ := pI_spec h
  intro ad H locs als i1 i2 i3 i4 i5 i6 i7 i8 i9
  refine lv_imul hx hb hdg ?_
  rw [iN_mul]
  exact hK _ _ _ _ h ad H locs als i1 i2 i3 i4 i5 i6 i7 i8 i9
theorem sn_idiv (hx : p.tables.exec = Jvm.exec) (hb : c.code = cc) (hdg : decode cc pc = .ok (.idiv, 1)) (hJ : ∀ t ls st Z M, J t ls st Z M → SimS p l e R s m args below meth c Qf D cT A nL ad0 n0 t ls st Z M) (hK : ∀ ls st Z M, K ls st Z M → SimS p l e R s m args below meth c Qf D cT A nL ad0 n0 (pc + 1) ls st Z M) (h : wpi C X mc ms J Rt (.idiv) x K ls st Z M) : SimS p l e R s m args below meth c Qf D cT A nL ad0 n0 pc ls st Z M := by
  obtain ⟨b, st, rfl, h⟩ := pI_spec h
  obtain ⟨a, st, rfl, h⟩ := pI_spec h
  obtain ⟨hr, h⟩ := h
  intro ad H locs als i1 i2 i3 i4 i5 i6 i7 i8 i9
  refine lv_idiv hx hb hdg (iN_ne0 hr.2.2.1 hr.2.2.2) ?_
  rw [iN_div hr]
  exact hK _ _ _ _ h ad H locs als i1 i2 i3 i4 i5 i6 i7 i8 i9
theorem sn_irem (hx : p.tables.exec = Jvm.exec) (hb : c.code = cc) (hdg : decode cc pc = .ok (.irem, 1)) (hJ : ∀ t ls st Z M, J t ls st Z M → SimS p l e R s m args below meth c Qf D cT A nL ad0 n0 t ls st Z M) (hK : ∀ ls st Z M, K ls st Z M → SimS p l e R s m args below meth c Qf D cT A nL ad0 n0 (pc + 1) ls st Z M) (h : wpi C X mc ms J Rt (.irem) x K ls st Z M) : SimS p l e R s m args below meth c Qf D cT A nL ad0 n0 pc ls st Z M := by
  obtain ⟨b, st, rfl, h⟩ := pI_spec h
  obtain ⟨a, st, rfl, h⟩ := pI_spec h
  obtain ⟨hr, h⟩ := h
  intro ad H locs als i1 i2 i3 i4 i5 i6 i7 i8 i9
  refine lv_irem hx hb hdg (iN_ne0 hr.2.2.1 hr.2.2.2) ?_
  rw [iN_rem hr]
  exact hK _ _ _ _ h ad H locs als i1 i2 i3 i4 i5 i6 i7 i8 i9
theorem sn_iand (hx : p.tables.exec = Jvm.exec) (hb : c.code = cc) (hdg : decode cc pc = .ok (.iand, 1)) (hJ : ∀ t ls st Z M, J t ls st Z M → SimS p l e R s m args below meth c Qf D cT A nL ad0 n0 t ls st Z M) (hK : ∀ ls st Z M, K ls st Z M → SimS p l e R s m args below meth c Qf D cT A nL ad0 n0 (pc + 1) ls st Z M) (h : wpi C X mc ms J Rt (.iand) x K ls st Z M) : SimS p l e R s m args below meth c Qf D cT A nL ad0 n0 pc ls st Z M := by
  obtain ⟨b, st, rfl, h⟩ := pI_spec h
  obtain ⟨a, st, rfl, h⟩ := pI_spec h
  intro ad H locs als i1 i2 i3 i4 i5 i6 i7 i8 i9
  refine lv_iand hx hb hdg ?_
  have h2 := hK _ _ _ _ h ad H locs als i1 i2 i3 i4 i5 i6 i7 i8 i9
  simp only [List.map_cons, cvV, bAnd, iN_of] at h2
  exact h2
theorem sn_ior (hx : p.tables.exec = Jvm.exec) (hb : c.code = cc) (hdg : decode cc pc = .ok (.ior, 1)) (hJ : ∀ t ls st Z M, J t ls st Z M → SimS p l e R s m args below meth c Qf D cT A nL ad0 n0 t ls st Z M) (hK : ∀ ls st Z M, K ls st Z M → SimS p l e R s m args below meth c Qf D cT A nL ad0 n0 (pc + 1) ls st Z M) (h : wpi C X mc ms J Rt (.ior) x K ls st Z M) : SimS p l e R s m args below meth c Qf D cT A nL ad0 n0 pc ls st Z M := by
  obtain ⟨b, st, rfl, h⟩ := pI_spec h
  obtain ⟨a, st, rfl, h⟩ := pI_spec h
  intro ad H locs als i1 i2 i3 i4 i5 i6 i7 i8 i9
  refine lv_ior hx hb hdg ?_
  have h2 := hK _ _ _ _ h ad H locs als i1 i2 i3 i4 i5 i6 i7 i8 i9
  simp only [List.map_cons, cvV, bOr, iN_of] at h2
  exact h2
theorem sn_ixor (hx : p.tables.exec = Jvm.exec) (hb : c.code = cc) (hdg : decode cc pc = .ok (.ixor, 1)) (hJ : ∀ t ls st Z M, J t ls st Z M → SimS p l e R s m args below meth c Qf D cT A nL ad0 n0 t ls st Z M) (hK : ∀ ls st Z M, K ls st Z M → SimS p l e R s m args below meth c Qf D cT A nL ad0 n0 (pc + 1) ls st Z M) (h : wpi C X mc ms J Rt (.ixor) x K ls st Z M) : SimS p l e R s m args below meth c Qf D cT A nL ad0 n0 pc ls st Z M := by
  obtain ⟨b, st, rfl, h⟩ := pI_spec h
  obtain ⟨a, st, rfl, h⟩ := pI_spec h
  intro ad H locs als i1 i2 i3 i4 i5 i6 i7 i8 i9
  refine lv_ixor hx hb hdg ?_
  have h2 := hK _ _ _ _ h ad H locs als i1 i2 i3 i4 i5 i6 i7 i8 i9
  simp only [List.map_cons, cvV, bXor, iN_of] at h2
  exact h2
theorem sn_ishl (hx : p.tables.exec = Jvm.exec) (hb : c.code = cc) (hdg : decode cc pc = .ok (.ishl, 1)) (hJ : ∀ t ls st Z M, J t ls st Z M → SimS p l e R s m args below meth c Qf D cT A nL ad0 n0 t ls st Z M) (hK : ∀ ls st Z M, K ls st Z M → SimS p l e R s m args below meth c Qf D cT A nL ad0 n0 (pc + 1) ls st Z M) (h : wpi C X mc ms J Rt (.ishl) x K ls st Z M) : SimS p l e R s m args below meth c Qf D cT A nL ad0 n0 pc ls st Z M := by
  obtain ⟨b, st, rfl, h⟩ := pI_spec h
  obtain ⟨a, st, rfl, h⟩ := pI_spec h
  intro ad H locs als i1 i2 i3 i4 i5 i6 i7 i8 i9
  refine lv_ishl hx hb hdg ?_
  have h2 := hK _ _ _ _ h ad H locs als i1 i2 i3 i4 i5 i6 i7 i8 i9
  simp only [List.map_cons, cvV, bShl, iN_of] at h2
  exact h2
theorem sn_ishr (hx : p.tables.exec = Jvm.exec) (hb : c.code = cc) (hdg : decode cc pc = .ok (.ishr, 1)) (hJ : ∀ t ls st Z M, J t ls st Z M → SimS p l e R s m args below meth c Qf D cT A nL ad0 n0 t ls st Z M) (hK : ∀ ls st Z M, K ls st Z M → SimS p l e R s m args below meth c Qf D cT A nL ad0 n0 (pc + 1) ls st Z M) (h : wpi C X mc ms J Rt (.ishr) x K ls st Z M) : SimS p l e R s m args below meth c Qf D cT A nL ad0 n0 pc ls st Z M := by
  obtain ⟨b, st, rfl, h⟩ := pI_spec h
  obtain ⟨a, st, rfl, h⟩ := pI_spec h
  intro ad H locs als i1 i2 i3 i4 i5 i6 i7 i8 i9
  refine lv_ishr hx hb hdg ?_
  have h2 := hK _ _ _ _ h ad H locs als i1 i2 i3 i4 i5 i6 i7 i8 i9
  simp only [List.map_cons, cvV, bShr, iN_of] at h2
  exact h2
theorem sn_iushr (hx : p.tables.exec = Jvm.exec) (hb : c.code = cc) (hdg : decode cc pc = .ok (.iushr, 1)) (hJ : ∀ t ls st Z M, J t ls st Z M → SimS p l e R s m args below meth c Qf D cT A nL ad0 n0 t ls st Z M) (hK : ∀ ls st Z M, K ls st Z M → SimS p l e R s m args below meth c Qf D cT A nL ad0 n0 (pc + 1) ls st Z M) (h : wpi C X mc ms J Rt (.iushr) x K ls st Z M) : SimS p l e R s m args below meth c Qf D cT A nL ad0 n0 pc ls st Z M := by
  obtain ⟨b, st, rfl, h⟩ := pI_spec h
  obtain ⟨a, st, rfl, h⟩ := pI_spec h
  intro ad H locs als i1 i2 i3 i4 i5 i6 i7 i8 i9
  refine lv_iushr hx hb hdg rfl ?_
  have h2 := hK _ _ _ _ h ad H locs als i1 i2 i3 i4 i5 i6 i7 i8 i9
  simp only [List.map_cons, cvV, bUsr, iN_of] at h2
  exact h2
theorem sn_ladd (hx : p.tables.exec = Jvm.exec) (hb : c.code = cc) (hdg : decode cc pc = .ok (.ladd, 1)) (hJ : ∀ t ls st Z M, J t ls st Z M → SimS p l e R s m args below meth c Qf D cT A nL ad0 n0 t ls st Z M) (hK : ∀ ls st Z M, K ls st Z M → SimS p l e R s m args below meth c Qf D cT A nL ad0 n0 (pc + 1) ls st Z M) (h : wpi C X mc ms J Rt (.ladd) x K ls st Z M) : SimS p l e R s m args below meth c Qf D cT A nL ad0 n0 pc ls st Z M := by
  obtain ⟨b, st, rfl, h⟩ := pL_spec h
  obtain ⟨a, st, rfl, h⟩ := pL_spec h
  intro ad H locs als i1 i2 i3 i4 i5 i6 i7 i8 i9
  refine lv_ladd hx hb hdg ?_
  rw [jN_add]
  exact hK _ _ _ _ h ad H locs als i1 i2 i3 i4 i5 i6 i7 i8 i9
theorem sn_lsub (hx : p.tables.exec = Jvm.exec) (hb : c.code = cc) (hdg : decode cc pc = .ok (.lsub, 1)) (hJ : ∀ t ls st Z M, J t ls st Z M → SimS p l e R s m args below meth c Qf D cT A nL ad0 n0 t ls st Z M) (hK : ∀ ls st Z M, K ls st Z M → SimS p l e R s m args below meth c Qf D cT A nL ad0 n0 (pc + 1) ls st Z M) (h : wpi C X mc ms J Rt (.lsub) x K ls st Z M) : SimS p l e R s m args below meth c Qf D cT A nL ad0 n0 pc ls st Z M := by
  obtain ⟨b, st, rfl, h⟩ := pL_spec h
  obtain ⟨a, st, rfl, h⟩ := pL_spec h
  intro ad H locs als i1 i2 i3 i4 i5 i6 i7 i8 i9
  refine lv_lsub hx hb hdg ?_
  rw [jN_sub]
  exact hK _ _ _ _ h ad H locs als i1 i2 i3 i4 i5 i6 i7 i8 i9
theorem sn_lmul (hx : p.tables.exec = Jvm.exec) (hb : c.code = cc) (hdg : decode cc pc = .ok (.lmul, 1)) (hJ : ∀ t ls st Z M, J t ls st Z M → SimS p l e R s m args below meth c Qf D cT A nL ad0 n0 t ls st Z M) (hK : ∀ ls st Z M, K ls st Z M → SimS p l e R s m args below meth c Qf D cT A nL ad0 n0 (pc + 1) ls st Z M) (h : wpi C X mc ms J Rt (.lmul) x K ls st Z M) : SimS p l e R s m args below meth c Qf D cT A nL ad0 n0 pc ls st Z M := by
  obtain ⟨b, st, rfl, h⟩ := pL_spec h
  obtain ⟨a, st, rfl, h⟩ := pL_spec h
  intro ad H locs als i1 i2 i3 i4 i5 i6 i7 i8 i9
  refine lv_lmul hx hb hdg ?_
  rw [jN_mul]
  exact hK _ _ _ _ h ad H locs als i1 i2 i3 i4 i5 i6 i7 i8 i9
theorem sn_ldiv (hx : p.tables.exec = Jvm.exec) (hb : c.code = cc) (hdg : decode cc pc = .ok (.ldiv, 1)) (hJ : ∀ t ls st Z M, J t ls st Z M → SimS p l e R s m args below meth c Qf D cT A nL ad0 n0 t ls st Z M) (hK : ∀ ls st Z M, K ls st Z M → SimS p l e R s m args below meth c Qf D cT A nL ad0 n0 (pc + 1) ls st Z M) (h : wpi C X mc ms J Rt (.ldiv) x K ls st Z M) : SimS p l e R s m args below meth c Qf D cT A nL ad0 n0 pc ls st Z M := by
  obtain ⟨b, st, rfl, h⟩ := pL_spec h
  obtain ⟨a, st, rfl, h⟩ := pL_spec h
  obtain ⟨hr, h⟩ := h
  intro ad H locs als i1 i2 i3 i4 i5 i6 i7 i8 i9
  refine lv_ldiv hx hb hdg (jN_ne0 hr.2.2.1 hr.2.2.2) ?_
  rw [jN_div hr]
  exact hK _ _ _ _ h ad H locs als i1 i2 i3 i4 i5 i6 i7 i8 i9
theorem sn_lrem (hx : p.tables.exec = Jvm.exec) (hb : c.code = cc) (hdg : decode cc pc = .ok (.lrem, 1)) (hJ : ∀ t ls st Z M, J t ls st Z M → SimS p l e R s m args below meth c Qf D cT A nL ad0 n0 t ls st Z M) (hK : ∀ ls st Z M, K ls st Z M → SimS p l e R s m args below meth c Qf D cT A nL ad0 n0 (pc + 1) ls st Z M) (h : wpi C X mc ms J Rt (.lrem) x K ls st Z M) : SimS p l e R s m args below meth c Qf D cT A nL ad0 n0 pc ls st Z M := by
  obtain ⟨b, st, rfl, h⟩ := pL_spec h
  obtain ⟨a, st, rfl, h⟩ := pL_spec h
  obtain ⟨hr, h⟩ := h
  intro ad H locs als i1 i2 i3 i4 i5 i6 i7 i8 i9
  refine lv_lrem hx hb hdg (jN_ne0 hr.2.2.1 hr.2.2.2) ?_
  rw [jN_rem hr]
  exact hK _ _ _ _ h ad H locs als i1 i2 i3 i4 i5 i6 i7 i8 i9
theorem sn_land (hx : p.tables.exec = Jvm.exec) (hb : c.code = cc) (hdg : decode cc pc = .ok (.land, 1)) (hJ : ∀ t ls st Z M, J t ls st Z M → SimS p l e R s m args below meth c Qf D cT A nL ad0 n0 t ls st Z M) (hK : ∀ ls st Z M, K ls st Z M → SimS p l e R s m args below meth c Qf D cT A nL ad0 n0 (pc + 1) ls st Z M) (h : wpi C X mc ms J Rt (.land) x K ls st Z M) : SimS p l e R s m args below meth c Qf D cT A nL ad0 n0 pc ls st Z M := by
  obtain ⟨b, st, rfl, h⟩ := pL_spec h
  obtain ⟨a, st, rfl, h⟩ := pL_spec h
  intro ad H locs als i1 i2 i3 i4 i5 i6 i7 i8 i9
  refine lv_land hx hb hdg ?_
  have h2 := hK _ _ _ _ h ad H locs als i1 i2 i3 i4 i5 i6 i7 i8 i9
  simp only [List.map_cons, cvV, lAnd, jN_of] at h2
  exact h2
theorem sn_lor (hx : p.tables.exec = Jvm.exec) (hb : c.code = cc) (hdg : decode cc pc = .ok (.lor, 1)) (hJ : ∀ t ls st Z M, J t ls st Z M → SimS p l e R s m args below meth c Qf D cT A nL ad0 n0 t ls st Z M) (hK : ∀ ls st Z M, K ls st Z M → SimS p l e R s m args below meth c Qf D cT A nL ad0 n0 (pc + 1) ls st Z M) (h : wpi C X mc ms J Rt (.lor) x K ls st Z M) : SimS p l e R s m args below meth c Qf D cT A nL ad0 n0 pc ls st Z M := by
  obtain ⟨b, st, rfl, h⟩ := pL_spec h
  obtain ⟨a, st, rfl, h⟩ := pL_spec h
  intro ad H locs als i1 i2 i3 i4 i5 i6 i7 i8 i9
  refine lv_lor hx hb hdg ?_
  have h2 := hK _ _ _ _ h ad H locs als i1 i2 i3 i4 i5 i6 i7 i8 i9
  simp only [List.map_cons, cvV, lOr, jN_of] at h2
  exact h2
theorem sn_lshl (hx : p.tables.exec = Jvm.exec) (hb : c.code = cc) (hdg : decode cc pc = .ok (.lshl, 1)) (hJ : ∀ t ls st Z M, J t ls st Z M → SimS p l e R s m args below meth c Qf D cT A nL ad0 n0 t ls st Z M) (hK : ∀ ls st Z M, K ls st Z M → SimS p l e R s m args below meth c Qf D cT A nL ad0 n0 (pc + 1) ls st Z M) (h : wpi C X mc ms J Rt (.lshl) x K ls st Z M) : SimS p l e R s m args below meth c Qf D cT A nL ad0 n0 pc ls st Z M := by
  obtain ⟨b, st, rfl, h⟩ := pI_spec h
  obtain ⟨a, st, rfl, h⟩ := pL_spec h
  intro ad H locs als i1 i2 i3 i4 i5 i6 i7 i8 i9
  refine lv_lshl hx hb hdg rfl ?_
  have h2 := hK _ _ _ _ h ad H locs als i1 i2 i3 i4 i5 i6 i7 i8 i9
  simp only [List.map_cons, cvV, lShl, jN_of] at h2
  exact h2
theorem sn_lshr (hx : p.tables.exec = Jvm.exec) (hb : c.code = cc) (hdg : decode cc pc = .ok (.lshr, 1)) (hJ : ∀ t ls st Z M, J t ls st Z M → SimS p l e R s m args below meth c Qf D cT A nL ad0 n0 t ls st Z M) (hK : ∀ ls st Z M, K ls st Z M → SimS p l e R s m args below meth c Qf D cT A nL ad0 n0 (pc + 1) ls st Z M) (h : wpi C X mc ms J Rt (.lshr) x K ls st Z M) : SimS p l e R s m args below meth c Qf D cT A nL ad0 n0 pc ls st Z M := by
  obtain ⟨b, st, rfl, h⟩ := pI_spec h
  obtain ⟨a, st, rfl, h⟩ := pL_spec h
  intro ad H locs als i1 i2 i3 i4 i5 i6 i7 i8 i9
  refine lv_lshr hx hb hdg rfl ?_
  have h2 := hK _ _ _ _ h ad H locs als i1 i2 i3 i4 i5 i6 i7 i8 i9
  simp only [List.map_cons, cvV, lShr, jN_of] at h2
  exact h2
theorem sn_lushr (hx : p.tables.exec = Jvm.exec) (hb : c.code = cc) (hdg : decode cc pc = .ok (.lushr, 1)) (hJ : ∀ t ls st Z M, J t ls st Z M → SimS p l e R s m args below meth c Qf D cT A nL ad0 n0 t ls st Z M) (hK : ∀ ls st Z M, K ls st Z M → SimS p l e R s m args below meth c Qf D cT A nL ad0 n0 (pc + 1) ls st Z M) (h : wpi C X mc ms J Rt (.lushr) x K ls st Z M) : SimS p l e R s m args below meth c Qf D cT A nL ad0 n0 pc ls st Z M := by
  obtain ⟨b, st, rfl, h⟩ := pI_spec h
  obtain ⟨a, st, rfl, h⟩ := pL_spec h
  intro ad H locs als i1 i2 i3 i4 i5 i6 i7 i8 i9
  refine lv_lushr hx hb hdg rfl ?_
  have h2 := hK _ _ _ _ h ad H locs als i1 i2 i3 i4 i5 i6 i7 i8 i9
  simp only [List.map_cons, cvV, lUsr, jN_of] at h2
  exact h2
theorem sn_lcmp (hx : p.tables.exec = Jvm.exec) (hb : c.code = cc) (hdg : decode cc pc = .ok (.lcmp, 1)) (hJ : ∀ t ls st Z M, J t ls st Z M → SimS p l e R s m args below meth c Qf D cT A nL ad0 n0 t ls st Z M) (hK : ∀ ls st Z M, K ls st Z M → SimS p l e R s m args below meth c Qf D cT A nL ad0 n0 (pc + 1) ls st Z M) (h : wpi C X mc ms J Rt (.lcmp) x K ls st Z M) : SimS p l e R s m args below meth c Qf D cT A nL ad0 n0 pc ls st Z M := by
  obtain ⟨b, st, rfl, h⟩ := pL_spec h
  obtain ⟨a, st, rfl, h⟩ := pL_spec h
  obtain ⟨ha, hb2, h⟩ := h
  intro ad H locs als i1 i2 i3 i4 i5 i6 i7 i8 i9
  refine W.lcmp hx hb hdg ?_
  have e1 : lg_cmp (jN a) (jN b) = iN (if a < b then -1 else if a = b then 0 else 1) := by
    by_cases h1 : a < b
    · have h3 : ¬ jN b < jN a := fun z => by rw [jN_lt hb2 ha] at z; omega
      have h4 : ¬ jN a = jN b := fun z => by rw [jN_eq ha hb2] at z; omega
      have h5 : jN a < jN b := (jN_lt ha hb2).mpr h1
      simp [lg_cmp, h1, h3, h4, h5]
      try decide
    · by_cases h2 : a = b
      · subst h2
        have h3 : ¬ jN a < jN a := fun z => by rw [jN_lt hb2 ha] at z; omega
        simp [lg_cmp, h3]
        try decide
      · have h3 : jN b < jN a := (jN_lt hb2 ha).mpr (by omega)
        have h4 : ¬ jN a = jN b := fun z => by rw [jN_eq ha hb2] at z; omega
        have h5 : ¬ jN a < jN b := fun z => by rw [jN_lt ha hb2] at z; omega
        simp [lg_cmp, h1, h2, h3, h4, h5]
        try decide
  rw [e1]
  exact hK _ _ _ _ h ad H locs als i1 i2 i3 i4 i5 i6 i7 i8 i9
theorem sn_i2l (hx : p.tables.exec = Jvm.exec) (hb : c.code = cc) (hdg : decode cc pc = .ok (.i2l, 1)) (hJ : ∀ t ls st Z M, J t ls st Z M → SimS p l e R s m args below meth c Qf D cT A nL ad0 n0 t ls st Z M) (hK : ∀ ls st Z M, K ls st Z M → SimS p l e R s m args below meth c Qf D cT A nL ad0 n0 (pc + 1) ls st Z M) (h : wpi C X mc ms J Rt (.i2l) x K ls st Z M) : SimS p l e R s m args below meth c Qf D cT A nL ad0 n0 pc ls st Z M := by
  obtain ⟨a, st, rfl, h⟩ := pI_spec h
  obtain ⟨hr, h⟩ := h
  intro ad H locs als i1 i2 i3 i4 i5 i6 i7 i8 i9
  refine lv_i2l hx hb hdg (iN_i2l hr) ?_
  exact hK _ _ _ _ h ad H locs als i1 i2 i3 i4 i5 i6 i7 i8 i9
theorem sn_l2i (hx : p.tables.exec = Jvm.exec) (hb : c.code = cc) (hdg : decode cc pc = .ok (.l2i, 1)) (hJ : ∀ t ls st Z M, J t ls st Z M → SimS p l e R s m args below meth c Qf D cT A nL ad0 n0 t ls st Z M) (hK : ∀ ls st Z M, K ls st Z M → SimS p l e R s m args below meth c Qf D cT A nL ad0 n0 (pc + 1) ls st Z M) (h : wpi C X mc ms J Rt (.l2i) x K ls st Z M) : SimS p l e R s m args below meth c Qf D cT A nL ad0 n0 pc ls st Z M := by
  obtain ⟨a, st, rfl, h⟩ := pL_spec h
  intro ad H locs als i1 i2 i3 i4 i5 i6 i7 i8 i9
  refine lv_l2i hx hb hdg (jN_l2i a) ?_
  exact hK _ _ _ _ h ad H locs als i1 i2 i3 i4 i5 i6 i7 i8 i9
theorem sn_i2b (hx : p.tables.exec = Jvm.exec) (hb : c.code = cc) (hdg : decode cc pc = .ok (.i2b, 1)) (hJ : ∀ t ls st Z M, J t ls st Z M → SimS p l e R s m args below meth c Qf D cT A nL ad0 n0 t ls st Z M) (hK : ∀ ls st Z M, K ls st Z M → SimS p l e R s m args below meth c Qf D cT A nL ad0 n0 (pc + 1) ls st Z M) (h : wpi C X mc ms J Rt (.i2b) x K ls st Z M) : SimS p l e R s m args below meth c Qf D cT A nL ad0 n0 pc ls st Z M := by
  obtain ⟨a, st, rfl, h⟩ := pI_spec h
  intro ad H locs als i1 i2 i3 i4 i5 i6 i7 i8 i9
  refine lv_i2b hx hb hdg rfl ?_
  have h2 := hK _ _ _ _ h ad H locs als i1 i2 i3 i4 i5 i6 i7 i8 i9
  simp only [List.map_cons, cvV, bByt, iN_of] at h2
  exact h2
theorem sn_dup (hx : p.tables.exec = Jvm.exec) (hb : c.code = cc) (hdg : decode cc pc = .ok (.dup, 1)) (hJ : ∀ t ls st Z M, J t ls st Z M → SimS p l e R s m args below meth c Qf D cT A nL ad0 n0 t ls st Z M) (hK : ∀ ls st Z M, K ls st Z M → SimS p l e R s m args below meth c Qf D cT A nL ad0 n0 (pc + 1) ls st Z M) (h : wpi C X mc ms J Rt (.dup) x K ls st Z M) : SimS p l e R s m args below meth c Qf D cT A nL ad0 n0 pc ls st Z M := by
  have h : pV st (fun v st => K ls (v :: v :: st) Z M) := h
  obtain ⟨a, st, rfl, h1, h⟩ := pV_spec h
  intro ad H locs als i1 i2 i3 i4 i5 i6 i7 i8 i9
  refine lv_dup hx hb hdg (by rw [cvV_cat]; exact h1) ?_
  exact hK _ _ _ _ h ad H locs als i1 i2 i3 i4 i5 i6 i7 i8 i9
theorem sn_dup2 (hx : p.tables.exec = Jvm.exec) (hb : c.code = cc) (hdg : decode cc pc = .ok (.dup2, 1)) (hJ : ∀ t ls st Z M, J t ls st Z M → SimS p l e R s m args below meth c Qf D cT A nL ad0 n0 t ls st Z M) (hK : ∀ ls st Z M, K ls st Z M → SimS p l e R s m args below meth c Qf D cT A nL ad0 n0 (pc + 1) ls st Z M) (h : wpi C X mc ms J Rt (.dup2) x K ls st Z M) : SimS p l e R s m args below meth c Qf D cT A nL ad0 n0 pc ls st Z M := by
  have h : pV st (fun v st => pV st fun w st => K ls (v :: w :: v :: w :: st) Z M) := h
  obtain ⟨a, st, rfl, h1, h⟩ := pV_spec h
  obtain ⟨b, st, rfl, h2, h⟩ := pV_spec h
  intro ad H locs als i1 i2 i3 i4 i5 i6 i7 i8 i9
  refine lv_dup2_11 hx hb hdg (by rw [cvV_cat]; exact h1) (by rw [cvV_cat]; exact h2) ?_
  exact hK _ _ _ _ h ad H locs als i1 i2 i3 i4 i5 i6 i7 i8 i9
theorem sn_pop (hx : p.tables.exec = Jvm.exec) (hb : c.code = cc) (hdg : decode cc pc = .ok (.pop, 1)) (hJ : ∀ t ls st Z M, J t ls st Z M → SimS p l e R s m args below meth c Qf D cT A nL ad0 n0 t ls st Z M) (hK : ∀ ls st Z M, K ls st Z M → SimS p l e R s m args below meth c Qf D cT A nL ad0 n0 (pc + 1) ls st Z M) (h : wpi C X mc ms J Rt (.pop) x K ls st Z M) : SimS p l e R s m args below meth c Qf D cT A nL ad0 n0 pc ls st Z M := by
  have h : pV st (fun _ st => K ls st Z M) := h
  obtain ⟨a, st, rfl, h1, h⟩ := pV_spec h
  intro ad H locs als i1 i2 i3 i4 i5 i6 i7 i8 i9
  refine lv_pop hx hb hdg (by rw [cvV_cat]; exact h1) ?_
  exact hK _ _ _ _ h ad H locs als i1 i2 i3 i4 i5 i6 i7 i8 i9
theorem sn_iconst {n : Int} (hx : p.tables.exec = Jvm.exec) (hb : c.code = cc) (hdg : decode cc pc = .ok (.iconst n, 1)) (hJ : ∀ t ls st Z M, J t ls st Z M → SimS p l e R s m args below meth c Qf D cT A nL ad0 n0 t ls st Z M) (hK : ∀ ls st Z M, K ls st Z M → SimS p l e R s m args below meth c Qf D cT A nL ad0 n0 (pc + 1) ls st Z M) (h : wpi C X mc ms J Rt (.iconst n) x K ls st Z M) : SimS p l e R s m args below meth c Qf D cT A nL ad0 n0 pc ls st Z M := by
  intro ad H locs als i1 i2 i3 i4 i5 i6 i7 i8 i9
  exact lv_iconst hx hb hdg rfl (hK _ _ _ _ h ad H locs als i1 i2 i3 i4 i5 i6 i7 i8 i9)
theorem sn_bipush {n : Int} (hn : -128 ≤ n ∧ n ≤ 127) (hx : p.tables.exec = Jvm.exec) (hb : c.code = cc) (hdg : decode cc pc = .ok (.bipush n, 2)) (hJ : ∀ t ls st Z M, J t ls st Z M → SimS p l e R s m args below meth c Qf D cT A nL ad0 n0 t ls st Z M) (hK : ∀ ls st Z M, K ls st Z M → SimS p l e R s m args below meth c Qf D cT A nL ad0 n0 (pc + 2) ls st Z M) (h : wpi C X mc ms J Rt (.iconst n) x K ls st Z M) : SimS p l e R s m args below meth c Qf D cT A nL ad0 n0 pc ls st Z M := by
  intro ad H locs als i1 i2 i3 i4 i5 i6 i7 i8 i9
  exact lv_bipush hx hb hdg (iN_bi hn) (hK _ _ _ _ h ad H locs als i1 i2 i3 i4 i5 i6 i7 i8 i9)
theorem sn_sipush {n : Int} (hn : -32768 ≤ n ∧ n ≤ 32767) (hx : p.tables.exec = Jvm.exec) (hb : c.code = cc) (hdg : decode cc pc = .ok (.sipush n, 3)) (hJ : ∀ t ls st Z M, J t ls st Z M → SimS p l e R s m args below meth c Qf D cT A nL ad0 n0 t ls st Z M) (hK : ∀ ls st Z M, K ls st Z M → SimS p l e R s m args below meth c Qf D cT A nL ad0 n0 (pc + 3) ls st Z M) (h : wpi C X mc ms J Rt (.iconst n) x K ls st Z M) : SimS p l e R s m args below meth c Qf D cT A nL ad0 n0 pc ls st Z M := by
  intro ad H locs als i1 i2 i3 i4 i5 i6 i7 i8 i9
  exact lv_sipush hx hb hdg (iN_si hn) (hK _ _ _ _ h ad H locs als i1 i2 i3 i4 i5 i6 i7 i8 i9)
theorem sn_lconst {n : Fin 2} (hn : x = ((n : Nat) : Int)) (hx : p.tables.exec = Jvm.exec) (hb : c.code = cc) (hdg : decode cc pc = .ok (.lconst n, 1)) (hJ : ∀ t ls st Z M, J t ls st Z M → SimS p l e R s m args below meth c Qf D cT A nL ad0 n0 t ls st Z M) (hK : ∀ ls st Z M, K ls st Z M → SimS p l e R s m args below meth c Qf D cT A nL ad0 n0 (pc + 1) ls st Z M) (h : wpi C X mc ms J Rt (.ldc2_w 0) x K ls st Z M) : SimS p l e R s m args below meth c Qf D cT A nL ad0 n0 pc ls st Z M := by
  subst hn
  intro ad H locs als i1 i2 i3 i4 i5 i6 i7 i8 i9
  exact lv_lconst hx hb hdg (show Int64.ofNat (n : Nat) = jN ((n : Nat) : Int) from Int64.ofInt_eq_ofNat.symm) (hK _ _ _ _ h ad H locs als i1 i2 i3 i4 i5 i6 i7 i8 i9)
theorem sn_ldcw {ix : Nat} {own : String} {n : Int} (hown : s.vm.findClass own = some m.cls) (hcon : (Jvm.Cond.constant own ix (iN n)).before args s = true) (hx : p.tables.exec = Jvm.exec) (hb : c.code = cc) (hdg : decode cc pc = .ok (.ldc_w ix, 3)) (hJ : ∀ t ls st Z M, J t ls st Z M → SimS p l e R s m args below meth c Qf D cT A nL ad0 n0 t ls st Z M) (hK : ∀ ls st Z M, K ls st Z M → SimS p l e R s m args below meth c Qf D cT A nL ad0 n0 (pc + 3) ls st Z M) (h : wpi C X mc ms J Rt (.iconst n) x K ls st Z M) : SimS p l e R s m args below meth c Qf D cT A nL ad0 n0 pc ls st Z M := by
  intro ad H locs als i1 i2 i3 i4 i5 i6 i7 i8 i9
  exact lv_ldcw hx hb hown hcon hdg (hK _ _ _ _ h ad H locs als i1 i2 i3 i4 i5 i6 i7 i8 i9)
theorem sn_ldc2 {ix : Nat} {own : String} (hown : s.vm.findClass own = some m.cls) (hcon : (Jvm.Cond.constantLong own ix (jN x)).before args s = true) (hx : p.tables.exec = Jvm.exec) (hb : c.code = cc) (hdg : decode cc pc = .ok (.ldc2_w ix, 3)) (hJ : ∀ t ls st Z M, J t ls st Z M → SimS p l e R s m args below meth c Qf D cT A nL ad0 n0 t ls st Z M) (hK : ∀ ls st Z M, K ls st Z M → SimS p l e R s m args below meth c Qf D cT A nL ad0 n0 (pc + 3) ls st Z M) (h : wpi C X mc ms J Rt (.ldc2_w 0) x K ls st Z M) : SimS p l e R s m args below meth c Qf D cT A nL ad0 n0 pc ls st Z M := by
  intro ad H locs als i1 i2 i3 i4 i5 i6 i7 i8 i9
  exact lv_ldc2 hx hb hown hcon hdg (hK _ _ _ _ h ad H locs als i1 i2 i3 i4 i5 i6 i7 i8 i9)
theorem sn_iload_n {k : Fin 4} (hx : p.tables.exec = Jvm.exec) (hb : c.code = cc) (hdg : decode cc pc = .ok (.iload_n k, 1)) (hJ : ∀ t ls st Z M, J t ls st Z M → SimS p l e R s m args below meth c Qf D cT A nL ad0 n0 t ls st Z M) (hK : ∀ ls st Z M, K ls st Z M → SimS p l e R s m args below meth c Qf D cT A nL ad0 n0 (pc + 1) ls st Z M) (h : wpi C X mc ms J Rt (.iload k) x K ls st Z M) : SimS p l e R s m args below meth c Qf D cT A nL ad0 n0 pc ls st Z M := by
  obtain ⟨a, hg, h⟩ := gI_spec h
  intro ad H locs als i1 i2 i3 i4 i5 i6 i7 i8 i9
  exact lv_iload_n hx hb hdg rfl (i6.get hg) (hK _ _ _ _ h ad H locs als i1 i2 i3 i4 i5 i6 i7 i8 i9)
theorem sn_iload {k : Nat} (hx : p.tables.exec = Jvm.exec) (hb : c.code = cc) (hdg : decode cc pc = .ok (.iload k, 2)) (hJ : ∀ t ls st Z M, J t ls st Z M → SimS p l e R s m args below meth c Qf D cT A nL ad0 n0 t ls st Z M) (hK : ∀ ls st Z M, K ls st Z M → SimS p l e R s m args below meth c Qf D cT A nL ad0 n0 (pc + 2) ls st Z M) (h : wpi C X mc ms J Rt (.iload k) x K ls st Z M) : SimS p l e R s m args below meth c Qf D cT A nL ad0 n0 pc ls st Z M := by
  obtain ⟨a, hg, h⟩ := gI_spec h
  intro ad H locs als i1 i2 i3 i4 i5 i6 i7 i8 i9
  exact lv_iload hx hb hdg (i6.get hg) (hK _ _ _ _ h ad H locs als i1 i2 i3 i4 i5 i6 i7 i8 i9)
theorem sn_istore_n {k : Fin 4} (hx : p.tables.exec = Jvm.exec) (hb : c.code = cc) (hdg : decode cc pc = .ok (.istore_n k, 1)) (hJ : ∀ t ls st Z M, J t ls st Z M → SimS p l e R s m args below meth c Qf D cT A nL ad0 n0 t ls st Z M) (hK : ∀ ls st Z M, K ls st Z M → SimS p l e R s m args below meth c Qf D cT A nL ad0 n0 (pc + 1) ls st Z M) (h : wpi C X mc ms J Rt (.istore k) x K ls st Z M) : SimS p l e R s m args below meth c Qf D cT A nL ad0 n0 pc ls st Z M := by
  obtain ⟨a, st, rfl, h⟩ := pI_spec h
  obtain ⟨hk, h⟩ := h
  intro ad H locs als i1 i2 i3 i4 i5 i6 i7 i8 i9
  refine lv_istore_n hx hb hdg rfl i6 hk rfl (fun als2 hl => ?_)
  have := hK _ _ _ _ h ad H locs als2 i1 i2 i3 i4 (by rw [lst1_len]; exact i5) (LocR.st1 hl) i7 i8 i9
  exact this
theorem sn_istore {k : Nat} (hx : p.tables.exec = Jvm.exec) (hb : c.code = cc) (hdg : decode cc pc = .ok (.istore k, 2)) (hJ : ∀ t ls st Z M, J t ls st Z M → SimS p l e R s m args below meth c Qf D cT A nL ad0 n0 t ls st Z M) (hK : ∀ ls st Z M, K ls st Z M → SimS p l e R s m args below meth c Qf D cT A nL ad0 n0 (pc + 2) ls st Z M) (h : wpi C X mc ms J Rt (.istore k) x K ls st Z M) : SimS p l e R s m args below meth c Qf D cT A nL ad0 n0 pc ls st Z M := by
  obtain ⟨a, st, rfl, h⟩ := pI_spec h
  obtain ⟨hk, h⟩ := h
  intro ad H locs als i1 i2 i3 i4 i5 i6 i7 i8 i9
  refine lv_istore hx hb hdg i6 hk rfl (fun als2 hl => ?_)
  have := hK _ _ _ _ h ad H locs als2 i1 i2 i3 i4 (by rw [lst1_len]; exact i5) (LocR.st1 hl) i7 i8 i9
  exact this
theorem sn_lload_n {k : Fin 4} (hx : p.tables.exec = Jvm.exec) (hb : c.code = cc) (hdg : decode cc pc = .ok (.lload_n k, 1)) (hJ : ∀ t ls st Z M, J t ls st Z M → SimS p l e R s m args below meth c Qf D cT A nL ad0 n0 t ls st Z M) (hK : ∀ ls st Z M, K ls st Z M → SimS p l e R s m args below meth c Qf D cT A nL ad0 n0 (pc + 1) ls st Z M) (h : wpi C X mc ms J Rt (.lload k) x K ls st Z M) : SimS p l e R s m args below meth c Qf D cT A nL ad0 n0 pc ls st Z M := by
  obtain ⟨a, hg, h⟩ := gL_spec h
  intro ad H locs als i1 i2 i3 i4 i5 i6 i7 i8 i9
  exact lv_lload_n hx hb hdg rfl (i6.get hg) (hK _ _ _ _ h ad H locs als i1 i2 i3 i4 i5 i6 i7 i8 i9)
theorem sn_lload {k : Nat} (hx : p.tables.exec = Jvm.exec) (hb : c.code = cc) (hdg : decode cc pc = .ok (.lload k, 2)) (hJ : ∀ t ls st Z M, J t ls st Z M → SimS p l e R s m args below meth c Qf D cT A nL ad0 n0 t ls st Z M) (hK : ∀ ls st Z M, K ls st Z M → SimS p l e R s m args below meth c Qf D cT A nL ad0 n0 (pc + 2) ls st Z M) (h : wpi C X mc ms J Rt (.lload k) x K ls st Z M) : SimS p l e R s m args below meth c Qf D cT A nL ad0 n0 pc ls st Z M := by
  obtain ⟨a, hg, h⟩ := gL_spec h
  intro ad H locs als i1 i2 i3 i4 i5 i6 i7 i8 i9
  exact lv_lload hx hb hdg (i6.get hg) (hK _ _ _ _ h ad H locs als i1 i2 i3 i4 i5 i6 i7 i8 i9)
theorem sn_lstore_n {k : Fin 4} (hx : p.tables.exec = Jvm.exec) (hb : c.code = cc) (hdg : decode cc pc = .ok (.lstore_n k, 1)) (hJ : ∀ t ls st Z M, J t ls st Z M → SimS p l e R s m args below meth c Qf D cT A nL ad0 n0 t ls st Z M) (hK : ∀ ls st Z M, K ls st Z M → SimS p l e R s m args below meth c Qf D cT A nL ad0 n0 (pc + 1) ls st Z M) (h : wpi C X mc ms J Rt (.lstore k) x K ls st Z M) : SimS p l e R s m args below meth c Qf D cT A nL ad0 n0 pc ls st Z M := by
  obtain ⟨a, st, rfl, h⟩ := pL_spec h
  obtain ⟨hk, h⟩ := h
  intro ad H locs als i1 i2 i3 i4 i5 i6 i7 i8 i9
  refine lv_lstore_n hx hb hdg rfl i6 hk rfl (fun als2 hl => ?_)
  have := hK _ _ _ _ h ad H locs als2 i1 i2 i3 i4 (by rw [lst2_len]; exact i5) (LocR.st2 hl) i7 i8 i9
  exact this
theorem sn_lstore {k : Nat} (hx : p.tables.exec = Jvm.exec) (hb : c.code = cc) (hdg : decode cc pc = .ok (.lstore k, 2)) (hJ : ∀ t ls st Z M, J t ls st Z M → SimS p l e R s m args below meth c Qf D cT A nL ad0 n0 t ls st Z M) (hK : ∀ ls st Z M, K ls st Z M → SimS p l e R s m args below meth c Qf D cT A nL ad0 n0 (pc + 2) ls st Z M) (h : wpi C X mc ms J Rt (.lstore k) x K ls st Z M) : SimS p l e R s m args below meth c Qf D cT A nL ad0 n0 pc ls st Z M := by
  obtain ⟨a, st, rfl, h⟩ := pL_spec h
  obtain ⟨hk, h⟩ := h
  intro ad H locs als i1 i2 i3 i4 i5 i6 i7 i8 i9
  refine lv_lstore hx hb hdg i6 hk rfl (fun als2 hl => ?_)
  have := hK _ _ _ _ h ad H locs als2 i1 i2 i3 i4 (by rw [lst2_len]; exact i5) (LocR.st2 hl) i7 i8 i9
  exact this
theorem sn_aload_n {k : Fin 4} (hx : p.tables.exec = Jvm.exec) (hb : c.code = cc) (hdg : decode cc pc = .ok (.aload_n k, 1)) (hJ : ∀ t ls st Z M, J t ls st Z M → SimS p l e R s m args below meth c Qf D cT A nL ad0 n0 t ls st Z M) (hK : ∀ ls st Z M, K ls st Z M → SimS p l e R s m args below meth c Qf D cT A nL ad0 n0 (pc + 1) ls st Z M) (h : wpi C X mc ms J Rt (.aload k) x K ls st Z M) : SimS p l e R s m args below meth c Qf D cT A nL ad0 n0 pc ls st Z M := by
  obtain ⟨a, hg, h⟩ := gR_spec h
  intro ad H locs als i1 i2 i3 i4 i5 i6 i7 i8 i9
  exact lv_aload_n hx hb hdg rfl (i6.get hg) (hK _ _ _ _ h ad H locs als i1 i2 i3 i4 i5 i6 i7 i8 i9)
theorem sn_aload {k : Nat} (hx : p.tables.exec = Jvm.exec) (hb : c.code = cc) (hdg : decode cc pc = .ok (.aload k, 2)) (hJ : ∀ t ls st Z M, J t ls st Z M → SimS p l e R s m args below meth c Qf D cT A nL ad0 n0 t ls st Z M) (hK : ∀ ls st Z M, K ls st Z M → SimS p l e R s m args below meth c Qf D cT A nL ad0 n0 (pc + 2) ls st Z M) (h : wpi C X mc ms J Rt (.aload k) x K ls st Z M) : SimS p l e R s m args below meth c Qf D cT A nL ad0 n0 pc ls st Z M := by
  obtain ⟨a, hg, h⟩ := gR_spec h
  intro ad H locs als i1 i2 i3 i4 i5 i6 i7 i8 i9
  exact lv_aload hx hb hdg (i6.get hg) (hK _ _ _ _ h ad H locs als i1 i2 i3 i4 i5 i6 i7 i8 i9)
theorem sn_astore_n {k : Fin 4} (hx : p.tables.exec = Jvm.exec) (hb : c.code = cc) (hdg : decode cc pc = .ok (.astore_n k, 1)) (hJ : ∀ t ls st Z M, J t ls st Z M → SimS p l e R s m args below meth c Qf D cT A nL ad0 n0 t ls st Z M) (hK : ∀ ls st Z M, K ls st Z M → SimS p l e R s m args below meth c Qf D cT A nL ad0 n0 (pc + 1) ls st Z M) (h : wpi C X mc ms J Rt (.astore k) x K ls st Z M) : SimS p l e R s m args below meth c Qf D cT A nL ad0 n0 pc ls st Z M := by
  obtain ⟨a, st, rfl, h⟩ := pR_spec h
  obtain ⟨hk, h⟩ := h
  intro ad H locs als i1 i2 i3 i4 i5 i6 i7 i8 i9
  refine lv_astore_n hx hb hdg rfl i6 hk rfl (fun als2 hl => ?_)
  have := hK _ _ _ _ h ad H locs als2 i1 i2 i3 i4 (by rw [lst1_len]; exact i5) (LocR.st1 hl) i7 i8 i9
  exact this
theorem sn_astore {k : Nat} (hx : p.tables.exec = Jvm.exec) (hb : c.code = cc) (hdg : decode cc pc = .ok (.astore k, 2)) (hJ : ∀ t ls st Z M, J t ls st Z M → SimS p l e R s m args below meth c Qf D cT A nL ad0 n0 t ls st Z M) (hK : ∀ ls st Z M, K ls st Z M → SimS p l e R s m args below meth c Qf D cT A nL ad0 n0 (pc + 2) ls st Z M) (h : wpi C X mc ms J Rt (.astore k) x K ls st Z M) : SimS p l e R s m args below meth c Qf D cT A nL ad0 n0 pc ls st Z M := by
  obtain ⟨a, st, rfl, h⟩ := pR_spec h
  obtain ⟨hk, h⟩ := h
  intro ad H locs als i1 i2 i3 i4 i5 i6 i7 i8 i9
  refine lv_astore hx hb hdg i6 hk rfl (fun als2 hl => ?_)
  have := hK _ _ _ _ h ad H locs als2 i1 i2 i3 i4 (by rw [lst1_len]; exact i5) (LocR.st1 hl) i7 i8 i9
  exact this
theorem sn_iinc {k : Nat} {n : Int} (hx : p.tables.exec = Jvm.exec) (hb : c.code = cc) (hdg : decode cc pc = .ok (.iinc k n, 3)) (hJ : ∀ t ls st Z M, J t ls st Z M → SimS p l e R s m args below meth c Qf D cT A nL ad0 n0 t ls st Z M) (hK : ∀ ls st Z M, K ls st Z M → SimS p l e R s m args below meth c Qf D cT A nL ad0 n0 (pc + 3) ls st Z M) (h : wpi C X mc ms J Rt (.iinc k n) x K ls st Z M) : SimS p l e R s m args below meth c Qf D cT A nL ad0 n0 pc ls st Z M := by
  obtain ⟨a, hg, h⟩ := gI_spec h
  obtain ⟨hk, h⟩ := h
  intro ad H locs als i1 i2 i3 i4 i5 i6 i7 i8 i9
  obtain ⟨j, hj⟩ := List.getElem?_of_mem ((llst_mem ad ls 0 (k, cvV ad (vI a))).mpr ⟨k, vI a, hg, by rw [Nat.zero_add]⟩)
  refine lv_iinc (v := iN (a + n)) hx hb hdg i6 hj (iN_add a n) hk rfl (fun als2 hl => ?_)
  have := hK _ _ _ _ h ad H locs als2 i1 i2 i3 i4 (by rw [lst1_len]; exact i5) (LocR.st1 (v := vI (a + n)) hl) i7 i8 i9
  exact this
theorem sn_goto {o : Int} (ho : 0 ≤ (pc : Int) + o) (hx : p.tables.exec = Jvm.exec) (hb : c.code = cc) (hdg : decode cc pc = .ok (.goto o, 3)) (hJ : ∀ t ls st Z M, J t ls st Z M → SimS p l e R s m args below meth c Qf D cT A nL ad0 n0 t ls st Z M) (hK : ∀ ls st Z M, K ls st Z M → SimS p l e R s m args below meth c Qf D cT A nL ad0 n0 (pc + 3) ls st Z M) (h : wpi C X mc ms J Rt (.goto (pc + o)) x K ls st Z M) : SimS p l e R s m args below meth c Qf D cT A nL ad0 n0 pc ls st Z M := by
  intro ad H locs als i1 i2 i3 i4 i5 i6 i7 i8 i9
  exact lv_goto (tgt := ((pc : Int) + o).toNat) hx hb hdg (by omega) (hJ _ _ _ _ _ h ad H locs als i1 i2 i3 i4 i5 i6 i7 i8 i9)
theorem sn_icmp {cd : Jvm.ClassFile.Cond} {o : Int} (ho : 0 ≤ (pc : Int) + o) (hx : p.tables.exec = Jvm.exec) (hb : c.code = cc) (hdg : decode cc pc = .ok (.if_icmp cd o, 3)) (hJ : ∀ t ls st Z M, J t ls st Z M → SimS p l e R s m args below meth c Qf D cT A nL ad0 n0 t ls st Z M) (hK : ∀ ls st Z M, K ls st Z M → SimS p l e R s m args below meth c Qf D cT A nL ad0 n0 (pc + 3) ls st Z M) (h : wpi C X mc ms J Rt (.if_icmp cd (pc + o)) x K ls st Z M) : SimS p l e R s m args below meth c Qf D cT A nL ad0 n0 pc ls st Z M := by
  obtain ⟨b, st, rfl, h⟩ := pI_spec h
  obtain ⟨a, st, rfl, h⟩ := pI_spec h
  obtain ⟨ra, rb, hj, hk⟩ := h
  intro ad H locs als i1 i2 i3 i4 i5 i6 i7 i8 i9
  cases cd with
  | eq => exact lv_icmp_eq (tgt := ((pc : Int) + o).toNat) hx hb hdg (by omega) (fun z => hJ _ _ _ _ _ (hj ((iN_eq ra rb).mp z)) ad H locs als i1 i2 i3 i4 i5 i6 i7 i8 i9) (fun z => hK _ _ _ _ (hk (fun q => z ((iN_eq ra rb).mpr q))) ad H locs als i1 i2 i3 i4 i5 i6 i7 i8 i9)
  | ne => exact lv_icmp_ne (tgt := ((pc : Int) + o).toNat) hx hb hdg (by omega) (fun z => hJ _ _ _ _ _ (hj (fun q => z ((iN_eq ra rb).mpr q))) ad H locs als i1 i2 i3 i4 i5 i6 i7 i8 i9) (fun z => hK _ _ _ _ (hk (fun q => q ((iN_eq ra rb).mp z))) ad H locs als i1 i2 i3 i4 i5 i6 i7 i8 i9)
  | lt => exact lv_icmp_lt (tgt := ((pc : Int) + o).toNat) hx hb hdg (by omega) (fun z => hJ _ _ _ _ _ (hj ((iN_lt ra rb).mp z)) ad H locs als i1 i2 i3 i4 i5 i6 i7 i8 i9) (fun z => hK _ _ _ _ (hk (fun q => z ((iN_lt ra rb).mpr q))) ad H locs als i1 i2 i3 i4 i5 i6 i7 i8 i9)
  | ge => exact lv_icmp_ge (tgt := ((pc : Int) + o).toNat) hx hb hdg (by omega) (fun z => hJ _ _ _ _ _ (hj ((iN_le rb ra).mp z)) ad H locs als i1 i2 i3 i4 i5 i6 i7 i8 i9) (fun z => hK _ _ _ _ (hk (fun q => z ((iN_le rb ra).mpr q))) ad H locs als i1 i2 i3 i4 i5 i6 i7 i8 i9)
  | gt => exact lv_icmp_gt (tgt := ((pc : Int) + o).toNat) hx hb hdg (by omega) (fun z => hJ _ _ _ _ _ (hj ((iN_lt rb ra).mp z)) ad H locs als i1 i2 i3 i4 i5 i6 i7 i8 i9) (fun z => hK _ _ _ _ (hk (fun q => z ((iN_lt rb ra).mpr q))) ad H locs als i1 i2 i3 i4 i5 i6 i7 i8 i9)
  | le => exact lv_icmp_le (tgt := ((pc : Int) + o).toNat) hx hb hdg (by omega) (fun z => hJ _ _ _ _ _ (hj ((iN_le ra rb).mp z)) ad H locs als i1 i2 i3 i4 i5 i6 i7 i8 i9) (fun z => hK _ _ _ _ (hk (fun q => z ((iN_le ra rb).mpr q))) ad H locs als i1 i2 i3 i4 i5 i6 i7 i8 i9)
theorem sn_ifc {cd : Jvm.ClassFile.Cond} {o : Int} (ho : 0 ≤ (pc : Int) + o) (hx : p.tables.exec = Jvm.exec) (hb : c.code = cc) (hdg : decode cc pc = .ok (.ifCond cd o, 3)) (hJ : ∀ t ls st Z M, J t ls st Z M → SimS p l e R s m args below meth c Qf D cT A nL ad0 n0 t ls st Z M) (hK : ∀ ls st Z M, K ls st Z M → SimS p l e R s m args below meth c Qf D cT A nL ad0 n0 (pc + 3) ls st Z M) (h : wpi C X mc ms J Rt (.ifCond cd (pc + o)) x K ls st Z M) : SimS p l e R s m args below meth c Qf D cT A nL ad0 n0 pc ls st Z M := by
  obtain ⟨a, st, rfl, h⟩ := pI_spec h
  obtain ⟨ra, hj, hk⟩ := h
  intro ad H locs als i1 i2 i3 i4 i5 i6 i7 i8 i9
  have rb := rgI_0
  cases cd with
  | eq => exact lv_if_eq (tgt := ((pc : Int) + o).toNat) hx hb hdg (by omega) (fun z => hJ _ _ _ _ _ (hj ((iN_eq ra rb).mp (by rw [iN_0]; exact z))) ad H locs als i1 i2 i3 i4 i5 i6 i7 i8 i9) (fun z => hK _ _ _ _ (hk (fun q => z (by have := (iN_eq ra rb).mpr q; rwa [iN_0] at this))) ad H locs als i1 i2 i3 i4 i5 i6 i7 i8 i9)
  | ne => exact lv_if_ne (tgt := ((pc : Int) + o).toNat) hx hb hdg (by omega) (fun z => hJ _ _ _ _ _ (hj (fun q => z (by have := (iN_eq ra rb).mpr q; rwa [iN_0] at this))) ad H locs als i1 i2 i3 i4 i5 i6 i7 i8 i9) (fun z => hK _ _ _ _ (hk (fun q => q ((iN_eq ra rb).mp (by rw [iN_0]; exact z)))) ad H locs als i1 i2 i3 i4 i5 i6 i7 i8 i9)
  | lt => exact lv_if_lt (tgt := ((pc : Int) + o).toNat) hx hb hdg (by omega) (fun z => hJ _ _ _ _ _ (hj ((iN_lt ra rb).mp (by rw [iN_0]; exact z))) ad H locs als i1 i2 i3 i4 i5 i6 i7 i8 i9) (fun z => hK _ _ _ _ (hk (fun q => z (by have := (iN_lt ra rb).mpr q; rwa [iN_0] at this))) ad H locs als i1 i2 i3 i4 i5 i6 i7 i8 i9)
  | ge => exact lv_if_ge (tgt := ((pc : Int) + o).toNat) hx hb hdg (by omega) (fun z => hJ _ _ _ _ _ (hj ((iN_le rb ra).mp (by rw [iN_0]; exact z))) ad H locs als i1 i2 i3 i4 i5 i6 i7 i8 i9) (fun z => hK _ _ _ _ (hk (fun q => z (by have := (iN_le rb ra).mpr q; rwa [iN_0] at this))) ad H locs als i1 i2 i3 i4 i5 i6 i7 i8 i9)
  | gt => exact lv_if_gt (tgt := ((pc : Int) + o).toNat) hx hb hdg (by omega) (fun z => hJ _ _ _ _ _ (hj ((iN_lt rb ra).mp (by rw [iN_0]; exact z))) ad H locs als i1 i2 i3 i4 i5 i6 i7 i8 i9) (fun z => hK _ _ _ _ (hk (fun q => z (by have := (iN_lt rb ra).mpr q; rwa [iN_0] at this))) ad H locs als i1 i2 i3 i4 i5 i6 i7 i8 i9)
  | le => exact lv_if_le (tgt := ((pc : Int) + o).toNat) hx hb hdg (by omega) (fun z => hJ _ _ _ _ _ (hj ((iN_le ra rb).mp (by rw [iN_0]; exact z))) ad H locs als i1 i2 i3 i4 i5 i6 i7 i8 i9) (fun z => hK _ _ _ _ (hk (fun q => z (by have := (iN_le ra rb).mpr q; rwa [iN_0] at this))) ad H locs als i1 i2 i3 i4 i5 i6 i7 i8 i9)
theorem swl_get {a : Int} : ∀ {os : List Int} {lo : Int}, swl J a ls st Z M os lo → ∀ {k : Nat} {o : Int}, os[k]? = some o → a = lo + k → J o.toNat ls st Z M
  | [], _, _, k, o, ho, _ => by simp at ho
  | o1 :: t, lo, h, 0, o, ho, ha => by
    have : o1 = o := by simpa using ho
    subst this
    exact h.1 (by omega)
  | o1 :: t, lo, h, k + 1, o, ho, ha => swl_get (os := t) (lo := lo + 1) h.2 (k := k) (by simpa using ho) (by omega)
theorem lkl_get {a : Int} {d : Int} : ∀ {ps : List (Int × Int)}, lkl J a ls st Z M d ps → J (Op.lookupswitch.offset ps d a).toNat ls st Z M
  | [], h => h
  | q :: t, h => by
    unfold Op.lookupswitch.offset
    by_cases hq : a = q.1
    · have := h.1 hq
      simpa [hq] using this
    · have := lkl_get (ps := t) (h.2 hq)
      simpa [Op.lookupswitch.offset, Ne.symm hq, hq] using this
theorem off_map (pc : Int) (d a : Int) : ∀ ps : List (Int × Int), Op.lookupswitch.offset (ps.map fun o => (o.1, pc + o.2)) (pc + d) a = pc + Op.lookupswitch.offset ps d a
  | [] => rfl
  | q :: t => by
    have := off_map pc d a t
    simp only [Op.lookupswitch.offset, List.map_cons, List.find?_cons] at this ⊢
    by_cases hq : q.1 = a
    · simp [hq]
    · simp [hq] at this ⊢
      exact this
theorem off_nn (pc : Int) (d a : Int) (hd : 0 ≤ pc + d) : ∀ ps : List (Int × Int), (∀ q ∈ ps, 0 ≤ pc + q.2) → 0 ≤ pc + Op.lookupswitch.offset ps d a
  | [], _ => hd
  | q :: t, h => by
    have := off_nn pc d a hd t (fun z hz => h z (List.mem_cons_of_mem _ hz))
    have h0 := h q List.mem_cons_self
    simp only [Op.lookupswitch.offset, List.find?_cons] at this ⊢
    by_cases hq : q.1 = a
    · simp [hq]; exact h0
    · simp [hq] at this ⊢
      exact this
theorem sn_table {d lo hi : Int} {os : Array Int} (hlen : (os.toList.length : Int) = hi - lo + 1) (hd : 0 ≤ (pc : Int) + d) (hall : (os.toList.all fun o => decide (0 ≤ (pc : Int) + o)) = true) (hx : p.tables.exec = Jvm.exec) (hb : c.code = cc) (hdg : decode cc pc = .ok (.tableswitch d lo hi os, len)) (hJ : ∀ t ls st Z M, J t ls st Z M → SimS p l e R s m args below meth c Qf D cT A nL ad0 n0 t ls st Z M) (hK : ∀ ls st Z M, K ls st Z M → SimS p l e R s m args below meth c Qf D cT A nL ad0 n0 (pc + len) ls st Z M) (h : wpi C X mc ms J Rt (.tableswitch (pc + d) lo hi (os.toList.map fun o => (pc : Int) + o).toArray) x K ls st Z M) : SimS p l e R s m args below meth c Qf D cT A nL ad0 n0 pc ls st Z M := by
  obtain ⟨a, st, rfl, h⟩ := pI_spec h
  obtain ⟨ra, hd2, hs⟩ := h
  intro ad H locs als i1 i2 i3 i4 i5 i6 i7 i8 i9
  rw [List.map_cons]
  by_cases h1 : a < lo ∨ hi < a
  · exact lv_tableOut (tgt := ((pc : Int) + d).toNat) hx hb hdg (by rw [iN_toInt ra]; exact h1) (by omega) (hJ _ _ _ _ _ (hd2 h1) ad H locs als i1 i2 i3 i4 i5 i6 i7 i8 i9)
  · have h2 : lo ≤ a ∧ a ≤ hi := by omega
    have hlt : (a - lo).toNat < os.toList.length := by omega
    have hg : os.toList[(a - lo).toNat]? = some (os.toList[(a - lo).toNat]) := List.getElem?_eq_getElem hlt
    generalize os.toList[(a - lo).toNat] = o1 at hg
    have ho1 : 0 ≤ (pc : Int) + o1 := by
      have := List.all_eq_true.mp hall o1 (List.mem_of_getElem? hg)
      simpa using this
    have hs2 := swl_get hs (k := (a - lo).toNat) (o := (pc : Int) + o1) (by rw [List.toList_toArray, List.getElem?_map, hg]; rfl) (by omega)
    exact lv_tableIn (tgt := ((pc : Int) + o1).toNat) hx hb hdg (by rw [iN_toInt ra]; omega) (by rw [iN_toInt ra]; omega) (by rw [iN_toInt ra, ← Array.getElem?_toList]; exact hg) (by omega) (hJ _ _ _ _ _ hs2 ad H locs als i1 i2 i3 i4 i5 i6 i7 i8 i9)
theorem sn_lookup {d : Int} {ps : Array (Int × Int)} (hps : (ps.toList.zip (ps.toList.drop 1)).all (fun (a, next) => a.1 < next.1) = true) (hd : 0 ≤ (pc : Int) + d) (hall : (ps.toList.all fun o => decide (0 ≤ (pc : Int) + o.2)) = true) (hx : p.tables.exec = Jvm.exec) (hb : c.code = cc) (hdg : decode cc pc = .ok (.lookupswitch d ps, len)) (hJ : ∀ t ls st Z M, J t ls st Z M → SimS p l e R s m args below meth c Qf D cT A nL ad0 n0 t ls st Z M) (hK : ∀ ls st Z M, K ls st Z M → SimS p l e R s m args below meth c Qf D cT A nL ad0 n0 (pc + len) ls st Z M) (h : wpi C X mc ms J Rt (.lookupswitch (pc + d) (ps.toList.map fun o => (o.1, (pc : Int) + o.2)).toArray) x K ls st Z M) : SimS p l e R s m args below meth c Qf D cT A nL ad0 n0 pc ls st Z M := by
  obtain ⟨a, st, rfl, h⟩ := pI_spec h
  obtain ⟨ra, hs⟩ := h
  intro ad H locs als i1 i2 i3 i4 i5 i6 i7 i8 i9
  rw [List.map_cons]
  have hs2 := lkl_get hs
  rw [List.toList_toArray, off_map] at hs2
  have hnn := off_nn (pc : Int) d a hd ps.toList (fun q hq => by have := List.all_eq_true.mp hall q hq; simpa using this)
  exact lv_lookup (tgt := ((pc : Int) + Op.lookupswitch.offset ps.toList d a).toNat) hx hb hdg hps (by rw [iN_toInt ra]) (by omega) (hJ _ _ _ _ _ hs2 ad H locs als i1 i2 i3 i4 i5 i6 i7 i8 i9)
end SND
end
section
/-! what the tables give -/
theorem lk_mem {β : Type} : ∀ {l : List ((Nat × Nat) × β)} {k : Nat × Nat} {v : β}, l.lookup k = some v → (k, v) ∈ l
  | [], _, _, h => by simp at h
  | (a, b) :: t, k, v, h => by
    rw [List.lookup_cons] at h
    by_cases hk : (k == a) = true
    · rw [hk] at h
      have hka : k = a := by simpa using hk
      cases h
      rw [hka]
      exact List.mem_cons_self
    · have hk2 : (k == a) = false := by simpa using hk
      rw [hk2] at h
      exact List.mem_cons_of_mem _ (lk_mem h)
theorem mz_in : ∀ {ci : Nat} {q : vw_C}, vwCl[ci]? = some q → ∀ w ∈ u_ws q.1 q.2.1 q.2.2, w ∈ mz_GW
  | 0, _, h => by cases h; exact fun w hw => List.mem_filter.mpr (mz_inX0 w hw)
  | 1, _, h => by cases h; exact fun w hw => List.mem_filter.mpr (mz_inX1 w hw)
  | 2, _, h => by cases h; exact fun w hw => List.mem_filter.mpr (mz_inX2 w hw)
  | 3, _, h => by cases h; exact fun w hw => List.mem_filter.mpr (mz_inX3 w hw)
  | 4, _, h => by cases h; exact fun w hw => List.mem_filter.mpr (mz_inX4 w hw)
  | 5, _, h => by cases h; exact fun w hw => List.mem_filter.mpr (mz_inX5 w hw)
  | 6, _, h => by cases h; exact fun w hw => List.mem_filter.mpr (mz_inX6 w hw)
  | _ + 7, _, h => by cases h
def tyN (ci : Nat) : Nat → FieldType := match ci with
  | 0 => tyX0
  | 1 => tyX1
  | 2 => tyX2
  | 3 => tyX3
  | 4 => tyX4
  | 5 => tyX5
  | _ => tyX6
theorem mz_cl : ∀ {ci : Nat} {q : vw_C}, vwCl[ci]? = some q → (∀ k, k < q.2.2 → parseFieldDescriptor (q.2.1 k).2.2.1 = some (tyN ci k)) ∧ (∀ a, a < q.2.2 → ∀ b, b < q.2.2 → a ≠ b → (q.2.1 a).2.1 ≠ (q.2.1 b).2.1)
  | 0, _, h => by cases h; exact ⟨tyX0_ok, nmX0⟩
  | 1, _, h => by cases h; exact ⟨tyX1_ok, nmX1⟩
  | 2, _, h => by cases h; exact ⟨tyX2_ok, nmX2⟩
  | 3, _, h => by cases h; exact ⟨tyX3_ok, nmX3⟩
  | 4, _, h => by cases h; exact ⟨tyX4_ok, nmX4⟩
  | 5, _, h => by cases h; exact ⟨tyX5_ok, nmX5⟩
  | 6, _, h => by cases h; exact ⟨tyX6_ok, nmX6⟩
  | _ + 7, _, h => by cases h
theorem mz_cn_cl : ∀ {ci : Nat} {q : vw_C}, vwCl[ci]? = some q → cnOf ci = q.1
  | 0, _, h => by cases h; rfl
  | 1, _, h => by cases h; rfl
  | 2, _, h => by cases h; rfl
  | 3, _, h => by cases h; rfl
  | 4, _, h => by cases h; rfl
  | 5, _, h => by cases h; rfl
  | 6, _, h => by cases h; rfl
  | _ + 7, _, h => by cases h
theorem cnOf_of {k : Nat} {own : String} (h : mz_cn[k]? = some own) : cnOf k = own := by unfold cnOf; rw [h]; rfl
theorem mz_F_get {o ix : Nat} {q : Nat × Nat × Nat} (h : mz_F.lookup (o, ix) = some q) : ∃ r : vw_C, vwCl[q.1]? = some r ∧ q.2.1 < r.2.2 ∧ Cond.fieldLink (cnOf o) ix (r.2.1 q.2.1).1 (r.2.1 q.2.1).2.1 (r.2.1 q.2.1).2.2.1 ∈ mz_GW := by
  have h1 := List.all_eq_true.mp mz_F_ok _ (lk_mem h)
  unfold mz_okF at h1
  dsimp only at h1
  cases ho : mz_cn[o]? with
  | none => rw [ho] at h1; simp at h1
  | some own =>
    cases hr : vwCl[q.1]? with
    | none => rw [ho, hr] at h1; simp at h1
    | some r =>
      rw [ho, hr] at h1
      obtain ⟨C, T, N⟩ := r
      dsimp only at h1
      rw [Bool.and_eq_true, decide_eq_true_eq, decide_eq_true_eq] at h1
      refine ⟨_, rfl, h1.1, ?_⟩
      rw [cnOf_of ho]
      exact mz_gw h1.2 rfl
theorem mz_C_get {o ix : Nat} {q : Nat × Nat} (h : mz_C.lookup (o, ix) = some q) : (q.1 = 100 ∧ Cond.classLink (cnOf o) ix ("[" ++ (FieldType.array .int).toString) ∈ mz_GW) ∨ ∃ r : vw_C, vwCl[q.1]? = some r ∧ Cond.classLink (cnOf o) ix r.1 ∈ mz_GW := by
  have h1 := List.all_eq_true.mp mz_C_ok _ (lk_mem h)
  unfold mz_okC at h1
  dsimp only at h1
  cases ho : mz_cn[o]? with
  | none => rw [ho] at h1; simp at h1
  | some own =>
    rw [ho] at h1
    dsimp only at h1
    rw [cnOf_of ho]
    by_cases h2 : q.1 = 100
    · rw [if_pos h2, decide_eq_true_eq] at h1
      exact Or.inl ⟨h2, mz_gw h1 rfl⟩
    · rw [if_neg h2] at h1
      cases hr : vwCl[q.1]? with
      | none => rw [hr] at h1; simp at h1
      | some r =>
        rw [hr] at h1
        dsimp only at h1
        rw [decide_eq_true_eq] at h1
        exact Or.inr ⟨r, rfl, mz_gw h1 rfl⟩
set_option maxRecDepth 100000 in
theorem mz_T_len : mz_T.length = 164 := rfl
theorem mz_T_get {y : Nat} {e : mz_E} (h : mz_T[y]? = some e) (hy : y < 163) : Cond.code e.1 e.2.1 e.2.2.1 e.2.2.2.1 ∈ mz_GW ∧ mz_okM e = true := by
  have h1 : mz_T.dropLast[y]? = some e := by
    rw [List.getElem?_dropLast, if_pos (by rw [mz_T_len]; exact hy)]
    exact h
  refine ⟨?_, List.all_eq_true.mp mz_T_ok e (List.mem_of_getElem? h1)⟩
  have h2 := congrArg (fun l => l[y]?) mz_T_code
  rw [List.getElem?_map, List.getElem?_map, h1] at h2
  exact mz_gw (Option.some.inj h2) rfl
theorem mz_L_get {o ix : Nat} {q : Nat × Nat × Nat} (h : mz_L.lookup (o, ix) = some q) : (q.1 = 1000 ∧ Cond.methodLink (cnOf o) ix arraycopyName ∈ mz_GW) ∨ (q.1 = 1002 ∧ Cond.methodLink (cnOf o) ix Lib.Math.max.name ∈ mz_GW) ∨ (q.1 = 1003 ∧ Cond.methodLink (cnOf o) ix Lib.Math.min.name ∈ mz_GW) ∨ (q.1 = 1001 ∧ Cond.methodLink (cnOf o) ix objectInit ∈ mz_GW) ∨
    ∃ e, mz_T[q.1]? = some e ∧ q.1 < 163 ∧ (q.2.1 = 0 → Cond.methodLink (cnOf o) ix e.1 ∈ mz_GW) ∧ (q.2.1 ≠ 0 → Cond.methodLinkNest (cnOf o) ix e.1 "OwnSunday" ∈ lw_tbl) := by
  have h1 := List.all_eq_true.mp mz_L_ok _ (lk_mem h)
  unfold mz_okL at h1
  dsimp only at h1
  cases ho : mz_cn[o]? with
  | none => rw [ho] at h1; simp at h1
  | some own =>
    rw [ho] at h1
    dsimp only at h1
    rw [cnOf_of ho]
    by_cases h2 : q.1 = 1000
    · rw [if_pos h2, Bool.and_eq_true, decide_eq_true_eq, decide_eq_true_eq] at h1
      exact Or.inl ⟨h2, mz_gw h1.2 rfl⟩
    rw [if_neg h2] at h1
    by_cases h3 : q.1 = 1002
    · rw [if_pos h3, Bool.and_eq_true, decide_eq_true_eq, decide_eq_true_eq] at h1
      exact Or.inr (Or.inl ⟨h3, mz_gw h1.2 rfl⟩)
    rw [if_neg h3] at h1
    by_cases h4 : q.1 = 1003
    · rw [if_pos h4, Bool.and_eq_true, decide_eq_true_eq, decide_eq_true_eq] at h1
      exact Or.inr (Or.inr (Or.inl ⟨h4, mz_gw h1.2 rfl⟩))
    rw [if_neg h4] at h1
    by_cases h5 : q.1 = 1001
    · rw [if_pos h5, Bool.and_eq_true, decide_eq_true_eq, decide_eq_true_eq] at h1
      exact Or.inr (Or.inr (Or.inr (Or.inl ⟨h5, mz_gw h1.2 rfl⟩)))
    rw [if_neg h5] at h1
    cases hr : mz_T[q.1]? with
    | none => rw [hr] at h1; simp at h1
    | some e =>
      rw [hr] at h1
      dsimp only at h1
      rw [Bool.and_eq_true, decide_eq_true_eq] at h1
      refine Or.inr (Or.inr (Or.inr (Or.inr ⟨e, rfl, h1.1, fun h6 => ?_, fun h6 => ?_⟩)))
      · have h7 := h1.2
        rw [if_pos h6, decide_eq_true_eq] at h7
        exact mz_gw h7 rfl
      · have h7 := h1.2
        rw [if_neg h6, decide_eq_true_eq] at h7
        exact List.mem_of_getElem? h7
section SND2
variable {p : Program} {l : Launch} {e : Env} {R : Room} {s : State} {m : MethodId} {args : Array Value} {below : List Frame} {meth : Method} {c : Code} {Qf : State → Prop} {D : va_G} {cT : Nat → ClassId} {A : Nat → Prop} {nL : Nat} {ad0 : Nat → Nat} {n0 : Nat}
variable {cc : ByteArray} {C : CC} {X : XX} {mc ms : Nat} {J : Nat → KK} {Rt : RR} {x : Int} {K : KK} {ls : AL} {st : List AV} {Z : ZZ} {M : MM} {pc len o : Nat}
theorem fld_at {sh : List SC} {r k ci : Nat} {fs : List (Option (Option Nat))} (h : sh[r]? = some (Sum.inr (ci, fs))) : fld sh r k = fs[k]? := by unfold fld; rw [h]
theorem ws_obj {ad : Nat → Nat} {sh : List SC} {r ci : Nat} {fs : List (Option (Option Nat))} (h : sh[r]? = some (Sum.inr (ci, fs))) : (wsOf cT ad sh M)[r]? = some (ad r, .inr (ci, fs.mapIdx (fvV ad (M r)))) := wsOf_at h
theorem sn_getfield {ix : Nat} {q : Nat × Nat × Nat} (hown : s.vm.findClass (cnOf o) = some m.cls) (hts : ∀ w ∈ mz_GW, w.before args s = true) (hKK : va_K D vwCl (tyL cT) s) (hq : mz_F.lookup (o, ix) = some q) (hx : p.tables.exec = Jvm.exec) (hb : c.code = cc) (hdg : decode cc pc = .ok (.getfield ix, 3)) (hK : ∀ ls st Z M, K ls st Z M → SimS p l e R s m args below meth c Qf D cT A nL ad0 n0 (pc + 3) ls st Z M) (h : wpi C X mc ms J Rt (.getfield q.2.1) (q.1 : Int) K ls st Z M) : SimS p l e R s m args below meth c Qf D cT A nL ad0 n0 pc ls st Z M := by
  obtain ⟨r, st, rfl, h⟩ := pR_spec h
  obtain ⟨hc, h⟩ := h
  obtain ⟨fs, hsh⟩ := cls_spec hc
  rw [Int.toNat_natCast] at hsh
  obtain ⟨w, hw, hk, hlink⟩ := mz_F_get hq
  rw [fld_at hsh] at h
  intro ad H locs als i1 i2 i3 i4 i5 i6 i7 i8 i9
  rcases gF_spec h with ⟨hf, h⟩ | ⟨z, hf, h⟩
  · exact va_get hx hb hts (mz_in hw) hown hKK i7 r (ws_obj hsh) hw q.2.1 hk (hts _ hlink) (fun _ h => h) (v := .int (iN (M r q.2.1))) (by rw [List.getElem?_mapIdx, hf]; rfl) hdg (hK _ _ _ _ h ad H locs als i1 i2 i3 i4 i5 i6 i7 i8 i9)
  · exact va_get hx hb hts (mz_in hw) hown hKK i7 r (ws_obj hsh) hw q.2.1 hk (hts _ hlink) (fun _ h => h) (v := .ref (ad z)) (by rw [List.getElem?_mapIdx, hf]; rfl) hdg (hK _ _ _ _ h ad H locs als i1 i2 i3 i4 i5 i6 i7 i8 i9)
theorem map_set {ad : Nat → Nat} {g : Nat → Int} {fs : List (Option (Option Nat))} {k : Nat} {a : Int} (hf : fs[k]? = some none) : fs.mapIdx (fvV ad (fun i => if i = k then a else g i)) = (fs.mapIdx (fvV ad g)).set k (.int (iN a)) := by
  apply List.ext_getElem?
  intro j
  rw [List.getElem?_mapIdx, List.getElem?_set, List.getElem?_mapIdx, List.length_mapIdx]
  by_cases hj : k = j
  · subst hj
    rw [hf, if_pos rfl, if_pos (List.getElem?_eq_some_iff.mp hf).1]
    simp [fvV]
  · rw [if_neg hj]
    congr 1
    funext z
    rcases z with _ | _ | z
    · simp [fvV, Ne.symm hj]
    · rfl
    · rfl
theorem sn_putfield {ix y : Nat} {q : Nat × Nat × Nat} (hown : s.vm.findClass (cnOf o) = some m.cls) (hts : ∀ w ∈ mz_GW, w.before args s = true) (hKK : va_K D vwCl (tyL cT) s) (hq : mz_F.lookup (o, ix) = some q) (hpf : pfK y q = some false) (hx : p.tables.exec = Jvm.exec) (hb : c.code = cc) (hdg : decode cc pc = .ok (.putfield ix, 3)) (hK : ∀ ls st Z M, K ls st Z M → SimS p l e R s m args below meth c Qf D cT A nL ad0 n0 (pc + 3) ls st Z M) (h : wpi C X mc ms J Rt (.putfield q.2.1) (q.1 : Int) K ls st Z M) : SimS p l e R s m args below meth c Qf D cT A nL ad0 n0 pc ls st Z M := by
  obtain ⟨a, st, rfl, h⟩ := pI_spec h
  obtain ⟨r, st, rfl, h⟩ := pR_spec h
  obtain ⟨hc, h⟩ := h
  obtain ⟨fs, hsh⟩ := cls_spec hc
  rw [Int.toNat_natCast] at hsh
  obtain ⟨w, hw, hk, hlink⟩ := mz_F_get hq
  rw [fld_at hsh] at h
  unfold pfK at hpf
  rw [hw] at hpf
  dsimp only at hpf
  split at hpf
  · rename_i hfin
    intro ad H locs als i1 i2 i3 i4 i5 i6 i7 i8 i9
    rcases gF_spec h with ⟨hf, h⟩ | ⟨z, hf, h⟩
    · refine va_put (v := .int (iN a)) (ty := .int) hx hb hts (mz_in hw) (tyN q.1) (mz_cl hw).1 (mz_cl hw).2 hown hKK i7 i8 i9 r (ws_obj hsh) hw q.2.1 hk (hts _ hlink) (fun _ h => h) hfin.2 (by rw [hfin.1]; decide +kernel) rfl rfl (by rw [List.length_mapIdx]; exact (List.getElem?_eq_some_iff.mp hf).1) hdg (fun H1 locs1 j7 j8 j9 => ?_)
      have e1 : wsOf cT ad Z.1 (mset M r q.2.1 a) = (wsOf cT ad Z.1 M).set r (ad r, .inr (q.1, (fs.mapIdx (fvV ad (M r))).set q.2.1 (.int (iN a)))) := by
        refine wsOf_set' hsh (fun k hk => mset_ne k hk) ?_

        rw [← map_set hf]
        show elV cT ad (mset M r q.2.1 a r) (Sum.inr (q.1, fs)) = _
        have : mset M r q.2.1 a r = fun i => if i = q.2.1 then a else M r i := funext (fun i => mset_at M r q.2.1 a i)
        rw [this]
        rfl
      rw [← e1] at j7 j8
      exact hK _ _ _ _ h ad H1 locs1 als i1 i2 i3 i4 i5 i6 j7 j8 j9
    · exact h.elim
  · split at hpf <;> cases hpf
theorem map_setR {ad : Nat → Nat} {g : Nat → Int} {fs : List (Option (Option Nat))} {k z : Nat} : (fs.set k (some (some z))).mapIdx (fvV ad g) = (fs.mapIdx (fvV ad g)).set k (.ref (ad z)) := by
  apply List.ext_getElem?
  intro j
  rw [List.getElem?_mapIdx, List.getElem?_set, List.getElem?_set, List.getElem?_mapIdx, List.length_mapIdx]
  by_cases hj : k = j
  · subst hj
    by_cases hl : k < fs.length
    · simp [hl, fvV]
    · simp [hl]
  · rw [if_neg hj, if_neg hj]
theorem wfS_setR {sh : List SC} (h : wfS sh) {r ci k z : Nat} {fs : List (Option (Option Nat))} (hsh : sh[r]? = some (Sum.inr (ci, fs))) (hz : z < sh.length) : wfS (sh.set r (Sum.inr (ci, fs.set k (some (some z))))) := by
  intro i x hx
  rw [List.length_set]
  rw [List.getElem?_set] at hx
  by_cases hi : r = i
  · rw [if_pos hi] at hx
    split at hx
    · cases hx
      intro j q hq
      have hq : (fs.set k (some (some z)))[j]? = some (some (some q)) := hq
      rw [List.getElem?_set] at hq
      split at hq
      · split at hq
        · cases hq; exact hz
        · cases hq
      · exact h r _ hsh j q hq
    · cases hx
  · rw [if_neg hi] at hx
    exact h i x hx
theorem sn_putref {ix y : Nat} {q : Nat × Nat × Nat} (hown : s.vm.findClass (cnOf o) = some m.cls) (hmn : nmOf y = "<init>" → meth.name = "<init>") (hyo : ownOf y = o) (hts : ∀ w ∈ mz_GW, w.before args s = true) (hKK : va_K D vwCl (tyL cT) s) (hq : mz_F.lookup (o, ix) = some q) (hpf : pfK y q = some true) (hx : p.tables.exec = Jvm.exec) (hb : c.code = cc) (hdg : decode cc pc = .ok (.putfield ix, 3)) (hK : ∀ ls st Z M, K ls st Z M → SimS p l e R s m args below meth c Qf D cT A nL ad0 n0 (pc + 3) ls st Z M) (h : wpi C X mc ms J Rt (.putstatic q.2.1) (q.1 : Int) K ls st Z M) : SimS p l e R s m args below meth c Qf D cT A nL ad0 n0 pc ls st Z M := by
  obtain ⟨z, st, rfl, hq1⟩ := pR_spec h
  obtain ⟨r, st, rfl, hq2⟩ := pR_spec hq1
  replace h := hq2
  obtain ⟨w, hw, hk, hlink⟩ := mz_F_get hq
  unfold pfK at hpf
  rw [hw] at hpf
  dsimp only at hpf
  split at hpf
  · cases hpf
  · split at hpf
    · rename_i hfin
      cases hz : Z.1[r]? with
      | none => rw [hz] at h; exact h.elim
      | some ob =>
        rw [hz] at h
        match ob, hz, h with
        | Sum.inl _, _, h => exact h.elim
        | Sum.inr (ci, fs), hz, h =>
          obtain ⟨h1, ⟨zz, h2⟩, h3, h⟩ := h
          dsimp only at h1 h2 h
          rw [Int.toNat_natCast] at h1
          subst h1
          intro ad H locs als i1 i2 i3 i4 i5 i6 i7 i8 i9
          have hro : isRefD (w.2.1 q.2.1).2.2.1 = true := hfin.2.2.2.2
          have key : ∃ ty, parseFieldDescriptor (w.2.1 q.2.1).2.2.1 = some ty ∧ narrow ty (.ref (ad z)) = .ref (ad z) ∧ fits ty (.ref (ad z)) = true := by
            unfold isRefD at hro
            split at hro
            · rename_i t ht; exact ⟨_, ht, rfl, rfl⟩
            · rename_i t ht; exact ⟨_, ht, rfl, rfl⟩
            · cases hro
          obtain ⟨ty, k1, k2, k3⟩ := key
          refine va_putF (v := .ref (ad z)) (ty := ty) hx hb hts (mz_in hw) (tyN q.1) (mz_cl hw).1 (mz_cl hw).2 hown hKK i7 i8 i9 r (ws_obj hz) hw q.2.1 hk (hts _ hlink) (fun _ h => h) hfin.1 (hmn hfin.2.1) (by rw [hfin.2.2.2.1, ← mz_cn_cl hw, hfin.2.2.1, hyo]) k1 k2 k3 (by rw [List.length_mapIdx]; exact (List.getElem?_eq_some_iff.mp h2).1) hdg (fun H1 locs1 j7 j8 j9 => ?_)
          have e1 : wsOf cT ad (Z.1.set r (Sum.inr (q.1, fs.set q.2.1 (some (some z))))) M = (wsOf cT ad Z.1 M).set r (ad r, .inr (q.1, (fs.mapIdx (fvV ad (M r))).set q.2.1 (.ref (ad z)))) := by
            refine wsOf_set hz (fun _ _ => rfl) ?_
            rw [← map_setR]
            rfl
          rw [← e1] at j7 j8
          have hl2 : (Z.1.set r (Sum.inr (q.1, fs.set q.2.1 (some (some z))) : SC)).length = Z.1.length := List.length_set
          exact hK _ _ _ _ h ad H1 locs1 als (by dsimp only; rw [hl2]; exact i1) (by dsimp only; rw [hl2]; exact i2) (by dsimp only; rw [hl2]; exact i3) (wfS_setR i4 hz h3) i5 i6 j7 j8 j9
    · cases hpf
/-! arrays -/
theorem ws_ar {ad : Nat → Nat} {sh : List SC} {r n : Nat} {f : Nat → Option Nat} {t : Nat} (h : arr sh r = some (t, n, f)) : (wsOf cT ad sh M)[r]? = some (ad r, eA cT ad (M r) (t, n, f)) := wsOf_at (arr_spec h)
theorem sn_iaload {b : Nat} (hKK : va_K D vwCl (tyL cT) s) (hX : ∀ q, X = some q → va_X b q.1 (fun j => iN (q.2 j)) s s.heap ∧ b < s.heap.size ∧ ¬ A b ∧ ad0 scr = b) (hx : p.tables.exec = Jvm.exec) (hb : c.code = cc) (hdg : decode cc pc = .ok (.iaload, 1)) (hK : ∀ ls st Z M, K ls st Z M → SimS p l e R s m args below meth c Qf D cT A nL ad0 n0 (pc + 1) ls st Z M) (h : wpi C X mc ms J Rt .iaload x K ls st Z M) : SimS p l e R s m args below meth c Qf D cT A nL ad0 n0 pc ls st Z M := by
  obtain ⟨j, st, rfl, hq1⟩ := pI_spec h
  obtain ⟨r, st, rfl, hq2⟩ := pR_spec hq1
  replace h := hq2
  intro ad H locs als i1 i2 i3 i4 i5 i6 i7 i8 i9
  by_cases hr : r = scr
  · rw [if_pos hr] at h
    subst hr
    match X, h, hX with
    | none, h, _ => exact h.elim
    | some q, h, hX =>
      obtain ⟨h1, h2, h⟩ := h
      obtain ⟨x1, x2, x3, x4⟩ := hX q rfl
      have hadb : ad scr = b := by rw [i1 scr (Or.inr (Nat.le_trans i3 (by decide))), x4]
      show W p l e R s m args below meth c H locs _ _ Qf (F0 m pc als (.int (iN j) :: .ref (ad scr) :: st.map (cvV ad)))
      rw [hadb]
      refine va_sld hx hb x1 x2 x3 i9 (iN_in h1 h2) hdg ?_
      rw [iN_clamp h1 h2]
      exact hK _ _ _ _ h ad H locs als i1 i2 i3 i4 i5 i6 i7 i8 i9
  · rw [if_neg hr] at h
    obtain ⟨t, n, f, ha, h1, h2, rfl, h⟩ := gA_spec h
    refine va_iald hx hb hKK i7 r 0 (ws_ar ha) rfl (iN_in h1 h2) hdg ?_
    rw [iN_clamp h1 h2]
    exact hK _ _ _ _ h ad H locs als i1 i2 i3 i4 i5 i6 i7 i8 i9
theorem sn_baload (hKK : va_K D vwCl (tyL cT) s) (hx : p.tables.exec = Jvm.exec) (hb : c.code = cc) (hdg : decode cc pc = .ok (.baload, 1)) (hK : ∀ ls st Z M, K ls st Z M → SimS p l e R s m args below meth c Qf D cT A nL ad0 n0 (pc + 1) ls st Z M) (h : wpi C X mc ms J Rt .baload x K ls st Z M) : SimS p l e R s m args below meth c Qf D cT A nL ad0 n0 pc ls st Z M := by
  obtain ⟨j, st, rfl, h⟩ := pI_spec h
  obtain ⟨r, st, rfl, h⟩ := pR_spec h
  intro ad H locs als i1 i2 i3 i4 i5 i6 i7 i8 i9
  obtain ⟨t, n, f, ha, h1, h2, ht, h⟩ := gA_spec h
  rcases ht with rfl | rfl
  · refine va_bald hx hb hKK i7 r 1 (ws_ar ha) rfl (iN_in h1 h2) hdg ?_
    rw [iN_clamp h1 h2]
    exact hK _ _ _ _ h ad H locs als i1 i2 i3 i4 i5 i6 i7 i8 i9
  · refine va_zald hx hb hKK i7 r 2 (ws_ar ha) rfl (iN_in h1 h2) hdg ?_
    rw [iN_clamp h1 h2]
    exact hK _ _ _ _ h ad H locs als i1 i2 i3 i4 i5 i6 i7 i8 i9
theorem sn_laload (hKK : va_K D vwCl (tyL cT) s) (hx : p.tables.exec = Jvm.exec) (hb : c.code = cc) (hdg : decode cc pc = .ok (.laload, 1)) (hK : ∀ ls st Z M, K ls st Z M → SimS p l e R s m args below meth c Qf D cT A nL ad0 n0 (pc + 1) ls st Z M) (h : wpi C X mc ms J Rt .laload x K ls st Z M) : SimS p l e R s m args below meth c Qf D cT A nL ad0 n0 pc ls st Z M := by
  obtain ⟨j, st, rfl, h⟩ := pI_spec h
  obtain ⟨r, st, rfl, h⟩ := pR_spec h
  intro ad H locs als i1 i2 i3 i4 i5 i6 i7 i8 i9
  obtain ⟨t, n, f, ha, h1, h2, rfl, h⟩ := gA_spec h
  refine va_lald hx hb hKK i7 r 3 (ws_ar ha) rfl (iN_in h1 h2) hdg ?_
  rw [iN_clamp h1 h2]
  exact hK _ _ _ _ h ad H locs als i1 i2 i3 i4 i5 i6 i7 i8 i9
theorem ald_ref {ws : va_W} {a : Nat} {H : Heap} {locs : List Loc} {cells slots : Nat} {als : Array Slot} {rest : List Value} {tys : List (ClassId × FieldType)} (hexec : p.tables.exec = Jvm.exec) (hb : c.code = cc) (hK : va_K D vwCl tys s) (hP : va_P D vwCl ws H) (q0 t0 : Nat) {cA : ClassId} {ty : FieldType} (href : ty.isReference = true) {n : Nat} {f : Nat → Option Nat} (ha : ws[q0]? = some (a, .inl (cA, n, .inr (.inr (.inr (.inr f)))))) (ht : tys[t0]? = some (cA, ty)) {i : Int32} (hin : vp_in i n) (hdg : decode cc pc = .ok (.aaload, 1))
    (kk : W p l e R s m args below meth c H locs cells slots Qf (F0 m (pc + 1) als (va_rf (f i.toNatClampNeg) :: rest))) : W p l e R s m args below meth c H locs cells slots Qf (F0 m pc als (.int i :: .ref a :: rest)) := by
  have hlt : i.toNatClampNeg < n := Nat.not_le.mp fun q => hin (Or.inr q)
  exact W.aald (v := va_rf (f i.toNatClampNeg)) (ty := ty) hexec hb (hP q0 _ ha) ((hK.2 t0 _ ht).1 n (fun j => va_rf (f j))) href (fun q => by cases q) (by show ¬ (i < 0 ∨ (arrV _ _ _).slots.size ≤ _); rw [arrV_size]; exact hin) (by show (arrV _ _ _).slots[_]? = _; rw [arrV_read _ _ hlt]) rfl rfl hdg kk
theorem sn_aaload (hKK : va_K D vwCl (tyL cT) s) (hx : p.tables.exec = Jvm.exec) (hb : c.code = cc) (hdg : decode cc pc = .ok (.aaload, 1)) (hK : ∀ ls st Z M, K ls st Z M → SimS p l e R s m args below meth c Qf D cT A nL ad0 n0 (pc + 1) ls st Z M) (h : wpi C X mc ms J Rt .aaload x K ls st Z M) : SimS p l e R s m args below meth c Qf D cT A nL ad0 n0 pc ls st Z M := by
  obtain ⟨j, st, rfl, h⟩ := pI_spec h
  obtain ⟨r, st, rfl, h⟩ := pR_spec h
  intro ad H locs als i1 i2 i3 i4 i5 i6 i7 i8 i9
  obtain ⟨t, n, f, ha, h1, h2, ht, h⟩ := gA_spec h
  obtain ⟨q, hq, h⟩ := gQ_spec h
  have hv : va_rf ((fun j => (f j).map ad) (iN j).toNatClampNeg) = .ref (ad q) := by
    show va_rf ((f (iN j).toNatClampNeg).map ad) = _
    rw [iN_clamp h1 h2, hq]
    rfl
  rcases ht with rfl | rfl
  · refine ald_ref hx hb hKK i7 r 4 (ty := .object "OwnSunday$Book") rfl (ws_ar ha) rfl (iN_in h1 h2) hdg ?_
    rw [hv]
    exact hK _ _ _ _ h ad H locs als i1 i2 i3 i4 i5 i6 i7 i8 i9
  · refine ald_ref hx hb hKK i7 r 5 (ty := .array .int) rfl (ws_ar ha) rfl (iN_in h1 h2) hdg ?_
    rw [hv]
    exact hK _ _ _ _ h ad H locs als i1 i2 i3 i4 i5 i6 i7 i8 i9
theorem mset_fun (M : MM) (r j : Nat) (a : Int) : mset M r j a r = fun i => if i = j then a else M r i := funext (fun i => mset_at M r j a i)
theorem upd_iN (g : Nat → Int) (j : Nat) (a : Int) : (fun i => iN (if i = j then a else g i)) = upd (fun i => iN (g i)) j (iN a) := by
  funext i
  unfold upd
  split <;> rfl
theorem upd_jN (g : Nat → Int) (j : Nat) (a : Int) : (fun i => jN (if i = j then a else g i)) = vp_updL (fun i => jN (g i)) j (jN a) := by
  funext i
  unfold vp_updL
  split <;> rfl
theorem sn_iastore (hKK : va_K D vwCl (tyL cT) s) (hx : p.tables.exec = Jvm.exec) (hb : c.code = cc) (hdg : decode cc pc = .ok (.iastore, 1)) (hK : ∀ ls st Z M, K ls st Z M → SimS p l e R s m args below meth c Qf D cT A nL ad0 n0 (pc + 1) ls st Z M) (h : wpi C X mc ms J Rt .iastore x K ls st Z M) : SimS p l e R s m args below meth c Qf D cT A nL ad0 n0 pc ls st Z M := by
  obtain ⟨a, st, rfl, h⟩ := pI_spec h
  obtain ⟨j, st, rfl, h⟩ := pI_spec h
  obtain ⟨r, st, rfl, h⟩ := pR_spec h
  intro ad H locs als i1 i2 i3 i4 i5 i6 i7 i8 i9
  obtain ⟨t, n, f, ha, h1, h2, rfl, h⟩ := gA_spec h
  refine va_iast hx hb hKK i7 i8 i9 r 0 (ws_ar ha) rfl (iN_in h1 h2) hdg (fun H1 locs1 j7 j8 j9 => ?_)
  rw [iN_clamp h1 h2, ← upd_iN] at j7 j8
  have e1 : wsOf cT ad Z.1 (mset M r j.toNat a) = (wsOf cT ad Z.1 M).set r (ad r, .inl (cT 0, n, .inl (fun i => iN (if i = j.toNat then a else M r i)))) := by
    refine wsOf_set' (arr_spec ha) (fun k hk => mset_ne k hk) ?_
    rw [mset_fun]
    rfl
  rw [← e1] at j7 j8
  exact hK _ _ _ _ h ad H1 locs1 als i1 i2 i3 i4 i5 i6 j7 j8 j9
theorem sn_bastore (hKK : va_K D vwCl (tyL cT) s) (hx : p.tables.exec = Jvm.exec) (hb : c.code = cc) (hdg : decode cc pc = .ok (.bastore, 1)) (hK : ∀ ls st Z M, K ls st Z M → SimS p l e R s m args below meth c Qf D cT A nL ad0 n0 (pc + 1) ls st Z M) (h : wpi C X mc ms J Rt .bastore x K ls st Z M) : SimS p l e R s m args below meth c Qf D cT A nL ad0 n0 pc ls st Z M := by
  obtain ⟨a, st, rfl, h⟩ := pI_spec h
  obtain ⟨j, st, rfl, h⟩ := pI_spec h
  obtain ⟨r, st, rfl, h⟩ := pR_spec h
  intro ad H locs als i1 i2 i3 i4 i5 i6 i7 i8 i9
  obtain ⟨t, n, f, ha, h1, h2, ht, h⟩ := gA_spec h
  rcases ht with rfl | ⟨rfl, hz⟩
  · rw [if_pos rfl] at h
    refine va_bast hx hb hKK i7 i8 i9 r 1 (ws_ar ha) rfl (iN_in h1 h2) hdg (fun H1 locs1 j7 j8 j9 => ?_)
    have hbb : vp_nar .byte (iN a) = iN (bByt a) := by rw [vp_nar_byte, bByt, iN_of]
    rw [iN_clamp h1 h2, hbb, ← upd_iN] at j7 j8
    have e1 : wsOf cT ad Z.1 (mset M r j.toNat (bByt a)) = (wsOf cT ad Z.1 M).set r (ad r, .inl (cT 1, n, .inl (fun i => iN (if i = j.toNat then bByt a else M r i)))) := by
      refine wsOf_set' (arr_spec ha) (fun k hk => mset_ne k hk) ?_
      rw [mset_fun]
      rfl
    rw [← e1] at j7 j8
    exact hK _ _ _ _ h ad H1 locs1 als i1 i2 i3 i4 i5 i6 j7 j8 j9
  · rw [if_neg (by decide)] at h
    refine va_zast hx hb hKK i7 i8 i9 r 2 (ws_ar ha) rfl (iN_in h1 h2) hdg (fun H1 locs1 j7 j8 j9 => ?_)
    have hbb : vp_nar .boolean (iN a) = iN a := by rcases hz with rfl | rfl <;> decide
    rw [iN_clamp h1 h2, hbb, ← upd_iN] at j7 j8
    have e1 : wsOf cT ad Z.1 (mset M r j.toNat a) = (wsOf cT ad Z.1 M).set r (ad r, .inl (cT 2, n, .inl (fun i => iN (if i = j.toNat then a else M r i)))) := by
      refine wsOf_set' (arr_spec ha) (fun k hk => mset_ne k hk) ?_
      rw [mset_fun]
      rfl
    rw [← e1] at j7 j8
    exact hK _ _ _ _ h ad H1 locs1 als i1 i2 i3 i4 i5 i6 j7 j8 j9
theorem sn_lastore (hKK : va_K D vwCl (tyL cT) s) (hx : p.tables.exec = Jvm.exec) (hb : c.code = cc) (hdg : decode cc pc = .ok (.lastore, 1)) (hK : ∀ ls st Z M, K ls st Z M → SimS p l e R s m args below meth c Qf D cT A nL ad0 n0 (pc + 1) ls st Z M) (h : wpi C X mc ms J Rt .lastore x K ls st Z M) : SimS p l e R s m args below meth c Qf D cT A nL ad0 n0 pc ls st Z M := by
  obtain ⟨a, st, rfl, h⟩ := pL_spec h
  obtain ⟨j, st, rfl, h⟩ := pI_spec h
  obtain ⟨r, st, rfl, h⟩ := pR_spec h
  intro ad H locs als i1 i2 i3 i4 i5 i6 i7 i8 i9
  obtain ⟨t, n, f, ha, h1, h2, rfl, h⟩ := gA_spec h
  refine va_last hx hb hKK i7 i8 i9 r 3 (ws_ar ha) rfl (iN_in h1 h2) hdg (fun H1 locs1 j7 j8 j9 => ?_)
  rw [iN_clamp h1 h2, ← upd_jN] at j7 j8
  have e1 : wsOf cT ad Z.1 (mset M r j.toNat a) = (wsOf cT ad Z.1 M).set r (ad r, .inl (cT 3, n, .inr (.inl (fun i => jN (if i = j.toNat then a else M r i))))) := by
    refine wsOf_set' (arr_spec ha) (fun k hk => mset_ne k hk) ?_
    rw [mset_fun]
    rfl
  rw [← e1] at j7 j8
  exact hK _ _ _ _ h ad H1 locs1 als i1 i2 i3 i4 i5 i6 j7 j8 j9
theorem wfS_setA {sh : List SC} (h : wfS sh) {r n z j : Nat} {f : Nat → Option Nat} (hsh : sh[r]? = some (Sum.inl (4, n, f))) (hz : z < sh.length) : wfS (sh.set r (Sum.inl (4, n, fun i => if i = j then some z else f i))) := by
  intro i x hx
  rw [List.length_set]
  rw [List.getElem?_set] at hx
  by_cases hi : r = i
  · rw [if_pos hi] at hx
    split at hx
    · cases hx
      intro i2 q hq
      have hq : (if i2 = j then some z else f i2) = some q := hq
      split at hq
      · cases hq; exact hz
      · exact h r _ hsh i2 q hq
    · cases hx
  · rw [if_neg hi] at hx
    exact h i x hx
theorem sn_aastore (hKK : va_K D vwCl (tyL cT) s) (hx : p.tables.exec = Jvm.exec) (hb : c.code = cc) (hdg : decode cc pc = .ok (.aastore, 1)) (hK : ∀ ls st Z M, K ls st Z M → SimS p l e R s m args below meth c Qf D cT A nL ad0 n0 (pc + 1) ls st Z M) (h : wpi C X mc ms J Rt .aastore x K ls st Z M) : SimS p l e R s m args below meth c Qf D cT A nL ad0 n0 pc ls st Z M := by
  obtain ⟨z, st, rfl, hq1⟩ := pR_spec h
  obtain ⟨j, st, rfl, hq2⟩ := pI_spec hq1
  obtain ⟨r, st, rfl, hq3⟩ := pR_spec hq2
  replace h := hq3
  intro ad H locs als i1 i2 i3 i4 i5 i6 i7 i8 i9
  cases ha : arr Z.1 r with
  | none => rw [ha] at h; exact h.elim
  | some q =>
    obtain ⟨t, n, f⟩ := q
    rw [ha] at h
    obtain ⟨rfl, h1, h2, hz, h⟩ := h
    obtain ⟨fs, hzs⟩ := cls_spec hz
    refine va_astq (r := (RX0, TX0, 7)) hx hb hKK i7 i8 i9 r 4 z 0 (ws_ar ha) rfl (ws_obj hzs) rfl (iN_in h1 h2) hdg (fun H1 locs1 j7 j8 j9 => ?_)
    rw [iN_clamp h1 h2] at j7 j8
    have e1 : wsOf cT ad (Z.1.set r (Sum.inl (4, n, fun z1 => if z1 = j.toNat then some z else f z1))) M = (wsOf cT ad Z.1 M).set r (ad r, .inl (cT 4, n, .inr (.inr (.inr (.inr (va_up (fun i => (f i).map ad) j.toNat (some (ad z)))))))) := by
      refine wsOf_set (arr_spec ha) (fun _ _ => rfl) ?_
      have : (fun i => (if i = j.toNat then some z else f i).map ad) = va_up (fun i => (f i).map ad) j.toNat (some (ad z)) := by
        funext i
        unfold va_up
        split <;> rfl
      rw [← this]
      rfl
    rw [← e1] at j7 j8
    have hl2 : (Z.1.set r (Sum.inl (4, n, fun z1 => if z1 = j.toNat then some z else f z1) : SC)).length = Z.1.length := List.length_set
    exact hK _ _ _ _ h ad H1 locs1 als (by dsimp only; rw [hl2]; exact i1) (by dsimp only; rw [hl2]; exact i2) (by dsimp only; rw [hl2]; exact i3) (wfS_setA i4 (arr_spec ha) (List.getElem?_eq_some_iff.mp hzs).1) i5 i6 j7 j8 j9
theorem tyL_at {t : Nat} (h : t < 6) : ∃ ty, (tyL cT)[t]? = some (cT t, ty) := by
  match t, h with
  | 0, _ => exact ⟨_, rfl⟩
  | 1, _ => exact ⟨_, rfl⟩
  | 2, _ => exact ⟨_, rfl⟩
  | 3, _ => exact ⟨_, rfl⟩
  | 4, _ => exact ⟨_, rfl⟩
  | 5, _ => exact ⟨_, rfl⟩
  | n + 6, h => omega
theorem sn_alen {b : Nat} (hKK : va_K D vwCl (tyL cT) s) (hX : ∀ q, X = some q → va_X b q.1 (fun j => iN (q.2 j)) s s.heap ∧ b < s.heap.size ∧ ¬ A b ∧ ad0 scr = b) (hx : p.tables.exec = Jvm.exec) (hb : c.code = cc) (hdg : decode cc pc = .ok (.arraylength, 1)) (hK : ∀ ls st Z M, K ls st Z M → SimS p l e R s m args below meth c Qf D cT A nL ad0 n0 (pc + 1) ls st Z M) (h : wpi C X mc ms J Rt .arraylength x K ls st Z M) : SimS p l e R s m args below meth c Qf D cT A nL ad0 n0 pc ls st Z M := by
  obtain ⟨r, st, rfl, hq1⟩ := pR_spec h
  replace h := hq1
  intro ad H locs als i1 i2 i3 i4 i5 i6 i7 i8 i9
  by_cases hr : r = scr
  · rw [if_pos hr] at h
    subst hr
    match X, h, hX with
    | none, h, _ => exact h.elim
    | some q, h, hX =>
      obtain ⟨h2, h⟩ := h
      obtain ⟨x1, x2, x3, x4⟩ := hX q rfl
      have hadb : ad scr = b := by rw [i1 scr (Or.inr (Nat.le_trans i3 (by decide))), x4]
      show W p l e R s m args below meth c H locs _ _ Qf (F0 m pc als (.ref (ad scr) :: st.map (cvV ad)))
      rw [hadb]
      refine va_slen hx hb x1 x2 x3 i9 hdg ?_
      rw [← Int32.ofInt_eq_ofNat]
      exact hK _ _ _ _ h ad H locs als i1 i2 i3 i4 i5 i6 i7 i8 i9
  · rw [if_neg hr] at h
    cases ha : arr Z.1 r with
    | none => rw [ha] at h; exact h.elim
    | some q =>
      obtain ⟨t, n, f⟩ := q
      rw [ha] at h
      obtain ⟨ht, h2, h⟩ := h
      obtain ⟨ty, hty⟩ := tyL_at (cT := cT) ht
      refine va_alen hx hb hKK i7 r t (ws_ar ha) hty (v := iN n) (Int32.ofInt_eq_ofNat).symm hdg ?_
      exact hK _ _ _ _ h ad H locs als i1 i2 i3 i4 i5 i6 i7 i8 i9
end SND2
end
section
/-! what isn't among the words that ride along -/
theorem va_AOA.moved {t : FieldType} {u U : State} (hvm : u.vm.Alike U.vm) (h : va_AOA t u) : va_AOA t U := Jvm.Stand.arrayOver_alikeB hvm h
def ExW (U : State) : Prop := va_AO "OwnSunday$Book" U ∧ va_AOA .int U ∧ ∀ (o ix : Nat) (q : Nat × Nat × Nat) (e : mz_E), mz_L.lookup (o, ix) = some q → q.2.1 ≠ 0 → mz_T[q.1]? = some e → va_Nw (.methodLinkNest (cnOf o) ix e.1 "OwnSunday") U
theorem ExW.warm {s U : State} (hW : s.WarmedH U.vm) (h : ExW s) : ExW U := ⟨h.1.moved hW.alike, h.2.1.moved hW.alike, fun o ix q e h1 h2 h3 => va_Nw.warmM hW (h.2.2 o ix q e h1 h2 h3)⟩
theorem ExW.same {s U : State} (hv : s.vm = U.vm) (h : ExW s) : ExW U := ⟨h.1.moved (by rw [hv]; exact Vm.Alike.refl _), h.2.1.moved (by rw [hv]; exact Vm.Alike.refl _), fun o ix q e h1 h2 h3 => va_Nw.same rfl hv (h.2.2 o ix q e h1 h2 h3)⟩
theorem mz_mk : ∀ {ci : Nat} {q : vw_C}, vwCl[ci]? = some q → Cond.instantiable q.1 q.2.2 ∈ mz_GW ∧ Cond.initialized q.1 ∈ mz_GW ∧ (newF ci).length = q.2.2
  | 0, _, h => by cases h; exact ⟨List.mem_filter.mpr ⟨by decide +kernel, rfl⟩, List.mem_filter.mpr ⟨by decide +kernel, rfl⟩, rfl⟩
  | 1, _, h => by cases h; exact ⟨List.mem_filter.mpr ⟨by decide +kernel, rfl⟩, List.mem_filter.mpr ⟨by decide +kernel, rfl⟩, rfl⟩
  | 2, _, h => by cases h; exact ⟨List.mem_filter.mpr ⟨by decide +kernel, rfl⟩, List.mem_filter.mpr ⟨by decide +kernel, rfl⟩, rfl⟩
  | 3, _, h => by cases h; exact ⟨List.mem_filter.mpr ⟨by decide +kernel, rfl⟩, List.mem_filter.mpr ⟨by decide +kernel, rfl⟩, rfl⟩
  | 4, _, h => by cases h; exact ⟨List.mem_filter.mpr ⟨by decide +kernel, rfl⟩, List.mem_filter.mpr ⟨by decide +kernel, rfl⟩, rfl⟩
  | 5, _, h => by cases h; exact ⟨List.mem_filter.mpr ⟨by decide +kernel, rfl⟩, List.mem_filter.mpr ⟨by decide +kernel, rfl⟩, rfl⟩
  | 6, _, h => by cases h; exact ⟨List.mem_filter.mpr ⟨by decide +kernel, rfl⟩, List.mem_filter.mpr ⟨by decide +kernel, rfl⟩, rfl⟩
  | _ + 7, _, h => by cases h
def newV (ci : Nat) : List Value := (newF ci).mapIdx (fvV id (fun _ => 0))
theorem newV_eq (ad : Nat → Nat) : ∀ ci : Nat, (newF ci).mapIdx (fvV ad (fun _ => 0)) = newV ci
  | 0 => rfl
  | 1 => rfl
  | 2 => rfl
  | 3 => rfl
  | 4 => rfl
  | 5 => rfl
  | 6 => rfl
  | _ + 7 => rfl
theorem newV_ok : ∀ {ci : Nat}, ci < 7 → ∀ j, j < (newF ci).length → defaultValue (tyN ci j) = vp_V (newV ci) j
  | 0, _ => by decide +kernel
  | 1, _ => by decide +kernel
  | 2, _ => by decide +kernel
  | 3, _ => by decide +kernel
  | 4, _ => by decide +kernel
  | 5, _ => by decide +kernel
  | 6, _ => by decide +kernel
  | _ + 7, h => absurd h (by omega)
theorem newF_ref : ∀ (ci : Nat) {j q : Nat}, (newF ci)[j]? ≠ some (some (some q))
  | 0, j, q => fun h => by have := List.mem_of_getElem? h; simp [newF] at this
  | 1, j, q => fun h => by have := List.mem_of_getElem? h; simp [newF] at this
  | 2, j, q => fun h => by have := List.mem_of_getElem? h; simp [newF] at this
  | 3, j, q => fun h => by have := List.mem_of_getElem? h; simp [newF] at this
  | 4, j, q => fun h => by have := List.mem_of_getElem? h; simp [newF] at this
  | 5, j, q => fun h => by have := List.mem_of_getElem? h; simp [newF] at this
  | 6, j, q => fun h => by have := List.mem_of_getElem? h; simp [newF] at this
  | _ + 7, j, q => fun h => by have := List.mem_of_getElem? h; simp [newF] at this
theorem elV_ad {cT : Nat → ClassId} {ad ad' : Nat → Nat} {g : Nat → Int} {n : Nat} (h : ∀ q, q < n → ad' q = ad q) {x : SC} (hx : wfC n x) : elV cT ad' g x = elV cT ad g x := by
  match x, hx with
  | Sum.inl (t, k, f), hx =>
    have e1 : (fun j => (f j).map ad') = fun j => (f j).map ad := by
      funext j
      cases hf : f j with
      | none => rfl
      | some q => simp only [Option.map_some]; rw [h q (hx j q hf)]
    show eA cT ad' g (t, k, f) = eA cT ad g (t, k, f)
    unfold eA
    dsimp only
    rw [e1]
  | Sum.inr (ci, fs), hx =>
    show Sum.inr (ci, fs.mapIdx (fvV ad' g)) = (Sum.inr (ci, fs.mapIdx (fvV ad g)) : va_E)
    congr 2
    apply List.ext_getElem?
    intro j
    rw [List.getElem?_mapIdx, List.getElem?_mapIdx]
    cases hf : fs[j]? with
    | none => rfl
    | some z =>
      match z, hf with
      | none, _ => rfl
      | some none, _ => rfl
      | some (some q), hf => simp only [Option.map_some, fvV]; rw [h q (hx j q hf)]
theorem wfC_mono {n n' : Nat} (h : n ≤ n') {x : SC} (hx : wfC n x) : wfC n' x := by
  match x, hx with
  | Sum.inl a, hx => exact fun j q hq => Nat.lt_of_lt_of_le (hx j q hq) h
  | Sum.inr a, hx => exact fun j q hq => Nat.lt_of_lt_of_le (hx j q hq) h
theorem wfS_app {sh : List SC} {xs : List SC} (h : wfS sh) (hx : ∀ x ∈ xs, wfC (sh.length + xs.length) x) : wfS (sh ++ xs) := by
  intro k x hk
  rw [List.length_append]
  by_cases hl : k < sh.length
  · rw [List.getElem?_append_left hl] at hk
    exact wfC_mono (by omega) (h k x hk)
  · rw [List.getElem?_append_right (by omega)] at hk
    exact hx x (List.mem_of_getElem? hk)
def adN (ad : Nat → Nat) (n q : Nat) : Nat → Nat := fun k => if k = n then q else ad k
theorem adN_ne (ad : Nat → Nat) {n q k : Nat} (h : k ≠ n) : adN ad n q k = ad k := if_neg h
theorem adN_eq (ad : Nat → Nat) (n q : Nat) : adN ad n q n = q := if_pos rfl
theorem mnew_ne {M : MM} {n k : Nat} (h : k ≠ n) : mnew M n k = M k := by funext j; simp [mnew, h]
theorem mnew_at (M : MM) (n : Nat) : mnew M n n = fun _ => 0 := by funext j; simp [mnew]
section SND3
variable {p : Program} {l : Launch} {e : Env} {R : Room} {s : State} {m : MethodId} {args : Array Value} {below : List Frame} {meth : Method} {c : Code} {Qf : State → Prop} {D : va_G} {cT : Nat → ClassId} {A : Nat → Prop} {nL : Nat} {ad0 : Nat → Nat} {n0 : Nat}
variable {cc : ByteArray} {C : CC} {X : XX} {mc ms : Nat} {J : Nat → KK} {Rt : RR} {x : Int} {K : KK} {ls : AL} {st : List AV} {Z : ZZ} {M : MM} {pc len o : Nat}
/-- one cell more -/
theorem grow1 {ad : Nat → Nat} {sh : List SC} {y : SC} {el : va_E} {q : Nat} (hwf : wfS sh) (he : elV cT (adN ad sh.length q) (fun _ => 0) y = el) : wsOf cT (adN ad sh.length q) (sh ++ [y]) (mnew M sh.length) = wsOf cT ad sh M ++ [(q, el)] :=
  wsOf_app (fun k hk => mnew_ne (by omega)) (fun k hk => adN_ne ad (by omega)) (adN_eq ad _ q) (by rw [mnew_at]; exact he) (fun k x hx => elV_ad (n := sh.length) (fun z hz => adN_ne ad (by omega)) (hwf k x hx))
/-- on with one cell more -/
theorem on1 {k' : Nat} {y : SC} {el : va_E} {ad : Nat → Nat} {H1 : Heap} {locs : List Loc} {als : Array Slot} {q a b : Nat} (hK : ∀ ls st Z M, K ls st Z M → SimS p l e R s m args below meth c Qf D cT A nL ad0 n0 (pc + k') ls st Z M) (h : K ls (vR Z.1.length :: st) (Z.1 ++ [y], a, b) (mnew M Z.1.length))
    (i1 : ∀ k, k < n0 ∨ Z.1.length ≤ k → ad k = ad0 k) (i2 : n0 ≤ Z.1.length) (i3 : Z.1.length < 100000) (i4 : wfS Z.1) (i5 : ls.length = nL) (i6 : LocR ad ls als) (hrs : rfs st Z.1.length (Z.1.length + 1)) (hrl : rfq ls Z.1.length (Z.1.length + 1)) (hy : wfC (Z.1.length + 1) y)
    (he : elV cT (adN ad Z.1.length q) (fun _ => 0) y = el) (j7 : va_P D vwCl (wsOf cT ad Z.1 M ++ [(q, el)]) H1) (j8 : va_D A (wsOf cT ad Z.1 M ++ [(q, el)])) (j9 : va_S A s.heap H1 locs) :
    W p l e R s m args below meth c H1 locs a b Qf (F0 m (pc + k') als (.ref q :: st.map (cvV ad))) := by
  rw [← grow1 i4 he] at j7 j8
  have hag : ∀ k, k < Z.1.length ∨ Z.1.length + 1 ≤ k → adN ad Z.1.length q k = ad k := fun k hk => adN_ne ad (by omega)
  have := hK _ _ _ _ h (adN ad Z.1.length q) H1 locs als (fun k hk => by
    dsimp only at hk
    rw [List.length_append, List.length_singleton] at hk
    rw [adN_ne ad (by omega)]
    exact i1 k (by omega)) (by dsimp only; rw [List.length_append]; omega) (by dsimp only; rw [List.length_append, List.length_singleton]; omega) (wfS_app i4 (fun x hx => by rw [List.mem_singleton.mp hx]; exact hy)) i5 (i6.mv hag hrl) j7 j8 j9
  rw [List.map_cons, rfs_mv hag hrs] at this
  simp only [cvV, adN_eq] at this
  exact this
theorem sn_new {ix : Nat} {q : Nat × Nat} (hown : s.vm.findClass (cnOf o) = some m.cls) (hts : ∀ w ∈ mz_GW, w.before args s = true) (hKK : va_K D vwCl (tyL cT) s) (hA : ∀ q, s.heap.size ≤ q → A q) (hRc : R.cells = mc) (hRs : R.slots = ms) (hq : mz_C.lookup (o, ix) = some q) (hlt : q.1 < 7) (hx : p.tables.exec = Jvm.exec) (hb : c.code = cc) (hdg : decode cc pc = .ok (.new ix, 3)) (hK : ∀ ls st Z M, K ls st Z M → SimS p l e R s m args below meth c Qf D cT A nL ad0 n0 (pc + 3) ls st Z M) (h : wpi C X mc ms J Rt (.new q.1) x K ls st Z M) : SimS p l e R s m args below meth c Qf D cT A nL ad0 n0 pc ls st Z M := by
  obtain ⟨h1, h2, h3, h4, h5, hk⟩ := h
  rcases mz_C_get hq with ⟨h6, -⟩ | ⟨r, hr, hlink⟩
  · omega
  obtain ⟨m1, m2, m3⟩ := mz_mk hr
  intro ad H locs als i1 i2 i3 i4 i5 i6 i7 i8 i9
  rw [m3] at h2 hk
  refine va_new (ci := q.1) (fs := newV q.1) hx hb hts (mz_in hr) (tyN q.1) (mz_cl hr).1 hown (hts _ hlink) (hts _ m1) (hts _ m2) hKK i7 i8 i9 hA hr (fun j hj => newV_ok hlt j (by rw [m3]; exact hj)) (by rw [hRc]; exact h1) (by rw [hRs]; exact h2) hdg (fun q5 H1 j7 j8 j9 => ?_)
  refine on1 hK hk i1 i2 h5 i4 i5 i6 h3 h4 ?_ ?_ j7 j8 j9
  · exact fun j z hz => absurd hz (newF_ref q.1)
  · show eO _ _ _ = _
    unfold eO
    rw [newV_eq]
theorem arr_cls {cA : ClassId} {t : Nat} {ty : FieldType} (hKK : va_K D vwCl (tyL cT) s) (hty : (tyL cT)[t]? = some (cT t, ty)) (hK2 : va_K D vwCl (tyL cT ++ [(cA, ty)]) s) : cA = cT t := by
  have h1 := (hKK.2 t _ hty).2
  have h2 := (hK2.2 6 (cA, ty) rfl).2
  unfold va_RA at h1 h2
  cases ty with
  | object C =>
    obtain ⟨_, _, _, _, _, h1⟩ := h1
    obtain ⟨_, _, _, _, _, h2⟩ := h2
    exact Option.some.inj (h2.symm.trans h1)
  | _ => exact Option.some.inj (h2.symm.trans h1)
theorem iN_nn {n : Int} (h0 : 0 ≤ n) (h1 : n ≤ 100000) : ¬ iN n < 0 ∧ (iN n).toNatClampNeg = n.toNat := by
  refine ⟨fun h => ?_, Int32.toNatClampNeg_ofInt_of_le (by omega) (by omega)⟩
  rw [← iN_0, iN_lt ⟨by omega, by omega⟩ rgI_0] at h
  omega
theorem mz_ac : Cond.arrayClass .int ∈ mz_GW ∧ Cond.arrayClass .byte ∈ mz_GW ∧ Cond.arrayClass .boolean ∈ mz_GW ∧ Cond.arrayClass .long ∈ mz_GW :=
  ⟨List.mem_filter.mpr ⟨by decide +kernel, rfl⟩, List.mem_filter.mpr ⟨by decide +kernel, rfl⟩, List.mem_filter.mpr ⟨by decide +kernel, rfl⟩, List.mem_filter.mpr ⟨by decide +kernel, rfl⟩⟩
theorem sn_newarray {t : ArrayType} (hts : ∀ w ∈ mz_GW, w.before args s = true) (hKK : va_K D vwCl (tyL cT) s) (hA : ∀ q, s.heap.size ≤ q → A q) (hRc : R.cells = mc) (hRs : R.slots = ms) (hx : p.tables.exec = Jvm.exec) (hb : c.code = cc) (hdg : decode cc pc = .ok (.newarray t, 2)) (hK : ∀ ls st Z M, K ls st Z M → SimS p l e R s m args below meth c Qf D cT A nL ad0 n0 (pc + 2) ls st Z M) (h : wpi C X mc ms J Rt (.newarray t) x K ls st Z M) : SimS p l e R s m args below meth c Qf D cT A nL ad0 n0 pc ls st Z M := by
  obtain ⟨n, st, rfl, hq1⟩ := pI_spec h
  replace h := hq1
  obtain ⟨h0, hn0, hn1, h1, h2, h3, h4, h5, hk⟩ := h
  obtain ⟨hm1, hm2, hm3, hm4⟩ := mz_ac
  intro ad H locs als i1 i2 i3 i4 i5 i6 i7 i8 i9
  obtain ⟨hnn, hcl⟩ := iN_nn hn0 hn1
  have hsub : n.toNat ≤ 100000 := by omega
  cases t with
  | int =>
    refine va_newa (atype := .int) (a0 := (n.toNat, .inl (fun _ => 0))) hx hb (hts _ hm1) rfl hKK i7 i8 i9 hA (fun _ => rfl) hnn hcl (by show n.toNat * 4 ≤ _; omega) (by rw [hRc]; exact h1) (by rw [hRs]; exact h2) hdg (fun q cA H1 hK2 j7 j8 j9 => ?_)
    rw [arr_cls (t := 0) hKK rfl hK2] at j7 j8
    exact on1 hK hk i1 i2 h5 i4 i5 i6 h3 h4 (fun j z hz => by cases hz) rfl j7 j8 j9
  | byte =>
    refine va_newa (atype := .byte) (a0 := (n.toNat, .inl (fun _ => 0))) hx hb (hts _ hm2) rfl hKK i7 i8 i9 hA (fun _ => rfl) hnn hcl (by show n.toNat * 1 ≤ _; omega) (by rw [hRc]; exact h1) (by rw [hRs]; exact h2) hdg (fun q cA H1 hK2 j7 j8 j9 => ?_)
    rw [arr_cls (t := 1) hKK rfl hK2] at j7 j8
    exact on1 hK hk i1 i2 h5 i4 i5 i6 h3 h4 (fun j z hz => by cases hz) rfl j7 j8 j9
  | boolean =>
    refine va_newa (atype := .boolean) (a0 := (n.toNat, .inl (fun _ => 0))) hx hb (hts _ hm3) rfl hKK i7 i8 i9 hA (fun _ => rfl) hnn hcl (by show n.toNat * 1 ≤ _; omega) (by rw [hRc]; exact h1) (by rw [hRs]; exact h2) hdg (fun q cA H1 hK2 j7 j8 j9 => ?_)
    rw [arr_cls (t := 2) hKK rfl hK2] at j7 j8
    exact on1 hK hk i1 i2 h5 i4 i5 i6 h3 h4 (fun j z hz => by cases hz) rfl j7 j8 j9
  | long =>
    refine va_newa (atype := .long) (a0 := (n.toNat, .inr (.inl (fun _ => 0)))) hx hb (hts _ hm4) rfl hKK i7 i8 i9 hA (fun _ => rfl) hnn hcl (by show n.toNat * 8 ≤ _; omega) (by rw [hRc]; exact h1) (by rw [hRs]; exact h2) hdg (fun q cA H1 hK2 j7 j8 j9 => ?_)
    rw [arr_cls (t := 3) hKK rfl hK2] at j7 j8
    exact on1 hK hk i1 i2 h5 i4 i5 i6 h3 h4 (fun j z hz => by cases hz) rfl j7 j8 j9
  | _ => exact absurd h0 (by decide)
theorem sn_anewarray {ix k0 : Nat} {q : Nat × Nat} (hE : ExW s) (hown : s.vm.findClass (cnOf o) = some m.cls) (hts : ∀ w ∈ mz_GW, w.before args s = true) (hKK : va_K D vwCl (tyL cT) s) (hA : ∀ q, s.heap.size ≤ q → A q) (hRc : R.cells = mc) (hRs : R.slots = ms) (hq : mz_C.lookup (o, ix) = some q) (hlt : q.1 = 0) (hx : p.tables.exec = Jvm.exec) (hb : c.code = cc) (hdg : decode cc pc = .ok (.anewarray ix, 3)) (hK : ∀ ls st Z M, K ls st Z M → SimS p l e R s m args below meth c Qf D cT A nL ad0 n0 (pc + 3) ls st Z M) (h : wpi C X mc ms J Rt (.anewarray k0) x K ls st Z M) : SimS p l e R s m args below meth c Qf D cT A nL ad0 n0 pc ls st Z M := by
  obtain ⟨n, st, rfl, hq1⟩ := pI_spec h
  replace h := hq1
  obtain ⟨hn0, hn1, h1, h2, h3, h4, h5, hk⟩ := h
  rcases mz_C_get hq with ⟨h6, -⟩ | ⟨r, hr, hlink⟩
  · omega
  rw [hlt] at hr
  cases hr
  intro ad H locs als i1 i2 i3 i4 i5 i6 i7 i8 i9
  obtain ⟨hnn, hcl⟩ := iN_nn hn0 hn1
  refine va_newq (C := "OwnSunday$Book") hx hb hown (hts _ hlink) hE.1 hKK i7 i8 i9 hA hnn hcl (by omega) (by rw [hRc]; exact h1) (by rw [hRs]; exact h2) hdg (fun q cA H1 hK2 j7 j8 j9 => ?_)
  rw [arr_cls (t := 4) hKK rfl hK2] at j7 j8
  exact on1 hK hk i1 i2 h5 i4 i5 i6 h3 h4 (fun j z hz => by cases hz) rfl j7 j8 j9
theorem sn_multi {ix k0 k1 : Nat} {q : Nat × Nat} (hE : ExW s) (hown : s.vm.findClass (cnOf o) = some m.cls) (hts : ∀ w ∈ mz_GW, w.before args s = true) (hKK : va_K D vwCl (tyL cT) s) (hA : ∀ q, s.heap.size ≤ q → A q) (hRc : R.cells = mc) (hRs : R.slots = ms) (hq : mz_C.lookup (o, ix) = some q) (hlt : q.1 = 100) (hx : p.tables.exec = Jvm.exec) (hb : c.code = cc) (hdg : decode cc pc = .ok (.multianewarray ix 2, 4)) (hK : ∀ ls st Z M, K ls st Z M → SimS p l e R s m args below meth c Qf D cT A nL ad0 n0 (pc + 4) ls st Z M) (h : wpi C X mc ms J Rt (.multianewarray k0 k1) x K ls st Z M) : SimS p l e R s m args below meth c Qf D cT A nL ad0 n0 pc ls st Z M := by
  obtain ⟨k, st, rfl, hq1⟩ := pI_spec h
  obtain ⟨n, st, rfl, hq2⟩ := pI_spec hq1
  replace h := hq2
  obtain ⟨rfl, hn0, hn1, h1, h2, h3, h4, h5, hk⟩ := h
  have hlink : Cond.classLink (cnOf o) ix ("[" ++ (FieldType.array .int).toString) ∈ mz_GW := by
    rcases mz_C_get hq with ⟨h6, h7⟩ | ⟨r, hr, -⟩
    · exact h7
    · rw [hlt] at hr; cases hr
  intro ad H locs als i1 i2 i3 i4 i5 i6 i7 i8 i9
  obtain ⟨hnn, hcl⟩ := iN_nn hn0 hn1
  have hcy : s.vm.findClass (FieldType.array .int).toString = some (cT 0) := (hKK.2 0 _ rfl).2
  refine va_mna (X := wsOf cT ad Z.1 M) (L := []) (f := fun _ => .inl (cT 0, 0, .inl (fun _ => 0))) (ty := .int) (cy := cT 0) (N' := 2) (K' := k.toNat) (z := (k.toNat, .inl (fun _ => 0))) hx hb hown (hts _ hlink) hE.2.1 (hts _ mz_ac.1) hcy hKK (by rw [show va_pl [] _ = [] from rfl, List.append_nil]; exact i7) (by rw [show va_pl [] _ = [] from rfl, List.append_nil]; exact i8) i9 hA (by decide) hnn (by decide) hcl (by omega) (by show k.toNat * 4 ≤ _; omega) (by omega) rfl rfl (by rw [hRc]; exact h1) (by rw [hRs]; exact h2) (fun c => arrV_new _ _ _) hdg (fun q r cA H1 hr1 hr2 hK2 j7 j8 j9 => ?_)
  rw [arr_cls (t := 5) hKK rfl hK2] at j7 j8
  have hw : (wsOf cT ad Z.1 M ++ [(q, .inl (cT 5, 2, .inr (.inr (.inr (.inr (fun i => if i < 2 then some (r i) else none))))))]) ++ va_pl ([] ++ (List.range 2).map r) (vr_up (fun _ => .inl (cT 0, 0, .inl (fun _ => 0))) ((List.range 2).map r) (.inl (cT 0, k.toNat, .inl (fun _ => 0))))
      = wsOf cT (adN (adN (adN ad Z.1.length q) (Z.1.length + 1) (r 0)) (Z.1.length + 2) (r 1)) (Z.1 ++ [Sum.inl (5, 2, fun j => if j < 2 then some (Z.1.length + 1 + j) else none), Sum.inl (0, k.toNat, mz_nul), Sum.inl (0, k.toNat, mz_nul)]) (mnew (mnew (mnew M Z.1.length) (Z.1.length + 1)) (Z.1.length + 2)) := by
    have hpl : va_pl ([] ++ (List.range 2).map r) (vr_up (fun _ => .inl (cT 0, 0, .inl (fun _ => 0))) ((List.range 2).map r) (.inl (cT 0, k.toNat, .inl (fun _ => 0)))) = [(r 0, (.inl (cT 0, k.toNat, .inl (fun _ => 0)) : va_E)), (r 1, .inl (cT 0, k.toNat, .inl (fun _ => 0)))] := by
      simp [va_pl, List.range, List.range.loop, vr_up]
    rw [hpl]
    generalize hA2 : adN (adN (adN ad Z.1.length q) (Z.1.length + 1) (r 0)) (Z.1.length + 2) (r 1) = ad2
    have b0 : ∀ z, z < Z.1.length → ad2 z = ad z := fun z hz => by rw [← hA2, adN_ne _ (by omega), adN_ne _ (by omega), adN_ne _ (by omega)]
    have b1 : ad2 Z.1.length = q := by rw [← hA2, adN_ne _ (by omega), adN_ne _ (by omega), adN_eq]
    have b2 : ad2 (Z.1.length + 1) = r 0 := by rw [← hA2, adN_ne _ (by omega), adN_eq]
    have b3 : ad2 (Z.1.length + 2) = r 1 := by rw [← hA2, adN_eq]
    apply List.ext_getElem?
    intro z
    rw [wsOf_get, List.append_assoc, List.singleton_append]
    by_cases hz : z < Z.1.length
    · rw [List.getElem?_append_left (by rw [wsOf_len]; exact hz), List.getElem?_append_left hz, wsOf_get, mnew_ne (by omega), mnew_ne (by omega), mnew_ne (by omega), b0 z hz]
      cases hzx : Z.1[z]? with
      | none => rfl
      | some y => simp only [Option.map_some]; rw [elV_ad (n := Z.1.length) b0 (i4 z y hzx)]
    · rw [List.getElem?_append_right (by rw [wsOf_len]; omega), List.getElem?_append_right (by omega), wsOf_len]
      by_cases z0 : z = Z.1.length
      · subst z0
        rw [Nat.sub_self, b1]
        show some (q, _) = some (q, _)
        congr 2
        show (Sum.inl _ : va_E) = eA cT ad2 _ _
        unfold eA
        dsimp only
        rw [if_neg (by decide), if_neg (by decide)]
        congr 7
        funext i
        by_cases hi : i < 2
        · rw [if_pos hi, if_pos hi]
          match i, hi with
          | 0, _ => show _ = some (ad2 (Z.1.length + 1)); rw [b2]
          | 1, _ => show _ = some (ad2 (Z.1.length + 2)); rw [b3]
        · rw [if_neg hi, if_neg hi]; rfl
      · by_cases z1 : z = Z.1.length + 1
        · subst z1
          rw [show Z.1.length + 1 - Z.1.length = 1 by omega, b2, mnew_ne (by omega), mnew_at]
          rfl
        · by_cases z2 : z = Z.1.length + 2
          · subst z2
            rw [show Z.1.length + 2 - Z.1.length = 2 by omega, b3, mnew_at]
            rfl
          · rw [List.getElem?_eq_none (by simp; omega), List.getElem?_eq_none (by simp; omega)]
            rfl
  rw [hw] at j7 j8
  have hag : ∀ z, z < Z.1.length ∨ Z.1.length + 3 ≤ z → (adN (adN (adN ad Z.1.length q) (Z.1.length + 1) (r 0)) (Z.1.length + 2) (r 1)) z = ad z := fun z hz => by rw [adN_ne _ (by omega), adN_ne _ (by omega), adN_ne _ (by omega)]
  have := hK _ _ _ _ hk _ H1 locs als (fun z hz => by
    dsimp only at hz
    rw [List.length_append] at hz
    rw [hag z (by simp at hz; omega)]
    exact i1 z (by simp at hz; omega)) (by dsimp only; rw [List.length_append]; omega) (by dsimp only; rw [List.length_append]; exact h5) (wfS_app i4 (fun x hx => by
      rcases List.mem_cons.mp hx with rfl | hx
      · intro j z hz
        have hz : (if j < 2 then some (Z.1.length + 1 + j) else none) = some z := hz
        split at hz
        · cases hz; simp; omega
        · cases hz
      · rcases List.mem_cons.mp hx with rfl | hx
        · exact fun j z hz => by cases hz
        · rw [List.mem_singleton.mp hx]
          exact fun j z hz => by cases hz)) i5 (i6.mv hag h4) j7 j8 j9
  rw [List.map_cons, rfs_mv hag h3] at this
  have hq0 : cvV (adN (adN (adN ad Z.1.length q) (Z.1.length + 1) (r 0)) (Z.1.length + 2) (r 1)) (vR Z.1.length) = .ref q := by
    show Value.ref _ = _
    rw [adN_ne _ (by omega), adN_ne _ (by omega), adN_eq]
  rw [hq0] at this
  rw [show Z.2.2 + 2 + 2 * k.toNat = Z.2.2 + (2 + 2 * k.toNat) by omega]
  exact this
end SND3
end
section
/-! natives, Math, Object(), calls -/
theorem mz_sys : Cond.native arraycopyName ∈ mz_GW ∧ Cond.static arraycopyName ∈ mz_GW ∧ Cond.initialized "java/lang/System" ∈ mz_GW ∧ Cond.initialized "java/lang/Math" ∈ mz_GW :=
  ⟨List.mem_filter.mpr ⟨by decide +kernel, rfl⟩, List.mem_filter.mpr ⟨by decide +kernel, rfl⟩, List.mem_filter.mpr ⟨by decide +kernel, rfl⟩, List.mem_filter.mpr ⟨by decide +kernel, rfl⟩⟩
theorem mz_math : Cond.static Lib.Math.max.name ∈ mz_GW ∧ Cond.code Lib.Math.max.name Lib.Math.max.code 2 (some .int) ∈ mz_GW ∧ Cond.static Lib.Math.min.name ∈ mz_GW ∧ Cond.code Lib.Math.min.name Lib.Math.min.code 2 (some .int) ∈ mz_GW :=
  ⟨List.mem_filter.mpr ⟨by decide +kernel, rfl⟩, List.mem_filter.mpr ⟨by decide +kernel, rfl⟩, List.mem_filter.mpr ⟨by decide +kernel, rfl⟩, List.mem_filter.mpr ⟨by decide +kernel, rfl⟩⟩
theorem mz_obj : Cond.instanceMethod objectInit ∈ mz_GW ∧ Cond.code objectInit ⟨#[0xb1]⟩ 1 none ∈ mz_GW :=
  ⟨List.mem_filter.mpr ⟨by decide +kernel, rfl⟩, List.mem_filter.mpr ⟨by decide +kernel, rfl⟩⟩
theorem mcpy_ne {M : MM} {sk dk sp dp n : Nat} (k : Nat) (h : k ≠ dk) : mcpy M sk dk sp dp n k = M k := by funext j; simp [mcpy, h]
theorem mcpy_at (M : MM) (sk dk sp dp n : Nat) : mcpy M sk dk sp dp n dk = fun j => if dp ≤ j ∧ j < dp + n then M sk (sp + (j - dp)) else M dk j := by funext j; simp [mcpy]
theorem cpy_iN (f g : Nat → Int) (sp dp n : Nat) : (fun j => iN (if dp ≤ j ∧ j < dp + n then f (sp + (j - dp)) else g j)) = va_cpy (fun j => iN (f j)) (fun j => iN (g j)) sp dp n := by
  funext j
  unfold va_cpy
  split <;> rfl
theorem cpy_jN (f g : Nat → Int) (sp dp n : Nat) : (fun j => jN (if dp ≤ j ∧ j < dp + n then f (sp + (j - dp)) else g j)) = va_cpy (fun j => jN (f j)) (fun j => jN (g j)) sp dp n := by
  funext j
  unfold va_cpy
  split <;> rfl
/-- a method's start and end in the machine itself -/
def PM (D : va_G) (cT : Nat → ClassId) (sh : List SC) (M : MM) (ad : Nat → Nat) (sz : Nat) : State → Prop := fun U =>
  U.heap.size = sz ∧ sh.length ≤ 100000 ∧ wfS sh ∧ va_P D vwCl (wsOf cT ad sh M) U.heap ∧ va_K D vwCl (tyL cT) U ∧ va_D (fun _ => True) (wsOf cT ad sh M) ∧ ExW U
def QM (D : va_G) (cT : Nat → ClassId) (ret : Option FieldType) (Post : PP) (sh : List SC) (ad : Nat → Nat) (A1 : Nat → Prop) : Array Value → State → Outcome → State → Prop := fun _ st oc t =>
  (∃ (r : Option AV) (sh' : List SC) (M' : MM) (ad' : Nat → Nat), oc = .returned (r.map (cvV ad')) ∧ rok ret r ∧ Post r sh' M' ∧ (∀ k, k < sh.length ∨ sh'.length ≤ k → ad' k = ad k) ∧ sh.length ≤ sh'.length ∧ sh'.length ≤ 100000 ∧ wfS sh' ∧ va_P D vwCl (wsOf cT ad' sh' M') t.heap ∧ va_D A1 (wsOf cT ad' sh' M')) ∧ va_F A1 st t
def MetS (l : Launch) (D : va_G) (cT : Nat → ClassId) (d : Nat) (C : CC) : Prop := ∀ (z : Nat) (a : List AV) (sh : List SC) (M : MM) (k n : Nat) (Post : PP), C z a sh M k n Post → ∀ e : mz_E, mz_T[z]? = some e → z < 163 → ∀ (ad : Nat → Nat) (sz : Nat),
  Met l e.1 (Cond.code e.1 e.2.1 e.2.2.1 e.2.2.2.1 :: mz_GW) ({ frames := d, cells := k, slots := n, locals := 33 * d }) (va_Pc (a.map (cvV ad)) (PM D cT sh M ad sz)) (QM D cT e.2.2.2.1 Post sh ad (va_A (wsOf cT ad sh M) sz)) k n (va_A (wsOf cT ad sh M) sz)
theorem PM_blind {D : va_G} {cT : Nat → ClassId} {sh : List SC} {M : MM} {ad : Nat → Nat} {sz : Nat} {av : List Value} : FrameBlind (va_Pc av (PM D cT sh M ad sz)) := by
  intro a U g mk h
  obtain ⟨q0, q1, q2, q3, qP, qK, qD, qE⟩ := h
  exact ⟨q0, q1, q2, q3, qP, va_K.moved (u := U) (U := U.calling g mk a) (Vm.Alike.refl U.vm) qK, qD, qE.same rfl⟩
theorem okM_spec {e : mz_E} (h : mz_okM e = true) : Cond.initialized e.1.cls ∈ mz_GW ∧ e.1.cls ≠ "java/lang/invoke/MethodHandle" ∧ e.1.cls ≠ "java/lang/invoke/VarHandle" ∧ (parseMethodDescriptor e.1.desc).map (fun d => d.parameters.length) = some e.2.2.2.2.2.2.1 ∧ plainName e.1.cls = true ∧ e.2.2.1 ≤ 14 ∧ mz_cn[e.2.2.2.2.2.1]? = some e.1.cls ∧
    (e.2.2.2.2.1 = 0 → Cond.static e.1 ∈ mz_GW) ∧ (e.2.2.2.2.1 = 1 → Cond.instanceMethod e.1 ∈ mz_GW ∧ Cond.selects e.1.cls e.1 e.1 ∈ mz_GW ∧ ∃ q : vw_C, vwCl[e.2.2.2.2.2.1]? = some q ∧ q.1 = e.1.cls) ∧ (e.2.2.2.2.1 = 2 → Cond.instanceMethod e.1 ∈ mz_GW ∧ e.1.name = "<init>" ∧ e.2.2.2.1 = none) := by
  obtain ⟨y, b, L, r, kd, ow, n, p1, p2, p3, p4⟩ := e
  simp only [mz_okM, Bool.and_eq_true, decide_eq_true_eq] at h
  obtain ⟨⟨⟨⟨⟨⟨⟨h1, h2⟩, h3⟩, h4⟩, h5⟩, h6⟩, h7⟩, h8⟩ := h
  refine ⟨mz_gw h1 rfl, h2, h3, h4, h5, h6, h7, fun h9 => ?_, fun h9 => ?_, fun h9 => ?_⟩
  · dsimp only at h9
    subst h9
    rw [if_pos rfl, decide_eq_true_eq] at h8
    exact mz_gw h8 rfl
  · dsimp only at h9
    subst h9
    rw [if_neg (by decide), if_pos rfl] at h8
    simp only [Bool.and_eq_true, decide_eq_true_eq] at h8
    refine ⟨mz_gw h8.1.1 rfl, mz_gw h8.1.2 rfl, ?_⟩
    have h9 := h8.2
    cases hq : vwCl[ow]? with
    | none => rw [hq] at h9; cases h9
    | some q => rw [hq] at h9; exact ⟨q, rfl, Option.some.inj h9⟩
  · dsimp only at h9
    subst h9
    rw [if_neg (by decide), if_neg (by decide)] at h8
    simp only [Bool.and_eq_true, decide_eq_true_eq] at h8
    exact ⟨mz_gw h8.1.1.2 rfl, h8.1.2, h8.2⟩
section SND4
variable {p : Program} {l : Launch} {e : Env} {R : Room} {s : State} {m : MethodId} {args : Array Value} {below : List Frame} {meth : Method} {c : Code} {Qf : State → Prop} {D : va_G} {cT : Nat → ClassId} {A : Nat → Prop} {nL : Nat} {ad0 : Nat → Nat} {n0 : Nat}
variable {cc : ByteArray} {C : CC} {X : XX} {mc ms : Nat} {J : Nat → KK} {Rt : RR} {x : Int} {K : KK} {ls : AL} {st : List AV} {Z : ZZ} {M : MM} {pc len o d : Nat}
theorem sn_copy {ix : Nat} (hlink : Cond.methodLink (cnOf o) ix arraycopyName ∈ mz_GW) (hml : c.maxLocals = nL) (hR : 1 ≤ R.frames ∧ 33 ≤ R.locals) (hown : s.vm.findClass (cnOf o) = some m.cls) (hts : ∀ w ∈ mz_GW, w.before args s = true) (hKK : va_K D vwCl (tyL cT) s) (hx : p.tables.exec = Jvm.exec) (hb : c.code = cc) (hdg : decode cc pc = .ok (.invokestatic ix, 3)) (hK : ∀ ls st Z M, K ls st Z M → SimS p l e R s m args below meth c Qf D cT A nL ad0 n0 (pc + 3) ls st Z M) (h : wpi C X mc ms J Rt (.invokestatic 1000) x K ls st Z M) : SimS p l e R s m args below meth c Qf D cT A nL ad0 n0 pc ls st Z M := by
  obtain ⟨n, st, rfl, hq1⟩ := pI_spec h
  obtain ⟨dp, st, rfl, hq2⟩ := pI_spec hq1
  obtain ⟨dk, st, rfl, hq3⟩ := pR_spec hq2
  obtain ⟨sp, st, rfl, hq4⟩ := pI_spec hq3
  obtain ⟨sk, st, rfl, hq5⟩ := pR_spec hq4
  clear hq1 hq2 hq3 hq4 h
  intro ad H locs als i1 i2 i3 i4 i5 i6 i7 i8 i9
  cases ha : arr Z.1 sk with
  | none => rw [ha] at hq5; exact hq5.elim
  | some a =>
    cases hd : arr Z.1 dk with
    | none => rw [ha, hd] at hq5; obtain ⟨_, _, _⟩ := a; exact hq5.elim
    | some b =>
      obtain ⟨t, n0', f⟩ := a
      obtain ⟨t1, n1, f1⟩ := b
      rw [ha, hd] at hq5
      obtain ⟨rfl, ht, k1, k2, k3, k4, k5, k6, k7, rfl, h⟩ := hq5
      have hsz : c.maxLocals = als.size := by rw [hml, i6.1, i5]
      have c1 := iN_nn k1 (by omega)
      have c2 := iN_nn k2 (by omega)
      have c3 := iN_nn k3 (by omega)
      have hloc : (List.map (fun v : Value => v.category) (List.map (cvV ad) [])).sum + (nativeFrameWords "java/lang/System" "arraycopy" 5 + 11) ≤ R.locals := by
        show 0 + (nativeFrameWords "java/lang/System" "arraycopy" 5 + 11) ≤ R.locals
        exact Nat.le_trans (by decide) hR.2
      rcases ht with rfl | rfl
      · refine va_copyi (ty := .int) (n0 := n0') (n1 := n1) hx hb hsz hown (hts _ hlink) (hts _ mz_sys.1) (hts _ mz_sys.2.1) (hts _ mz_sys.2.2.1) hKK i7 i8 i9 sk dk 0 0 (ws_ar ha) (ws_ar hd) rfl rfl rfl c1.1 c2.1 c3.1 (by rw [c1.2, c3.2]; omega) (by rw [c2.2, c3.2]; omega) (fun _ _ => rfl) hR.1 hloc hdg (fun H1 locs1 j7 j8 j9 => ?_)
        rw [c1.2, c2.2, c3.2, ← cpy_iN] at j7 j8
        have e1 : wsOf cT ad Z.1 (mcpy M sk dk sp.toNat dp.toNat n.toNat) = (wsOf cT ad Z.1 M).set dk (ad dk, .inl (cT 0, n1, .inl (fun j => iN (if dp.toNat ≤ j ∧ j < dp.toNat + n.toNat then M sk (sp.toNat + (j - dp.toNat)) else M dk j)))) := by
          refine wsOf_set' (arr_spec hd) (fun k hk => mcpy_ne k hk) ?_
          rw [mcpy_at]
          rfl
        rw [← e1] at j7 j8
        exact hK _ _ _ _ h ad H1 locs1 als i1 i2 i3 i4 i5 i6 j7 j8 j9
      · refine va_copyl (ty := .long) (n0 := n0') (n1 := n1) hx hb hsz hown (hts _ hlink) (hts _ mz_sys.1) (hts _ mz_sys.2.1) (hts _ mz_sys.2.2.1) hKK i7 i8 i9 sk dk 3 3 (ws_ar ha) (ws_ar hd) rfl rfl rfl c1.1 c2.1 c3.1 (by rw [c1.2, c3.2]; omega) (by rw [c2.2, c3.2]; omega) (fun _ _ => rfl) hR.1 hloc hdg (fun H1 locs1 j7 j8 j9 => ?_)
        rw [c1.2, c2.2, c3.2, ← cpy_jN] at j7 j8
        have e1 : wsOf cT ad Z.1 (mcpy M sk dk sp.toNat dp.toNat n.toNat) = (wsOf cT ad Z.1 M).set dk (ad dk, .inl (cT 3, n1, .inr (.inl (fun j => jN (if dp.toNat ≤ j ∧ j < dp.toNat + n.toNat then M sk (sp.toNat + (j - dp.toNat)) else M dk j))))) := by
          refine wsOf_set' (arr_spec hd) (fun k hk => mcpy_ne k hk) ?_
          rw [mcpy_at]
          rfl
        rw [← e1] at j7 j8
        exact hK _ _ _ _ h ad H1 locs1 als i1 i2 i3 i4 i5 i6 j7 j8 j9
theorem sn_max {ix : Nat} (hlink : Cond.methodLink (cnOf o) ix Lib.Math.max.name ∈ mz_GW) (hml : c.maxLocals = nL) (hR : 1 ≤ R.frames ∧ 33 ≤ R.locals) (hRc : R.cells = mc) (hRs : R.slots = ms) (hown : s.vm.findClass (cnOf o) = some m.cls) (hts : ∀ w ∈ mz_GW, w.before args s = true) (hx : p.tables.exec = Jvm.exec) (hb : c.code = cc) (hdg : decode cc pc = .ok (.invokestatic ix, 3)) (hK : ∀ ls st Z M, K ls st Z M → SimS p l e R s m args below meth c Qf D cT A nL ad0 n0 (pc + 3) ls st Z M) (h : wpi C X mc ms J Rt (.invokestatic 1002) x K ls st Z M) : SimS p l e R s m args below meth c Qf D cT A nL ad0 n0 pc ls st Z M := by
  have h : pI st fun b st => pI st fun a st => rgI a ∧ rgI b ∧ cats st ≤ 8 ∧ Z.2.1 ≤ mc ∧ Z.2.2 ≤ ms ∧ K ls (vI (max a b) :: st) Z M := h
  obtain ⟨b, st, rfl, hq1⟩ := pI_spec h
  obtain ⟨a, st, rfl, hq2⟩ := pI_spec hq1
  clear hq1 h
  obtain ⟨ra, rb, k1, k2, k3, h⟩ := hq2
  intro ad H locs als i1 i2 i3 i4 i5 i6 i7 i8 i9
  have hsz : c.maxLocals = als.size := by rw [hml, i6.1, i5]
  refine va_mmax hx hb hsz hown (hts _ hlink) (hts _ mz_math.1) (hts _ mz_sys.2.2.2) (hts _ mz_math.2.1) hR.1 (by rw [cvV_cats]; omega) (by rw [hRc]; exact k2) (by rw [hRs]; exact k3) hdg ?_
  have e1 : (if iN a < iN b then iN b else iN a) = iN (max a b) := by
    by_cases hab : a < b
    · rw [if_pos ((iN_lt ra rb).mpr hab), Int.max_eq_right (by omega)]
    · rw [if_neg (fun z => hab ((iN_lt ra rb).mp z)), Int.max_eq_left (by omega)]
  rw [e1]
  exact hK _ _ _ _ h ad H locs als i1 i2 i3 i4 i5 i6 i7 i8 i9
theorem sn_min {ix : Nat} (hlink : Cond.methodLink (cnOf o) ix Lib.Math.min.name ∈ mz_GW) (hml : c.maxLocals = nL) (hR : 1 ≤ R.frames ∧ 33 ≤ R.locals) (hRc : R.cells = mc) (hRs : R.slots = ms) (hown : s.vm.findClass (cnOf o) = some m.cls) (hts : ∀ w ∈ mz_GW, w.before args s = true) (hx : p.tables.exec = Jvm.exec) (hb : c.code = cc) (hdg : decode cc pc = .ok (.invokestatic ix, 3)) (hK : ∀ ls st Z M, K ls st Z M → SimS p l e R s m args below meth c Qf D cT A nL ad0 n0 (pc + 3) ls st Z M) (h : wpi C X mc ms J Rt (.invokestatic 1003) x K ls st Z M) : SimS p l e R s m args below meth c Qf D cT A nL ad0 n0 pc ls st Z M := by
  have h : pI st fun b st => pI st fun a st => rgI a ∧ rgI b ∧ cats st ≤ 8 ∧ Z.2.1 ≤ mc ∧ Z.2.2 ≤ ms ∧ K ls (vI (min a b) :: st) Z M := h
  obtain ⟨b, st, rfl, hq1⟩ := pI_spec h
  obtain ⟨a, st, rfl, hq2⟩ := pI_spec hq1
  clear hq1 h
  obtain ⟨ra, rb, k1, k2, k3, h⟩ := hq2
  intro ad H locs als i1 i2 i3 i4 i5 i6 i7 i8 i9
  have hsz : c.maxLocals = als.size := by rw [hml, i6.1, i5]
  refine va_mmin hx hb hsz hown (hts _ hlink) (hts _ mz_math.2.2.1) (hts _ mz_sys.2.2.2) (hts _ mz_math.2.2.2) hR.1 (by rw [cvV_cats]; omega) (by rw [hRc]; exact k2) (by rw [hRs]; exact k3) hdg ?_
  have e1 : (if iN b < iN a then iN b else iN a) = iN (min a b) := by
    by_cases hab : b < a
    · rw [if_pos ((iN_lt rb ra).mpr hab), Int.min_eq_right (by omega)]
    · rw [if_neg (fun z => hab ((iN_lt rb ra).mp z)), Int.min_eq_left (by omega)]
  rw [e1]
  exact hK _ _ _ _ h ad H locs als i1 i2 i3 i4 i5 i6 i7 i8 i9
theorem sn_objinit {ix : Nat} (hlink : Cond.methodLink (cnOf o) ix objectInit ∈ mz_GW) (hml : c.maxLocals = nL) (hR : 1 ≤ R.frames ∧ 33 ≤ R.locals) (hown : s.vm.findClass (cnOf o) = some m.cls) (hts : ∀ w ∈ mz_GW, w.before args s = true) (hx : p.tables.exec = Jvm.exec) (hb : c.code = cc) (hdg : decode cc pc = .ok (.invokespecial ix, 3)) (hK : ∀ ls st Z M, K ls st Z M → SimS p l e R s m args below meth c Qf D cT A nL ad0 n0 (pc + 3) ls st Z M) (h : wpi C X mc ms J Rt (.invokespecial 1001) x K ls st Z M) : SimS p l e R s m args below meth c Qf D cT A nL ad0 n0 pc ls st Z M := by
  have h : pR st fun _ st => cats st ≤ 8 ∧ K ls st Z M := h
  obtain ⟨r, st, rfl, hq1⟩ := pR_spec h
  clear h
  obtain ⟨k1, h⟩ := hq1
  intro ad H locs als i1 i2 i3 i4 i5 i6 i7 i8 i9
  refine W.objInit hx hb hown (hts _ hlink) (hts _ mz_obj.1) (hts _ mz_obj.2) rfl (by show als.size = _; rw [hml, i6.1, i5]) rfl hdg hR.1 (by show 2 * 0 + _ + 12 ≤ _; rw [cvV_cats]; omega) ?_
  exact hK _ _ _ _ h ad H locs als i1 i2 i3 i4 i5 i6 i7 i8 i9
/-- behind a call -/
theorem call_go {z n k1 n1 : Nat} {ad : Nat → Nat} {H : Heap} {locs : List Loc} {als : Array Slot} {a : Array Value} {st0 : List Value} {ret : Option FieldType} (hA : ∀ q, s.heap.size ≤ q → A q) (hK : ∀ ls st Z M, K ls st Z M → SimS p l e R s m args below meth c Qf D cT A nL ad0 n0 (pc + 3) ls st Z M)
    (hrun : va_Run p l e R s m args below meth c H locs Z.2.1 Z.2.2 k1 n1 (F0 m pc als st0) ((st.drop n).map (cvV ad)) (QM D cT ret (fun r sh M' => (sh.length = Z.1.length ∨ (rfs (st.drop n) Z.1.length sh.length ∧ rfq ls Z.1.length sh.length)) ∧ K ls (r.toList ++ st.drop n) (sh, Z.2.1 + k1, Z.2.2 + n1) M') Z.1 ad (va_A (wsOf cT ad Z.1 M) H.size) a) (va_A (wsOf cT ad Z.1 M) H.size))
    (i1 : ∀ k, k < n0 ∨ Z.1.length ≤ k → ad k = ad0 k) (i2 : n0 ≤ Z.1.length) (i5 : ls.length = nL) (i6 : LocR ad ls als) (i8 : va_D A (wsOf cT ad Z.1 M)) (i9 : va_S A s.heap H locs) : W p l e R s m args below meth c H locs Z.2.1 Z.2.2 Qf (F0 m pc als st0) := by
  intro T hT XX
  obtain ⟨v, st₀, t, T', L, h0, X', hL, e1, e2, ⟨⟨r, sh', M', ad', hv, -, ⟨hlen, hk⟩, hag, hle, hmax, hwf, hP, hD⟩, hz, hkk⟩, hst⟩ := hrun T hT XX
  have hfree : ∀ q, va_A (wsOf cT ad Z.1 M) H.size q → A q := fun q hq => by
    rcases hq with ⟨k, el, hq⟩ | hq
    · exact i8.2 k _ hq
    · exact hA q (Nat.le_trans i9.1 hq)
  cases hv
  rw [h0] at hz hkk
  have hag2 : ∀ k, k < Z.1.length ∨ sh'.length ≤ k → ad' k = ad k := hag
  have hmv : (st.drop n).map (cvV ad') = (st.drop n).map (cvV ad) ∧ LocR ad' ls als := by
    rcases hlen with hlen | ⟨h1, h2⟩
    · have : ad' = ad := funext (fun k => hag k (by omega))
      rw [this]
      exact ⟨rfl, i6⟩
    · exact ⟨rfs_mv hag2 h1, i6.mv hag2 h2⟩
  have := hK _ _ _ _ hk ad' T'.heap (locs ++ L) als (fun k hk => by
    dsimp only at hk
    rw [hag k (by omega)]
    exact i1 k (by omega)) (by dsimp only; omega) hmax hwf i5 hmv.2 (by rw [e1]; exact hP) (hD.weaken (fun k q _ h => hfree q.1 h)) ⟨Nat.le_trans i9.1 (by rw [e1]; exact hz), fun q h1 h2 => by rw [e1, hkk q (Nat.lt_of_lt_of_le h1 i9.1) (fun z => h2 (hfree q z))]; exact i9.2.1 q h1 h2, fun q hq => by
      rcases List.mem_append.mp hq with h | h
      · exact i9.2.2 q h
      · exact hfree _ (hL q h)⟩ T' rfl X'
  obtain ⟨t2, a1, b1⟩ := this
  refine ⟨t2, hst t2 ?_, b1⟩
  have hstk : (r.toList ++ st.drop n).map (cvV ad') = (r.map (cvV ad')).toList ++ (st.drop n).map (cvV ad) := by
    rw [List.map_append, hmv.1]
    cases r <;> rfl
  rw [hstk] at a1
  exact a1
/-- the stack at a call -/
theorem take_rev {n : Nat} {a : List AV} (h : (st.take n).reverse = a) : st = a.reverse ++ st.drop n := by
  rw [← h, List.reverse_reverse, List.take_append_drop]
theorem call_pre {sh : List SC} {ad : Nat → Nat} {H : Heap} {av : List Value} {a : Array Value} (hKK : va_K D vwCl (tyL cT) s) (hE : ExW s) (hav : a = av.toArray) (i3 : sh.length ≤ 100000) (i4 : wfS sh) (i7 : va_P D vwCl (wsOf cT ad sh M) H) (i8 : va_D A (wsOf cT ad sh M)) : ∀ U : State, U.heap = H → s.WarmedH U.vm → va_Pc av (PM D cT sh M ad H.size) a U := by
  intro U hU hW
  exact ⟨hav, by rw [hU], i3, i4, by rw [hU]; exact i7, va_K.moved hW.alike hKK, i8.weaken (fun _ _ _ _ => trivial), hE.warm hW⟩
theorem good_ws {e : mz_E} (h : Cond.code e.1 e.2.1 e.2.2.1 e.2.2.2.1 ∈ mz_GW) : GoodIn mz_GW (Cond.code e.1 e.2.1 e.2.2.1 e.2.2.2.1 :: mz_GW) := by
  intro w hw
  rcases List.mem_cons.mp hw with rfl | hw
  · exact ⟨h, good_of_word rfl⟩
  · exact mz_goodIn w hw
theorem np_of {z : Nat} {ez : mz_E} (h : mz_T[z]? = some ez) : npOf z = if ez.2.2.2.2.1 = 0 then ez.2.2.2.2.2.2.1 else ez.2.2.2.2.2.2.1 + 1 := by unfold npOf; rw [h]
theorem kd_of {z : Nat} {ez : mz_E} (h : mz_T[z]? = some ez) : kdOf z = ez.2.2.2.2.1 := by unfold kdOf; rw [h]
theorem sn_static {ix z : Nat} {ez : mz_E} (hC : MetS l D cT d C) (hz : mz_T[z]? = some ez) (hlt : z < 163) (hkd : kdOf z = 0) (hlink : Cond.methodLink (cnOf o) ix ez.1 ∈ mz_GW) (hE : ExW s) (hml : c.maxLocals = nL) (hRc : R.cells = mc) (hRs : R.slots = ms) (hR : d + 1 ≤ R.frames ∧ 33 * (d + 1) ≤ R.locals) (hown : s.vm.findClass (cnOf o) = some m.cls) (hts : ∀ w ∈ mz_GW, w.before args s = true) (hKK : va_K D vwCl (tyL cT) s) (hA : ∀ q, s.heap.size ≤ q → A q) (hx : p.tables.exec = Jvm.exec) (hb : c.code = cc) (hdg : decode cc pc = .ok (.invokestatic ix, 3)) (hK : ∀ ls st Z M, K ls st Z M → SimS p l e R s m args below meth c Qf D cT A nL ad0 n0 (pc + 3) ls st Z M) (h : wpc C mc ms z (npOf z) K ls st Z M) : SimS p l e R s m args below meth c Qf D cT A nL ad0 n0 pc ls st Z M := by
  obtain ⟨h1, h2, k1, n1, h3, h4, h⟩ := h
  obtain ⟨hcode, hok⟩ := mz_T_get hz hlt
  obtain ⟨w1, w2, w3, w4, w5, w6, w7, w8, w9, w10⟩ := okM_spec hok
  rw [kd_of hz] at hkd
  have hnp : npOf z = ez.2.2.2.2.2.2.1 := by rw [np_of hz, if_pos hkd]
  intro ad H locs als i1 i2 i3 i4 i5 i6 i7 i8 i9
  have hM := hC z _ Z.1 M k1 n1 _ h ez hz hlt ad H.size
  refine call_go (n := npOf z) (z := z) hA hK (va_runS (As := ((st.take (npOf z)).reverse).map (cvV ad)) (nL := nL) (Ts := mz_GW) (n := npOf z) ⟨hx, hb, hml, hown, hts⟩ hM ⟨callB_of _ hts (good_ws hcode) rfl rfl rfl (hts _ w1) (hts _ hlink) ⟨w2, w3, by rw [w4, hnp]⟩ ⟨hR.1, by dsimp only; omega⟩, hts _ (w8 hkd)⟩ ⟨PM_blind, call_pre hKK hE rfl i3 i4 i7 i8⟩ rfl (by rw [List.length_map, List.length_reverse, List.length_take]; omega) (by show als.size = nL; rw [i6.1, i5]) ?_ (by show 2 * 0 + _ ≤ 8; rw [cvV_cats]; omega) hdg ⟨by rw [hRc]; exact h3, by rw [hRs]; exact h4⟩) i1 i2 i5 i6 i8 i9
  show st.map (cvV ad) = _
  rw [← List.map_reverse, ← List.map_append, List.reverse_reverse, List.take_append_drop]
theorem rev_cons {n : Nat} (hn : 1 ≤ n) (hl : n ≤ st.length) : ∃ v as, (st.take n).reverse = v :: as ∧ as.length = n - 1 ∧ st[n - 1]? = some v ∧ st = as.reverse ++ v :: st.drop n := by
  cases hr : (st.take n).reverse with
  | nil =>
    have := congrArg List.length hr
    rw [List.length_reverse, List.length_take] at this
    have h0 : min n st.length = 0 := this
    omega
  | cons v as =>
    have hlen : as.length = n - 1 := by
      have := congrArg List.length hr
      rw [List.length_reverse, List.length_take, List.length_cons] at this
      omega
    have hst := take_rev hr
    rw [List.reverse_cons, List.append_assoc, List.singleton_append] at hst
    refine ⟨v, as, rfl, hlen, ?_, hst⟩
    rw [hst, List.getElem?_append_right (by rw [List.length_reverse]; omega), List.length_reverse, hlen, Nat.sub_self]
    rfl
theorem sn_virtual {ix z : Nat} {ez : mz_E} (hC : MetS l D cT d C) (hz : mz_T[z]? = some ez) (hlt : z < 163) (hkd : kdOf z = 1) (hlink : Cond.methodLink (cnOf o) ix ez.1 ∈ mz_GW) (hE : ExW s) (hml : c.maxLocals = nL) (hRc : R.cells = mc) (hRs : R.slots = ms) (hR : d + 1 ≤ R.frames ∧ 33 * (d + 1) ≤ R.locals) (hown : s.vm.findClass (cnOf o) = some m.cls) (hts : ∀ w ∈ mz_GW, w.before args s = true) (hKK : va_K D vwCl (tyL cT) s) (hA : ∀ q, s.heap.size ≤ q → A q) (hx : p.tables.exec = Jvm.exec) (hb : c.code = cc) (hdg : decode cc pc = .ok (.invokevirtual ix, 3)) (hK : ∀ ls st Z M, K ls st Z M → SimS p l e R s m args below meth c Qf D cT A nL ad0 n0 (pc + 3) ls st Z M) (hrc : rcv Z.1 st (npOf z - 1) z) (h : wpc C mc ms z (npOf z) K ls st Z M) : SimS p l e R s m args below meth c Qf D cT A nL ad0 n0 pc ls st Z M := by
  obtain ⟨h1, h2, k1, n1, h3, h4, h⟩ := h
  obtain ⟨hcode, hok⟩ := mz_T_get hz hlt
  obtain ⟨w1, w2, w3, w4, w5, w6, w7, w8, w9, w10⟩ := okM_spec hok
  rw [kd_of hz] at hkd
  obtain ⟨w11, w12, cq, w13, w14⟩ := w9 hkd
  have hnp : npOf z = ez.2.2.2.2.2.2.1 + 1 := by rw [np_of hz, if_neg (by omega)]
  obtain ⟨v, as, r1, r2, r3, r4⟩ := rev_cons (st := st) (n := npOf z) (by omega) h1
  unfold rcv at hrc
  rw [r3, hz] at hrc
  obtain ⟨r, hv, hcl⟩ := gR_spec hrc
  cases hv
  obtain ⟨fs, hsh⟩ := cls_spec hcl
  rw [r1] at h
  intro ad H locs als i1 i2 i3 i4 i5 i6 i7 i8 i9
  have hM := hC z _ Z.1 M k1 n1 _ h ez hz hlt ad H.size
  refine call_go (n := npOf z) (z := z) hA hK (va_runV (As := as.map (cvV ad)) (b := ad r) (C := ez.1.cls) (nL := nL) (Ts := mz_GW) (n := ez.2.2.2.2.2.2.1) ⟨hx, hb, hml, hown, hts⟩ hM ⟨callB_of _ hts (good_ws hcode) rfl rfl rfl (hts _ w1) (hts _ hlink) ⟨w2, w3, w4⟩ ⟨hR.1, by dsimp only; omega⟩, hts _ w11, hts _ w12⟩ ⟨PM_blind, ?_, call_pre hKK hE rfl i3 i4 i7 i8⟩ rfl (by rw [List.length_map]; omega) (by show als.size = nL; rw [i6.1, i5]) ?_ (by show 2 * 0 + _ ≤ 8; rw [cvV_cats]; omega) hdg ⟨by rw [hRc]; exact h3, by rw [hRs]; exact h4⟩) i1 i2 i5 i6 i8 i9
  · rw [← w14]
    exact va_recv hKK i7 w13 (ws_obj hsh)
  · show st.map (cvV ad) = _
    rw [← List.map_reverse]
    conv => lhs; rw [r4]
    rw [List.map_append]
    rfl
theorem sn_special {ix z : Nat} {ez : mz_E} {qn : Nat} (hC : MetS l D cT d C) (hz : mz_T[z]? = some ez) (hlt : z < 163) (hkd : kdOf z = 2) (hlink : qn = 0 → Cond.methodLink (cnOf o) ix ez.1 ∈ mz_GW) (hnest : qn ≠ 0 → va_Nw (.methodLinkNest (cnOf o) ix ez.1 "OwnSunday") s) (hE : ExW s) (hml : c.maxLocals = nL) (hRc : R.cells = mc) (hRs : R.slots = ms) (hR : d + 1 ≤ R.frames ∧ 33 * (d + 1) ≤ R.locals) (hown : s.vm.findClass (cnOf o) = some m.cls) (hts : ∀ w ∈ mz_GW, w.before args s = true) (hKK : va_K D vwCl (tyL cT) s) (hA : ∀ q, s.heap.size ≤ q → A q) (hx : p.tables.exec = Jvm.exec) (hb : c.code = cc) (hdg : decode cc pc = .ok (.invokespecial ix, 3)) (hK : ∀ ls st Z M, K ls st Z M → SimS p l e R s m args below meth c Qf D cT A nL ad0 n0 (pc + 3) ls st Z M) (hrc : gR st[npOf z - 1]? (fun _ => True)) (h : wpc C mc ms z (npOf z) K ls st Z M) : SimS p l e R s m args below meth c Qf D cT A nL ad0 n0 pc ls st Z M := by
  obtain ⟨h1, h2, k1, n1, h3, h4, h⟩ := h
  obtain ⟨hcode, hok⟩ := mz_T_get hz hlt
  obtain ⟨w1, w2, w3, w4, w5, w6, w7, w8, w9, w10⟩ := okM_spec hok
  rw [kd_of hz] at hkd
  obtain ⟨w11, w12, w13⟩ := w10 hkd
  have hnp : npOf z = ez.2.2.2.2.2.2.1 + 1 := by rw [np_of hz, if_neg (by omega)]
  obtain ⟨v, as, r1, r2, r3, r4⟩ := rev_cons (st := st) (n := npOf z) (by omega) h1
  rw [r3] at hrc
  obtain ⟨r, hv, -⟩ := gR_spec hrc
  cases hv
  rw [r1] at h
  intro ad H locs als i1 i2 i3 i4 i5 i6 i7 i8 i9
  have hM := hC z _ Z.1 M k1 n1 _ h ez hz hlt ad H.size
  have hg := good_ws hcode
  rw [w13] at hM hg
  have hstk : (F0 m pc als (st.map (cvV ad))).stack = (as.map (cvV ad)).reverse ++ .ref (ad r) :: (st.drop (npOf z)).map (cvV ad) := by
    show st.map (cvV ad) = _
    rw [← List.map_reverse]
    conv => lhs; rw [r4]
    rw [List.map_append]
    rfl
  by_cases hqn : qn = 0
  · exact call_go (n := npOf z) (z := z) hA hK (va_runI (As := as.map (cvV ad)) (b := ad r) (nL := nL) (Ts := mz_GW) (n := ez.2.2.2.2.2.2.1) ⟨hx, hb, hml, hown, hts⟩ hM ⟨callB_of _ hts hg rfl rfl rfl (hts _ w1) (hts _ (hlink hqn)) ⟨w2, w3, w4⟩ ⟨hR.1, by dsimp only; omega⟩, w12, hts _ w11⟩ ⟨PM_blind, call_pre hKK hE rfl i3 i4 i7 i8⟩ rfl (by rw [List.length_map]; omega) (by show als.size = nL; rw [i6.1, i5]) hstk (by show 2 * 0 + _ ≤ 8; rw [cvV_cats]; omega) hdg ⟨by rw [hRc]; exact h3, by rw [hRs]; exact h4⟩) i1 i2 i5 i6 i8 i9
  · exact call_go (n := npOf z) (z := z) hA hK (va_runIN (As := as.map (cvV ad)) (b := ad r) (nL := nL) (Ts := mz_GW) (n := ez.2.2.2.2.2.2.1) (host := "OwnSunday") ⟨hx, hb, hml, hown, hts⟩ hM ⟨va_cnB _ hts hg rfl rfl rfl (hnest hqn) (hts _ w1) ⟨w2, w3, w4⟩ ⟨hR.1, by dsimp only; omega⟩, w12, hts _ w11⟩ ⟨PM_blind, call_pre hKK hE rfl i3 i4 i7 i8⟩ rfl (by rw [List.length_map]; omega) (by show als.size = nL; rw [i6.1, i5]) hstk (by show 2 * 0 + _ ≤ 8; rw [cvV_cats]; omega) hdg ⟨by rw [hRc]; exact h3, by rw [hRs]; exact h4⟩) i1 i2 i5 i6 i8 i9
end SND4
end
section
/-! every instruction: S is closed; a method that runs in the small machine meets its contract -/
def mz_okK1 (q : (Nat × Nat) × (Int × Nat)) : Bool := match mz_cn[q.1.1]? with
  | some own => if q.1.1 = 8 then decide (lw_tbl[q.2.2]? = some (Cond.constant own q.1.2 (iN q.2.1))) else decide (lw_tbl[q.2.2]? = some (Cond.constantLong own q.1.2 (jN q.2.1)))
  | none => false
set_option maxRecDepth 100000 in
theorem mz_K1_ok : mz_K.all mz_okK1 = true := by decide +kernel
theorem mz_K_get1 {o ix : Nat} {q : Int × Nat} (h : mz_K.lookup (o, ix) = some q) (ho : o = 8) : Jvm.Cond.constant (cnOf o) ix (iN q.1) ∈ mz_GW := by
  have h1 := List.all_eq_true.mp mz_K1_ok _ (lk_mem h)
  unfold mz_okK1 at h1
  dsimp only at h1
  cases hc : mz_cn[o]? with
  | none => rw [hc] at h1; simp at h1
  | some own =>
    rw [hc] at h1
    dsimp only at h1
    rw [if_pos ho, decide_eq_true_eq] at h1
    rw [cnOf_of hc]
    exact mz_gw h1 rfl
theorem mz_K_get2 {o ix : Nat} {q : Int × Nat} (h : mz_K.lookup (o, ix) = some q) (ho : o ≠ 8) : Jvm.Cond.constantLong (cnOf o) ix (jN q.1) ∈ mz_GW := by
  have h1 := List.all_eq_true.mp mz_K1_ok _ (lk_mem h)
  unfold mz_okK1 at h1
  dsimp only at h1
  cases hc : mz_cn[o]? with
  | none => rw [hc] at h1; simp at h1
  | some own =>
    rw [hc] at h1
    dsimp only at h1
    rw [if_neg ho, decide_eq_true_eq] at h1
    rw [cnOf_of hc]
    exact mz_gw h1 rfl
def Inv (s : State) (D : va_G) (cT : Nat → ClassId) (A : Nat → Prop) (ad0 : Nat → Nat) (n0 : Nat) (Z : ZZ) (M : MM) (ad : Nat → Nat) (H : Heap) (locs : List Loc) : Prop :=
  (∀ k, k < n0 ∨ Z.1.length ≤ k → ad k = ad0 k) ∧ n0 ≤ Z.1.length ∧ Z.1.length ≤ 100000 ∧ wfS Z.1 ∧ va_P D vwCl (wsOf cT ad Z.1 M) H ∧ va_D A (wsOf cT ad Z.1 M) ∧ va_S A s.heap H locs
theorem lk_np {q : Nat} : ((npOf q : Int)).toNat = npOf q := Int.toNat_natCast _
set_option maxHeartbeats 4000000 in
theorem clo_ok {p : Program} {l : Launch} {e : Env} {R : Room} {s : State} {m : MethodId} {args : Array Value} {below : List Frame} {meth : Method} {c : Code} {Qf : State → Prop} {D : va_G} {cT : Nat → ClassId} {A : Nat → Prop} {ad0 : Nat → Nat} {n0 : Nat} {C : CC} {X : XX} {mc ms y d b : Nat} {Rt : RR}
    (hx : p.tables.exec = Jvm.exec) (hb : c.code = mbOf y) (hml : c.maxLocals = mlOf y) (hown : s.vm.findClass (cnOf (ownOf y)) = some m.cls) (hts : ∀ w ∈ mz_GW, w.before args s = true) (hKK : va_K D vwCl (tyL cT) s) (hA : ∀ q, s.heap.size ≤ q → A q) (hE : ExW s) (hRc : R.cells = mc) (hRs : R.slots = ms) (hR : d + 1 ≤ R.frames ∧ 33 * (d + 1) ≤ R.locals) (hmn : nmOf y = "<init>" → meth.name = "<init>")
    (hX : ∀ q, X = some q → va_X b q.1 (fun j => iN (q.2 j)) s s.heap ∧ b < s.heap.size ∧ ¬ A b ∧ ad0 scr = b) (hC : MetS l D cT d C)
    (hrI : ∀ (a : Int) (Z : ZZ) (M : MM) (pc : Nat) (ad : Nat → Nat) (H : Heap) (locs : List Loc) (als : Array Slot), Rt (some (vI a)) Z M → Inv s D cT A ad0 n0 Z M ad H locs → decode (mbOf y) pc = .ok (.ireturn, 1) → W p l e R s m args below meth c H locs Z.2.1 Z.2.2 Qf (F0 m pc als [.int (iN a)]))
    (hrL : ∀ (a : Int) (Z : ZZ) (M : MM) (pc : Nat) (ad : Nat → Nat) (H : Heap) (locs : List Loc) (als : Array Slot), Rt (some (vL a)) Z M → Inv s D cT A ad0 n0 Z M ad H locs → decode (mbOf y) pc = .ok (.lreturn, 1) → W p l e R s m args below meth c H locs Z.2.1 Z.2.2 Qf (F0 m pc als [.long (jN a)]))
    (hrV : ∀ (Z : ZZ) (M : MM) (pc : Nat) (ad : Nat → Nat) (H : Heap) (locs : List Loc) (als : Array Slot), Rt none Z M → Inv s D cT A ad0 n0 Z M ad H locs → decode (mbOf y) pc = .ok (.return_, 1) → W p l e R s m args below meth c H locs Z.2.1 Z.2.2 Qf (F0 m pc als [])) :
    Clo C y X mc ms Rt (SimS p l e R s m args below meth c Qf D cT A (mlOf y) ad0 n0) := by
  intro C' J R' K pc i len i' x ls st Z M hCC hJ hR2 hK hdec hres hw
  have hC' : MetS l D cT d C' := fun z a sh M k n P h => hC z a sh M k n P (hCC _ _ _ _ _ _ _ h)
  have hR1 : 1 ≤ R.frames ∧ 33 ≤ R.locals := ⟨by omega, by omega⟩
  unfold res at hres
  split at hres
  case isFalse => cases hres
  rename_i hlen
  unfold res0 at hres
  split at hres
  · cases hres
    obtain rfl : len = 1 := by simpa [lenOK] using hlen
    exact sn_iload_n hx hb hdec hJ hK hw
  · cases hres
    obtain rfl : len = 1 := by simpa [lenOK] using hlen
    exact sn_lload_n hx hb hdec hJ hK hw
  · cases hres
    obtain rfl : len = 1 := by simpa [lenOK] using hlen
    exact sn_aload_n hx hb hdec hJ hK hw
  · cases hres
    obtain rfl : len = 1 := by simpa [lenOK] using hlen
    exact sn_istore_n hx hb hdec hJ hK hw
  · cases hres
    obtain rfl : len = 1 := by simpa [lenOK] using hlen
    exact sn_lstore_n hx hb hdec hJ hK hw
  · cases hres
    obtain rfl : len = 1 := by simpa [lenOK] using hlen
    exact sn_astore_n hx hb hdec hJ hK hw
  · cases hres
    obtain rfl : len = 2 := by simpa [lenOK] using hlen
    exact sn_iload hx hb hdec hJ hK hw
  · cases hres
    obtain rfl : len = 2 := by simpa [lenOK] using hlen
    exact sn_lload hx hb hdec hJ hK hw
  · cases hres
    obtain rfl : len = 2 := by simpa [lenOK] using hlen
    exact sn_aload hx hb hdec hJ hK hw
  · cases hres
    obtain rfl : len = 2 := by simpa [lenOK] using hlen
    exact sn_istore hx hb hdec hJ hK hw
  · cases hres
    obtain rfl : len = 2 := by simpa [lenOK] using hlen
    exact sn_lstore hx hb hdec hJ hK hw
  · cases hres
    obtain rfl : len = 2 := by simpa [lenOK] using hlen
    exact sn_astore hx hb hdec hJ hK hw
  · cases hres
    obtain rfl : len = 3 := by simpa [lenOK] using hlen
    exact sn_iinc hx hb hdec hJ hK hw
  · cases hres
    obtain rfl : len = 1 := by simpa [lenOK] using hlen
    exact sn_iconst hx hb hdec hJ hK hw
  · split at hres
    · rename_i hh
      cases hres
      obtain rfl : len = 2 := by simpa [lenOK] using hlen
      exact sn_bipush hh hx hb hdec hJ hK hw
    · cases hres
  · split at hres
    · rename_i hh
      cases hres
      obtain rfl : len = 3 := by simpa [lenOK] using hlen
      exact sn_sipush hh hx hb hdec hJ hK hw
    · cases hres
  · cases hres
    obtain rfl : len = 1 := by simpa [lenOK] using hlen
    exact sn_lconst rfl hx hb hdec hJ hK hw
  · split at hres
    · rename_i q hq
      split at hres
      · rename_i hh
        cases hres
        obtain rfl : len = 3 := by simpa [lenOK] using hlen
        exact sn_ldcw hown (hts _ (mz_K_get1 hq hh)) hx hb hdec hJ hK hw
      · cases hres
    · cases hres
  · split at hres
    · rename_i q hq
      split at hres
      · rename_i hh
        cases hres
        obtain rfl : len = 3 := by simpa [lenOK] using hlen
        exact sn_ldc2 hown (hts _ (mz_K_get2 hq hh)) hx hb hdec hJ hK hw
      · cases hres
    · cases hres
  · split at hres
    · rename_i hh
      cases hres
      obtain rfl : len = 3 := by simpa [lenOK] using hlen
      exact sn_goto hh hx hb hdec hJ hK hw
    · cases hres
  · split at hres
    · rename_i hh
      cases hres
      obtain rfl : len = 3 := by simpa [lenOK] using hlen
      exact sn_icmp hh hx hb hdec hJ hK hw
    · cases hres
  · split at hres
    · rename_i hh
      cases hres
      obtain rfl : len = 3 := by simpa [lenOK] using hlen
      exact sn_ifc hh hx hb hdec hJ hK hw
    · cases hres
  · split at hres
    · rename_i hh
      cases hres
      exact sn_table hh.1 hh.2.1 hh.2.2 hx hb hdec hJ hK hw
    · cases hres
  · split at hres
    · rename_i hh
      cases hres
      exact sn_lookup hh.1 hh.2.1 hh.2.2 hx hb hdec hJ hK hw
    · cases hres
  · split at hres
    · rename_i q hq
      cases hres
      obtain rfl : len = 3 := by simpa [lenOK] using hlen
      exact sn_getfield hown hts hKK hq hx hb hdec hK hw
    · cases hres
  · split at hres
    · rename_i q hq
      obtain rfl : len = 3 := by simpa [lenOK] using hlen
      split at hres
      · rename_i hpf
        cases hres
        exact sn_putfield hown hts hKK hq hpf hx hb hdec hK hw
      · rename_i hpf
        cases hres
        exact sn_putref hown hmn rfl hts hKK hq hpf hx hb hdec hK hw
      · cases hres
    · cases hres
  · split at hres
    · rename_i q hq
      split at hres
      · rename_i hh
        cases hres
        obtain rfl : len = 3 := by simpa [lenOK] using hlen
        exact sn_new hown hts hKK hA hRc hRs hq hh hx hb hdec hK hw
      · cases hres
    · cases hres
  · cases hres
    obtain rfl : len = 2 := by simpa [lenOK] using hlen
    exact sn_newarray hts hKK hA hRc hRs hx hb hdec hK hw
  · split at hres
    · rename_i q hq
      split at hres
      · rename_i hh
        cases hres
        obtain rfl : len = 3 := by simpa [lenOK] using hlen
        exact sn_anewarray hE hown hts hKK hA hRc hRs hq hh hx hb hdec hK hw
      · cases hres
    · cases hres
  · split at hres
    · rename_i q hq
      split at hres
      · rename_i hh
        obtain ⟨hh1, rfl⟩ := hh
        cases hres
        obtain rfl : len = 4 := by simpa [lenOK] using hlen
        exact sn_multi hE hown hts hKK hA hRc hRs hq hh1 hx hb hdec hK hw
      · cases hres
    · cases hres
  · split at hres
    · rename_i q hq
      split at hres
      · rename_i hh
        obtain ⟨hn, hh⟩ := hh
        cases hres
        obtain rfl : len = 3 := by simpa [lenOK] using hlen
        rcases mz_L_get hq with ⟨h1, h2⟩ | ⟨h1, h2⟩ | ⟨h1, h2⟩ | ⟨h1, h2⟩ | ⟨ez, h1, h2, h3, h4⟩
        · rw [h1] at hw
          exact sn_copy h2 hml hR1 hown hts hKK hx hb hdec hK hw
        · rw [h1] at hw
          exact sn_max h2 hml hR1 hRc hRs hown hts hx hb hdec hK hw
        · rw [h1] at hw
          exact sn_min h2 hml hR1 hRc hRs hown hts hx hb hdec hK hw
        · rw [h1] at hw
          exact absurd hw (fun h => h)
        · have hw2 : wpc C' mc ms q.1 (npOf q.1) K ls st Z M := by
            have : (if q.1 < 1000 then wpc C' mc ms q.1 ((npOf q.1 : Int)).toNat K ls st Z M else _) := hw
            rw [if_pos (by omega), lk_np] at this
            exact this
          exact sn_static hC' h1 h2 (by rcases hh with hh | hh | hh | hh <;> omega) (h3 hn) hE hml hRc hRs hR hown hts hKK hA hx hb hdec hK hw2
      · cases hres
    · cases hres
  · split at hres
    · rename_i q hq
      split at hres
      · rename_i hh
        obtain ⟨hn, hh, hlt⟩ := hh
        cases hres
        obtain rfl : len = 3 := by simpa [lenOK] using hlen
        rcases mz_L_get hq with ⟨h1, h2⟩ | ⟨h1, h2⟩ | ⟨h1, h2⟩ | ⟨h1, h2⟩ | ⟨ez, h1, h2, h3, h4⟩
        · omega
        · omega
        · omega
        · omega
        · have hw2 : rcv Z.1 st (((npOf q.1 : Int)).toNat - 1) q.1 ∧ wpc C' mc ms q.1 ((npOf q.1 : Int)).toNat K ls st Z M := hw
          rw [lk_np] at hw2
          exact sn_virtual hC' h1 h2 hh (h3 hn) hE hml hRc hRs hR hown hts hKK hA hx hb hdec hK hw2.1 hw2.2
      · cases hres
    · cases hres
  · split at hres
    · rename_i q hq
      split at hres
      · rename_i hh
        cases hres
        obtain rfl : len = 3 := by simpa [lenOK] using hlen
        rcases mz_L_get hq with ⟨h1, h2⟩ | ⟨h1, h2⟩ | ⟨h1, h2⟩ | ⟨h1, h2⟩ | ⟨ez, h1, h2, h3, h4⟩
        · omega
        · omega
        · omega
        · rw [h1] at hw
          exact sn_objinit h2 hml hR1 hown hts hx hb hdec hK hw
        · have hw2 : gR st[npOf q.1 - 1]? (fun _ => True) ∧ wpc C' mc ms q.1 (npOf q.1) K ls st Z M := by
            have : (if q.1 = 1001 then _ else gR st[((npOf q.1 : Int)).toNat - 1]? (fun _ => True) ∧ wpc C' mc ms q.1 ((npOf q.1 : Int)).toNat K ls st Z M) := hw
            rw [if_neg (by omega), lk_np] at this
            exact this
          exact sn_special (qn := q.2.1) hC' h1 h2 (by omega) h3 (fun hn => hE.2.2 _ _ q ez hq hn h1) hE hml hRc hRs hR hown hts hKK hA hx hb hdec hK hw2.1 hw2.2
      · cases hres
    · cases hres
  · cases hres
    obtain rfl : len = 1 := by simpa [lenOK] using hlen
    exact sn_iadd hx hb hdec hJ hK hw
  · cases hres
    obtain rfl : len = 1 := by simpa [lenOK] using hlen
    exact sn_isub hx hb hdec hJ hK hw
  · cases hres
    obtain rfl : len = 1 := by simpa [lenOK] using hlen
    exact sn_imul hx hb hdec hJ hK hw
  · cases hres
    obtain rfl : len = 1 := by simpa [lenOK] using hlen
    exact sn_idiv hx hb hdec hJ hK hw
  · cases hres
    obtain rfl : len = 1 := by simpa [lenOK] using hlen
    exact sn_irem hx hb hdec hJ hK hw
  · cases hres
    obtain rfl : len = 1 := by simpa [lenOK] using hlen
    exact sn_iand hx hb hdec hJ hK hw
  · cases hres
    obtain rfl : len = 1 := by simpa [lenOK] using hlen
    exact sn_ior hx hb hdec hJ hK hw
  · cases hres
    obtain rfl : len = 1 := by simpa [lenOK] using hlen
    exact sn_ixor hx hb hdec hJ hK hw
  · cases hres
    obtain rfl : len = 1 := by simpa [lenOK] using hlen
    exact sn_ishl hx hb hdec hJ hK hw
  · cases hres
    obtain rfl : len = 1 := by simpa [lenOK] using hlen
    exact sn_ishr hx hb hdec hJ hK hw
  · cases hres
    obtain rfl : len = 1 := by simpa [lenOK] using hlen
    exact sn_iushr hx hb hdec hJ hK hw
  · cases hres
    obtain rfl : len = 1 := by simpa [lenOK] using hlen
    exact sn_ladd hx hb hdec hJ hK hw
  · cases hres
    obtain rfl : len = 1 := by simpa [lenOK] using hlen
    exact sn_lsub hx hb hdec hJ hK hw
  · cases hres
    obtain rfl : len = 1 := by simpa [lenOK] using hlen
    exact sn_lmul hx hb hdec hJ hK hw
  · cases hres
    obtain rfl : len = 1 := by simpa [lenOK] using hlen
    exact sn_ldiv hx hb hdec hJ hK hw
  · cases hres
    obtain rfl : len = 1 := by simpa [lenOK] using hlen
    exact sn_lrem hx hb hdec hJ hK hw
  · cases hres
    obtain rfl : len = 1 := by simpa [lenOK] using hlen
    exact sn_land hx hb hdec hJ hK hw
  · cases hres
    obtain rfl : len = 1 := by simpa [lenOK] using hlen
    exact sn_lor hx hb hdec hJ hK hw
  · cases hres
    obtain rfl : len = 1 := by simpa [lenOK] using hlen
    exact sn_lshl hx hb hdec hJ hK hw
  · cases hres
    obtain rfl : len = 1 := by simpa [lenOK] using hlen
    exact sn_lshr hx hb hdec hJ hK hw
  · cases hres
    obtain rfl : len = 1 := by simpa [lenOK] using hlen
    exact sn_lushr hx hb hdec hJ hK hw
  · cases hres
    obtain rfl : len = 1 := by simpa [lenOK] using hlen
    exact sn_lcmp hx hb hdec hJ hK hw
  · cases hres
    obtain rfl : len = 1 := by simpa [lenOK] using hlen
    exact sn_i2l hx hb hdec hJ hK hw
  · cases hres
    obtain rfl : len = 1 := by simpa [lenOK] using hlen
    exact sn_l2i hx hb hdec hJ hK hw
  · cases hres
    obtain rfl : len = 1 := by simpa [lenOK] using hlen
    exact sn_i2b hx hb hdec hJ hK hw
  · cases hres
    obtain rfl : len = 1 := by simpa [lenOK] using hlen
    exact sn_dup hx hb hdec hJ hK hw
  · cases hres
    obtain rfl : len = 1 := by simpa [lenOK] using hlen
    exact sn_dup2 hx hb hdec hJ hK hw
  · cases hres
    obtain rfl : len = 1 := by simpa [lenOK] using hlen
    exact sn_pop hx hb hdec hJ hK hw
  · cases hres
    obtain rfl : len = 1 := by simpa [lenOK] using hlen
    exact sn_iaload hKK hX hx hb hdec hK hw
  · cases hres
    obtain rfl : len = 1 := by simpa [lenOK] using hlen
    exact sn_baload hKK hx hb hdec hK hw
  · cases hres
    obtain rfl : len = 1 := by simpa [lenOK] using hlen
    exact sn_laload hKK hx hb hdec hK hw
  · cases hres
    obtain rfl : len = 1 := by simpa [lenOK] using hlen
    exact sn_aaload hKK hx hb hdec hK hw
  · cases hres
    obtain rfl : len = 1 := by simpa [lenOK] using hlen
    exact sn_iastore hKK hx hb hdec hK hw
  · cases hres
    obtain rfl : len = 1 := by simpa [lenOK] using hlen
    exact sn_bastore hKK hx hb hdec hK hw
  · cases hres
    obtain rfl : len = 1 := by simpa [lenOK] using hlen
    exact sn_lastore hKK hx hb hdec hK hw
  · cases hres
    obtain rfl : len = 1 := by simpa [lenOK] using hlen
    exact sn_aastore hKK hx hb hdec hK hw
  · cases hres
    obtain rfl : len = 1 := by simpa [lenOK] using hlen
    exact sn_alen hKK hX hx hb hdec hK hw
  · cases hres
    obtain rfl : len = 1 := by simpa [lenOK] using hlen
    obtain ⟨a, st, rfl, hq1⟩ := pI_spec hw
    clear hw
    obtain ⟨rfl, hw⟩ := hq1
    intro ad H locs als i1 i2 i3 i4 i5 i6 i7 i8 i9
    exact hrI a Z M pc ad H locs als (hR2 _ _ _ hw) ⟨i1, i2, i3, i4, i7, i8, i9⟩ hdec
  · cases hres
    obtain rfl : len = 1 := by simpa [lenOK] using hlen
    obtain ⟨a, st, rfl, hq1⟩ := pL_spec hw
    clear hw
    obtain ⟨rfl, hw⟩ := hq1
    intro ad H locs als i1 i2 i3 i4 i5 i6 i7 i8 i9
    exact hrL a Z M pc ad H locs als (hR2 _ _ _ hw) ⟨i1, i2, i3, i4, i7, i8, i9⟩ hdec
  · cases hres
    obtain rfl : len = 1 := by simpa [lenOK] using hlen
    have hw2 : st = [] ∧ R' none Z M := hw
    clear hw
    obtain ⟨rfl, hw⟩ := hw2
    intro ad H locs als i1 i2 i3 i4 i5 i6 i7 i8 i9
    exact hrV Z M pc ad H locs als (hR2 _ _ _ hw) ⟨i1, i2, i3, i4, i7, i8, i9⟩ hdec
  · cases hres
end
section
/-! a method that runs in the small machine meets its contract in the machine itself -/
theorem lg_len (ad : Nat → Nat) : ∀ a : List AV, (lg_sl (a.map (cvV ad))).length = cats a
  | [] => rfl
  | v :: t => by
    have := lg_len ad t
    unfold lg_sl at this ⊢
    rw [List.map_cons, List.flatMap_cons, List.length_append, this, cats]
    congr 1
    rcases v with a | a | a <;> rfl
theorem sls_len : ∀ a : List AV, (sls a).length = cats a
  | [] => rfl
  | v :: t => by
    have := sls_len t
    rcases v with a | a | a <;> simp [sls, cats, cat, is2, this] <;> omega
theorem sls_args (ad : Nat → Nat) : ∀ (a : List AV) (n i k : Nat) (u : AV), lget (sls a ++ List.replicate n none) k = some u → (i + k, cvV ad u) ∈ lv_args i (a.map (cvV ad))
  | [], n, i, k, u, h => by
    exfalso
    have : ∀ (n k : Nat), lget (List.replicate n none) k = none := by
      intro n
      induction n with
      | zero => intro k; rfl
      | succ n ih => intro k; cases k with
        | zero => rfl
        | succ k => exact ih k
    rw [show sls [] = [] from rfl, List.nil_append, this] at h
    cases h
  | Sum.inl a :: t, n, i, 0, u, h => by cases h; exact List.mem_cons_self
  | Sum.inl a :: t, n, i, k + 1, u, h => by
    have := sls_args ad t n (i + 1) k u h
    rw [show i + 1 + k = i + (k + 1) by omega] at this
    exact List.mem_cons_of_mem _ this
  | Sum.inr (Sum.inr a) :: t, n, i, 0, u, h => by cases h; exact List.mem_cons_self
  | Sum.inr (Sum.inr a) :: t, n, i, k + 1, u, h => by
    have := sls_args ad t n (i + 1) k u h
    rw [show i + 1 + k = i + (k + 1) by omega] at this
    exact List.mem_cons_of_mem _ this
  | Sum.inr (Sum.inl a) :: t, n, i, 0, u, h => by cases h; exact List.mem_cons_self
  | Sum.inr (Sum.inl a) :: t, n, i, 1, u, h => by cases h
  | Sum.inr (Sum.inl a) :: t, n, i, k + 2, u, h => by
    have := sls_args ad t n (i + 2) k u h
    rw [show i + 2 + k = i + (k + 2) by omega] at this
    exact List.mem_cons_of_mem _ this
theorem ent_loc (ad : Nat → Nat) (a : List AV) {n : Nat} (h : cats a ≤ n) : LocR ad (entL n a) ((lg_sl (a.map (cvV ad)) ++ List.replicate (n - (lg_sl (a.map (cvV ad))).length) Slot.unset).toArray) := by
  have h1 := lv_entry (a.map (cvV ad)) (n := n) (by rw [lg_len]; exact h)
  refine ⟨?_, h1.2.1, fun q hq => ?_⟩
  · rw [h1.1]
    unfold entL
    rw [List.length_append, List.length_replicate, sls_len]
    omega
  · obtain ⟨k, u, h2, rfl⟩ := (llst_mem ad _ 0 q).mp hq
    exact h1.2.2 _ (sls_args ad a _ 0 k u h2)
theorem ent_len (a : List AV) {n : Nat} (h : cats a ≤ n) : (entL n a).length = n := by
  unfold entL
  rw [List.length_append, List.length_replicate, sls_len]
  omega
theorem rok_I {t : Option FieldType} {a : Int} (h : rok t (some (vI a))) : t = some .int ∨ (t = some .boolean ∧ (a = 0 ∨ a = 1)) := by
  match t, h with
  | none, h => exact h.elim
  | some .int, h => exact Or.inl rfl
  | some .boolean, h => exact Or.inr ⟨rfl, h⟩
  | some .byte, h => exact h.elim
  | some .char, h => exact h.elim
  | some .short, h => exact h.elim
  | some .long, h => exact h.elim
  | some .float, h => exact h.elim
  | some .double, h => exact h.elim
  | some (.object _), h => exact h.elim
  | some (.array _), h => exact h.elim
theorem rok_L {t : Option FieldType} {a : Int} (h : rok t (some (vL a))) : t = some .long := by
  match t, h with
  | none, h => exact h.elim
  | some .int, h => exact h.elim
  | some .boolean, h => exact h.elim
  | some .byte, h => exact h.elim
  | some .char, h => exact h.elim
  | some .short, h => exact h.elim
  | some .long, h => rfl
  | some .float, h => exact h.elim
  | some .double, h => exact h.elim
  | some (.object _), h => exact h.elim
  | some (.array _), h => exact h.elim
theorem rok_V {t : Option FieldType} (h : rok t none) : t = none := by
  match t, h with
  | none, h => rfl
  | some .int, h => exact h.elim
  | some .boolean, h => exact h.elim
  | some .byte, h => exact h.elim
  | some .char, h => exact h.elim
  | some .short, h => exact h.elim
  | some .long, h => exact h.elim
  | some .float, h => exact h.elim
  | some .double, h => exact h.elim
  | some (.object _), h => exact h.elim
  | some (.array _), h => exact h.elim
set_option maxHeartbeats 4000000 in
theorem met_run (l : Launch) (D : va_G) (cT : Nat → ClassId) : ∀ d : Nat, MetS l D cT d (Run d)
  | 0 => fun _ _ _ _ _ _ _ h => h.elim
  | d + 1 => by
    intro z a sh M k n Post hrun e he hz ad sz
    obtain ⟨hcode, hok⟩ := mz_T_get he hz
    obtain ⟨w1, w2, w3, w4, w5, w6, w7, w8, w9, w10⟩ := okM_spec hok
    have hmb : mbOf z = e.2.1 := by unfold mbOf; rw [he]
    have hml0 : mlOf z = e.2.2.1 := by unfold mlOf; rw [he]
    have hmr : mrOf z = e.2.2.2.1 := by unfold mrOf; rw [he]
    have hmo : ownOf z = e.2.2.2.2.2.1 := by unfold ownOf; rw [he]
    have hmn : nmOf z = e.1.name := by unfold nmOf; rw [he]
    refine Met.ofW (cc := e.2.1) (maxL := e.2.2.1) (ret := e.2.2.2.1) w5 rfl ?_
    intro p en s m args below meth c s₁ B hml hv
    obtain ⟨rfl, hsz, hlen, hwf, hP, hK, hD0, hE⟩ := hv
    have hx := B.exec
    have hb := B.bytes
    have hr := B.returns
    have hts0 := atoms_spec (ws := Cond.code e.1 e.2.1 e.2.2.1 e.2.2.2.1 :: mz_GW) B.pre
    have hts : ∀ w ∈ mz_GW, w.before (a.map (cvV ad)).toArray s = true := fun w hw => hts0 w (List.mem_cons_of_mem _ hw)
    have hown : s.vm.findClass (cnOf (ownOf z)) = some m.cls := by
      rw [hmo, cnOf_of w7]
      exact findClass_of_methodNamed B.named
    have hlocks := B.notSynchronized
    have hnm : nmOf z = "<init>" → meth.name = "<init>" := fun h => by
      rw [hmn] at h
      rw [← h]
      exact (name_of_methodNamed B.named B.method).1
    subst hsz
    have hD := hD0.self (sz := s.heap.size)
    generalize hAe : va_A (wsOf cT ad sh M) s.heap.size = A at hD ⊢
    have hA : ∀ q : Nat, s.heap.size ≤ q → A q := fun q h => by rw [← hAe]; exact Or.inr h
    have hS : va_S A s.heap s.heap [] := va_S.rf
    have hr2 : meth.sig.returnType = mrOf z := by rw [hmr]; exact hr
    have hclo : Clo (Run d) z none k n (Rtn z k n Post) (SimS p l en (headSpec (Cond.code e.1 e.2.1 e.2.2.1 e.2.2.2.1 :: mz_GW) { frames := d + 1, cells := k, slots := n, locals := 33 * (d + 1) }).room s m (a.map (cvV ad)).toArray below meth c (MQ below (QM D cT e.2.2.2.1 Post sh ad A) (a.map (cvV ad)).toArray s k n A) D cT A (mlOf z) ad sh.length) := by
      refine clo_ok (b := 0) hx (by rw [hmb]; exact hb) (by rw [hml0]; exact hml) hown hts hK hA hE rfl rfl ⟨Nat.le_refl _, Nat.le_refl _⟩ hnm (fun q hq => by cases hq) (met_run l D cT d) ?_ ?_ ?_
      · intro v Z M' pc ad' H locs als hR hI hdg
        obtain ⟨g1, g2, g3, g4⟩ := hR
        obtain ⟨j1, j2, j3, j4, j7, j8, j9⟩ := hI
        refine W.widen g1 g2 ?_
        have hq : ∀ t : State, t.heap = H → s.WarmedH t.vm → QM D cT e.2.2.2.1 Post sh ad A (a.map (cvV ad)).toArray s (.returned (some (.int (iN v)))) t := fun t ht hW => ⟨⟨some (vI v), Z.1, M', ad', rfl, by rw [← hmr]; exact g3, g4, j1, j2, j3, j4, by rw [ht]; exact j7, j8⟩, j9.F ht⟩
        rcases rok_I g3 with g5 | ⟨g5, g6⟩
        · exact W.iret hx (by rw [hmb]; exact hb) (by rw [hr2, g5]) hq j9.2.2 hdg
        · exact W.zret (ty := .boolean) hx (by rw [hmb]; exact hb) (by rw [hr2, g5]) (by rcases g6 with rfl | rfl <;> decide) hq j9.2.2 hdg
      · intro v Z M' pc ad' H locs als hR hI hdg
        obtain ⟨g1, g2, g3, g4⟩ := hR
        obtain ⟨j1, j2, j3, j4, j7, j8, j9⟩ := hI
        refine W.widen g1 g2 ?_
        have hq : ∀ t : State, t.heap = H → s.WarmedH t.vm → QM D cT e.2.2.2.1 Post sh ad A (a.map (cvV ad)).toArray s (.returned (some (.long (jN v)))) t := fun t ht hW => ⟨⟨some (vL v), Z.1, M', ad', rfl, by rw [← hmr]; exact g3, g4, j1, j2, j3, j4, by rw [ht]; exact j7, j8⟩, j9.F ht⟩
        exact W.lret hx (by rw [hmb]; exact hb) (by rw [hr2, rok_L g3]) hq j9.2.2 hdg
      · intro Z M' pc ad' H locs als hR hI hdg
        obtain ⟨g1, g2, g3, g4⟩ := hR
        obtain ⟨j1, j2, j3, j4, j7, j8, j9⟩ := hI
        refine W.widen g1 g2 ?_
        have hq : ∀ t : State, t.heap = H → s.WarmedH t.vm → QM D cT e.2.2.2.1 Post sh ad A (a.map (cvV ad)).toArray s (.returned none) t := fun t ht hW => ⟨⟨none, Z.1, M', ad', rfl, by rw [← hmr]; exact g3, g4, j1, j2, j3, j4, by rw [ht]; exact j7, j8⟩, j9.F ht⟩
        exact W.vret hx (by rw [hmb]; exact hb) (by rw [hr2, rok_V g3]) hq j9.2.2 hdg
    have hS0 := hrun.2 _ hclo ad s.heap [] ((lg_sl (a.map (cvV ad)) ++ List.replicate (e.2.2.1 - (lg_sl (a.map (cvV ad))).length) Slot.unset).toArray) (fun k _ => rfl) (Nat.le_refl _) hlen hwf (ent_len a hrun.1) (by rw [← hml0]; exact ent_loc ad a hrun.1) hP hD hS
    rw [lg_entry_eq]
    exact hS0
end
section
/-! THE CLAIM OUT OF ONE WALK OF THE LAW'S BODY. Your part is whole_start (and what it stands on); all else here is the same for every law, but numbers. -/
def R_law : String := "OwnSundayLaw"
def lw_P (b : Addr) (xs : List Int32) (args : Array Value) (s : State) : Prop := args = #[.ref b] ∧ s.IntsAt b xs ∧ xs.length ≤ 3072 ∧ (Jvm.Cond.and given_1 narrow_1).before args s = true
def lw_Q (_ : Array Value) (s : State) (o : Outcome) (t : State) : Prop := o = .returned (some (.int 1)) ∧ Framed s o t [] 600000 7302250
def lw_Z (below : List Frame) (a : Array Value) (s : State) : State → Prop := fun t => ∃ o, t.status = .running ∧ Ended t below o ∧ lw_Q a s o t
/-- the law's own end, with 1 on the stack, nothing written that was there before, its room as the claim has it -/
theorem lw_ret {p : Program} {l : Launch} {e : Env} {s : State} {m : MethodId} {below : List Frame} {meth : Method} {c : Code} {b : Nat} (hx : p.tables.exec = Jvm.exec) (hb : c.code = code) (hr : meth.sig.returnType = ret) (hlocks : meth.locks = false) {pc : Nat} {H : Heap} {ls : Array Slot} (hdg : decode code pc = .ok (.ireturn, 1)) : W p l e room_1 s m #[Value.ref b] below meth c H [] 600000 7302250 (lw_Z below #[Value.ref b] s) (F0 m pc ls [.int 1]) := by
  intro T hT X
  obtain ⟨fs, hret, hrun, hended, hW, hframe⟩ := X.leave (v := some (.int 1)) (hlocks := hlocks) (fun h => by rw [hr] at h; cases h)
  have hmeth' : T.vm.method? m = some meth := X.method'
  refine ⟨T.setFrames fs, ?_, .returned (some (.int 1)), hrun, hended, rfl, ⟨_, rfl⟩, hW, hframe⟩
  jvm_step X.here [X.here.top, hx, hb, hdg, hmeth', hr, ret, narrow_b1]
  (try refine ⟨rfl, ?_⟩); (try refine ⟨rfl, ?_⟩)
  first | (intro acts; rw [hret _ acts rfl rfl rfl]) | rw [hret _ _ rfl rfl rfl]
  exact Steps.refl _
/-- what holds at the law's entry: the machine, the code, the tables' words (any of lw_tbl by 'hts w (by decide +kernel)'), the script of L ints xs at the cell b, what the Statement gives of the start (any of its parts by flat_of_before) -/
def lw_At (p : Program) (s : State) (m : MethodId) (meth : Method) (c : Code) (b L : Nat) (xs : Nat → Int32) : Prop :=
  p.tables.exec = Jvm.exec ∧ c.code = code ∧ meth.sig.returnType = ret ∧ c.maxLocals = 4 ∧ s.vm.findClass R_law = some m.cls ∧ (∀ w ∈ lw_tbl, w.before #[Value.ref b] s = true) ∧ va_X b L xs s s.heap ∧ b < s.heap.size ∧ meth.locks = false ∧ (Jvm.Cond.and given_1 narrow_1).before #[Value.ref b] s = true
def RtL : RR := fun r Z _ => r = some (vI 1) ∧ Z.2.1 ≤ 600000 ∧ Z.2.2 ≤ 7302250
/-- the law in the small machine, from its entry -/
def LawOK (L : Nat) (xs : Nat → Int) : Prop := ∀ S : Nat → KK, Clo (Run 10) 163 (some (L, xs)) 600000 7302250 RtL S → S 0 [some (vR scr), none, none, none] [] ([], 0, 0) (fun _ _ => 0)
set_option maxRecDepth 100000 in
theorem mz_law : mz_T[163]? = some (yL_law, cL_law, 4, some .boolean, 0, 7, 1, 0, 0, 0, 62) := rfl
theorem cn_7 : cnOf 7 = R_law := rfl
set_option maxHeartbeats 4000000 in
set_option maxRecDepth 100000 in
theorem start_of {p : Program} {e : Env} {s : State} {m : MethodId} {below : List Frame} {meth : Method} {c : Code} (l : Launch) {b L : Nat} {xs : Nat → Int32} (hrun : LawOK L (fun j => (xs j).toInt)) (C0 : lw_At p s m meth c b L xs) : W p l e room_1 s m #[Value.ref b] below meth c s.heap [] 0 0 (lw_Z below #[Value.ref b] s) (entryFrame m ([Value.ref b] : List Value).toArray 4) := by
  obtain ⟨hx, hb, hr, hml, hown, hts0, hX, hbl, hlocks, hgv⟩ := id C0
  have hts : ∀ w ∈ mz_GW, w.before #[Value.ref b] s = true := fun w hw => hts0 w (List.mem_filter.mp hw).1
  have hA : ∀ q : Nat, s.heap.size ≤ q → (fun q : Nat => s.heap.size ≤ q) q := fun _ h => h
  have hbA : ¬ (fun q : Nat => s.heap.size ≤ q) b := Nat.not_le.mpr hbl
  have hKn : ∀ (ci : Nat), ∃ (cC : ClassId) (iS : Nat → Nat), ∀ q : vw_C, vwCl[ci]? = some q → u_Kn s q.1 q.2.1 q.2.2 cC iS := by
    intro ci
    cases hq : vwCl[ci]? with
    | none => exact ⟨0, fun _ => 0, fun q h => by cases h⟩
    | some q =>
      obtain ⟨cC, iS, h⟩ := u_known (C := q.1) (T := q.2.1) (N := q.2.2) (n := q.2.2) hts (mz_in hq) (hts _ (mz_mk hq).1)
      exact ⟨cC, iS, fun q2 h2 => by cases h2; exact h⟩
  have hArr : ∀ (k : Nat), ∃ cA : ClassId, ∀ ty : FieldType, (tyL (fun _ => 0))[k]? = some (0, ty) → ArrOfT s cA ty ∧ va_RA s cA ty := by
    intro k
    match k with
    | 0 =>
      obtain ⟨cA, kA, comp, h1, h2, h3⟩ := Cond.arrayClass_spec (hts _ mz_ac.1)
      exact ⟨cA, fun ty h => by cases h; exact ⟨fun n z => ⟨fun k h => (by cases h), kA, h2, comp, h3⟩, h1⟩⟩
    | 1 =>
      obtain ⟨cA, kA, comp, h1, h2, h3⟩ := Cond.arrayClass_spec (hts _ mz_ac.2.1)
      exact ⟨cA, fun ty h => by cases h; exact ⟨fun n z => ⟨fun k h => (by cases h), kA, h2, comp, h3⟩, h1⟩⟩
    | 2 =>
      obtain ⟨cA, kA, comp, h1, h2, h3⟩ := Cond.arrayClass_spec (hts _ mz_ac.2.2.1)
      exact ⟨cA, fun ty h => by cases h; exact ⟨fun n z => ⟨fun k h => (by cases h), kA, h2, comp, h3⟩, h1⟩⟩
    | 3 =>
      obtain ⟨cA, kA, comp, h1, h2, h3⟩ := Cond.arrayClass_spec (hts _ mz_ac.2.2.2)
      exact ⟨cA, fun ty h => by cases h; exact ⟨fun n z => ⟨fun k h => (by cases h), kA, h2, comp, h3⟩, h1⟩⟩
    | 4 =>
      obtain ⟨comp, cA, kA, h1, h2, h3, h4, h5⟩ := Cond.arrayOver_spec (hts0 (Cond.arrayOver (.object "OwnSunday$Book")) (by decide +kernel))
      exact ⟨cA, fun ty h => by cases h; exact ⟨fun n z => ⟨fun k h => (by cases h), kA, h3, comp, h4⟩, kA, comp, h3, h4, h1, h5⟩⟩
    | 5 =>
      obtain ⟨comp, cA, kA, h1, h2, h3, h4, h5⟩ := Jvm.Stand.arrayOver_specB (hts0 (Cond.arrayOver (.array .int)) (by decide +kernel))
      exact ⟨cA, fun ty h => by cases h; exact ⟨fun n z => ⟨fun k h => (by cases h), kA, h3, comp, h4⟩, h5⟩⟩
    | k + 6 => exact ⟨0, fun ty h => by cases h⟩
  obtain ⟨D, hD1⟩ : ∃ D : va_G, ∀ (ci : Nat) (q : vw_C), vwCl[ci]? = some q → u_Kn s q.1 q.2.1 q.2.2 (D.1 ci) (D.2 ci) :=
    ⟨(fun ci => Classical.choose (hKn ci), fun ci => Classical.choose (Classical.choose_spec (hKn ci))), fun ci q hq => Classical.choose_spec (Classical.choose_spec (hKn ci)) q hq⟩
  obtain ⟨cT, hcT⟩ : ∃ cT : Nat → ClassId, ∀ (k : Nat) (ty : FieldType), (tyL (fun _ => 0))[k]? = some (0, ty) → ArrOfT s (cT k) ty ∧ va_RA s (cT k) ty :=
    ⟨fun k => Classical.choose (hArr k), fun k ty h => Classical.choose_spec (hArr k) ty h⟩
  have hKK : va_K D vwCl (tyL cT) s := by
    refine ⟨hD1, fun k q hq => ?_⟩
    match k, hq with
    | 0, hq => cases hq; exact hcT 0 _ rfl
    | 1, hq => cases hq; exact hcT 1 _ rfl
    | 2, hq => cases hq; exact hcT 2 _ rfl
    | 3, hq => cases hq; exact hcT 3 _ rfl
    | 4, hq => cases hq; exact hcT 4 _ rfl
    | 5, hq => cases hq; exact hcT 5 _ rfl
    | k + 6, hq => cases hq
  have hE : ExW s := ⟨va_AO.of (hts0 (Cond.arrayOver (.object "OwnSunday$Book")) (by decide +kernel)), va_AOA.of (hts0 (Cond.arrayOver (.array .int)) (by decide +kernel)), fun o ix q e h1 h2 h3 => by
    rcases mz_L_get h1 with ⟨g1, g2⟩ | ⟨g1, g2⟩ | ⟨g1, g2⟩ | ⟨g1, g2⟩ | ⟨ez, g1, g2, g3, g4⟩
    · rw [g1] at h3; cases h3
    · rw [g1] at h3; cases h3
    · rw [g1] at h3; cases h3
    · rw [g1] at h3; cases h3
    · rw [g1] at h3
      cases h3
      exact va_Nw.of rfl (hts0 _ (g4 h2))⟩
  have hmb : mbOf 163 = code := by unfold mbOf; rw [mz_law]
  have hml0 : mlOf 163 = 4 := by unfold mlOf; rw [mz_law]
  have hmo : ownOf 163 = 7 := by unfold ownOf; rw [mz_law]
  have hclo : Clo (Run 10) 163 (some (L, fun j => (xs j).toInt)) 600000 7302250 RtL (SimS p l e room_1 s m #[Value.ref b] below meth c (lw_Z below #[Value.ref b] s) D cT (fun q : Nat => s.heap.size ≤ q) (mlOf 163) (fun _ => b) 0) := by
    refine clo_ok (b := b) (d := 10) hx (by rw [hmb]; exact hb) (by rw [hml0]; exact hml) (by rw [hmo, cn_7]; exact hown) hts hKK hA hE rfl rfl ⟨by decide, by decide⟩ (fun h => by
      unfold nmOf at h
      rw [mz_law] at h
      exact absurd h (by decide)) (fun q hq => by
      cases hq
      refine ⟨?_, hbl, hbA, rfl⟩
      have : (fun j => iN ((xs j).toInt)) = xs := funext (fun j => iN_of _)
      show va_X b L (fun j => iN ((xs j).toInt)) s s.heap
      rw [this]
      exact hX) (met_run l D cT 10) ?_ ?_ ?_
    · intro v Z M' pc ad' H locs als hR hI hdg
      obtain ⟨g1, g2, g3⟩ := hR
      cases g1
      obtain ⟨j1, j2, j3, j4, j7, j8, j9⟩ := hI
      refine va_forget (fun q hq => j9.2.2 q hq) ?_
      refine W.widen g2 g3 ?_
      rw [hmb] at hdg
      exact lw_ret hx hb hr hlocks hdg
    · intro v Z M' pc ad' H locs als hR
      cases hR.1
    · intro Z M' pc ad' H locs als hR
      cases hR.1
  have hS0 := hrun _ hclo (fun _ => b) s.heap [] ((lg_sl [Value.ref b] ++ List.replicate (4 - (lg_sl [Value.ref b]).length) Slot.unset).toArray) (fun k _ => rfl) (Nat.le_refl _) (by decide) (fun k x h => by simp at h) (by rw [hml0]; rfl) (ent_loc (fun _ => b) [vR scr] (n := 4) (by decide)) (fun k q h => by simp [wsOf] at h) ⟨fun i j p q h => by simp [wsOf] at h, fun k q h => by simp [wsOf] at h⟩ va_S.rf
  rw [lg_entry_eq]
  exact hS0
end
section
/-! the heap behind both constructors, and what the small machine does, row by row -/
def sh0 : List SC := [Sum.inr (5, [some (some 1), none, some (some 2), some (some 5), some (some 13), some (some 18), some (some 26), some (some 31), none, some (some 32), some (some 37), some (some 44)]),
  Sum.inl (1, 400, mz_nul),
  Sum.inr (1, [some (some 3), some (some 4)]),
  Sum.inl (0, 4, mz_nul),
  Sum.inl (0, 10, mz_nul),
  Sum.inr (3, [some (some 6), none, some (some 7), some (some 8), some (some 9), none, some (some 10), some (some 11), some (some 12), none]),
  Sum.inl (0, 2, mz_nul),
  Sum.inl (0, 10, mz_nul),
  Sum.inl (0, 10, mz_nul),
  Sum.inl (0, 5, mz_nul),
  Sum.inl (0, 6, mz_nul),
  Sum.inl (0, 6, mz_nul),
  Sum.inl (0, 6, mz_nul),
  Sum.inr (0, [some (some 14), some (some 15), none, none, some (some 16), some (some 17), none]),
  Sum.inl (0, 10, mz_nul),
  Sum.inl (0, 10, mz_nul),
  Sum.inl (3, 20, mz_nul),
  Sum.inl (0, 20, mz_nul),
  Sum.inr (3, [some (some 19), none, some (some 20), some (some 21), some (some 22), none, some (some 23), some (some 24), some (some 25), none]),
  Sum.inl (0, 2, mz_nul),
  Sum.inl (0, 10, mz_nul),
  Sum.inl (0, 10, mz_nul),
  Sum.inl (0, 5, mz_nul),
  Sum.inl (0, 6, mz_nul),
  Sum.inl (0, 6, mz_nul),
  Sum.inl (0, 6, mz_nul),
  Sum.inr (0, [some (some 27), some (some 28), none, none, some (some 29), some (some 30), none]),
  Sum.inl (0, 10, mz_nul),
  Sum.inl (0, 10, mz_nul),
  Sum.inl (3, 20, mz_nul),
  Sum.inl (0, 20, mz_nul),
  Sum.inl (4, 2, (fun z => if z = 1 then some 50 else if z = 0 then some 45 else none)),
  Sum.inr (2, [some (some 33), some (some 34), none]),
  Sum.inl (0, 2, mz_nul),
  Sum.inl (5, 2, (fun z => if z = 1 then some 36 else if z = 0 then some 35 else none)),
  Sum.inl (0, 12, mz_nul),
  Sum.inl (0, 12, mz_nul),
  Sum.inr (4, [none, some (some 38), some (some 39), some (some 40), some (some 41), none, none, none, some (some 42), some (some 43)]),
  Sum.inl (0, 3, mz_nul),
  Sum.inl (0, 3, mz_nul),
  Sum.inl (0, 3, mz_nul),
  Sum.inl (0, 3, mz_nul),
  Sum.inl (0, 3, mz_nul),
  Sum.inl (0, 3, mz_nul),
  Sum.inl (0, 5, mz_nul),
  Sum.inr (0, [some (some 46), some (some 47), none, none, some (some 48), some (some 49), none]),
  Sum.inl (0, 10, mz_nul),
  Sum.inl (0, 10, mz_nul),
  Sum.inl (3, 20, mz_nul),
  Sum.inl (0, 20, mz_nul),
  Sum.inr (0, [some (some 51), some (some 52), none, none, some (some 53), some (some 54), none]),
  Sum.inl (0, 10, mz_nul),
  Sum.inl (0, 10, mz_nul),
  Sum.inl (3, 20, mz_nul),
  Sum.inl (0, 20, mz_nul),
  Sum.inr (6, [none, some (some 56), none, some (some 57), some (some 58), some (some 59), some (some 60), some (some 61), some (some 62), some (some 63), some (some 64), none, some (some 65), some (some 66), some (some 67), none, some (some 68), some (some 69), some (some 70), some (some 71), some (some 72), some (some 73), some (some 74), some (some 75), some (some 76), none, none, some (some 77), some (some 78), none]),
  Sum.inl (1, 400, mz_nul),
  Sum.inl (0, 4, mz_nul),
  Sum.inl (0, 2, mz_nul),
  Sum.inl (0, 2, mz_nul),
  Sum.inl (0, 2, mz_nul),
  Sum.inl (0, 80, mz_nul),
  Sum.inl (0, 10, mz_nul),
  Sum.inl (0, 36, mz_nul),
  Sum.inl (2, 20, mz_nul),
  Sum.inl (3, 20, mz_nul),
  Sum.inl (0, 20, mz_nul),
  Sum.inl (2, 20, mz_nul),
  Sum.inl (0, 40, mz_nul),
  Sum.inl (2, 20, mz_nul),
  Sum.inl (0, 2, mz_nul),
  Sum.inl (3, 40, mz_nul),
  Sum.inl (0, 40, mz_nul),
  Sum.inl (2, 40, mz_nul),
  Sum.inl (0, 10, mz_nul),
  Sum.inl (0, 10, mz_nul),
  Sum.inl (0, 10, mz_nul),
  Sum.inl (0, 5, mz_nul),
  Sum.inl (0, 4, mz_nul)]
theorem CLS : cls sh0 0 = some 5 ∧
    cls sh0 2 = some 1 ∧
    cls sh0 5 = some 3 ∧
    cls sh0 13 = some 0 ∧
    cls sh0 18 = some 3 ∧
    cls sh0 26 = some 0 ∧
    cls sh0 32 = some 2 ∧
    cls sh0 37 = some 4 ∧
    cls sh0 45 = some 0 ∧
    cls sh0 50 = some 0 ∧
    cls sh0 55 = some 6 := by
  refine ⟨?_, ?_, ?_, ?_, ?_, ?_, ?_, ?_, ?_, ?_, ?_⟩
  all_goals rfl
theorem FLD : fld sh0 0 0 = some (some (some 1)) ∧
    fld sh0 0 1 = some none ∧
    fld sh0 0 2 = some (some (some 2)) ∧
    fld sh0 0 3 = some (some (some 5)) ∧
    fld sh0 0 4 = some (some (some 13)) ∧
    fld sh0 0 5 = some (some (some 18)) ∧
    fld sh0 0 6 = some (some (some 26)) ∧
    fld sh0 0 7 = some (some (some 31)) ∧
    fld sh0 0 8 = some none ∧
    fld sh0 0 9 = some (some (some 32)) ∧
    fld sh0 0 10 = some (some (some 37)) ∧
    fld sh0 0 11 = some (some (some 44)) ∧
    fld sh0 2 0 = some (some (some 3)) ∧
    fld sh0 2 1 = some (some (some 4)) ∧
    fld sh0 5 0 = some (some (some 6)) ∧
    fld sh0 5 1 = some none ∧
    fld sh0 5 2 = some (some (some 7)) ∧
    fld sh0 5 3 = some (some (some 8)) ∧
    fld sh0 5 4 = some (some (some 9)) ∧
    fld sh0 5 5 = some none ∧
    fld sh0 5 6 = some (some (some 10)) ∧
    fld sh0 5 7 = some (some (some 11)) ∧
    fld sh0 5 8 = some (some (some 12)) ∧
    fld sh0 5 9 = some none ∧
    fld sh0 13 0 = some (some (some 14)) ∧
    fld sh0 13 1 = some (some (some 15)) ∧
    fld sh0 13 2 = some none ∧
    fld sh0 13 3 = some none ∧
    fld sh0 13 4 = some (some (some 16)) ∧
    fld sh0 13 5 = some (some (some 17)) ∧
    fld sh0 13 6 = some none ∧
    fld sh0 18 0 = some (some (some 19)) ∧
    fld sh0 18 1 = some none ∧
    fld sh0 18 2 = some (some (some 20)) ∧
    fld sh0 18 3 = some (some (some 21)) ∧
    fld sh0 18 4 = some (some (some 22)) ∧
    fld sh0 18 5 = some none ∧
    fld sh0 18 6 = some (some (some 23)) ∧
    fld sh0 18 7 = some (some (some 24)) ∧
    fld sh0 18 8 = some (some (some 25)) ∧
    fld sh0 18 9 = some none ∧
    fld sh0 26 0 = some (some (some 27)) ∧
    fld sh0 26 1 = some (some (some 28)) ∧
    fld sh0 26 2 = some none ∧
    fld sh0 26 3 = some none ∧
    fld sh0 26 4 = some (some (some 29)) ∧
    fld sh0 26 5 = some (some (some 30)) ∧
    fld sh0 26 6 = some none ∧
    fld sh0 32 0 = some (some (some 33)) ∧
    fld sh0 32 1 = some (some (some 34)) ∧
    fld sh0 32 2 = some none ∧
    fld sh0 37 0 = some none ∧
    fld sh0 37 1 = some (some (some 38)) ∧
    fld sh0 37 2 = some (some (some 39)) ∧
    fld sh0 37 3 = some (some (some 40)) ∧
    fld sh0 37 4 = some (some (some 41)) ∧
    fld sh0 37 5 = some none ∧
    fld sh0 37 6 = some none ∧
    fld sh0 37 7 = some none ∧
    fld sh0 37 8 = some (some (some 42)) ∧
    fld sh0 37 9 = some (some (some 43)) ∧
    fld sh0 45 0 = some (some (some 46)) ∧
    fld sh0 45 1 = some (some (some 47)) ∧
    fld sh0 45 2 = some none ∧
    fld sh0 45 3 = some none ∧
    fld sh0 45 4 = some (some (some 48)) ∧
    fld sh0 45 5 = some (some (some 49)) ∧
    fld sh0 45 6 = some none ∧
    fld sh0 50 0 = some (some (some 51)) ∧
    fld sh0 50 1 = some (some (some 52)) ∧
    fld sh0 50 2 = some none ∧
    fld sh0 50 3 = some none ∧
    fld sh0 50 4 = some (some (some 53)) ∧
    fld sh0 50 5 = some (some (some 54)) ∧
    fld sh0 50 6 = some none ∧
    fld sh0 55 0 = some none ∧
    fld sh0 55 1 = some (some (some 56)) ∧
    fld sh0 55 2 = some none ∧
    fld sh0 55 3 = some (some (some 57)) ∧
    fld sh0 55 4 = some (some (some 58)) ∧
    fld sh0 55 5 = some (some (some 59)) ∧
    fld sh0 55 6 = some (some (some 60)) ∧
    fld sh0 55 7 = some (some (some 61)) ∧
    fld sh0 55 8 = some (some (some 62)) ∧
    fld sh0 55 9 = some (some (some 63)) ∧
    fld sh0 55 10 = some (some (some 64)) ∧
    fld sh0 55 11 = some none ∧
    fld sh0 55 12 = some (some (some 65)) ∧
    fld sh0 55 13 = some (some (some 66)) ∧
    fld sh0 55 14 = some (some (some 67)) ∧
    fld sh0 55 15 = some none ∧
    fld sh0 55 16 = some (some (some 68)) ∧
    fld sh0 55 17 = some (some (some 69)) ∧
    fld sh0 55 18 = some (some (some 70)) ∧
    fld sh0 55 19 = some (some (some 71)) ∧
    fld sh0 55 20 = some (some (some 72)) ∧
    fld sh0 55 21 = some (some (some 73)) ∧
    fld sh0 55 22 = some (some (some 74)) ∧
    fld sh0 55 23 = some (some (some 75)) ∧
    fld sh0 55 24 = some (some (some 76)) ∧
    fld sh0 55 25 = some none ∧
    fld sh0 55 26 = some none ∧
    fld sh0 55 27 = some (some (some 77)) ∧
    fld sh0 55 28 = some (some (some 78)) ∧
    fld sh0 55 29 = some none := by
  refine ⟨?_, ?_, ?_, ?_, ?_, ?_, ?_, ?_, ?_, ?_, ?_, ?_, ?_, ?_, ?_, ?_, ?_, ?_, ?_, ?_, ?_, ?_, ?_, ?_, ?_, ?_, ?_, ?_, ?_, ?_, ?_, ?_, ?_, ?_, ?_, ?_, ?_, ?_, ?_, ?_, ?_, ?_, ?_, ?_, ?_, ?_, ?_, ?_, ?_, ?_, ?_, ?_, ?_, ?_, ?_, ?_, ?_, ?_, ?_, ?_, ?_, ?_, ?_, ?_, ?_, ?_, ?_, ?_, ?_, ?_, ?_, ?_, ?_, ?_, ?_, ?_, ?_, ?_, ?_, ?_, ?_, ?_, ?_, ?_, ?_, ?_, ?_, ?_, ?_, ?_, ?_, ?_, ?_, ?_, ?_, ?_, ?_, ?_, ?_, ?_, ?_, ?_, ?_, ?_, ?_⟩
  all_goals rfl
theorem ARR : arr sh0 1 = some (1, 400, mz_nul) ∧
    arr sh0 3 = some (0, 4, mz_nul) ∧
    arr sh0 4 = some (0, 10, mz_nul) ∧
    arr sh0 6 = some (0, 2, mz_nul) ∧
    arr sh0 7 = some (0, 10, mz_nul) ∧
    arr sh0 8 = some (0, 10, mz_nul) ∧
    arr sh0 9 = some (0, 5, mz_nul) ∧
    arr sh0 10 = some (0, 6, mz_nul) ∧
    arr sh0 11 = some (0, 6, mz_nul) ∧
    arr sh0 12 = some (0, 6, mz_nul) ∧
    arr sh0 14 = some (0, 10, mz_nul) ∧
    arr sh0 15 = some (0, 10, mz_nul) ∧
    arr sh0 16 = some (3, 20, mz_nul) ∧
    arr sh0 17 = some (0, 20, mz_nul) ∧
    arr sh0 19 = some (0, 2, mz_nul) ∧
    arr sh0 20 = some (0, 10, mz_nul) ∧
    arr sh0 21 = some (0, 10, mz_nul) ∧
    arr sh0 22 = some (0, 5, mz_nul) ∧
    arr sh0 23 = some (0, 6, mz_nul) ∧
    arr sh0 24 = some (0, 6, mz_nul) ∧
    arr sh0 25 = some (0, 6, mz_nul) ∧
    arr sh0 27 = some (0, 10, mz_nul) ∧
    arr sh0 28 = some (0, 10, mz_nul) ∧
    arr sh0 29 = some (3, 20, mz_nul) ∧
    arr sh0 30 = some (0, 20, mz_nul) ∧
    arr sh0 31 = some (4, 2, (fun z => if z = 1 then some 50 else if z = 0 then some 45 else none)) ∧
    arr sh0 33 = some (0, 2, mz_nul) ∧
    arr sh0 34 = some (5, 2, (fun z => if z = 1 then some 36 else if z = 0 then some 35 else none)) ∧
    arr sh0 35 = some (0, 12, mz_nul) ∧
    arr sh0 36 = some (0, 12, mz_nul) ∧
    arr sh0 38 = some (0, 3, mz_nul) ∧
    arr sh0 39 = some (0, 3, mz_nul) ∧
    arr sh0 40 = some (0, 3, mz_nul) ∧
    arr sh0 41 = some (0, 3, mz_nul) ∧
    arr sh0 42 = some (0, 3, mz_nul) ∧
    arr sh0 43 = some (0, 3, mz_nul) ∧
    arr sh0 44 = some (0, 5, mz_nul) ∧
    arr sh0 46 = some (0, 10, mz_nul) ∧
    arr sh0 47 = some (0, 10, mz_nul) ∧
    arr sh0 48 = some (3, 20, mz_nul) ∧
    arr sh0 49 = some (0, 20, mz_nul) ∧
    arr sh0 51 = some (0, 10, mz_nul) ∧
    arr sh0 52 = some (0, 10, mz_nul) ∧
    arr sh0 53 = some (3, 20, mz_nul) ∧
    arr sh0 54 = some (0, 20, mz_nul) ∧
    arr sh0 56 = some (1, 400, mz_nul) ∧
    arr sh0 57 = some (0, 4, mz_nul) ∧
    arr sh0 58 = some (0, 2, mz_nul) ∧
    arr sh0 59 = some (0, 2, mz_nul) ∧
    arr sh0 60 = some (0, 2, mz_nul) ∧
    arr sh0 61 = some (0, 80, mz_nul) ∧
    arr sh0 62 = some (0, 10, mz_nul) ∧
    arr sh0 63 = some (0, 36, mz_nul) ∧
    arr sh0 64 = some (2, 20, mz_nul) ∧
    arr sh0 65 = some (3, 20, mz_nul) ∧
    arr sh0 66 = some (0, 20, mz_nul) ∧
    arr sh0 67 = some (2, 20, mz_nul) ∧
    arr sh0 68 = some (0, 40, mz_nul) ∧
    arr sh0 69 = some (2, 20, mz_nul) ∧
    arr sh0 70 = some (0, 2, mz_nul) ∧
    arr sh0 71 = some (3, 40, mz_nul) ∧
    arr sh0 72 = some (0, 40, mz_nul) ∧
    arr sh0 73 = some (2, 40, mz_nul) ∧
    arr sh0 74 = some (0, 10, mz_nul) ∧
    arr sh0 75 = some (0, 10, mz_nul) ∧
    arr sh0 76 = some (0, 10, mz_nul) ∧
    arr sh0 77 = some (0, 5, mz_nul) ∧
    arr sh0 78 = some (0, 4, mz_nul) := by
  refine ⟨?_, ?_, ?_, ?_, ?_, ?_, ?_, ?_, ?_, ?_, ?_, ?_, ?_, ?_, ?_, ?_, ?_, ?_, ?_, ?_, ?_, ?_, ?_, ?_, ?_, ?_, ?_, ?_, ?_, ?_, ?_, ?_, ?_, ?_, ?_, ?_, ?_, ?_, ?_, ?_, ?_, ?_, ?_, ?_, ?_, ?_, ?_, ?_, ?_, ?_, ?_, ?_, ?_, ?_, ?_, ?_, ?_, ?_, ?_, ?_, ?_, ?_, ?_, ?_, ?_, ?_, ?_, ?_⟩
  all_goals rfl
theorem sh0_len : sh0.length = 79 := rfl
theorem WA : (∀ (C : CC) (X : XX) (mc ms : Nat) (J : Nat → KK) (Rt : RR) (t : BL) (pc n : Nat) (x : Int) (ls : AL) (st : List AV) (Z : ZZ) (M : MM) (k : Int), wpl C X mc ms J Rt ((.iconst k, x, n) :: t) pc ls st Z M = (wpl C X mc ms J Rt t (pc + n) ls (Sum.inl k :: st) Z M)) ∧
    (∀ (C : CC) (X : XX) (mc ms : Nat) (J : Nat → KK) (Rt : RR) (t : BL) (pc n : Nat) (x : Int) (ls : AL) (st : List AV) (Z : ZZ) (M : MM) (k : Nat), wpl C X mc ms J Rt ((.ldc2_w k, x, n) :: t) pc ls st Z M = (wpl C X mc ms J Rt t (pc + n) ls (Sum.inr (Sum.inl x) :: st) Z M)) ∧
    (∀ (C : CC) (X : XX) (mc ms : Nat) (J : Nat → KK) (Rt : RR) (t : BL) (pc n : Nat) (x : Int) (ls : AL) (st : List AV) (Z : ZZ) (M : MM) (k : Nat), wpl C X mc ms J Rt ((.iload k, x, n) :: t) pc ls st Z M = (gI (lget ls k) fun a => wpl C X mc ms J Rt t (pc + n) ls (Sum.inl a :: st) Z M)) ∧
    (∀ (C : CC) (X : XX) (mc ms : Nat) (J : Nat → KK) (Rt : RR) (t : BL) (pc n : Nat) (x : Int) (ls : AL) (st : List AV) (Z : ZZ) (M : MM) (k : Nat), wpl C X mc ms J Rt ((.lload k, x, n) :: t) pc ls st Z M = (gL (lget ls k) fun a => wpl C X mc ms J Rt t (pc + n) ls (Sum.inr (Sum.inl a) :: st) Z M)) ∧
    (∀ (C : CC) (X : XX) (mc ms : Nat) (J : Nat → KK) (Rt : RR) (t : BL) (pc n : Nat) (x : Int) (ls : AL) (st : List AV) (Z : ZZ) (M : MM) (k : Nat), wpl C X mc ms J Rt ((.aload k, x, n) :: t) pc ls st Z M = (gR (lget ls k) fun a => wpl C X mc ms J Rt t (pc + n) ls (Sum.inr (Sum.inr a) :: st) Z M)) ∧
    (∀ (C : CC) (X : XX) (mc ms : Nat) (J : Nat → KK) (Rt : RR) (t : BL) (pc n : Nat) (x : Int) (ls : AL) (st : List AV) (Z : ZZ) (M : MM) (k : Nat) (a : Int), wpl C X mc ms J Rt ((.istore k, x, n) :: t) pc ls (Sum.inl a :: st) Z M = (k < ls.length ∧ wpl C X mc ms J Rt t (pc + n) (lst1 ls k (Sum.inl a)) st Z M)) ∧
    (∀ (C : CC) (X : XX) (mc ms : Nat) (J : Nat → KK) (Rt : RR) (t : BL) (pc n : Nat) (x : Int) (ls : AL) (st : List AV) (Z : ZZ) (M : MM) (k : Nat) (a : Nat), wpl C X mc ms J Rt ((.astore k, x, n) :: t) pc ls (Sum.inr (Sum.inr a) :: st) Z M = (k < ls.length ∧ wpl C X mc ms J Rt t (pc + n) (lst1 ls k (Sum.inr (Sum.inr a))) st Z M)) ∧
    (∀ (C : CC) (X : XX) (mc ms : Nat) (J : Nat → KK) (Rt : RR) (t : BL) (pc n : Nat) (x : Int) (ls : AL) (st : List AV) (Z : ZZ) (M : MM) (k : Nat) (a : Int), wpl C X mc ms J Rt ((.lstore k, x, n) :: t) pc ls (Sum.inr (Sum.inl a) :: st) Z M = (k + 1 < ls.length ∧ wpl C X mc ms J Rt t (pc + n) (lst2 ls k (Sum.inr (Sum.inl a))) st Z M)) ∧
    (∀ (C : CC) (X : XX) (mc ms : Nat) (J : Nat → KK) (Rt : RR) (t : BL) (pc n : Nat) (x : Int) (ls : AL) (st : List AV) (Z : ZZ) (M : MM) (k : Nat) (c : Int), wpl C X mc ms J Rt ((.iinc k c, x, n) :: t) pc ls st Z M = (gI (lget ls k) fun a => k < ls.length ∧ wpl C X mc ms J Rt t (pc + n) (lst1 ls k (Sum.inl (a + c))) st Z M)) ∧
    (∀ (C : CC) (X : XX) (mc ms : Nat) (J : Nat → KK) (Rt : RR) (t : BL) (pc n : Nat) (x : Int) (ls : AL) (st : List AV) (Z : ZZ) (M : MM) (a b : Int), wpl C X mc ms J Rt ((.iadd, x, n) :: t) pc ls (Sum.inl b :: Sum.inl a :: st) Z M = (wpl C X mc ms J Rt t (pc + n) ls (Sum.inl (a + b) :: st) Z M)) ∧
    (∀ (C : CC) (X : XX) (mc ms : Nat) (J : Nat → KK) (Rt : RR) (t : BL) (pc n : Nat) (x : Int) (ls : AL) (st : List AV) (Z : ZZ) (M : MM) (a b : Int), wpl C X mc ms J Rt ((.isub, x, n) :: t) pc ls (Sum.inl b :: Sum.inl a :: st) Z M = (wpl C X mc ms J Rt t (pc + n) ls (Sum.inl (a - b) :: st) Z M)) ∧
    (∀ (C : CC) (X : XX) (mc ms : Nat) (J : Nat → KK) (Rt : RR) (t : BL) (pc n : Nat) (x : Int) (ls : AL) (st : List AV) (Z : ZZ) (M : MM) (a b : Int), wpl C X mc ms J Rt ((.imul, x, n) :: t) pc ls (Sum.inl b :: Sum.inl a :: st) Z M = (wpl C X mc ms J Rt t (pc + n) ls (Sum.inl (a * b) :: st) Z M)) ∧
    (∀ (C : CC) (X : XX) (mc ms : Nat) (J : Nat → KK) (Rt : RR) (t : BL) (pc n : Nat) (x : Int) (ls : AL) (st : List AV) (Z : ZZ) (M : MM) (a b : Int), wpl C X mc ms J Rt ((.iand, x, n) :: t) pc ls (Sum.inl b :: Sum.inl a :: st) Z M = (wpl C X mc ms J Rt t (pc + n) ls (Sum.inl (bAnd a b) :: st) Z M)) ∧
    (∀ (C : CC) (X : XX) (mc ms : Nat) (J : Nat → KK) (Rt : RR) (t : BL) (pc n : Nat) (x : Int) (ls : AL) (st : List AV) (Z : ZZ) (M : MM) (a b : Int), wpl C X mc ms J Rt ((.ior, x, n) :: t) pc ls (Sum.inl b :: Sum.inl a :: st) Z M = (wpl C X mc ms J Rt t (pc + n) ls (Sum.inl (bOr a b) :: st) Z M)) ∧
    (∀ (C : CC) (X : XX) (mc ms : Nat) (J : Nat → KK) (Rt : RR) (t : BL) (pc n : Nat) (x : Int) (ls : AL) (st : List AV) (Z : ZZ) (M : MM) (a b : Int), wpl C X mc ms J Rt ((.ixor, x, n) :: t) pc ls (Sum.inl b :: Sum.inl a :: st) Z M = (wpl C X mc ms J Rt t (pc + n) ls (Sum.inl (bXor a b) :: st) Z M)) ∧
    (∀ (C : CC) (X : XX) (mc ms : Nat) (J : Nat → KK) (Rt : RR) (t : BL) (pc n : Nat) (x : Int) (ls : AL) (st : List AV) (Z : ZZ) (M : MM) (a b : Int), wpl C X mc ms J Rt ((.ishl, x, n) :: t) pc ls (Sum.inl b :: Sum.inl a :: st) Z M = (wpl C X mc ms J Rt t (pc + n) ls (Sum.inl (bShl a b) :: st) Z M)) ∧
    (∀ (C : CC) (X : XX) (mc ms : Nat) (J : Nat → KK) (Rt : RR) (t : BL) (pc n : Nat) (x : Int) (ls : AL) (st : List AV) (Z : ZZ) (M : MM) (a b : Int), wpl C X mc ms J Rt ((.ishr, x, n) :: t) pc ls (Sum.inl b :: Sum.inl a :: st) Z M = (wpl C X mc ms J Rt t (pc + n) ls (Sum.inl (bShr a b) :: st) Z M)) ∧
    (∀ (C : CC) (X : XX) (mc ms : Nat) (J : Nat → KK) (Rt : RR) (t : BL) (pc n : Nat) (x : Int) (ls : AL) (st : List AV) (Z : ZZ) (M : MM) (a b : Int), wpl C X mc ms J Rt ((.iushr, x, n) :: t) pc ls (Sum.inl b :: Sum.inl a :: st) Z M = (wpl C X mc ms J Rt t (pc + n) ls (Sum.inl (bUsr a b) :: st) Z M)) ∧
    (∀ (C : CC) (X : XX) (mc ms : Nat) (J : Nat → KK) (Rt : RR) (t : BL) (pc n : Nat) (x : Int) (ls : AL) (st : List AV) (Z : ZZ) (M : MM) (a b : Int), wpl C X mc ms J Rt ((.idiv, x, n) :: t) pc ls (Sum.inl b :: Sum.inl a :: st) Z M = ((0 ≤ a ∧ a ≤ 2147483647 ∧ 0 < b ∧ b ≤ 2147483647) ∧ wpl C X mc ms J Rt t (pc + n) ls (Sum.inl (a / b) :: st) Z M)) ∧
    (∀ (C : CC) (X : XX) (mc ms : Nat) (J : Nat → KK) (Rt : RR) (t : BL) (pc n : Nat) (x : Int) (ls : AL) (st : List AV) (Z : ZZ) (M : MM) (a b : Int), wpl C X mc ms J Rt ((.irem, x, n) :: t) pc ls (Sum.inl b :: Sum.inl a :: st) Z M = ((0 ≤ a ∧ a ≤ 2147483647 ∧ 0 < b ∧ b ≤ 2147483647) ∧ wpl C X mc ms J Rt t (pc + n) ls (Sum.inl (a % b) :: st) Z M)) ∧
    (∀ (C : CC) (X : XX) (mc ms : Nat) (J : Nat → KK) (Rt : RR) (t : BL) (pc n : Nat) (x : Int) (ls : AL) (st : List AV) (Z : ZZ) (M : MM) (a b : Int), wpl C X mc ms J Rt ((.ladd, x, n) :: t) pc ls (Sum.inr (Sum.inl b) :: Sum.inr (Sum.inl a) :: st) Z M = (wpl C X mc ms J Rt t (pc + n) ls (Sum.inr (Sum.inl (a + b)) :: st) Z M)) ∧
    (∀ (C : CC) (X : XX) (mc ms : Nat) (J : Nat → KK) (Rt : RR) (t : BL) (pc n : Nat) (x : Int) (ls : AL) (st : List AV) (Z : ZZ) (M : MM) (a b : Int), wpl C X mc ms J Rt ((.lsub, x, n) :: t) pc ls (Sum.inr (Sum.inl b) :: Sum.inr (Sum.inl a) :: st) Z M = (wpl C X mc ms J Rt t (pc + n) ls (Sum.inr (Sum.inl (a - b)) :: st) Z M)) ∧
    (∀ (C : CC) (X : XX) (mc ms : Nat) (J : Nat → KK) (Rt : RR) (t : BL) (pc n : Nat) (x : Int) (ls : AL) (st : List AV) (Z : ZZ) (M : MM) (a b : Int), wpl C X mc ms J Rt ((.lmul, x, n) :: t) pc ls (Sum.inr (Sum.inl b) :: Sum.inr (Sum.inl a) :: st) Z M = (wpl C X mc ms J Rt t (pc + n) ls (Sum.inr (Sum.inl (a * b)) :: st) Z M)) ∧
    (∀ (C : CC) (X : XX) (mc ms : Nat) (J : Nat → KK) (Rt : RR) (t : BL) (pc n : Nat) (x : Int) (ls : AL) (st : List AV) (Z : ZZ) (M : MM) (a b : Int), wpl C X mc ms J Rt ((.land, x, n) :: t) pc ls (Sum.inr (Sum.inl b) :: Sum.inr (Sum.inl a) :: st) Z M = (wpl C X mc ms J Rt t (pc + n) ls (Sum.inr (Sum.inl (lAnd a b)) :: st) Z M)) ∧
    (∀ (C : CC) (X : XX) (mc ms : Nat) (J : Nat → KK) (Rt : RR) (t : BL) (pc n : Nat) (x : Int) (ls : AL) (st : List AV) (Z : ZZ) (M : MM) (a b : Int), wpl C X mc ms J Rt ((.lor, x, n) :: t) pc ls (Sum.inr (Sum.inl b) :: Sum.inr (Sum.inl a) :: st) Z M = (wpl C X mc ms J Rt t (pc + n) ls (Sum.inr (Sum.inl (lOr a b)) :: st) Z M)) ∧
    (∀ (C : CC) (X : XX) (mc ms : Nat) (J : Nat → KK) (Rt : RR) (t : BL) (pc n : Nat) (x : Int) (ls : AL) (st : List AV) (Z : ZZ) (M : MM) (a b : Int), wpl C X mc ms J Rt ((.ldiv, x, n) :: t) pc ls (Sum.inr (Sum.inl b) :: Sum.inr (Sum.inl a) :: st) Z M = ((0 ≤ a ∧ a ≤ 9223372036854775807 ∧ 0 < b ∧ b ≤ 9223372036854775807) ∧ wpl C X mc ms J Rt t (pc + n) ls (Sum.inr (Sum.inl (a / b)) :: st) Z M)) ∧
    (∀ (C : CC) (X : XX) (mc ms : Nat) (J : Nat → KK) (Rt : RR) (t : BL) (pc n : Nat) (x : Int) (ls : AL) (st : List AV) (Z : ZZ) (M : MM) (a b : Int), wpl C X mc ms J Rt ((.lrem, x, n) :: t) pc ls (Sum.inr (Sum.inl b) :: Sum.inr (Sum.inl a) :: st) Z M = ((0 ≤ a ∧ a ≤ 9223372036854775807 ∧ 0 < b ∧ b ≤ 9223372036854775807) ∧ wpl C X mc ms J Rt t (pc + n) ls (Sum.inr (Sum.inl (a % b)) :: st) Z M)) ∧
    (∀ (C : CC) (X : XX) (mc ms : Nat) (J : Nat → KK) (Rt : RR) (t : BL) (pc n : Nat) (x : Int) (ls : AL) (st : List AV) (Z : ZZ) (M : MM) (a b : Int), wpl C X mc ms J Rt ((.lshl, x, n) :: t) pc ls (Sum.inl b :: Sum.inr (Sum.inl a) :: st) Z M = (wpl C X mc ms J Rt t (pc + n) ls (Sum.inr (Sum.inl (lShl a b)) :: st) Z M)) ∧
    (∀ (C : CC) (X : XX) (mc ms : Nat) (J : Nat → KK) (Rt : RR) (t : BL) (pc n : Nat) (x : Int) (ls : AL) (st : List AV) (Z : ZZ) (M : MM) (a b : Int), wpl C X mc ms J Rt ((.lshr, x, n) :: t) pc ls (Sum.inl b :: Sum.inr (Sum.inl a) :: st) Z M = (wpl C X mc ms J Rt t (pc + n) ls (Sum.inr (Sum.inl (lShr a b)) :: st) Z M)) ∧
    (∀ (C : CC) (X : XX) (mc ms : Nat) (J : Nat → KK) (Rt : RR) (t : BL) (pc n : Nat) (x : Int) (ls : AL) (st : List AV) (Z : ZZ) (M : MM) (a b : Int), wpl C X mc ms J Rt ((.lushr, x, n) :: t) pc ls (Sum.inl b :: Sum.inr (Sum.inl a) :: st) Z M = (wpl C X mc ms J Rt t (pc + n) ls (Sum.inr (Sum.inl (lUsr a b)) :: st) Z M)) :=
  ⟨by intros; rfl,
   by intros; rfl,
   by intros; rfl,
   by intros; rfl,
   by intros; rfl,
   by intros; rfl,
   by intros; rfl,
   by intros; rfl,
   by intros; rfl,
   by intros; rfl,
   by intros; rfl,
   by intros; rfl,
   by intros; rfl,
   by intros; rfl,
   by intros; rfl,
   by intros; rfl,
   by intros; rfl,
   by intros; rfl,
   by intros; rfl,
   by intros; rfl,
   by intros; rfl,
   by intros; rfl,
   by intros; rfl,
   by intros; rfl,
   by intros; rfl,
   by intros; rfl,
   by intros; rfl,
   by intros; rfl,
   by intros; rfl,
   by intros; rfl⟩
theorem WB : (∀ (C : CC) (X : XX) (mc ms : Nat) (J : Nat → KK) (Rt : RR) (t : BL) (pc n : Nat) (x : Int) (ls : AL) (st : List AV) (Z : ZZ) (M : MM) (a b : Int), wpl C X mc ms J Rt ((.lcmp, x, n) :: t) pc ls (Sum.inr (Sum.inl b) :: Sum.inr (Sum.inl a) :: st) Z M = (rgL a ∧ rgL b ∧ wpl C X mc ms J Rt t (pc + n) ls (Sum.inl (if a < b then -1 else if a = b then 0 else 1) :: st) Z M)) ∧
    (∀ (C : CC) (X : XX) (mc ms : Nat) (J : Nat → KK) (Rt : RR) (t : BL) (pc n : Nat) (x : Int) (ls : AL) (st : List AV) (Z : ZZ) (M : MM) (a : Int), wpl C X mc ms J Rt ((.i2l, x, n) :: t) pc ls (Sum.inl a :: st) Z M = (rgI a ∧ wpl C X mc ms J Rt t (pc + n) ls (Sum.inr (Sum.inl a) :: st) Z M)) ∧
    (∀ (C : CC) (X : XX) (mc ms : Nat) (J : Nat → KK) (Rt : RR) (t : BL) (pc n : Nat) (x : Int) (ls : AL) (st : List AV) (Z : ZZ) (M : MM) (a : Int), wpl C X mc ms J Rt ((.l2i, x, n) :: t) pc ls (Sum.inr (Sum.inl a) :: st) Z M = (wpl C X mc ms J Rt t (pc + n) ls (Sum.inl a :: st) Z M)) ∧
    (∀ (C : CC) (X : XX) (mc ms : Nat) (J : Nat → KK) (Rt : RR) (t : BL) (pc n : Nat) (x : Int) (ls : AL) (st : List AV) (Z : ZZ) (M : MM) (a : Int), wpl C X mc ms J Rt ((.i2b, x, n) :: t) pc ls (Sum.inl a :: st) Z M = (wpl C X mc ms J Rt t (pc + n) ls (Sum.inl (bByt a) :: st) Z M)) ∧
    (∀ (C : CC) (X : XX) (mc ms : Nat) (J : Nat → KK) (Rt : RR) (t : BL) (pc n : Nat) (x : Int) (ls : AL) (st : List AV) (Z : ZZ) (M : MM) (a : Int), wpl C X mc ms J Rt ((.dup, x, n) :: t) pc ls (Sum.inl a :: st) Z M = (wpl C X mc ms J Rt t (pc + n) ls (Sum.inl a :: Sum.inl a :: st) Z M)) ∧
    (∀ (C : CC) (X : XX) (mc ms : Nat) (J : Nat → KK) (Rt : RR) (t : BL) (pc n : Nat) (x : Int) (ls : AL) (st : List AV) (Z : ZZ) (M : MM) (a : Nat), wpl C X mc ms J Rt ((.dup, x, n) :: t) pc ls (Sum.inr (Sum.inr a) :: st) Z M = (wpl C X mc ms J Rt t (pc + n) ls (Sum.inr (Sum.inr a) :: Sum.inr (Sum.inr a) :: st) Z M)) ∧
    (∀ (C : CC) (X : XX) (mc ms : Nat) (J : Nat → KK) (Rt : RR) (t : BL) (pc n : Nat) (x : Int) (ls : AL) (st : List AV) (Z : ZZ) (M : MM) (a : Int) (b : Nat), wpl C X mc ms J Rt ((.dup2, x, n) :: t) pc ls (Sum.inl a :: Sum.inr (Sum.inr b) :: st) Z M = (wpl C X mc ms J Rt t (pc + n) ls (Sum.inl a :: Sum.inr (Sum.inr b) :: Sum.inl a :: Sum.inr (Sum.inr b) :: st) Z M)) ∧
    (∀ (C : CC) (X : XX) (mc ms : Nat) (J : Nat → KK) (Rt : RR) (t : BL) (pc n : Nat) (x : Int) (ls : AL) (st : List AV) (Z : ZZ) (M : MM) (a : Int), wpl C X mc ms J Rt ((.pop, x, n) :: t) pc ls (Sum.inl a :: st) Z M = (wpl C X mc ms J Rt t (pc + n) ls st Z M)) ∧
    (∀ (C : CC) (X : XX) (mc ms : Nat) (J : Nat → KK) (Rt : RR) (t : BL) (pc n : Nat) (x : Int) (ls : AL) (st : List AV) (Z : ZZ) (M : MM) (g : Int), wpl C X mc ms J Rt ((.goto g, x, n) :: t) pc ls st Z M = (J g.toNat ls st Z M)) ∧
    (∀ (C : CC) (X : XX) (mc ms : Nat) (J : Nat → KK) (Rt : RR) (t : BL) (pc n : Nat) (x : Int) (ls : AL) (st : List AV) (Z : ZZ) (M : MM) (a b g : Int), wpl C X mc ms J Rt ((.if_icmp .eq g, x, n) :: t) pc ls (Sum.inl b :: Sum.inl a :: st) Z M = ((rgI a ∧ rgI b) ∧ (a = b → J g.toNat ls st Z M) ∧ (¬ a = b → wpl C X mc ms J Rt t (pc + n) ls st Z M))) ∧
    (∀ (C : CC) (X : XX) (mc ms : Nat) (J : Nat → KK) (Rt : RR) (t : BL) (pc n : Nat) (x : Int) (ls : AL) (st : List AV) (Z : ZZ) (M : MM) (a g : Int), wpl C X mc ms J Rt ((.ifCond .eq g, x, n) :: t) pc ls (Sum.inl a :: st) Z M = (rgI a ∧ (a = 0 → J g.toNat ls st Z M) ∧ (¬ a = 0 → wpl C X mc ms J Rt t (pc + n) ls st Z M))) ∧
    (∀ (C : CC) (X : XX) (mc ms : Nat) (J : Nat → KK) (Rt : RR) (t : BL) (pc n : Nat) (x : Int) (ls : AL) (st : List AV) (Z : ZZ) (M : MM) (a b g : Int), wpl C X mc ms J Rt ((.if_icmp .ne g, x, n) :: t) pc ls (Sum.inl b :: Sum.inl a :: st) Z M = ((rgI a ∧ rgI b) ∧ (¬ a = b → J g.toNat ls st Z M) ∧ (a = b → wpl C X mc ms J Rt t (pc + n) ls st Z M))) ∧
    (∀ (C : CC) (X : XX) (mc ms : Nat) (J : Nat → KK) (Rt : RR) (t : BL) (pc n : Nat) (x : Int) (ls : AL) (st : List AV) (Z : ZZ) (M : MM) (a g : Int), wpl C X mc ms J Rt ((.ifCond .ne g, x, n) :: t) pc ls (Sum.inl a :: st) Z M = (rgI a ∧ (¬ a = 0 → J g.toNat ls st Z M) ∧ (a = 0 → wpl C X mc ms J Rt t (pc + n) ls st Z M))) ∧
    (∀ (C : CC) (X : XX) (mc ms : Nat) (J : Nat → KK) (Rt : RR) (t : BL) (pc n : Nat) (x : Int) (ls : AL) (st : List AV) (Z : ZZ) (M : MM) (a b g : Int), wpl C X mc ms J Rt ((.if_icmp .lt g, x, n) :: t) pc ls (Sum.inl b :: Sum.inl a :: st) Z M = ((rgI a ∧ rgI b) ∧ (a < b → J g.toNat ls st Z M) ∧ (b ≤ a → wpl C X mc ms J Rt t (pc + n) ls st Z M))) ∧
    (∀ (C : CC) (X : XX) (mc ms : Nat) (J : Nat → KK) (Rt : RR) (t : BL) (pc n : Nat) (x : Int) (ls : AL) (st : List AV) (Z : ZZ) (M : MM) (a g : Int), wpl C X mc ms J Rt ((.ifCond .lt g, x, n) :: t) pc ls (Sum.inl a :: st) Z M = (rgI a ∧ (a < 0 → J g.toNat ls st Z M) ∧ (0 ≤ a → wpl C X mc ms J Rt t (pc + n) ls st Z M))) ∧
    (∀ (C : CC) (X : XX) (mc ms : Nat) (J : Nat → KK) (Rt : RR) (t : BL) (pc n : Nat) (x : Int) (ls : AL) (st : List AV) (Z : ZZ) (M : MM) (a b g : Int), wpl C X mc ms J Rt ((.if_icmp .ge g, x, n) :: t) pc ls (Sum.inl b :: Sum.inl a :: st) Z M = ((rgI a ∧ rgI b) ∧ (b ≤ a → J g.toNat ls st Z M) ∧ (a < b → wpl C X mc ms J Rt t (pc + n) ls st Z M))) ∧
    (∀ (C : CC) (X : XX) (mc ms : Nat) (J : Nat → KK) (Rt : RR) (t : BL) (pc n : Nat) (x : Int) (ls : AL) (st : List AV) (Z : ZZ) (M : MM) (a g : Int), wpl C X mc ms J Rt ((.ifCond .ge g, x, n) :: t) pc ls (Sum.inl a :: st) Z M = (rgI a ∧ (0 ≤ a → J g.toNat ls st Z M) ∧ (a < 0 → wpl C X mc ms J Rt t (pc + n) ls st Z M))) ∧
    (∀ (C : CC) (X : XX) (mc ms : Nat) (J : Nat → KK) (Rt : RR) (t : BL) (pc n : Nat) (x : Int) (ls : AL) (st : List AV) (Z : ZZ) (M : MM) (a b g : Int), wpl C X mc ms J Rt ((.if_icmp .gt g, x, n) :: t) pc ls (Sum.inl b :: Sum.inl a :: st) Z M = ((rgI a ∧ rgI b) ∧ (b < a → J g.toNat ls st Z M) ∧ (a ≤ b → wpl C X mc ms J Rt t (pc + n) ls st Z M))) ∧
    (∀ (C : CC) (X : XX) (mc ms : Nat) (J : Nat → KK) (Rt : RR) (t : BL) (pc n : Nat) (x : Int) (ls : AL) (st : List AV) (Z : ZZ) (M : MM) (a g : Int), wpl C X mc ms J Rt ((.ifCond .gt g, x, n) :: t) pc ls (Sum.inl a :: st) Z M = (rgI a ∧ (0 < a → J g.toNat ls st Z M) ∧ (a ≤ 0 → wpl C X mc ms J Rt t (pc + n) ls st Z M))) ∧
    (∀ (C : CC) (X : XX) (mc ms : Nat) (J : Nat → KK) (Rt : RR) (t : BL) (pc n : Nat) (x : Int) (ls : AL) (st : List AV) (Z : ZZ) (M : MM) (a b g : Int), wpl C X mc ms J Rt ((.if_icmp .le g, x, n) :: t) pc ls (Sum.inl b :: Sum.inl a :: st) Z M = ((rgI a ∧ rgI b) ∧ (a ≤ b → J g.toNat ls st Z M) ∧ (b < a → wpl C X mc ms J Rt t (pc + n) ls st Z M))) ∧
    (∀ (C : CC) (X : XX) (mc ms : Nat) (J : Nat → KK) (Rt : RR) (t : BL) (pc n : Nat) (x : Int) (ls : AL) (st : List AV) (Z : ZZ) (M : MM) (a g : Int), wpl C X mc ms J Rt ((.ifCond .le g, x, n) :: t) pc ls (Sum.inl a :: st) Z M = (rgI a ∧ (a ≤ 0 → J g.toNat ls st Z M) ∧ (0 < a → wpl C X mc ms J Rt t (pc + n) ls st Z M))) ∧
    (∀ (C : CC) (X : XX) (mc ms : Nat) (J : Nat → KK) (Rt : RR) (t : BL) (pc n : Nat) (x : Int) (ls : AL) (st : List AV) (Z : ZZ) (M : MM) (a d lo hi : Int) (os : Array Int), wpl C X mc ms J Rt ((.tableswitch d lo hi os, x, n) :: t) pc ls (Sum.inl a :: st) Z M = (rgI a ∧ (a < lo ∨ hi < a → J d.toNat ls st Z M) ∧ swl J a ls st Z M os.toList lo)) ∧
    (∀ (C : CC) (X : XX) (mc ms : Nat) (J : Nat → KK) (Rt : RR) (t : BL) (pc n : Nat) (x : Int) (ls : AL) (st : List AV) (Z : ZZ) (M : MM) (a d : Int) (ps : Array (Int × Int)), wpl C X mc ms J Rt ((.lookupswitch d ps, x, n) :: t) pc ls (Sum.inl a :: st) Z M = (rgI a ∧ lkl J a ls st Z M d ps.toList)) ∧
    (∀ (C : CC) (X : XX) (mc ms : Nat) (J : Nat → KK) (Rt : RR) (t : BL) (pc n : Nat) (x : Int) (ls : AL) (st : List AV) (Z : ZZ) (M : MM) (k r : Nat), wpl C X mc ms J Rt ((.getfield k, x, n) :: t) pc ls (Sum.inr (Sum.inr r) :: st) Z M = (cls Z.1 r = some x.toNat ∧ gF (fld Z.1 r k) (wpl C X mc ms J Rt t (pc + n) ls (Sum.inl (M r k) :: st) Z M) (fun q => wpl C X mc ms J Rt t (pc + n) ls (Sum.inr (Sum.inr q) :: st) Z M))) ∧
    (∀ (C : CC) (X : XX) (mc ms : Nat) (J : Nat → KK) (Rt : RR) (t : BL) (pc n : Nat) (x : Int) (ls : AL) (st : List AV) (Z : ZZ) (M : MM) (k r : Nat) (a : Int), wpl C X mc ms J Rt ((.putfield k, x, n) :: t) pc ls (Sum.inl a :: Sum.inr (Sum.inr r) :: st) Z M = (cls Z.1 r = some x.toNat ∧ gF (fld Z.1 r k) (wpl C X mc ms J Rt t (pc + n) ls st Z (mset M r k a)) (fun _ => False))) ∧
    (∀ (C : CC) (X : XX) (mc ms : Nat) (J : Nat → KK) (Rt : RR) (t : BL) (pc n : Nat) (x : Int) (ls : AL) (st : List AV) (Z : ZZ) (M : MM) (r : Nat) (j : Int), wpl C X mc ms J Rt ((.baload, x, n) :: t) pc ls (Sum.inl j :: Sum.inr (Sum.inr r) :: st) Z M = (gA (arr Z.1 r) j fun t1 _ => (t1 = 1 ∨ t1 = 2) ∧ wpl C X mc ms J Rt t (pc + n) ls (Sum.inl (M r j.toNat) :: st) Z M)) ∧
    (∀ (C : CC) (X : XX) (mc ms : Nat) (J : Nat → KK) (Rt : RR) (t : BL) (pc n : Nat) (x : Int) (ls : AL) (st : List AV) (Z : ZZ) (M : MM) (r : Nat) (j : Int), wpl C X mc ms J Rt ((.iaload, x, n) :: t) pc ls (Sum.inl j :: Sum.inr (Sum.inr r) :: st) Z M = (if r = scr then (match X with | some q => (0 ≤ j ∧ j < q.1) ∧ q.1 ≤ 100000 ∧ wpl C X mc ms J Rt t (pc + n) ls (Sum.inl (q.2 j.toNat) :: st) Z M | none => False) else gA (arr Z.1 r) j fun t1 _ => t1 = 0 ∧ wpl C X mc ms J Rt t (pc + n) ls (Sum.inl (M r j.toNat) :: st) Z M)) ∧
    (∀ (C : CC) (X : XX) (mc ms : Nat) (J : Nat → KK) (Rt : RR) (t : BL) (pc n : Nat) (x : Int) (ls : AL) (st : List AV) (Z : ZZ) (M : MM) (r : Nat) (j : Int), wpl C X mc ms J Rt ((.laload, x, n) :: t) pc ls (Sum.inl j :: Sum.inr (Sum.inr r) :: st) Z M = (gA (arr Z.1 r) j fun t1 _ => t1 = 3 ∧ wpl C X mc ms J Rt t (pc + n) ls (Sum.inr (Sum.inl (M r j.toNat)) :: st) Z M)) ∧
    (∀ (C : CC) (X : XX) (mc ms : Nat) (J : Nat → KK) (Rt : RR) (t : BL) (pc n : Nat) (x : Int) (ls : AL) (st : List AV) (Z : ZZ) (M : MM) (r : Nat) (j : Int), wpl C X mc ms J Rt ((.aaload, x, n) :: t) pc ls (Sum.inl j :: Sum.inr (Sum.inr r) :: st) Z M = (gA (arr Z.1 r) j fun t1 f => (t1 = 4 ∨ t1 = 5) ∧ gQ (f j.toNat) fun q => wpl C X mc ms J Rt t (pc + n) ls (Sum.inr (Sum.inr q) :: st) Z M)) ∧
    (∀ (C : CC) (X : XX) (mc ms : Nat) (J : Nat → KK) (Rt : RR) (t : BL) (pc n : Nat) (x : Int) (ls : AL) (st : List AV) (Z : ZZ) (M : MM) (r : Nat) (j a : Int), wpl C X mc ms J Rt ((.iastore, x, n) :: t) pc ls (Sum.inl a :: Sum.inl j :: Sum.inr (Sum.inr r) :: st) Z M = (gA (arr Z.1 r) j fun t1 _ => t1 = 0 ∧ wpl C X mc ms J Rt t (pc + n) ls st Z (mset M r j.toNat a))) ∧
    (∀ (C : CC) (X : XX) (mc ms : Nat) (J : Nat → KK) (Rt : RR) (t : BL) (pc n : Nat) (x : Int) (ls : AL) (st : List AV) (Z : ZZ) (M : MM) (r : Nat) (j a : Int), wpl C X mc ms J Rt ((.bastore, x, n) :: t) pc ls (Sum.inl a :: Sum.inl j :: Sum.inr (Sum.inr r) :: st) Z M = (gA (arr Z.1 r) j fun t1 _ => (t1 = 1 ∨ (t1 = 2 ∧ (a = 0 ∨ a = 1))) ∧ wpl C X mc ms J Rt t (pc + n) ls st Z (mset M r j.toNat (if t1 = 1 then bByt a else a)))) ∧
    (∀ (C : CC) (X : XX) (mc ms : Nat) (J : Nat → KK) (Rt : RR) (t : BL) (pc n : Nat) (x : Int) (ls : AL) (st : List AV) (Z : ZZ) (M : MM) (r : Nat) (j a : Int), wpl C X mc ms J Rt ((.lastore, x, n) :: t) pc ls (Sum.inr (Sum.inl a) :: Sum.inl j :: Sum.inr (Sum.inr r) :: st) Z M = (gA (arr Z.1 r) j fun t1 _ => t1 = 3 ∧ wpl C X mc ms J Rt t (pc + n) ls st Z (mset M r j.toNat a))) ∧
    (∀ (C : CC) (X : XX) (mc ms : Nat) (J : Nat → KK) (Rt : RR) (t : BL) (pc n : Nat) (x : Int) (ls : AL) (st : List AV) (Z : ZZ) (M : MM) (r : Nat), wpl C X mc ms J Rt ((.arraylength, x, n) :: t) pc ls (Sum.inr (Sum.inr r) :: st) Z M = (if r = scr then (match X with | some q => q.1 ≤ 100000 ∧ wpl C X mc ms J Rt t (pc + n) ls (Sum.inl q.1 :: st) Z M | none => False) else (match arr Z.1 r with | some (t1, n1, _) => t1 < 6 ∧ n1 ≤ 100000 ∧ wpl C X mc ms J Rt t (pc + n) ls (Sum.inl n1 :: st) Z M | _ => False))) ∧
    (∀ (C : CC) (X : XX) (mc ms : Nat) (J : Nat → KK) (Rt : RR) (t : BL) (pc n : Nat) (x : Int) (ls : AL) (st : List AV) (Z : ZZ) (M : MM) (y : Nat), wpl C X mc ms J Rt ((.invokestatic y, x, n) :: t) pc ls st Z M = (if y < 1000 then wpc C mc ms y x.toNat (wpl C X mc ms J Rt t (pc + n)) ls st Z M
      else if y = 1000 then pI st fun n2 st => pI st fun dp st => pR st fun dk st => pI st fun sp st => pR st fun sk st => (match arr Z.1 sk, arr Z.1 dk with
          | some (t2, n0, _), some (t1, n1, _) => t2 = t1 ∧ (t2 = 0 ∨ t2 = 3) ∧ 0 ≤ sp ∧ 0 ≤ dp ∧ 0 ≤ n2 ∧ sp + n2 ≤ n0 ∧ dp + n2 ≤ n1 ∧ n0 ≤ 100000 ∧ n1 ≤ 100000 ∧ st = [] ∧ wpl C X mc ms J Rt t (pc + n) ls st Z (mcpy M sk dk sp.toNat dp.toNat n2.toNat)
          | _, _ => False)
      else if y = 1002 then pI st fun b st => pI st fun a st => rgI a ∧ rgI b ∧ cats st ≤ 8 ∧ Z.2.1 ≤ mc ∧ Z.2.2 ≤ ms ∧ wpl C X mc ms J Rt t (pc + n) ls (Sum.inl (max a b) :: st) Z M
      else if y = 1003 then pI st fun b st => pI st fun a st => rgI a ∧ rgI b ∧ cats st ≤ 8 ∧ Z.2.1 ≤ mc ∧ Z.2.2 ≤ ms ∧ wpl C X mc ms J Rt t (pc + n) ls (Sum.inl (min a b) :: st) Z M
      else False)) ∧
    (∀ (C : CC) (X : XX) (mc ms : Nat) (J : Nat → KK) (Rt : RR) (t : BL) (pc n : Nat) (x : Int) (ls : AL) (st : List AV) (Z : ZZ) (M : MM) (y : Nat), wpl C X mc ms J Rt ((.invokevirtual y, x, n) :: t) pc ls st Z M = (rcv Z.1 st (x.toNat - 1) y ∧ wpc C mc ms y x.toNat (wpl C X mc ms J Rt t (pc + n)) ls st Z M)) ∧
    (∀ (C : CC) (X : XX) (mc ms : Nat) (J : Nat → KK) (Rt : RR) (t : BL) (pc n : Nat) (x : Int) (ls : AL) (Z : ZZ) (M : MM) (a : Int), wpl C X mc ms J Rt ((.ireturn, x, n) :: t) pc ls [Sum.inl a] Z M = (True ∧ Rt (some (Sum.inl a)) Z M)) ∧
    (∀ (C : CC) (X : XX) (mc ms : Nat) (J : Nat → KK) (Rt : RR) (t : BL) (pc n : Nat) (x : Int) (ls : AL) (Z : ZZ) (M : MM) (a : Int), wpl C X mc ms J Rt ((.lreturn, x, n) :: t) pc ls [Sum.inr (Sum.inl a)] Z M = (True ∧ Rt (some (Sum.inr (Sum.inl a))) Z M)) ∧
    (∀ (C : CC) (X : XX) (mc ms : Nat) (J : Nat → KK) (Rt : RR) (t : BL) (pc n : Nat) (x : Int) (ls : AL) (Z : ZZ) (M : MM), wpl C X mc ms J Rt ((.return_, x, n) :: t) pc ls [] Z M = (True ∧ Rt none Z M)) ∧
    (∀ (C : CC) (X : XX) (mc ms : Nat) (J : Nat → KK) (Rt : RR) (pc : Nat) (ls : AL) (st : List AV) (Z : ZZ) (M : MM), wpl C X mc ms J Rt [] pc ls st Z M = J pc ls st Z M) :=
  ⟨by intros; rfl,
   by intros; rfl,
   by intros; rfl,
   by intros; rfl,
   by intros; rfl,
   by intros; rfl,
   by intros; rfl,
   by intros; rfl,
   by intros; rfl,
   by intros; exact propext ⟨fun h => ⟨⟨h.1, h.2.1⟩, h.2.2.1, fun z => h.2.2.2 (by have := z; unfold cnd; omega)⟩, fun h => ⟨h.1.1, h.1.2, h.2.1, fun z => h.2.2 (by have := z; unfold cnd at this; omega)⟩⟩,
   by intros; exact propext ⟨fun h => ⟨h.1, h.2.1, fun z => h.2.2 (by have := z; unfold cnd; omega)⟩, fun h => ⟨h.1, h.2.1, fun z => h.2.2 (by have := z; unfold cnd at this; omega)⟩⟩,
   by intros; exact propext ⟨fun h => ⟨⟨h.1, h.2.1⟩, h.2.2.1, fun z => h.2.2.2 (by have := z; unfold cnd; omega)⟩, fun h => ⟨h.1.1, h.1.2, h.2.1, fun z => h.2.2 (by have := z; unfold cnd at this; omega)⟩⟩,
   by intros; exact propext ⟨fun h => ⟨h.1, h.2.1, fun z => h.2.2 (by have := z; unfold cnd; omega)⟩, fun h => ⟨h.1, h.2.1, fun z => h.2.2 (by have := z; unfold cnd at this; omega)⟩⟩,
   by intros; exact propext ⟨fun h => ⟨⟨h.1, h.2.1⟩, h.2.2.1, fun z => h.2.2.2 (by have := z; unfold cnd; omega)⟩, fun h => ⟨h.1.1, h.1.2, h.2.1, fun z => h.2.2 (by have := z; unfold cnd at this; omega)⟩⟩,
   by intros; exact propext ⟨fun h => ⟨h.1, h.2.1, fun z => h.2.2 (by have := z; unfold cnd; omega)⟩, fun h => ⟨h.1, h.2.1, fun z => h.2.2 (by have := z; unfold cnd at this; omega)⟩⟩,
   by intros; exact propext ⟨fun h => ⟨⟨h.1, h.2.1⟩, h.2.2.1, fun z => h.2.2.2 (by have := z; unfold cnd; omega)⟩, fun h => ⟨h.1.1, h.1.2, h.2.1, fun z => h.2.2 (by have := z; unfold cnd at this; omega)⟩⟩,
   by intros; exact propext ⟨fun h => ⟨h.1, h.2.1, fun z => h.2.2 (by have := z; unfold cnd; omega)⟩, fun h => ⟨h.1, h.2.1, fun z => h.2.2 (by have := z; unfold cnd at this; omega)⟩⟩,
   by intros; exact propext ⟨fun h => ⟨⟨h.1, h.2.1⟩, h.2.2.1, fun z => h.2.2.2 (by have := z; unfold cnd; omega)⟩, fun h => ⟨h.1.1, h.1.2, h.2.1, fun z => h.2.2 (by have := z; unfold cnd at this; omega)⟩⟩,
   by intros; exact propext ⟨fun h => ⟨h.1, h.2.1, fun z => h.2.2 (by have := z; unfold cnd; omega)⟩, fun h => ⟨h.1, h.2.1, fun z => h.2.2 (by have := z; unfold cnd at this; omega)⟩⟩,
   by intros; exact propext ⟨fun h => ⟨⟨h.1, h.2.1⟩, h.2.2.1, fun z => h.2.2.2 (by have := z; unfold cnd; omega)⟩, fun h => ⟨h.1.1, h.1.2, h.2.1, fun z => h.2.2 (by have := z; unfold cnd at this; omega)⟩⟩,
   by intros; exact propext ⟨fun h => ⟨h.1, h.2.1, fun z => h.2.2 (by have := z; unfold cnd; omega)⟩, fun h => ⟨h.1, h.2.1, fun z => h.2.2 (by have := z; unfold cnd at this; omega)⟩⟩,
   by intros; rfl,
   by intros; rfl,
   by intros; rfl,
   by intros; rfl,
   by intros; rfl,
   by intros; rfl,
   by intros; rfl,
   by intros; rfl,
   by intros; rfl,
   by intros; rfl,
   by intros; rfl,
   by intros; rfl,
   by intros; rfl,
   by intros; rfl,
   by intros; exact propext ⟨fun h => ⟨trivial, h.2⟩, fun h => ⟨rfl, h.2⟩⟩,
   by intros; exact propext ⟨fun h => ⟨trivial, h.2⟩, fun h => ⟨rfl, h.2⟩⟩,
   by intros; exact propext ⟨fun h => ⟨trivial, h.2⟩, fun h => ⟨rfl, h.2⟩⟩,
   by intros; rfl⟩
theorem blk_if {y pc k : Nat} {a b : BL} (ha : blk y k a = true) (hb : blk y pc b = true) : blk y pc (if pc = k then a else b) = true := by
  by_cases h : pc = k
  · subst h; rw [if_pos rfl]; exact ha
  · rw [if_neg h]; exact hb
theorem WX (C : CC) (X : XX) (mc ms : Nat) (S : Nat → KK) (Rt : RR) (bt : Nat → BL) (sp : Nat → Bool) (f pc : Nat) (ls : AL) (st : List AV) (Z : ZZ) (M : MM) : wpx C X mc ms S Rt bt sp (f + 1) pc ls st Z M = wpl C X mc ms (fun t => cond (sp t) (S t) (wpx C X mc ms S Rt bt sp f t)) Rt (bt pc) pc ls st Z M := rfl
theorem GS : (∀ (a : Int) (k : Int → Prop), gI (some (Sum.inl a)) k = k a) ∧ (∀ (a : Int) (k : Int → Prop), gL (some (Sum.inr (Sum.inl a))) k = k a) ∧ (∀ (a : Nat) (k : Nat → Prop), gR (some (Sum.inr (Sum.inr a))) k = k a) ∧ (∀ (kn : Prop) (kr : Nat → Prop), gF (some none) kn kr = kn) ∧ (∀ (q : Nat) (kn : Prop) (kr : Nat → Prop), gF (some (some (some q))) kn kr = kr q) ∧
    (∀ (t n : Nat) (f : Nat → Option Nat) (j : Int) (k : Nat → (Nat → Option Nat) → Prop), gA (some (t, n, f)) j k = ((0 ≤ j ∧ j < n) ∧ n ≤ 100000 ∧ k t f)) ∧ (∀ (q : Nat) (k : Nat → Prop), gQ (some q) k = k q) ∧
    (∀ (a : Int) (t : List AV) (k : Int → List AV → Prop), pI (Sum.inl a :: t) k = k a t) ∧ (∀ (a : Nat) (t : List AV) (k : Nat → List AV → Prop), pR (Sum.inr (Sum.inr a) :: t) k = k a t) :=
  ⟨fun _ _ => rfl, fun _ _ => rfl, fun _ _ => rfl, fun _ _ => rfl, fun _ _ _ => rfl, fun _ _ _ _ _ => rfl, fun _ _ => rfl, fun _ _ _ => rfl, fun _ _ _ => rfl⟩
theorem LOC : (∀ (x : Option AV) (t : AL), lget (x :: t) 0 = x) ∧ (∀ (x : Option AV) (t : AL) (i : Nat), lget (x :: t) (i + 1) = lget t i) ∧ (∀ (x : Option AV) (t : AL) (v : AV), lst1 (x :: t) 0 v = some v :: t) ∧ (∀ (x : Option AV) (t : AL) (v : AV), lst1 (x :: t) 1 v = lclr x :: lst1 t 0 v) ∧ (∀ (x : Option AV) (t : AL) (i : Nat) (v : AV), lst1 (x :: t) (i + 2) v = x :: lst1 t (i + 1) v) ∧
    (∀ (x y : Option AV) (t : AL) (v : AV), lst2 (x :: y :: t) 0 v = some v :: none :: t) ∧ (∀ (x y : Option AV) (t : AL) (v : AV), lst2 (x :: y :: t) 1 v = lclr x :: lst2 (y :: t) 0 v) ∧ (∀ (x : Option AV) (t : AL) (i : Nat) (v : AV), lst2 (x :: t) (i + 2) v = x :: lst2 t (i + 1) v) ∧
    lclr none = none ∧ (∀ a : Int, lclr (some (Sum.inl a)) = some (Sum.inl a)) ∧ (∀ a : Nat, lclr (some (Sum.inr (Sum.inr a))) = some (Sum.inr (Sum.inr a))) ∧ (∀ a : Int, lclr (some (Sum.inr (Sum.inl a))) = none) :=
  ⟨fun _ _ => rfl, fun _ _ _ => rfl, fun _ _ _ => rfl, fun _ _ _ => rfl, fun _ _ _ _ => rfl, fun _ _ _ _ => rfl, fun _ _ _ _ => by simp [lst2], fun x t i v => by cases t <;> simp [lst2], rfl, fun _ => rfl, fun _ => rfl, fun _ => rfl⟩
end
section
/-! 0 OwnSunday$Book.<init> -/
def bt0 (pc : Nat) : BL := if pc = 0 then [(.aload 0, 0, 1), (.invokespecial 1001, 99, 3), (.aload 0, 0, 1), (.iconst 10, 0, 2), (.newarray .int, 0, 2), (.putstatic 0, 0, 3), (.aload 0, 0, 1), (.iconst 10, 0, 2), (.newarray .int, 0, 2), (.putstatic 1, 0, 3), (.aload 0, 0, 1), (.iconst 20, 0, 2), (.newarray .long, 0, 2), (.putstatic 4, 0, 3), (.aload 0, 0, 1), (.iconst 20, 0, 2), (.newarray .int, 0, 2), (.putstatic 5, 0, 3), (.return_, 0, 1)] else []
def sp0 (pc : Nat) : Bool := [].contains pc
theorem BT0 : bt0 0 = [(.aload 0, 0, 1), (.invokespecial 1001, 99, 3), (.aload 0, 0, 1), (.iconst 10, 0, 2), (.newarray .int, 0, 2), (.putstatic 0, 0, 3), (.aload 0, 0, 1), (.iconst 10, 0, 2), (.newarray .int, 0, 2), (.putstatic 1, 0, 3), (.aload 0, 0, 1), (.iconst 20, 0, 2), (.newarray .long, 0, 2), (.putstatic 4, 0, 3), (.aload 0, 0, 1), (.iconst 20, 0, 2), (.newarray .int, 0, 2), (.putstatic 5, 0, 3), (.return_, 0, 1)] ∧ True := ⟨rfl, trivial⟩
theorem SP0 : sp0 0 = false ∧ True := ⟨rfl, trivial⟩
set_option maxRecDepth 100000 in
theorem bk0 : ∀ pc, blk 0 pc (bt0 pc) = true := fun pc => blk_if (by decide +kernel) (rfl)
theorem go0 {d mc ms : Nat} {sh : List SC} {M : MM} {Post : PP} {a0 : Nat} (h : ∀ S : Nat → KK, Clo (Run d) 0 none mc ms (Rtn 0 mc ms Post) S → S 0 [some (vR a0)] [] (sh, 0, 0) M) : Run (d + 1) 0 [vR a0] sh M mc ms Post := ⟨Nat.le_of_ble_eq_true rfl, h⟩
theorem rt0 {mc ms : Nat} {Z : ZZ} {M : MM} {Post : PP} (h1 : Z.2.1 ≤ mc) (h2 : Z.2.2 ≤ ms) (h : Post none Z.1 M) : Rtn 0 mc ms Post none Z M := ⟨h1, h2, trivial, h⟩
/-! 1 OwnSunday$Book.begin -/
def bt1 (pc : Nat) : BL := if pc = 0 then [(.aload 0, 0, 1), (.iconst 0, 0, 1), (.putfield 2, 0, 3), (.aload 0, 0, 1), (.iconst 0, 0, 1), (.putfield 3, 0, 3), (.return_, 0, 1)] else []
def sp1 (pc : Nat) : Bool := [].contains pc
theorem BT1 : bt1 0 = [(.aload 0, 0, 1), (.iconst 0, 0, 1), (.putfield 2, 0, 3), (.aload 0, 0, 1), (.iconst 0, 0, 1), (.putfield 3, 0, 3), (.return_, 0, 1)] ∧ True := ⟨rfl, trivial⟩
theorem SP1 : sp1 0 = false ∧ True := ⟨rfl, trivial⟩
set_option maxRecDepth 100000 in
theorem bk1 : ∀ pc, blk 1 pc (bt1 pc) = true := fun pc => blk_if (by decide +kernel) (rfl)
theorem go1 {d mc ms : Nat} {sh : List SC} {M : MM} {Post : PP} {a0 : Nat} (h : ∀ S : Nat → KK, Clo (Run d) 1 none mc ms (Rtn 1 mc ms Post) S → S 0 [some (vR a0)] [] (sh, 0, 0) M) : Run (d + 1) 1 [vR a0] sh M mc ms Post := ⟨Nat.le_of_ble_eq_true rfl, h⟩
theorem rt1 {mc ms : Nat} {Z : ZZ} {M : MM} {Post : PP} (h1 : Z.2.1 ≤ mc) (h2 : Z.2.2 ≤ ms) (h : Post none Z.1 M) : Rtn 1 mc ms Post none Z M := ⟨h1, h2, trivial, h⟩
/-! 2 OwnSunday$Book.settleAt -/
def bt2 (pc : Nat) : BL := if pc = 0 then [(.aload 0, 0, 1), (.getfield 0, 0, 3), (.iload 1, 0, 1), (.iload 2, 0, 1), (.iastore, 0, 1), (.aload 0, 0, 1), (.getfield 1, 0, 3), (.iload 1, 0, 1), (.iload 3, 0, 1), (.iastore, 0, 1), (.return_, 0, 1)] else []
def sp2 (pc : Nat) : Bool := [].contains pc
theorem BT2 : bt2 0 = [(.aload 0, 0, 1), (.getfield 0, 0, 3), (.iload 1, 0, 1), (.iload 2, 0, 1), (.iastore, 0, 1), (.aload 0, 0, 1), (.getfield 1, 0, 3), (.iload 1, 0, 1), (.iload 3, 0, 1), (.iastore, 0, 1), (.return_, 0, 1)] ∧ True := ⟨rfl, trivial⟩
theorem SP2 : sp2 0 = false ∧ True := ⟨rfl, trivial⟩
set_option maxRecDepth 100000 in
theorem bk2 : ∀ pc, blk 2 pc (bt2 pc) = true := fun pc => blk_if (by decide +kernel) (rfl)
theorem go2 {d mc ms : Nat} {sh : List SC} {M : MM} {Post : PP} {a0 : Nat} {a1 : Int} {a2 : Int} {a3 : Int} (h : ∀ S : Nat → KK, Clo (Run d) 2 none mc ms (Rtn 2 mc ms Post) S → S 0 [some (vR a0), some (vI a1), some (vI a2), some (vI a3)] [] (sh, 0, 0) M) : Run (d + 1) 2 [vR a0, vI a1, vI a2, vI a3] sh M mc ms Post := ⟨Nat.le_of_ble_eq_true rfl, h⟩
theorem rt2 {mc ms : Nat} {Z : ZZ} {M : MM} {Post : PP} (h1 : Z.2.1 ≤ mc) (h2 : Z.2.2 ≤ ms) (h : Post none Z.1 M) : Rtn 2 mc ms Post none Z M := ⟨h1, h2, trivial, h⟩
/-! 3 OwnSunday$Book.isNew -/
def bt3 (pc : Nat) : BL := if pc = 0 then [(.aload 0, 0, 1), (.getfield 2, 0, 3), (.iconst 1, 0, 1), (.iload 1, 0, 1), (.ishl, 0, 1), (.iand, 0, 1), (.ifCond .eq 15, 0, 3)] else if pc = 11 then [(.iconst 1, 0, 1), (.goto 16, 0, 3)] else if pc = 15 then [(.iconst 0, 0, 1)] else if pc = 16 then [(.ireturn, 0, 1)] else []
def sp3 (pc : Nat) : Bool := [].contains pc
theorem BT3 : bt3 0 = [(.aload 0, 0, 1), (.getfield 2, 0, 3), (.iconst 1, 0, 1), (.iload 1, 0, 1), (.ishl, 0, 1), (.iand, 0, 1), (.ifCond .eq 15, 0, 3)] ∧ bt3 11 = [(.iconst 1, 0, 1), (.goto 16, 0, 3)] ∧ bt3 15 = [(.iconst 0, 0, 1)] ∧ bt3 16 = [(.ireturn, 0, 1)] ∧ True := ⟨rfl, rfl, rfl, rfl, trivial⟩
theorem SP3 : sp3 0 = false ∧ sp3 11 = false ∧ sp3 15 = false ∧ sp3 16 = false ∧ True := ⟨rfl, rfl, rfl, rfl, trivial⟩
set_option maxRecDepth 100000 in
theorem bk3 : ∀ pc, blk 3 pc (bt3 pc) = true := fun pc => blk_if (by decide +kernel) (blk_if (by decide +kernel) (blk_if (by decide +kernel) (blk_if (by decide +kernel) (rfl))))
theorem go3 {d mc ms : Nat} {sh : List SC} {M : MM} {Post : PP} {a0 : Nat} {a1 : Int} (h : ∀ S : Nat → KK, Clo (Run d) 3 none mc ms (Rtn 3 mc ms Post) S → S 0 [some (vR a0), some (vI a1)] [] (sh, 0, 0) M) : Run (d + 1) 3 [vR a0, vI a1] sh M mc ms Post := ⟨Nat.le_of_ble_eq_true rfl, h⟩
theorem rt3 {v : Int} {sh : List SC} {M : MM} {Post : PP} (hv : v = 0 ∨ v = 1) (h : Post (some (Sum.inl v)) sh M) : Rtn 3 0 0 Post (some (Sum.inl v)) (sh, 0, 0) M := ⟨Nat.le_refl _, Nat.le_refl _, hv, h⟩
/-! 4 OwnSunday$Book.seenWent -/
def bt4 (pc : Nat) : BL := if pc = 0 then [(.aload 0, 0, 1), (.getfield 6, 0, 3), (.iconst 1, 0, 1), (.iload 1, 0, 1), (.ishl, 0, 1), (.iand, 0, 1), (.ifCond .eq 15, 0, 3)] else if pc = 11 then [(.iconst 1, 0, 1), (.goto 16, 0, 3)] else if pc = 15 then [(.iconst 0, 0, 1)] else if pc = 16 then [(.ireturn, 0, 1)] else []
def sp4 (pc : Nat) : Bool := [].contains pc
theorem BT4 : bt4 0 = [(.aload 0, 0, 1), (.getfield 6, 0, 3), (.iconst 1, 0, 1), (.iload 1, 0, 1), (.ishl, 0, 1), (.iand, 0, 1), (.ifCond .eq 15, 0, 3)] ∧ bt4 11 = [(.iconst 1, 0, 1), (.goto 16, 0, 3)] ∧ bt4 15 = [(.iconst 0, 0, 1)] ∧ bt4 16 = [(.ireturn, 0, 1)] ∧ True := ⟨rfl, rfl, rfl, rfl, trivial⟩
theorem SP4 : sp4 0 = false ∧ sp4 11 = false ∧ sp4 15 = false ∧ sp4 16 = false ∧ True := ⟨rfl, rfl, rfl, rfl, trivial⟩
set_option maxRecDepth 100000 in
theorem bk4 : ∀ pc, blk 4 pc (bt4 pc) = true := fun pc => blk_if (by decide +kernel) (blk_if (by decide +kernel) (blk_if (by decide +kernel) (blk_if (by decide +kernel) (rfl))))
theorem go4 {d mc ms : Nat} {sh : List SC} {M : MM} {Post : PP} {a0 : Nat} {a1 : Int} (h : ∀ S : Nat → KK, Clo (Run d) 4 none mc ms (Rtn 4 mc ms Post) S → S 0 [some (vR a0), some (vI a1)] [] (sh, 0, 0) M) : Run (d + 1) 4 [vR a0, vI a1] sh M mc ms Post := ⟨Nat.le_of_ble_eq_true rfl, h⟩
theorem rt4 {v : Int} {sh : List SC} {M : MM} {Post : PP} (hv : v = 0 ∨ v = 1) (h : Post (some (Sum.inl v)) sh M) : Rtn 4 0 0 Post (some (Sum.inl v)) (sh, 0, 0) M := ⟨Nat.le_refl _, Nat.le_refl _, hv, h⟩
/-! 5 OwnSunday$Book.addSeen -/
def bt5 (pc : Nat) : BL := if pc = 0 then [(.aload 0, 0, 1), (.getfield 3, 0, 3), (.iconst 20, 0, 2), (.if_icmp .lt 10, 0, 3)] else if pc = 9 then [(.return_, 0, 1)] else if pc = 10 then [(.aload 0, 0, 1), (.getfield 4, 0, 3), (.aload 0, 0, 1), (.getfield 3, 0, 3), (.lload 1, 0, 1), (.lastore, 0, 1), (.aload 0, 0, 1), (.getfield 5, 0, 3), (.aload 0, 0, 1), (.getfield 3, 0, 3), (.iload 3, 0, 1), (.iastore, 0, 1), (.iconst 1, 0, 1), (.aload 0, 0, 1), (.getfield 3, 0, 3), (.ishl, 0, 1), (.istore 5, 0, 2), (.aload 0, 0, 1), (.iload 4, 0, 2), (.ifCond .eq 54, 0, 3)] else if pc = 44 then [(.aload 0, 0, 1), (.getfield 6, 0, 3), (.iload 5, 0, 2), (.ior, 0, 1), (.goto 63, 0, 3)] else if pc = 54 then [(.aload 0, 0, 1), (.getfield 6, 0, 3), (.iload 5, 0, 2), (.iconst (-1), 0, 1), (.ixor, 0, 1), (.iand, 0, 1)] else if pc = 63 then [(.putfield 6, 0, 3), (.aload 0, 0, 1), (.dup, 0, 1), (.getfield 3, 0, 3), (.iconst 1, 0, 1), (.iadd, 0, 1), (.putfield 3, 0, 3), (.return_, 0, 1)] else []
def sp5 (pc : Nat) : Bool := [].contains pc
theorem BT5 : bt5 0 = [(.aload 0, 0, 1), (.getfield 3, 0, 3), (.iconst 20, 0, 2), (.if_icmp .lt 10, 0, 3)] ∧ bt5 9 = [(.return_, 0, 1)] ∧ bt5 10 = [(.aload 0, 0, 1), (.getfield 4, 0, 3), (.aload 0, 0, 1), (.getfield 3, 0, 3), (.lload 1, 0, 1), (.lastore, 0, 1), (.aload 0, 0, 1), (.getfield 5, 0, 3), (.aload 0, 0, 1), (.getfield 3, 0, 3), (.iload 3, 0, 1), (.iastore, 0, 1), (.iconst 1, 0, 1), (.aload 0, 0, 1), (.getfield 3, 0, 3), (.ishl, 0, 1), (.istore 5, 0, 2), (.aload 0, 0, 1), (.iload 4, 0, 2), (.ifCond .eq 54, 0, 3)] ∧ bt5 44 = [(.aload 0, 0, 1), (.getfield 6, 0, 3), (.iload 5, 0, 2), (.ior, 0, 1), (.goto 63, 0, 3)] ∧ bt5 54 = [(.aload 0, 0, 1), (.getfield 6, 0, 3), (.iload 5, 0, 2), (.iconst (-1), 0, 1), (.ixor, 0, 1), (.iand, 0, 1)] ∧ bt5 63 = [(.putfield 6, 0, 3), (.aload 0, 0, 1), (.dup, 0, 1), (.getfield 3, 0, 3), (.iconst 1, 0, 1), (.iadd, 0, 1), (.putfield 3, 0, 3), (.return_, 0, 1)] ∧ True := ⟨rfl, rfl, rfl, rfl, rfl, rfl, trivial⟩
theorem SP5 : sp5 0 = false ∧ sp5 9 = false ∧ sp5 10 = false ∧ sp5 44 = false ∧ sp5 54 = false ∧ sp5 63 = false ∧ True := ⟨rfl, rfl, rfl, rfl, rfl, rfl, trivial⟩
set_option maxRecDepth 100000 in
theorem bk5 : ∀ pc, blk 5 pc (bt5 pc) = true := fun pc => blk_if (by decide +kernel) (blk_if (by decide +kernel) (blk_if (by decide +kernel) (blk_if (by decide +kernel) (blk_if (by decide +kernel) (blk_if (by decide +kernel) (rfl))))))
theorem go5 {d mc ms : Nat} {sh : List SC} {M : MM} {Post : PP} {a0 : Nat} {a1 : Int} {a2 : Int} {a3 : Int} (h : ∀ S : Nat → KK, Clo (Run d) 5 none mc ms (Rtn 5 mc ms Post) S → S 0 [some (vR a0), some (vL a1), none, some (vI a2), some (vI a3), none] [] (sh, 0, 0) M) : Run (d + 1) 5 [vR a0, vL a1, vI a2, vI a3] sh M mc ms Post := ⟨Nat.le_of_ble_eq_true rfl, h⟩
theorem rt5 {mc ms : Nat} {Z : ZZ} {M : MM} {Post : PP} (h1 : Z.2.1 ≤ mc) (h2 : Z.2.2 ≤ ms) (h : Post none Z.1 M) : Rtn 5 mc ms Post none Z M := ⟨h1, h2, trivial, h⟩
/-! 6 OwnSunday$Book.copyFrom -/
def bt6 (pc : Nat) : BL := if pc = 0 then [(.aload 1, 0, 1), (.getfield 0, 0, 3), (.iconst 0, 0, 1), (.aload 0, 0, 1), (.getfield 0, 0, 3), (.iconst 0, 0, 1), (.iconst 10, 0, 2), (.invokestatic 1000, 99, 3), (.aload 1, 0, 1), (.getfield 1, 0, 3), (.iconst 0, 0, 1), (.aload 0, 0, 1), (.getfield 1, 0, 3), (.iconst 0, 0, 1), (.iconst 10, 0, 2), (.invokestatic 1000, 99, 3), (.aload 0, 0, 1), (.aload 1, 0, 1), (.getfield 2, 0, 3), (.putfield 2, 0, 3), (.aload 0, 0, 1), (.aload 1, 0, 1), (.getfield 3, 0, 3), (.putfield 3, 0, 3), (.aload 1, 0, 1), (.getfield 4, 0, 3), (.iconst 0, 0, 1), (.aload 0, 0, 1), (.getfield 4, 0, 3), (.iconst 0, 0, 1), (.iconst 20, 0, 2), (.invokestatic 1000, 99, 3), (.aload 1, 0, 1), (.getfield 5, 0, 3), (.iconst 0, 0, 1), (.aload 0, 0, 1), (.getfield 5, 0, 3), (.iconst 0, 0, 1), (.iconst 20, 0, 2), (.invokestatic 1000, 99, 3), (.aload 0, 0, 1), (.aload 1, 0, 1), (.getfield 6, 0, 3), (.putfield 6, 0, 3), (.return_, 0, 1)] else []
def sp6 (pc : Nat) : Bool := [].contains pc
theorem BT6 : bt6 0 = [(.aload 1, 0, 1), (.getfield 0, 0, 3), (.iconst 0, 0, 1), (.aload 0, 0, 1), (.getfield 0, 0, 3), (.iconst 0, 0, 1), (.iconst 10, 0, 2), (.invokestatic 1000, 99, 3), (.aload 1, 0, 1), (.getfield 1, 0, 3), (.iconst 0, 0, 1), (.aload 0, 0, 1), (.getfield 1, 0, 3), (.iconst 0, 0, 1), (.iconst 10, 0, 2), (.invokestatic 1000, 99, 3), (.aload 0, 0, 1), (.aload 1, 0, 1), (.getfield 2, 0, 3), (.putfield 2, 0, 3), (.aload 0, 0, 1), (.aload 1, 0, 1), (.getfield 3, 0, 3), (.putfield 3, 0, 3), (.aload 1, 0, 1), (.getfield 4, 0, 3), (.iconst 0, 0, 1), (.aload 0, 0, 1), (.getfield 4, 0, 3), (.iconst 0, 0, 1), (.iconst 20, 0, 2), (.invokestatic 1000, 99, 3), (.aload 1, 0, 1), (.getfield 5, 0, 3), (.iconst 0, 0, 1), (.aload 0, 0, 1), (.getfield 5, 0, 3), (.iconst 0, 0, 1), (.iconst 20, 0, 2), (.invokestatic 1000, 99, 3), (.aload 0, 0, 1), (.aload 1, 0, 1), (.getfield 6, 0, 3), (.putfield 6, 0, 3), (.return_, 0, 1)] ∧ True := ⟨rfl, trivial⟩
theorem SP6 : sp6 0 = false ∧ True := ⟨rfl, trivial⟩
set_option maxRecDepth 100000 in
theorem bk6 : ∀ pc, blk 6 pc (bt6 pc) = true := fun pc => blk_if (by decide +kernel) (rfl)
theorem go6 {d mc ms : Nat} {sh : List SC} {M : MM} {Post : PP} {a0 : Nat} {a1 : Nat} (h : ∀ S : Nat → KK, Clo (Run d) 6 none mc ms (Rtn 6 mc ms Post) S → S 0 [some (vR a0), some (vR a1)] [] (sh, 0, 0) M) : Run (d + 1) 6 [vR a0, vR a1] sh M mc ms Post := ⟨Nat.le_of_ble_eq_true rfl, h⟩
theorem rt6 {mc ms : Nat} {Z : ZZ} {M : MM} {Post : PP} (h1 : Z.2.1 ≤ mc) (h2 : Z.2.2 ≤ ms) (h : Post none Z.1 M) : Rtn 6 mc ms Post none Z M := ⟨h1, h2, trivial, h⟩
/-! 7 OwnSunday$Reader.<init> -/
def bt7 (pc : Nat) : BL := if pc = 0 then [(.aload 0, 0, 1), (.invokespecial 1001, 99, 3), (.aload 0, 0, 1), (.iconst 4, 0, 1), (.newarray .int, 0, 2), (.putstatic 0, 1, 3), (.aload 0, 0, 1), (.iconst 10, 0, 2), (.newarray .int, 0, 2), (.putstatic 1, 1, 3), (.return_, 0, 1)] else []
def sp7 (pc : Nat) : Bool := [].contains pc
theorem BT7 : bt7 0 = [(.aload 0, 0, 1), (.invokespecial 1001, 99, 3), (.aload 0, 0, 1), (.iconst 4, 0, 1), (.newarray .int, 0, 2), (.putstatic 0, 1, 3), (.aload 0, 0, 1), (.iconst 10, 0, 2), (.newarray .int, 0, 2), (.putstatic 1, 1, 3), (.return_, 0, 1)] ∧ True := ⟨rfl, trivial⟩
theorem SP7 : sp7 0 = false ∧ True := ⟨rfl, trivial⟩
set_option maxRecDepth 100000 in
theorem bk7 : ∀ pc, blk 7 pc (bt7 pc) = true := fun pc => blk_if (by decide +kernel) (rfl)
theorem go7 {d mc ms : Nat} {sh : List SC} {M : MM} {Post : PP} {a0 : Nat} (h : ∀ S : Nat → KK, Clo (Run d) 7 none mc ms (Rtn 7 mc ms Post) S → S 0 [some (vR a0)] [] (sh, 0, 0) M) : Run (d + 1) 7 [vR a0] sh M mc ms Post := ⟨Nat.le_of_ble_eq_true rfl, h⟩
theorem rt7 {mc ms : Nat} {Z : ZZ} {M : MM} {Post : PP} (h1 : Z.2.1 ≤ mc) (h2 : Z.2.2 ≤ ms) (h : Post none Z.1 M) : Rtn 7 mc ms Post none Z M := ⟨h1, h2, trivial, h⟩
/-! 8 OwnSunday$Reader.read -/
def bt8 (pc : Nat) : BL := if pc = 0 then [(.aload 3, 0, 1), (.invokevirtual 28, 1, 3)] else if pc = 4 then [(.aload 4, 0, 2), (.invokevirtual 1, 1, 3)] else if pc = 9 then [(.iconst 0, 0, 1), (.istore 5, 0, 2), (.iconst 0, 0, 1), (.istore 6, 0, 2)] else if pc = 15 then [(.iload 6, 0, 2), (.iload 2, 0, 1), (.if_icmp .ge 73, 0, 3)] else if pc = 21 then [(.iload 5, 0, 2), (.iload 2, 0, 1), (.if_icmp .ge 73, 0, 3)] else if pc = 27 then [(.aload 0, 0, 1), (.aload 1, 0, 1), (.iload 2, 0, 1), (.iload 5, 0, 2), (.invokevirtual 9, 4, 3)] else if pc = 35 then [(.istore 7, 0, 2), (.iload 7, 0, 2), (.iconst (-4), 0, 2), (.if_icmp .eq 60, 0, 3)] else if pc = 44 then [(.aload 0, 0, 1), (.aload 1, 0, 1), (.iload 5, 0, 2), (.baload, 0, 1), (.iload 5, 0, 2), (.aload 3, 0, 1), (.aload 4, 0, 2), (.invokevirtual 12, 5, 3)] else if pc = 57 then [(.ifCond .ne 63, 0, 3)] else if pc = 60 then [(.iload 5, 0, 2), (.ireturn, 0, 1)] else if pc = 63 then [(.iload 7, 0, 2), (.istore 5, 0, 2), (.iinc 6 1, 0, 3), (.goto 15, 0, 3)] else if pc = 73 then [(.aload 0, 0, 1), (.aload 3, 0, 1), (.aload 4, 0, 2), (.invokevirtual 19, 3, 3)] else if pc = 80 then [(.ireturn, 0, 1)] else []
def sp8 (pc : Nat) : Bool := [4, 9, 15, 35, 57, 80].contains pc
theorem BT8 : bt8 0 = [(.aload 3, 0, 1), (.invokevirtual 28, 1, 3)] ∧ bt8 4 = [(.aload 4, 0, 2), (.invokevirtual 1, 1, 3)] ∧ bt8 9 = [(.iconst 0, 0, 1), (.istore 5, 0, 2), (.iconst 0, 0, 1), (.istore 6, 0, 2)] ∧ bt8 15 = [(.iload 6, 0, 2), (.iload 2, 0, 1), (.if_icmp .ge 73, 0, 3)] ∧ bt8 21 = [(.iload 5, 0, 2), (.iload 2, 0, 1), (.if_icmp .ge 73, 0, 3)] ∧ bt8 27 = [(.aload 0, 0, 1), (.aload 1, 0, 1), (.iload 2, 0, 1), (.iload 5, 0, 2), (.invokevirtual 9, 4, 3)] ∧ bt8 35 = [(.istore 7, 0, 2), (.iload 7, 0, 2), (.iconst (-4), 0, 2), (.if_icmp .eq 60, 0, 3)] ∧ bt8 44 = [(.aload 0, 0, 1), (.aload 1, 0, 1), (.iload 5, 0, 2), (.baload, 0, 1), (.iload 5, 0, 2), (.aload 3, 0, 1), (.aload 4, 0, 2), (.invokevirtual 12, 5, 3)] ∧ bt8 57 = [(.ifCond .ne 63, 0, 3)] ∧ bt8 60 = [(.iload 5, 0, 2), (.ireturn, 0, 1)] ∧ bt8 63 = [(.iload 7, 0, 2), (.istore 5, 0, 2), (.iinc 6 1, 0, 3), (.goto 15, 0, 3)] ∧ bt8 73 = [(.aload 0, 0, 1), (.aload 3, 0, 1), (.aload 4, 0, 2), (.invokevirtual 19, 3, 3)] ∧ bt8 80 = [(.ireturn, 0, 1)] ∧ True := ⟨rfl, rfl, rfl, rfl, rfl, rfl, rfl, rfl, rfl, rfl, rfl, rfl, rfl, trivial⟩
theorem SP8 : sp8 0 = false ∧ sp8 4 = true ∧ sp8 9 = true ∧ sp8 15 = true ∧ sp8 21 = false ∧ sp8 27 = false ∧ sp8 35 = true ∧ sp8 44 = false ∧ sp8 57 = true ∧ sp8 60 = false ∧ sp8 63 = false ∧ sp8 73 = false ∧ sp8 80 = true ∧ True := ⟨rfl, rfl, rfl, rfl, rfl, rfl, rfl, rfl, rfl, rfl, rfl, rfl, rfl, trivial⟩
set_option maxRecDepth 100000 in
theorem bk8 : ∀ pc, blk 8 pc (bt8 pc) = true := fun pc => blk_if (by decide +kernel) (blk_if (by decide +kernel) (blk_if (by decide +kernel) (blk_if (by decide +kernel) (blk_if (by decide +kernel) (blk_if (by decide +kernel) (blk_if (by decide +kernel) (blk_if (by decide +kernel) (blk_if (by decide +kernel) (blk_if (by decide +kernel) (blk_if (by decide +kernel) (blk_if (by decide +kernel) (blk_if (by decide +kernel) (rfl)))))))))))))
theorem go8 {d mc ms : Nat} {sh : List SC} {M : MM} {Post : PP} {a0 : Nat} {a1 : Nat} {a2 : Int} {a3 : Nat} {a4 : Nat} (h : ∀ S : Nat → KK, Clo (Run d) 8 none mc ms (Rtn 8 mc ms Post) S → S 0 [some (vR a0), some (vR a1), some (vI a2), some (vR a3), some (vR a4), none, none, none] [] (sh, 0, 0) M) : Run (d + 1) 8 [vR a0, vR a1, vI a2, vR a3, vR a4] sh M mc ms Post := ⟨Nat.le_of_ble_eq_true rfl, h⟩
theorem rt8 {v : Int} {sh : List SC} {M : MM} {Post : PP} (h : Post (some (Sum.inl v)) sh M) : Rtn 8 0 0 Post (some (Sum.inl v)) (sh, 0, 0) M := ⟨Nat.le_refl _, Nat.le_refl _, trivial, h⟩
/-! 9 OwnSunday$Reader.readNumbers -/
def bt9 (pc : Nat) : BL := if pc = 0 then [(.aload 1, 0, 1), (.iload 3, 0, 1), (.baload, 0, 1), (.invokestatic 10, 1, 3)] else if pc = 6 then [(.istore 4, 0, 2), (.iload 4, 0, 2), (.ifCond .ne 16, 0, 3)] else if pc = 13 then [(.iconst (-4), 0, 2), (.ireturn, 0, 1)] else if pc = 16 then [(.iload 3, 0, 1), (.iconst 1, 0, 1), (.iadd, 0, 1), (.istore 5, 0, 2), (.iconst 0, 0, 1), (.istore 6, 0, 2)] else if pc = 24 then [(.iload 6, 0, 2), (.iload 4, 0, 2), (.if_icmp .ge 144, 0, 3)] else if pc = 31 then [(.aload 1, 0, 1), (.iload 2, 0, 1), (.iload 5, 0, 2), (.invokestatic 11, 3, 3)] else if pc = 38 then [(.ifCond .ne 44, 0, 3)] else if pc = 41 then [(.iconst (-4), 0, 2), (.ireturn, 0, 1)] else if pc = 44 then [(.aload 0, 0, 1), (.getfield 0, 1, 3), (.iload 6, 0, 2), (.aload 1, 0, 1), (.iload 5, 0, 2), (.baload, 0, 1), (.iconst 48, 0, 2), (.isub, 0, 1), (.iastore, 0, 1), (.iinc 5 1, 0, 3), (.aload 1, 0, 1), (.iload 2, 0, 1), (.iload 5, 0, 2), (.invokestatic 11, 3, 3)] else if pc = 68 then [(.ifCond .eq 99, 0, 3)] else if pc = 71 then [(.aload 0, 0, 1), (.getfield 0, 1, 3), (.iload 6, 0, 2), (.iconst 10, 0, 2), (.aload 0, 0, 1), (.getfield 0, 1, 3), (.iload 6, 0, 2), (.iaload, 0, 1), (.imul, 0, 1), (.aload 1, 0, 1), (.iload 5, 0, 2), (.baload, 0, 1), (.iadd, 0, 1), (.iconst 48, 0, 2), (.isub, 0, 1), (.iastore, 0, 1), (.iinc 5 1, 0, 3)] else if pc = 99 then [(.iload 6, 0, 2), (.iconst 1, 0, 1), (.iadd, 0, 1), (.iload 4, 0, 2), (.if_icmp .ge 113, 0, 3)] else if pc = 108 then [(.iconst 44, 0, 2), (.goto 115, 0, 3)] else if pc = 113 then [(.iconst 59, 0, 2)] else if pc = 115 then [(.istore 7, 0, 2), (.iload 5, 0, 2), (.iload 2, 0, 1), (.if_icmp .ge 132, 0, 3)] else if pc = 123 then [(.aload 1, 0, 1), (.iload 5, 0, 2), (.baload, 0, 1), (.iload 7, 0, 2), (.if_icmp .eq 135, 0, 3)] else if pc = 132 then [(.iconst (-4), 0, 2), (.ireturn, 0, 1)] else if pc = 135 then [(.iinc 5 1, 0, 3), (.iinc 6 1, 0, 3), (.goto 24, 0, 3)] else if pc = 144 then [(.iload 5, 0, 2), (.ireturn, 0, 1)] else []
def sp9 (pc : Nat) : Bool := [6, 24, 38, 68].contains pc
theorem BT9 : bt9 0 = [(.aload 1, 0, 1), (.iload 3, 0, 1), (.baload, 0, 1), (.invokestatic 10, 1, 3)] ∧ bt9 6 = [(.istore 4, 0, 2), (.iload 4, 0, 2), (.ifCond .ne 16, 0, 3)] ∧ bt9 13 = [(.iconst (-4), 0, 2), (.ireturn, 0, 1)] ∧ bt9 16 = [(.iload 3, 0, 1), (.iconst 1, 0, 1), (.iadd, 0, 1), (.istore 5, 0, 2), (.iconst 0, 0, 1), (.istore 6, 0, 2)] ∧ bt9 24 = [(.iload 6, 0, 2), (.iload 4, 0, 2), (.if_icmp .ge 144, 0, 3)] ∧ bt9 31 = [(.aload 1, 0, 1), (.iload 2, 0, 1), (.iload 5, 0, 2), (.invokestatic 11, 3, 3)] ∧ bt9 38 = [(.ifCond .ne 44, 0, 3)] ∧ bt9 41 = [(.iconst (-4), 0, 2), (.ireturn, 0, 1)] ∧ bt9 44 = [(.aload 0, 0, 1), (.getfield 0, 1, 3), (.iload 6, 0, 2), (.aload 1, 0, 1), (.iload 5, 0, 2), (.baload, 0, 1), (.iconst 48, 0, 2), (.isub, 0, 1), (.iastore, 0, 1), (.iinc 5 1, 0, 3), (.aload 1, 0, 1), (.iload 2, 0, 1), (.iload 5, 0, 2), (.invokestatic 11, 3, 3)] ∧ bt9 68 = [(.ifCond .eq 99, 0, 3)] ∧ bt9 71 = [(.aload 0, 0, 1), (.getfield 0, 1, 3), (.iload 6, 0, 2), (.iconst 10, 0, 2), (.aload 0, 0, 1), (.getfield 0, 1, 3), (.iload 6, 0, 2), (.iaload, 0, 1), (.imul, 0, 1), (.aload 1, 0, 1), (.iload 5, 0, 2), (.baload, 0, 1), (.iadd, 0, 1), (.iconst 48, 0, 2), (.isub, 0, 1), (.iastore, 0, 1), (.iinc 5 1, 0, 3)] ∧ bt9 99 = [(.iload 6, 0, 2), (.iconst 1, 0, 1), (.iadd, 0, 1), (.iload 4, 0, 2), (.if_icmp .ge 113, 0, 3)] ∧ bt9 108 = [(.iconst 44, 0, 2), (.goto 115, 0, 3)] ∧ bt9 113 = [(.iconst 59, 0, 2)] ∧ bt9 115 = [(.istore 7, 0, 2), (.iload 5, 0, 2), (.iload 2, 0, 1), (.if_icmp .ge 132, 0, 3)] ∧ bt9 123 = [(.aload 1, 0, 1), (.iload 5, 0, 2), (.baload, 0, 1), (.iload 7, 0, 2), (.if_icmp .eq 135, 0, 3)] ∧ bt9 132 = [(.iconst (-4), 0, 2), (.ireturn, 0, 1)] ∧ bt9 135 = [(.iinc 5 1, 0, 3), (.iinc 6 1, 0, 3), (.goto 24, 0, 3)] ∧ bt9 144 = [(.iload 5, 0, 2), (.ireturn, 0, 1)] ∧ True := ⟨rfl, rfl, rfl, rfl, rfl, rfl, rfl, rfl, rfl, rfl, rfl, rfl, rfl, rfl, rfl, rfl, rfl, rfl, rfl, trivial⟩
theorem SP9 : sp9 0 = false ∧ sp9 6 = true ∧ sp9 13 = false ∧ sp9 16 = false ∧ sp9 24 = true ∧ sp9 31 = false ∧ sp9 38 = true ∧ sp9 41 = false ∧ sp9 44 = false ∧ sp9 68 = true ∧ sp9 71 = false ∧ sp9 99 = false ∧ sp9 108 = false ∧ sp9 113 = false ∧ sp9 115 = false ∧ sp9 123 = false ∧ sp9 132 = false ∧ sp9 135 = false ∧ sp9 144 = false ∧ True := ⟨rfl, rfl, rfl, rfl, rfl, rfl, rfl, rfl, rfl, rfl, rfl, rfl, rfl, rfl, rfl, rfl, rfl, rfl, rfl, trivial⟩
set_option maxRecDepth 100000 in
theorem bk9 : ∀ pc, blk 9 pc (bt9 pc) = true := fun pc => blk_if (by decide +kernel) (blk_if (by decide +kernel) (blk_if (by decide +kernel) (blk_if (by decide +kernel) (blk_if (by decide +kernel) (blk_if (by decide +kernel) (blk_if (by decide +kernel) (blk_if (by decide +kernel) (blk_if (by decide +kernel) (blk_if (by decide +kernel) (blk_if (by decide +kernel) (blk_if (by decide +kernel) (blk_if (by decide +kernel) (blk_if (by decide +kernel) (blk_if (by decide +kernel) (blk_if (by decide +kernel) (blk_if (by decide +kernel) (blk_if (by decide +kernel) (blk_if (by decide +kernel) (rfl)))))))))))))))))))
theorem go9 {d mc ms : Nat} {sh : List SC} {M : MM} {Post : PP} {a0 : Nat} {a1 : Nat} {a2 : Int} {a3 : Int} (h : ∀ S : Nat → KK, Clo (Run d) 9 none mc ms (Rtn 9 mc ms Post) S → S 0 [some (vR a0), some (vR a1), some (vI a2), some (vI a3), none, none, none, none] [] (sh, 0, 0) M) : Run (d + 1) 9 [vR a0, vR a1, vI a2, vI a3] sh M mc ms Post := ⟨Nat.le_of_ble_eq_true rfl, h⟩
theorem rt9 {v : Int} {sh : List SC} {M : MM} {Post : PP} (h : Post (some (Sum.inl v)) sh M) : Rtn 9 0 0 Post (some (Sum.inl v)) (sh, 0, 0) M := ⟨Nat.le_refl _, Nat.le_refl _, trivial, h⟩
/-! 10 OwnSunday$Reader.numbersOf -/
def bt10 (pc : Nat) : BL := if pc = 0 then [(.iload 0, 0, 1), (.lookupswitch 60 #[(99, 58), (104, 54), (109, 56), (110, 58), (119, 52)], 0, 51)] else if pc = 52 then [(.iconst 2, 0, 1), (.ireturn, 0, 1)] else if pc = 54 then [(.iconst 4, 0, 1), (.ireturn, 0, 1)] else if pc = 56 then [(.iconst 3, 0, 1), (.ireturn, 0, 1)] else if pc = 58 then [(.iconst 1, 0, 1), (.ireturn, 0, 1)] else if pc = 60 then [(.iconst 0, 0, 1), (.ireturn, 0, 1)] else []
def sp10 (pc : Nat) : Bool := [].contains pc
theorem BT10 : bt10 0 = [(.iload 0, 0, 1), (.lookupswitch 60 #[(99, 58), (104, 54), (109, 56), (110, 58), (119, 52)], 0, 51)] ∧ bt10 52 = [(.iconst 2, 0, 1), (.ireturn, 0, 1)] ∧ bt10 54 = [(.iconst 4, 0, 1), (.ireturn, 0, 1)] ∧ bt10 56 = [(.iconst 3, 0, 1), (.ireturn, 0, 1)] ∧ bt10 58 = [(.iconst 1, 0, 1), (.ireturn, 0, 1)] ∧ bt10 60 = [(.iconst 0, 0, 1), (.ireturn, 0, 1)] ∧ True := ⟨rfl, rfl, rfl, rfl, rfl, rfl, trivial⟩
theorem SP10 : sp10 0 = false ∧ sp10 52 = false ∧ sp10 54 = false ∧ sp10 56 = false ∧ sp10 58 = false ∧ sp10 60 = false ∧ True := ⟨rfl, rfl, rfl, rfl, rfl, rfl, trivial⟩
set_option maxRecDepth 100000 in
theorem bk10 : ∀ pc, blk 10 pc (bt10 pc) = true := fun pc => blk_if (by decide +kernel) (blk_if (by decide +kernel) (blk_if (by decide +kernel) (blk_if (by decide +kernel) (blk_if (by decide +kernel) (blk_if (by decide +kernel) (rfl))))))
theorem go10 {d mc ms : Nat} {sh : List SC} {M : MM} {Post : PP} {a0 : Int} (h : ∀ S : Nat → KK, Clo (Run d) 10 none mc ms (Rtn 10 mc ms Post) S → S 0 [some (vI a0)] [] (sh, 0, 0) M) : Run (d + 1) 10 [vI a0] sh M mc ms Post := ⟨Nat.le_of_ble_eq_true rfl, h⟩
theorem rt10 {v : Int} {sh : List SC} {M : MM} {Post : PP} (h : Post (some (Sum.inl v)) sh M) : Rtn 10 0 0 Post (some (Sum.inl v)) (sh, 0, 0) M := ⟨Nat.le_refl _, Nat.le_refl _, trivial, h⟩
/-! 11 OwnSunday$Reader.isFigure -/
def bt11 (pc : Nat) : BL := if pc = 0 then [(.iload 2, 0, 1), (.iload 1, 0, 1), (.if_icmp .ge 25, 0, 3)] else if pc = 5 then [(.aload 0, 0, 1), (.iload 2, 0, 1), (.baload, 0, 1), (.iconst 48, 0, 2), (.if_icmp .lt 25, 0, 3)] else if pc = 13 then [(.aload 0, 0, 1), (.iload 2, 0, 1), (.baload, 0, 1), (.iconst 57, 0, 2), (.if_icmp .gt 25, 0, 3)] else if pc = 21 then [(.iconst 1, 0, 1), (.goto 26, 0, 3)] else if pc = 25 then [(.iconst 0, 0, 1)] else if pc = 26 then [(.ireturn, 0, 1)] else []
def sp11 (pc : Nat) : Bool := [].contains pc
theorem BT11 : bt11 0 = [(.iload 2, 0, 1), (.iload 1, 0, 1), (.if_icmp .ge 25, 0, 3)] ∧ bt11 5 = [(.aload 0, 0, 1), (.iload 2, 0, 1), (.baload, 0, 1), (.iconst 48, 0, 2), (.if_icmp .lt 25, 0, 3)] ∧ bt11 13 = [(.aload 0, 0, 1), (.iload 2, 0, 1), (.baload, 0, 1), (.iconst 57, 0, 2), (.if_icmp .gt 25, 0, 3)] ∧ bt11 21 = [(.iconst 1, 0, 1), (.goto 26, 0, 3)] ∧ bt11 25 = [(.iconst 0, 0, 1)] ∧ bt11 26 = [(.ireturn, 0, 1)] ∧ True := ⟨rfl, rfl, rfl, rfl, rfl, rfl, trivial⟩
theorem SP11 : sp11 0 = false ∧ sp11 5 = false ∧ sp11 13 = false ∧ sp11 21 = false ∧ sp11 25 = false ∧ sp11 26 = false ∧ True := ⟨rfl, rfl, rfl, rfl, rfl, rfl, trivial⟩
set_option maxRecDepth 100000 in
theorem bk11 : ∀ pc, blk 11 pc (bt11 pc) = true := fun pc => blk_if (by decide +kernel) (blk_if (by decide +kernel) (blk_if (by decide +kernel) (blk_if (by decide +kernel) (blk_if (by decide +kernel) (blk_if (by decide +kernel) (rfl))))))
theorem go11 {d mc ms : Nat} {sh : List SC} {M : MM} {Post : PP} {a0 : Nat} {a1 : Int} {a2 : Int} (h : ∀ S : Nat → KK, Clo (Run d) 11 none mc ms (Rtn 11 mc ms Post) S → S 0 [some (vR a0), some (vI a1), some (vI a2)] [] (sh, 0, 0) M) : Run (d + 1) 11 [vR a0, vI a1, vI a2] sh M mc ms Post := ⟨Nat.le_of_ble_eq_true rfl, h⟩
theorem rt11 {v : Int} {sh : List SC} {M : MM} {Post : PP} (hv : v = 0 ∨ v = 1) (h : Post (some (Sum.inl v)) sh M) : Rtn 11 0 0 Post (some (Sum.inl v)) (sh, 0, 0) M := ⟨Nat.le_refl _, Nat.le_refl _, hv, h⟩
/-! 12 OwnSunday$Reader.take -/
def bt12 (pc : Nat) : BL := if pc = 0 then [(.iload 1, 0, 1), (.lookupswitch 87 #[(99, 81), (104, 58), (109, 75), (110, 67), (119, 52)], 0, 51)] else if pc = 52 then [(.aload 0, 0, 1), (.aload 3, 0, 1), (.invokevirtual 13, 2, 3)] else if pc = 57 then [(.ireturn, 0, 1)] else if pc = 58 then [(.aload 0, 0, 1), (.iload 2, 0, 1), (.aload 3, 0, 1), (.aload 4, 0, 2), (.invokevirtual 15, 4, 3)] else if pc = 66 then [(.ireturn, 0, 1)] else if pc = 67 then [(.aload 0, 0, 1), (.aload 3, 0, 1), (.aload 4, 0, 2), (.invokevirtual 16, 3, 3)] else if pc = 74 then [(.ireturn, 0, 1)] else if pc = 75 then [(.aload 0, 0, 1), (.aload 3, 0, 1), (.invokevirtual 17, 2, 3)] else if pc = 80 then [(.ireturn, 0, 1)] else if pc = 81 then [(.aload 0, 0, 1), (.aload 3, 0, 1), (.invokevirtual 18, 2, 3)] else if pc = 86 then [(.ireturn, 0, 1)] else if pc = 87 then [(.iconst 0, 0, 1), (.ireturn, 0, 1)] else []
def sp12 (pc : Nat) : Bool := [57, 66, 74, 80, 86].contains pc
theorem BT12 : bt12 0 = [(.iload 1, 0, 1), (.lookupswitch 87 #[(99, 81), (104, 58), (109, 75), (110, 67), (119, 52)], 0, 51)] ∧ bt12 52 = [(.aload 0, 0, 1), (.aload 3, 0, 1), (.invokevirtual 13, 2, 3)] ∧ bt12 57 = [(.ireturn, 0, 1)] ∧ bt12 58 = [(.aload 0, 0, 1), (.iload 2, 0, 1), (.aload 3, 0, 1), (.aload 4, 0, 2), (.invokevirtual 15, 4, 3)] ∧ bt12 66 = [(.ireturn, 0, 1)] ∧ bt12 67 = [(.aload 0, 0, 1), (.aload 3, 0, 1), (.aload 4, 0, 2), (.invokevirtual 16, 3, 3)] ∧ bt12 74 = [(.ireturn, 0, 1)] ∧ bt12 75 = [(.aload 0, 0, 1), (.aload 3, 0, 1), (.invokevirtual 17, 2, 3)] ∧ bt12 80 = [(.ireturn, 0, 1)] ∧ bt12 81 = [(.aload 0, 0, 1), (.aload 3, 0, 1), (.invokevirtual 18, 2, 3)] ∧ bt12 86 = [(.ireturn, 0, 1)] ∧ bt12 87 = [(.iconst 0, 0, 1), (.ireturn, 0, 1)] ∧ True := ⟨rfl, rfl, rfl, rfl, rfl, rfl, rfl, rfl, rfl, rfl, rfl, rfl, trivial⟩
theorem SP12 : sp12 0 = false ∧ sp12 52 = false ∧ sp12 57 = true ∧ sp12 58 = false ∧ sp12 66 = true ∧ sp12 67 = false ∧ sp12 74 = true ∧ sp12 75 = false ∧ sp12 80 = true ∧ sp12 81 = false ∧ sp12 86 = true ∧ sp12 87 = false ∧ True := ⟨rfl, rfl, rfl, rfl, rfl, rfl, rfl, rfl, rfl, rfl, rfl, rfl, trivial⟩
set_option maxRecDepth 100000 in
theorem bk12 : ∀ pc, blk 12 pc (bt12 pc) = true := fun pc => blk_if (by decide +kernel) (blk_if (by decide +kernel) (blk_if (by decide +kernel) (blk_if (by decide +kernel) (blk_if (by decide +kernel) (blk_if (by decide +kernel) (blk_if (by decide +kernel) (blk_if (by decide +kernel) (blk_if (by decide +kernel) (blk_if (by decide +kernel) (blk_if (by decide +kernel) (blk_if (by decide +kernel) (rfl))))))))))))
theorem go12 {d mc ms : Nat} {sh : List SC} {M : MM} {Post : PP} {a0 : Nat} {a1 : Int} {a2 : Int} {a3 : Nat} {a4 : Nat} (h : ∀ S : Nat → KK, Clo (Run d) 12 none mc ms (Rtn 12 mc ms Post) S → S 0 [some (vR a0), some (vI a1), some (vI a2), some (vR a3), some (vR a4)] [] (sh, 0, 0) M) : Run (d + 1) 12 [vR a0, vI a1, vI a2, vR a3, vR a4] sh M mc ms Post := ⟨Nat.le_of_ble_eq_true rfl, h⟩
theorem rt12 {v : Int} {sh : List SC} {M : MM} {Post : PP} (hv : v = 0 ∨ v = 1) (h : Post (some (Sum.inl v)) sh M) : Rtn 12 0 0 Post (some (Sum.inl v)) (sh, 0, 0) M := ⟨Nat.le_refl _, Nat.le_refl _, hv, h⟩
/-! 13 OwnSunday$Reader.takeWeeks -/
def bt13 (pc : Nat) : BL := if pc = 0 then [(.aload 0, 0, 1), (.getfield 0, 1, 3), (.iconst 0, 0, 1), (.iaload, 0, 1), (.invokestatic 14, 1, 3)] else if pc = 9 then [(.ifCond .eq 24, 0, 3)] else if pc = 12 then [(.aload 0, 0, 1), (.getfield 0, 1, 3), (.iconst 1, 0, 1), (.iaload, 0, 1), (.invokestatic 14, 1, 3)] else if pc = 21 then [(.ifCond .ne 26, 0, 3)] else if pc = 24 then [(.iconst 0, 0, 1), (.ireturn, 0, 1)] else if pc = 26 then [(.aload 1, 0, 1), (.getfield 0, 3, 3), (.iconst 0, 0, 1), (.aload 0, 0, 1), (.getfield 0, 1, 3), (.iconst 0, 0, 1), (.iaload, 0, 1), (.iastore, 0, 1), (.aload 1, 0, 1), (.getfield 0, 3, 3), (.iconst 1, 0, 1), (.aload 0, 0, 1), (.getfield 0, 1, 3), (.iconst 1, 0, 1), (.iaload, 0, 1), (.iastore, 0, 1), (.iconst 1, 0, 1), (.ireturn, 0, 1)] else []
def sp13 (pc : Nat) : Bool := [9, 21].contains pc
theorem BT13 : bt13 0 = [(.aload 0, 0, 1), (.getfield 0, 1, 3), (.iconst 0, 0, 1), (.iaload, 0, 1), (.invokestatic 14, 1, 3)] ∧ bt13 9 = [(.ifCond .eq 24, 0, 3)] ∧ bt13 12 = [(.aload 0, 0, 1), (.getfield 0, 1, 3), (.iconst 1, 0, 1), (.iaload, 0, 1), (.invokestatic 14, 1, 3)] ∧ bt13 21 = [(.ifCond .ne 26, 0, 3)] ∧ bt13 24 = [(.iconst 0, 0, 1), (.ireturn, 0, 1)] ∧ bt13 26 = [(.aload 1, 0, 1), (.getfield 0, 3, 3), (.iconst 0, 0, 1), (.aload 0, 0, 1), (.getfield 0, 1, 3), (.iconst 0, 0, 1), (.iaload, 0, 1), (.iastore, 0, 1), (.aload 1, 0, 1), (.getfield 0, 3, 3), (.iconst 1, 0, 1), (.aload 0, 0, 1), (.getfield 0, 1, 3), (.iconst 1, 0, 1), (.iaload, 0, 1), (.iastore, 0, 1), (.iconst 1, 0, 1), (.ireturn, 0, 1)] ∧ True := ⟨rfl, rfl, rfl, rfl, rfl, rfl, trivial⟩
theorem SP13 : sp13 0 = false ∧ sp13 9 = true ∧ sp13 12 = false ∧ sp13 21 = true ∧ sp13 24 = false ∧ sp13 26 = false ∧ True := ⟨rfl, rfl, rfl, rfl, rfl, rfl, trivial⟩
set_option maxRecDepth 100000 in
theorem bk13 : ∀ pc, blk 13 pc (bt13 pc) = true := fun pc => blk_if (by decide +kernel) (blk_if (by decide +kernel) (blk_if (by decide +kernel) (blk_if (by decide +kernel) (blk_if (by decide +kernel) (blk_if (by decide +kernel) (rfl))))))
theorem go13 {d mc ms : Nat} {sh : List SC} {M : MM} {Post : PP} {a0 : Nat} {a1 : Nat} (h : ∀ S : Nat → KK, Clo (Run d) 13 none mc ms (Rtn 13 mc ms Post) S → S 0 [some (vR a0), some (vR a1)] [] (sh, 0, 0) M) : Run (d + 1) 13 [vR a0, vR a1] sh M mc ms Post := ⟨Nat.le_of_ble_eq_true rfl, h⟩
theorem rt13 {v : Int} {sh : List SC} {M : MM} {Post : PP} (hv : v = 0 ∨ v = 1) (h : Post (some (Sum.inl v)) sh M) : Rtn 13 0 0 Post (some (Sum.inl v)) (sh, 0, 0) M := ⟨Nat.le_refl _, Nat.le_refl _, hv, h⟩
/-! 14 OwnSunday$Reader.isWeekLength -/
def bt14 (pc : Nat) : BL := if pc = 0 then [(.iload 0, 0, 1), (.iconst 2, 0, 1), (.if_icmp .lt 15, 0, 3)] else if pc = 5 then [(.iload 0, 0, 1), (.iconst 12, 0, 2), (.if_icmp .gt 15, 0, 3)] else if pc = 11 then [(.iconst 1, 0, 1), (.goto 16, 0, 3)] else if pc = 15 then [(.iconst 0, 0, 1)] else if pc = 16 then [(.ireturn, 0, 1)] else []
def sp14 (pc : Nat) : Bool := [].contains pc
theorem BT14 : bt14 0 = [(.iload 0, 0, 1), (.iconst 2, 0, 1), (.if_icmp .lt 15, 0, 3)] ∧ bt14 5 = [(.iload 0, 0, 1), (.iconst 12, 0, 2), (.if_icmp .gt 15, 0, 3)] ∧ bt14 11 = [(.iconst 1, 0, 1), (.goto 16, 0, 3)] ∧ bt14 15 = [(.iconst 0, 0, 1)] ∧ bt14 16 = [(.ireturn, 0, 1)] ∧ True := ⟨rfl, rfl, rfl, rfl, rfl, trivial⟩
theorem SP14 : sp14 0 = false ∧ sp14 5 = false ∧ sp14 11 = false ∧ sp14 15 = false ∧ sp14 16 = false ∧ True := ⟨rfl, rfl, rfl, rfl, rfl, trivial⟩
set_option maxRecDepth 100000 in
theorem bk14 : ∀ pc, blk 14 pc (bt14 pc) = true := fun pc => blk_if (by decide +kernel) (blk_if (by decide +kernel) (blk_if (by decide +kernel) (blk_if (by decide +kernel) (blk_if (by decide +kernel) (rfl)))))
theorem go14 {d mc ms : Nat} {sh : List SC} {M : MM} {Post : PP} {a0 : Int} (h : ∀ S : Nat → KK, Clo (Run d) 14 none mc ms (Rtn 14 mc ms Post) S → S 0 [some (vI a0)] [] (sh, 0, 0) M) : Run (d + 1) 14 [vI a0] sh M mc ms Post := ⟨Nat.le_of_ble_eq_true rfl, h⟩
theorem rt14 {v : Int} {sh : List SC} {M : MM} {Post : PP} (hv : v = 0 ∨ v = 1) (h : Post (some (Sum.inl v)) sh M) : Rtn 14 0 0 Post (some (Sum.inl v)) (sh, 0, 0) M := ⟨Nat.le_refl _, Nat.le_refl _, hv, h⟩
/-! 15 OwnSunday$Reader.takeHouse -/
def bt15 (pc : Nat) : BL := if pc = 0 then [(.aload 2, 0, 1), (.getfield 1, 3, 3), (.iconst 10, 0, 2), (.if_icmp .ge 40, 0, 3)] else if pc = 9 then [(.aload 0, 0, 1), (.getfield 0, 1, 3), (.iconst 0, 0, 1), (.iaload, 0, 1), (.iconst 2, 0, 1), (.if_icmp .ge 40, 0, 3)] else if pc = 19 then [(.aload 0, 0, 1), (.getfield 0, 1, 3), (.iconst 2, 0, 1), (.iaload, 0, 1), (.iconst 32, 0, 2), (.if_icmp .ge 40, 0, 3)] else if pc = 30 then [(.aload 0, 0, 1), (.getfield 0, 1, 3), (.iconst 3, 0, 1), (.iaload, 0, 1), (.iconst 4, 0, 1), (.if_icmp .lt 42, 0, 3)] else if pc = 40 then [(.iconst 0, 0, 1), (.ireturn, 0, 1)] else if pc = 42 then [(.aload 0, 0, 1), (.getfield 1, 1, 3), (.aload 2, 0, 1), (.getfield 1, 3, 3), (.iload 1, 0, 1), (.iastore, 0, 1), (.aload 3, 0, 1), (.aload 2, 0, 1), (.getfield 1, 3, 3), (.aload 0, 0, 1), (.getfield 0, 1, 3), (.iconst 0, 0, 1), (.iaload, 0, 1), (.aload 0, 0, 1), (.getfield 0, 1, 3), (.iconst 1, 0, 1), (.iaload, 0, 1), (.invokevirtual 2, 4, 3)] else if pc = 72 then [(.aload 2, 0, 1), (.aload 0, 0, 1), (.getfield 0, 1, 3), (.iconst 2, 0, 1), (.iaload, 0, 1), (.aload 0, 0, 1), (.getfield 0, 1, 3), (.iconst 3, 0, 1), (.iaload, 0, 1), (.invokevirtual 29, 3, 3)] else if pc = 88 then [(.iconst 1, 0, 1), (.ireturn, 0, 1)] else []
def sp15 (pc : Nat) : Bool := [72, 88].contains pc
theorem BT15 : bt15 0 = [(.aload 2, 0, 1), (.getfield 1, 3, 3), (.iconst 10, 0, 2), (.if_icmp .ge 40, 0, 3)] ∧ bt15 9 = [(.aload 0, 0, 1), (.getfield 0, 1, 3), (.iconst 0, 0, 1), (.iaload, 0, 1), (.iconst 2, 0, 1), (.if_icmp .ge 40, 0, 3)] ∧ bt15 19 = [(.aload 0, 0, 1), (.getfield 0, 1, 3), (.iconst 2, 0, 1), (.iaload, 0, 1), (.iconst 32, 0, 2), (.if_icmp .ge 40, 0, 3)] ∧ bt15 30 = [(.aload 0, 0, 1), (.getfield 0, 1, 3), (.iconst 3, 0, 1), (.iaload, 0, 1), (.iconst 4, 0, 1), (.if_icmp .lt 42, 0, 3)] ∧ bt15 40 = [(.iconst 0, 0, 1), (.ireturn, 0, 1)] ∧ bt15 42 = [(.aload 0, 0, 1), (.getfield 1, 1, 3), (.aload 2, 0, 1), (.getfield 1, 3, 3), (.iload 1, 0, 1), (.iastore, 0, 1), (.aload 3, 0, 1), (.aload 2, 0, 1), (.getfield 1, 3, 3), (.aload 0, 0, 1), (.getfield 0, 1, 3), (.iconst 0, 0, 1), (.iaload, 0, 1), (.aload 0, 0, 1), (.getfield 0, 1, 3), (.iconst 1, 0, 1), (.iaload, 0, 1), (.invokevirtual 2, 4, 3)] ∧ bt15 72 = [(.aload 2, 0, 1), (.aload 0, 0, 1), (.getfield 0, 1, 3), (.iconst 2, 0, 1), (.iaload, 0, 1), (.aload 0, 0, 1), (.getfield 0, 1, 3), (.iconst 3, 0, 1), (.iaload, 0, 1), (.invokevirtual 29, 3, 3)] ∧ bt15 88 = [(.iconst 1, 0, 1), (.ireturn, 0, 1)] ∧ True := ⟨rfl, rfl, rfl, rfl, rfl, rfl, rfl, rfl, trivial⟩
theorem SP15 : sp15 0 = false ∧ sp15 9 = false ∧ sp15 19 = false ∧ sp15 30 = false ∧ sp15 40 = false ∧ sp15 42 = false ∧ sp15 72 = true ∧ sp15 88 = true ∧ True := ⟨rfl, rfl, rfl, rfl, rfl, rfl, rfl, rfl, trivial⟩
set_option maxRecDepth 100000 in
theorem bk15 : ∀ pc, blk 15 pc (bt15 pc) = true := fun pc => blk_if (by decide +kernel) (blk_if (by decide +kernel) (blk_if (by decide +kernel) (blk_if (by decide +kernel) (blk_if (by decide +kernel) (blk_if (by decide +kernel) (blk_if (by decide +kernel) (blk_if (by decide +kernel) (rfl))))))))
theorem go15 {d mc ms : Nat} {sh : List SC} {M : MM} {Post : PP} {a0 : Nat} {a1 : Int} {a2 : Nat} {a3 : Nat} (h : ∀ S : Nat → KK, Clo (Run d) 15 none mc ms (Rtn 15 mc ms Post) S → S 0 [some (vR a0), some (vI a1), some (vR a2), some (vR a3)] [] (sh, 0, 0) M) : Run (d + 1) 15 [vR a0, vI a1, vR a2, vR a3] sh M mc ms Post := ⟨Nat.le_of_ble_eq_true rfl, h⟩
theorem rt15 {v : Int} {sh : List SC} {M : MM} {Post : PP} (hv : v = 0 ∨ v = 1) (h : Post (some (Sum.inl v)) sh M) : Rtn 15 0 0 Post (some (Sum.inl v)) (sh, 0, 0) M := ⟨Nat.le_refl _, Nat.le_refl _, hv, h⟩
/-! 16 OwnSunday$Reader.takeNew -/
def bt16 (pc : Nat) : BL := if pc = 0 then [(.aload 0, 0, 1), (.getfield 0, 1, 3), (.iconst 0, 0, 1), (.iaload, 0, 1), (.istore 3, 0, 1), (.iload 3, 0, 1), (.aload 1, 0, 1), (.getfield 1, 3, 3), (.if_icmp .ge 26, 0, 3)] else if pc = 15 then [(.aload 2, 0, 1), (.getfield 2, 0, 3), (.invokestatic 161, 1, 3)] else if pc = 22 then [(.iconst 3, 0, 1), (.if_icmp .lt 28, 0, 3)] else if pc = 26 then [(.iconst 0, 0, 1), (.ireturn, 0, 1)] else if pc = 28 then [(.aload 2, 0, 1), (.getfield 2, 0, 3), (.iload 3, 0, 1), (.iushr, 0, 1), (.ifCond .eq 39, 0, 3)] else if pc = 37 then [(.iconst 0, 0, 1), (.ireturn, 0, 1)] else if pc = 39 then [(.aload 2, 0, 1), (.dup, 0, 1), (.getfield 2, 0, 3), (.iconst 1, 0, 1), (.iload 3, 0, 1), (.ishl, 0, 1), (.ior, 0, 1), (.putfield 2, 0, 3), (.iconst 1, 0, 1), (.ireturn, 0, 1)] else []
def sp16 (pc : Nat) : Bool := [22].contains pc
theorem BT16 : bt16 0 = [(.aload 0, 0, 1), (.getfield 0, 1, 3), (.iconst 0, 0, 1), (.iaload, 0, 1), (.istore 3, 0, 1), (.iload 3, 0, 1), (.aload 1, 0, 1), (.getfield 1, 3, 3), (.if_icmp .ge 26, 0, 3)] ∧ bt16 15 = [(.aload 2, 0, 1), (.getfield 2, 0, 3), (.invokestatic 161, 1, 3)] ∧ bt16 22 = [(.iconst 3, 0, 1), (.if_icmp .lt 28, 0, 3)] ∧ bt16 26 = [(.iconst 0, 0, 1), (.ireturn, 0, 1)] ∧ bt16 28 = [(.aload 2, 0, 1), (.getfield 2, 0, 3), (.iload 3, 0, 1), (.iushr, 0, 1), (.ifCond .eq 39, 0, 3)] ∧ bt16 37 = [(.iconst 0, 0, 1), (.ireturn, 0, 1)] ∧ bt16 39 = [(.aload 2, 0, 1), (.dup, 0, 1), (.getfield 2, 0, 3), (.iconst 1, 0, 1), (.iload 3, 0, 1), (.ishl, 0, 1), (.ior, 0, 1), (.putfield 2, 0, 3), (.iconst 1, 0, 1), (.ireturn, 0, 1)] ∧ True := ⟨rfl, rfl, rfl, rfl, rfl, rfl, rfl, trivial⟩
theorem SP16 : sp16 0 = false ∧ sp16 15 = false ∧ sp16 22 = true ∧ sp16 26 = false ∧ sp16 28 = false ∧ sp16 37 = false ∧ sp16 39 = false ∧ True := ⟨rfl, rfl, rfl, rfl, rfl, rfl, rfl, trivial⟩
set_option maxRecDepth 100000 in
theorem bk16 : ∀ pc, blk 16 pc (bt16 pc) = true := fun pc => blk_if (by decide +kernel) (blk_if (by decide +kernel) (blk_if (by decide +kernel) (blk_if (by decide +kernel) (blk_if (by decide +kernel) (blk_if (by decide +kernel) (blk_if (by decide +kernel) (rfl)))))))
theorem go16 {d mc ms : Nat} {sh : List SC} {M : MM} {Post : PP} {a0 : Nat} {a1 : Nat} {a2 : Nat} (h : ∀ S : Nat → KK, Clo (Run d) 16 none mc ms (Rtn 16 mc ms Post) S → S 0 [some (vR a0), some (vR a1), some (vR a2), none] [] (sh, 0, 0) M) : Run (d + 1) 16 [vR a0, vR a1, vR a2] sh M mc ms Post := ⟨Nat.le_of_ble_eq_true rfl, h⟩
theorem rt16 {v : Int} {sh : List SC} {M : MM} {Post : PP} (hv : v = 0 ∨ v = 1) (h : Post (some (Sum.inl v)) sh M) : Rtn 16 0 0 Post (some (Sum.inl v)) (sh, 0, 0) M := ⟨Nat.le_refl _, Nat.le_refl _, hv, h⟩
/-! 17 OwnSunday$Reader.takeWork -/
def bt17 (pc : Nat) : BL := if pc = 0 then [(.aload 1, 0, 1), (.getfield 5, 3, 3), (.iconst 6, 0, 2), (.if_icmp .ge 61, 0, 3)] else if pc = 9 then [(.aload 0, 0, 1), (.getfield 0, 1, 3), (.iconst 0, 0, 1), (.iaload, 0, 1), (.iconst 5, 0, 1), (.if_icmp .ge 61, 0, 3)] else if pc = 19 then [(.aload 0, 0, 1), (.getfield 0, 1, 3), (.iconst 1, 0, 1), (.iaload, 0, 1), (.iconst 1, 0, 1), (.if_icmp .lt 61, 0, 3)] else if pc = 29 then [(.aload 0, 0, 1), (.getfield 0, 1, 3), (.iconst 1, 0, 1), (.iaload, 0, 1), (.iconst 9, 0, 2), (.if_icmp .gt 61, 0, 3)] else if pc = 40 then [(.aload 0, 0, 1), (.getfield 0, 1, 3), (.iconst 2, 0, 1), (.iaload, 0, 1), (.iconst 1, 0, 1), (.if_icmp .lt 61, 0, 3)] else if pc = 50 then [(.aload 0, 0, 1), (.getfield 0, 1, 3), (.iconst 2, 0, 1), (.iaload, 0, 1), (.iconst 9, 0, 2), (.if_icmp .le 63, 0, 3)] else if pc = 61 then [(.iconst 0, 0, 1), (.ireturn, 0, 1)] else if pc = 63 then [(.aload 1, 0, 1), (.aload 0, 0, 1), (.getfield 0, 1, 3), (.iconst 0, 0, 1), (.iaload, 0, 1), (.aload 0, 0, 1), (.getfield 0, 1, 3), (.iconst 1, 0, 1), (.iaload, 0, 1), (.aload 0, 0, 1), (.getfield 0, 1, 3), (.iconst 2, 0, 1), (.iaload, 0, 1), (.invokevirtual 30, 4, 3)] else if pc = 85 then [(.iconst 1, 0, 1), (.ireturn, 0, 1)] else []
def sp17 (pc : Nat) : Bool := [85].contains pc
theorem BT17 : bt17 0 = [(.aload 1, 0, 1), (.getfield 5, 3, 3), (.iconst 6, 0, 2), (.if_icmp .ge 61, 0, 3)] ∧ bt17 9 = [(.aload 0, 0, 1), (.getfield 0, 1, 3), (.iconst 0, 0, 1), (.iaload, 0, 1), (.iconst 5, 0, 1), (.if_icmp .ge 61, 0, 3)] ∧ bt17 19 = [(.aload 0, 0, 1), (.getfield 0, 1, 3), (.iconst 1, 0, 1), (.iaload, 0, 1), (.iconst 1, 0, 1), (.if_icmp .lt 61, 0, 3)] ∧ bt17 29 = [(.aload 0, 0, 1), (.getfield 0, 1, 3), (.iconst 1, 0, 1), (.iaload, 0, 1), (.iconst 9, 0, 2), (.if_icmp .gt 61, 0, 3)] ∧ bt17 40 = [(.aload 0, 0, 1), (.getfield 0, 1, 3), (.iconst 2, 0, 1), (.iaload, 0, 1), (.iconst 1, 0, 1), (.if_icmp .lt 61, 0, 3)] ∧ bt17 50 = [(.aload 0, 0, 1), (.getfield 0, 1, 3), (.iconst 2, 0, 1), (.iaload, 0, 1), (.iconst 9, 0, 2), (.if_icmp .le 63, 0, 3)] ∧ bt17 61 = [(.iconst 0, 0, 1), (.ireturn, 0, 1)] ∧ bt17 63 = [(.aload 1, 0, 1), (.aload 0, 0, 1), (.getfield 0, 1, 3), (.iconst 0, 0, 1), (.iaload, 0, 1), (.aload 0, 0, 1), (.getfield 0, 1, 3), (.iconst 1, 0, 1), (.iaload, 0, 1), (.aload 0, 0, 1), (.getfield 0, 1, 3), (.iconst 2, 0, 1), (.iaload, 0, 1), (.invokevirtual 30, 4, 3)] ∧ bt17 85 = [(.iconst 1, 0, 1), (.ireturn, 0, 1)] ∧ True := ⟨rfl, rfl, rfl, rfl, rfl, rfl, rfl, rfl, rfl, trivial⟩
theorem SP17 : sp17 0 = false ∧ sp17 9 = false ∧ sp17 19 = false ∧ sp17 29 = false ∧ sp17 40 = false ∧ sp17 50 = false ∧ sp17 61 = false ∧ sp17 63 = false ∧ sp17 85 = true ∧ True := ⟨rfl, rfl, rfl, rfl, rfl, rfl, rfl, rfl, rfl, trivial⟩
set_option maxRecDepth 100000 in
theorem bk17 : ∀ pc, blk 17 pc (bt17 pc) = true := fun pc => blk_if (by decide +kernel) (blk_if (by decide +kernel) (blk_if (by decide +kernel) (blk_if (by decide +kernel) (blk_if (by decide +kernel) (blk_if (by decide +kernel) (blk_if (by decide +kernel) (blk_if (by decide +kernel) (blk_if (by decide +kernel) (rfl)))))))))
theorem go17 {d mc ms : Nat} {sh : List SC} {M : MM} {Post : PP} {a0 : Nat} {a1 : Nat} (h : ∀ S : Nat → KK, Clo (Run d) 17 none mc ms (Rtn 17 mc ms Post) S → S 0 [some (vR a0), some (vR a1)] [] (sh, 0, 0) M) : Run (d + 1) 17 [vR a0, vR a1] sh M mc ms Post := ⟨Nat.le_of_ble_eq_true rfl, h⟩
theorem rt17 {v : Int} {sh : List SC} {M : MM} {Post : PP} (hv : v = 0 ∨ v = 1) (h : Post (some (Sum.inl v)) sh M) : Rtn 17 0 0 Post (some (Sum.inl v)) (sh, 0, 0) M := ⟨Nat.le_refl _, Nat.le_refl _, hv, h⟩
/-! 18 OwnSunday$Reader.takeCook -/
def bt18 (pc : Nat) : BL := if pc = 0 then [(.aload 0, 0, 1), (.getfield 0, 1, 3), (.iconst 0, 0, 1), (.iaload, 0, 1), (.aload 1, 0, 1), (.getfield 1, 3, 3), (.if_icmp .lt 15, 0, 3)] else if pc = 13 then [(.iconst 0, 0, 1), (.ireturn, 0, 1)] else if pc = 15 then [(.aload 1, 0, 1), (.aload 0, 0, 1), (.getfield 0, 1, 3), (.iconst 0, 0, 1), (.iaload, 0, 1), (.putfield 9, 3, 3), (.iconst 1, 0, 1), (.ireturn, 0, 1)] else []
def sp18 (pc : Nat) : Bool := [].contains pc
theorem BT18 : bt18 0 = [(.aload 0, 0, 1), (.getfield 0, 1, 3), (.iconst 0, 0, 1), (.iaload, 0, 1), (.aload 1, 0, 1), (.getfield 1, 3, 3), (.if_icmp .lt 15, 0, 3)] ∧ bt18 13 = [(.iconst 0, 0, 1), (.ireturn, 0, 1)] ∧ bt18 15 = [(.aload 1, 0, 1), (.aload 0, 0, 1), (.getfield 0, 1, 3), (.iconst 0, 0, 1), (.iaload, 0, 1), (.putfield 9, 3, 3), (.iconst 1, 0, 1), (.ireturn, 0, 1)] ∧ True := ⟨rfl, rfl, rfl, trivial⟩
theorem SP18 : sp18 0 = false ∧ sp18 13 = false ∧ sp18 15 = false ∧ True := ⟨rfl, rfl, rfl, trivial⟩
set_option maxRecDepth 100000 in
theorem bk18 : ∀ pc, blk 18 pc (bt18 pc) = true := fun pc => blk_if (by decide +kernel) (blk_if (by decide +kernel) (blk_if (by decide +kernel) (rfl)))
theorem go18 {d mc ms : Nat} {sh : List SC} {M : MM} {Post : PP} {a0 : Nat} {a1 : Nat} (h : ∀ S : Nat → KK, Clo (Run d) 18 none mc ms (Rtn 18 mc ms Post) S → S 0 [some (vR a0), some (vR a1)] [] (sh, 0, 0) M) : Run (d + 1) 18 [vR a0, vR a1] sh M mc ms Post := ⟨Nat.le_of_ble_eq_true rfl, h⟩
theorem rt18 {v : Int} {sh : List SC} {M : MM} {Post : PP} (hv : v = 0 ∨ v = 1) (h : Post (some (Sum.inl v)) sh M) : Rtn 18 0 0 Post (some (Sum.inl v)) (sh, 0, 0) M := ⟨Nat.le_refl _, Nat.le_refl _, hv, h⟩
/-! 19 OwnSunday$Reader.placeOfWrongRest -/
def bt19 (pc : Nat) : BL := if pc = 0 then [(.iconst 0, 0, 1), (.istore 3, 0, 1)] else if pc = 2 then [(.iload 3, 0, 1), (.aload 1, 0, 1), (.getfield 1, 3, 3), (.if_icmp .ge 43, 0, 3)] else if pc = 10 then [(.aload 2, 0, 1), (.getfield 1, 0, 3), (.iload 3, 0, 1), (.iaload, 0, 1), (.aload 1, 0, 1), (.getfield 0, 3, 3), (.aload 2, 0, 1), (.getfield 0, 0, 3), (.iload 3, 0, 1), (.iaload, 0, 1), (.iaload, 0, 1), (.if_icmp .lt 37, 0, 3)] else if pc = 30 then [(.aload 0, 0, 1), (.getfield 1, 1, 3), (.iload 3, 0, 1), (.iaload, 0, 1), (.ireturn, 0, 1)] else if pc = 37 then [(.iinc 3 1, 0, 3), (.goto 2, 0, 3)] else if pc = 43 then [(.iconst (-4), 0, 2), (.ireturn, 0, 1)] else []
def sp19 (pc : Nat) : Bool := [2].contains pc
theorem BT19 : bt19 0 = [(.iconst 0, 0, 1), (.istore 3, 0, 1)] ∧ bt19 2 = [(.iload 3, 0, 1), (.aload 1, 0, 1), (.getfield 1, 3, 3), (.if_icmp .ge 43, 0, 3)] ∧ bt19 10 = [(.aload 2, 0, 1), (.getfield 1, 0, 3), (.iload 3, 0, 1), (.iaload, 0, 1), (.aload 1, 0, 1), (.getfield 0, 3, 3), (.aload 2, 0, 1), (.getfield 0, 0, 3), (.iload 3, 0, 1), (.iaload, 0, 1), (.iaload, 0, 1), (.if_icmp .lt 37, 0, 3)] ∧ bt19 30 = [(.aload 0, 0, 1), (.getfield 1, 1, 3), (.iload 3, 0, 1), (.iaload, 0, 1), (.ireturn, 0, 1)] ∧ bt19 37 = [(.iinc 3 1, 0, 3), (.goto 2, 0, 3)] ∧ bt19 43 = [(.iconst (-4), 0, 2), (.ireturn, 0, 1)] ∧ True := ⟨rfl, rfl, rfl, rfl, rfl, rfl, trivial⟩
theorem SP19 : sp19 0 = false ∧ sp19 2 = true ∧ sp19 10 = false ∧ sp19 30 = false ∧ sp19 37 = false ∧ sp19 43 = false ∧ True := ⟨rfl, rfl, rfl, rfl, rfl, rfl, trivial⟩
set_option maxRecDepth 100000 in
theorem bk19 : ∀ pc, blk 19 pc (bt19 pc) = true := fun pc => blk_if (by decide +kernel) (blk_if (by decide +kernel) (blk_if (by decide +kernel) (blk_if (by decide +kernel) (blk_if (by decide +kernel) (blk_if (by decide +kernel) (rfl))))))
theorem go19 {d mc ms : Nat} {sh : List SC} {M : MM} {Post : PP} {a0 : Nat} {a1 : Nat} {a2 : Nat} (h : ∀ S : Nat → KK, Clo (Run d) 19 none mc ms (Rtn 19 mc ms Post) S → S 0 [some (vR a0), some (vR a1), some (vR a2), none] [] (sh, 0, 0) M) : Run (d + 1) 19 [vR a0, vR a1, vR a2] sh M mc ms Post := ⟨Nat.le_of_ble_eq_true rfl, h⟩
theorem rt19 {v : Int} {sh : List SC} {M : MM} {Post : PP} (h : Post (some (Sum.inl v)) sh M) : Rtn 19 0 0 Post (some (Sum.inl v)) (sh, 0, 0) M := ⟨Nat.le_refl _, Nat.le_refl _, trivial, h⟩
/-! 20 OwnSunday$Rota.<init> -/
def bt20 (pc : Nat) : BL := if pc = 0 then [(.aload 0, 0, 1), (.invokespecial 1001, 99, 3), (.aload 0, 0, 1), (.iconst 2, 0, 1), (.newarray .int, 0, 2), (.putstatic 0, 2, 3), (.aload 0, 0, 1), (.iconst 2, 0, 1), (.iconst 12, 0, 2), (.multianewarray 0 2, 0, 4), (.putstatic 1, 2, 3), (.aload 0, 0, 1), (.iconst 1, 0, 1), (.putfield 2, 2, 3), (.return_, 0, 1)] else []
def sp20 (pc : Nat) : Bool := [].contains pc
theorem BT20 : bt20 0 = [(.aload 0, 0, 1), (.invokespecial 1001, 99, 3), (.aload 0, 0, 1), (.iconst 2, 0, 1), (.newarray .int, 0, 2), (.putstatic 0, 2, 3), (.aload 0, 0, 1), (.iconst 2, 0, 1), (.iconst 12, 0, 2), (.multianewarray 0 2, 0, 4), (.putstatic 1, 2, 3), (.aload 0, 0, 1), (.iconst 1, 0, 1), (.putfield 2, 2, 3), (.return_, 0, 1)] ∧ True := ⟨rfl, trivial⟩
theorem SP20 : sp20 0 = false ∧ True := ⟨rfl, trivial⟩
set_option maxRecDepth 100000 in
theorem bk20 : ∀ pc, blk 20 pc (bt20 pc) = true := fun pc => blk_if (by decide +kernel) (rfl)
theorem go20 {d mc ms : Nat} {sh : List SC} {M : MM} {Post : PP} {a0 : Nat} (h : ∀ S : Nat → KK, Clo (Run d) 20 none mc ms (Rtn 20 mc ms Post) S → S 0 [some (vR a0)] [] (sh, 0, 0) M) : Run (d + 1) 20 [vR a0] sh M mc ms Post := ⟨Nat.le_of_ble_eq_true rfl, h⟩
theorem rt20 {mc ms : Nat} {Z : ZZ} {M : MM} {Post : PP} (h1 : Z.2.1 ≤ mc) (h2 : Z.2.2 ≤ ms) (h : Post none Z.1 M) : Rtn 20 mc ms Post none Z M := ⟨h1, h2, trivial, h⟩
/-! 21 OwnSunday$Rota.fill -/
def bt21 (pc : Nat) : BL := if pc = 0 then [(.iconst 0, 0, 1), (.istore 4, 0, 2)] else if pc = 3 then [(.iload 4, 0, 2), (.iconst 2, 0, 1), (.if_icmp .ge 40, 0, 3)] else if pc = 9 then [(.aload 0, 0, 1), (.getfield 0, 2, 3), (.iload 4, 0, 2), (.aload 1, 0, 1), (.getfield 0, 3, 3), (.iload 4, 0, 2), (.iaload, 0, 1), (.iastore, 0, 1), (.aload 0, 0, 1), (.getfield 1, 2, 3), (.iload 4, 0, 2), (.aaload, 0, 1), (.iconst 0, 0, 1), (.invokestatic 162, 2, 3)] else if pc = 34 then [(.iinc 4 1, 0, 3), (.goto 3, 0, 3)] else if pc = 40 then [(.aload 0, 0, 1), (.iconst 1, 0, 1), (.aload 0, 0, 1), (.getfield 0, 2, 3), (.iconst 0, 0, 1), (.iaload, 0, 1), (.aload 0, 0, 1), (.getfield 0, 2, 3), (.iconst 1, 0, 1), (.iaload, 0, 1), (.imul, 0, 1), (.iconst 1, 0, 1), (.aload 1, 0, 1), (.invokevirtual 31, 1, 3)] else if pc = 60 then [(.invokestatic 1002, 99, 3), (.idiv, 0, 1), (.invokestatic 1002, 99, 3), (.putfield 2, 2, 3), (.iconst 0, 0, 1), (.istore 4, 0, 2)] else if pc = 73 then [(.iload 4, 0, 2), (.aload 1, 0, 1), (.getfield 1, 3, 3), (.if_icmp .ge 117, 0, 3)] else if pc = 82 then [(.iload 3, 0, 1), (.iconst 1, 0, 1), (.iload 4, 0, 2), (.ishl, 0, 1), (.iand, 0, 1), (.ifCond .ne 111, 0, 3)] else if pc = 91 then [(.aload 0, 0, 1), (.iload 4, 0, 2), (.aload 2, 0, 1), (.getfield 0, 0, 3), (.iload 4, 0, 2), (.iaload, 0, 1), (.aload 2, 0, 1), (.getfield 1, 0, 3), (.iload 4, 0, 2), (.iaload, 0, 1), (.invokevirtual 22, 4, 3)] else if pc = 111 then [(.iinc 4 1, 0, 3), (.goto 73, 0, 3)] else if pc = 117 then [(.return_, 0, 1)] else []
def sp21 (pc : Nat) : Bool := [3, 34, 60, 73, 111].contains pc
theorem BT21 : bt21 0 = [(.iconst 0, 0, 1), (.istore 4, 0, 2)] ∧ bt21 3 = [(.iload 4, 0, 2), (.iconst 2, 0, 1), (.if_icmp .ge 40, 0, 3)] ∧ bt21 9 = [(.aload 0, 0, 1), (.getfield 0, 2, 3), (.iload 4, 0, 2), (.aload 1, 0, 1), (.getfield 0, 3, 3), (.iload 4, 0, 2), (.iaload, 0, 1), (.iastore, 0, 1), (.aload 0, 0, 1), (.getfield 1, 2, 3), (.iload 4, 0, 2), (.aaload, 0, 1), (.iconst 0, 0, 1), (.invokestatic 162, 2, 3)] ∧ bt21 34 = [(.iinc 4 1, 0, 3), (.goto 3, 0, 3)] ∧ bt21 40 = [(.aload 0, 0, 1), (.iconst 1, 0, 1), (.aload 0, 0, 1), (.getfield 0, 2, 3), (.iconst 0, 0, 1), (.iaload, 0, 1), (.aload 0, 0, 1), (.getfield 0, 2, 3), (.iconst 1, 0, 1), (.iaload, 0, 1), (.imul, 0, 1), (.iconst 1, 0, 1), (.aload 1, 0, 1), (.invokevirtual 31, 1, 3)] ∧ bt21 60 = [(.invokestatic 1002, 99, 3), (.idiv, 0, 1), (.invokestatic 1002, 99, 3), (.putfield 2, 2, 3), (.iconst 0, 0, 1), (.istore 4, 0, 2)] ∧ bt21 73 = [(.iload 4, 0, 2), (.aload 1, 0, 1), (.getfield 1, 3, 3), (.if_icmp .ge 117, 0, 3)] ∧ bt21 82 = [(.iload 3, 0, 1), (.iconst 1, 0, 1), (.iload 4, 0, 2), (.ishl, 0, 1), (.iand, 0, 1), (.ifCond .ne 111, 0, 3)] ∧ bt21 91 = [(.aload 0, 0, 1), (.iload 4, 0, 2), (.aload 2, 0, 1), (.getfield 0, 0, 3), (.iload 4, 0, 2), (.iaload, 0, 1), (.aload 2, 0, 1), (.getfield 1, 0, 3), (.iload 4, 0, 2), (.iaload, 0, 1), (.invokevirtual 22, 4, 3)] ∧ bt21 111 = [(.iinc 4 1, 0, 3), (.goto 73, 0, 3)] ∧ bt21 117 = [(.return_, 0, 1)] ∧ True := ⟨rfl, rfl, rfl, rfl, rfl, rfl, rfl, rfl, rfl, rfl, rfl, trivial⟩
theorem SP21 : sp21 0 = false ∧ sp21 3 = true ∧ sp21 9 = false ∧ sp21 34 = true ∧ sp21 40 = false ∧ sp21 60 = true ∧ sp21 73 = true ∧ sp21 82 = false ∧ sp21 91 = false ∧ sp21 111 = true ∧ sp21 117 = false ∧ True := ⟨rfl, rfl, rfl, rfl, rfl, rfl, rfl, rfl, rfl, rfl, rfl, trivial⟩
set_option maxRecDepth 100000 in
theorem bk21 : ∀ pc, blk 21 pc (bt21 pc) = true := fun pc => blk_if (by decide +kernel) (blk_if (by decide +kernel) (blk_if (by decide +kernel) (blk_if (by decide +kernel) (blk_if (by decide +kernel) (blk_if (by decide +kernel) (blk_if (by decide +kernel) (blk_if (by decide +kernel) (blk_if (by decide +kernel) (blk_if (by decide +kernel) (blk_if (by decide +kernel) (rfl)))))))))))
theorem go21 {d mc ms : Nat} {sh : List SC} {M : MM} {Post : PP} {a0 : Nat} {a1 : Nat} {a2 : Nat} {a3 : Int} (h : ∀ S : Nat → KK, Clo (Run d) 21 none mc ms (Rtn 21 mc ms Post) S → S 0 [some (vR a0), some (vR a1), some (vR a2), some (vI a3), none] [] (sh, 0, 0) M) : Run (d + 1) 21 [vR a0, vR a1, vR a2, vI a3] sh M mc ms Post := ⟨Nat.le_of_ble_eq_true rfl, h⟩
theorem rt21 {mc ms : Nat} {Z : ZZ} {M : MM} {Post : PP} (h1 : Z.2.1 ≤ mc) (h2 : Z.2.2 ≤ ms) (h : Post none Z.1 M) : Rtn 21 mc ms Post none Z M := ⟨h1, h2, trivial, h⟩
/-! 22 OwnSunday$Rota.put -/
def bt22 (pc : Nat) : BL := if pc = 0 then [(.aload 0, 0, 1), (.getfield 1, 2, 3), (.iload 2, 0, 1), (.aaload, 0, 1), (.iload 3, 0, 1), (.dup2, 0, 1), (.iaload, 0, 1), (.iconst 1, 0, 1), (.iload 1, 0, 1), (.ishl, 0, 1), (.ior, 0, 1), (.iastore, 0, 1), (.return_, 0, 1)] else []
def sp22 (pc : Nat) : Bool := [].contains pc
theorem BT22 : bt22 0 = [(.aload 0, 0, 1), (.getfield 1, 2, 3), (.iload 2, 0, 1), (.aaload, 0, 1), (.iload 3, 0, 1), (.dup2, 0, 1), (.iaload, 0, 1), (.iconst 1, 0, 1), (.iload 1, 0, 1), (.ishl, 0, 1), (.ior, 0, 1), (.iastore, 0, 1), (.return_, 0, 1)] ∧ True := ⟨rfl, trivial⟩
theorem SP22 : sp22 0 = false ∧ True := ⟨rfl, trivial⟩
set_option maxRecDepth 100000 in
theorem bk22 : ∀ pc, blk 22 pc (bt22 pc) = true := fun pc => blk_if (by decide +kernel) (rfl)
theorem go22 {d mc ms : Nat} {sh : List SC} {M : MM} {Post : PP} {a0 : Nat} {a1 : Int} {a2 : Int} {a3 : Int} (h : ∀ S : Nat → KK, Clo (Run d) 22 none mc ms (Rtn 22 mc ms Post) S → S 0 [some (vR a0), some (vI a1), some (vI a2), some (vI a3)] [] (sh, 0, 0) M) : Run (d + 1) 22 [vR a0, vI a1, vI a2, vI a3] sh M mc ms Post := ⟨Nat.le_of_ble_eq_true rfl, h⟩
theorem rt22 {mc ms : Nat} {Z : ZZ} {M : MM} {Post : PP} (h1 : Z.2.1 ≤ mc) (h2 : Z.2.2 ≤ ms) (h : Post none Z.1 M) : Rtn 22 mc ms Post none Z M := ⟨h1, h2, trivial, h⟩
/-! 23 OwnSunday$Rota.lift -/
def bt23 (pc : Nat) : BL := if pc = 0 then [(.aload 0, 0, 1), (.getfield 1, 2, 3), (.iload 2, 0, 1), (.aaload, 0, 1), (.iload 3, 0, 1), (.dup2, 0, 1), (.iaload, 0, 1), (.iconst 1, 0, 1), (.iload 1, 0, 1), (.ishl, 0, 1), (.iconst (-1), 0, 1), (.ixor, 0, 1), (.iand, 0, 1), (.iastore, 0, 1), (.return_, 0, 1)] else []
def sp23 (pc : Nat) : Bool := [].contains pc
theorem BT23 : bt23 0 = [(.aload 0, 0, 1), (.getfield 1, 2, 3), (.iload 2, 0, 1), (.aaload, 0, 1), (.iload 3, 0, 1), (.dup2, 0, 1), (.iaload, 0, 1), (.iconst 1, 0, 1), (.iload 1, 0, 1), (.ishl, 0, 1), (.iconst (-1), 0, 1), (.ixor, 0, 1), (.iand, 0, 1), (.iastore, 0, 1), (.return_, 0, 1)] ∧ True := ⟨rfl, trivial⟩
theorem SP23 : sp23 0 = false ∧ True := ⟨rfl, trivial⟩
set_option maxRecDepth 100000 in
theorem bk23 : ∀ pc, blk 23 pc (bt23 pc) = true := fun pc => blk_if (by decide +kernel) (rfl)
theorem go23 {d mc ms : Nat} {sh : List SC} {M : MM} {Post : PP} {a0 : Nat} {a1 : Int} {a2 : Int} {a3 : Int} (h : ∀ S : Nat → KK, Clo (Run d) 23 none mc ms (Rtn 23 mc ms Post) S → S 0 [some (vR a0), some (vI a1), some (vI a2), some (vI a3)] [] (sh, 0, 0) M) : Run (d + 1) 23 [vR a0, vI a1, vI a2, vI a3] sh M mc ms Post := ⟨Nat.le_of_ble_eq_true rfl, h⟩
theorem rt23 {mc ms : Nat} {Z : ZZ} {M : MM} {Post : PP} (h1 : Z.2.1 ≤ mc) (h2 : Z.2.2 ≤ ms) (h : Post none Z.1 M) : Rtn 23 mc ms Post none Z M := ⟨h1, h2, trivial, h⟩
/-! 24 OwnSunday$Rota.restingOn -/
def bt24 (pc : Nat) : BL := if pc = 0 then [(.aload 0, 0, 1), (.getfield 1, 2, 3), (.iconst 0, 0, 1), (.aaload, 0, 1), (.lload 1, 0, 1), (.iconst 1, 0, 1), (.aload 0, 0, 1), (.getfield 0, 2, 3), (.iconst 0, 0, 1), (.iaload, 0, 1), (.invokestatic 1002, 99, 3), (.i2l, 0, 1), (.lrem, 0, 1), (.l2i, 0, 1), (.iaload, 0, 1), (.aload 0, 0, 1), (.getfield 1, 2, 3), (.iconst 1, 0, 1), (.aaload, 0, 1), (.lload 1, 0, 1), (.iconst 1, 0, 1), (.aload 0, 0, 1), (.getfield 0, 2, 3), (.iconst 1, 0, 1), (.iaload, 0, 1), (.invokestatic 1002, 99, 3), (.i2l, 0, 1), (.lrem, 0, 1), (.l2i, 0, 1), (.iaload, 0, 1), (.ior, 0, 1), (.ireturn, 0, 1)] else []
def sp24 (pc : Nat) : Bool := [].contains pc
theorem BT24 : bt24 0 = [(.aload 0, 0, 1), (.getfield 1, 2, 3), (.iconst 0, 0, 1), (.aaload, 0, 1), (.lload 1, 0, 1), (.iconst 1, 0, 1), (.aload 0, 0, 1), (.getfield 0, 2, 3), (.iconst 0, 0, 1), (.iaload, 0, 1), (.invokestatic 1002, 99, 3), (.i2l, 0, 1), (.lrem, 0, 1), (.l2i, 0, 1), (.iaload, 0, 1), (.aload 0, 0, 1), (.getfield 1, 2, 3), (.iconst 1, 0, 1), (.aaload, 0, 1), (.lload 1, 0, 1), (.iconst 1, 0, 1), (.aload 0, 0, 1), (.getfield 0, 2, 3), (.iconst 1, 0, 1), (.iaload, 0, 1), (.invokestatic 1002, 99, 3), (.i2l, 0, 1), (.lrem, 0, 1), (.l2i, 0, 1), (.iaload, 0, 1), (.ior, 0, 1), (.ireturn, 0, 1)] ∧ True := ⟨rfl, trivial⟩
theorem SP24 : sp24 0 = false ∧ True := ⟨rfl, trivial⟩
set_option maxRecDepth 100000 in
theorem bk24 : ∀ pc, blk 24 pc (bt24 pc) = true := fun pc => blk_if (by decide +kernel) (rfl)
theorem go24 {d mc ms : Nat} {sh : List SC} {M : MM} {Post : PP} {a0 : Nat} {a1 : Int} (h : ∀ S : Nat → KK, Clo (Run d) 24 none mc ms (Rtn 24 mc ms Post) S → S 0 [some (vR a0), some (vL a1), none] [] (sh, 0, 0) M) : Run (d + 1) 24 [vR a0, vL a1] sh M mc ms Post := ⟨Nat.le_of_ble_eq_true rfl, h⟩
theorem rt24 {v : Int} {sh : List SC} {M : MM} {Post : PP} (h : Post (some (Sum.inl v)) sh M) : Rtn 24 0 0 Post (some (Sum.inl v)) (sh, 0, 0) M := ⟨Nat.le_refl _, Nat.le_refl _, trivial, h⟩
/-! 25 OwnSunday$Rota.mostResting -/
def bt25 (pc : Nat) : BL := if pc = 0 then [(.iconst 0, 0, 1), (.istore 2, 0, 1), (.iconst 0, 0, 1), (.istore 3, 0, 1)] else if pc = 4 then [(.iload 3, 0, 1), (.aload 0, 0, 1), (.getfield 2, 2, 3), (.if_icmp .ge 38, 0, 3)] else if pc = 12 then [(.iload 2, 0, 1), (.aload 0, 0, 1), (.iconst 0, 0, 1), (.iload 3, 0, 1), (.iload 1, 0, 1), (.invokevirtual 26, 4, 3)] else if pc = 20 then [(.aload 0, 0, 1), (.iconst 1, 0, 1), (.iload 3, 0, 1), (.iload 1, 0, 1), (.invokevirtual 26, 4, 3)] else if pc = 27 then [(.iadd, 0, 1), (.invokestatic 1002, 99, 3), (.istore 2, 0, 1), (.iinc 3 1, 0, 3), (.goto 4, 0, 3)] else if pc = 38 then [(.iload 2, 0, 1), (.ireturn, 0, 1)] else []
def sp25 (pc : Nat) : Bool := [4, 20, 27].contains pc
theorem BT25 : bt25 0 = [(.iconst 0, 0, 1), (.istore 2, 0, 1), (.iconst 0, 0, 1), (.istore 3, 0, 1)] ∧ bt25 4 = [(.iload 3, 0, 1), (.aload 0, 0, 1), (.getfield 2, 2, 3), (.if_icmp .ge 38, 0, 3)] ∧ bt25 12 = [(.iload 2, 0, 1), (.aload 0, 0, 1), (.iconst 0, 0, 1), (.iload 3, 0, 1), (.iload 1, 0, 1), (.invokevirtual 26, 4, 3)] ∧ bt25 20 = [(.aload 0, 0, 1), (.iconst 1, 0, 1), (.iload 3, 0, 1), (.iload 1, 0, 1), (.invokevirtual 26, 4, 3)] ∧ bt25 27 = [(.iadd, 0, 1), (.invokestatic 1002, 99, 3), (.istore 2, 0, 1), (.iinc 3 1, 0, 3), (.goto 4, 0, 3)] ∧ bt25 38 = [(.iload 2, 0, 1), (.ireturn, 0, 1)] ∧ True := ⟨rfl, rfl, rfl, rfl, rfl, rfl, trivial⟩
theorem SP25 : sp25 0 = false ∧ sp25 4 = true ∧ sp25 12 = false ∧ sp25 20 = true ∧ sp25 27 = true ∧ sp25 38 = false ∧ True := ⟨rfl, rfl, rfl, rfl, rfl, rfl, trivial⟩
set_option maxRecDepth 100000 in
theorem bk25 : ∀ pc, blk 25 pc (bt25 pc) = true := fun pc => blk_if (by decide +kernel) (blk_if (by decide +kernel) (blk_if (by decide +kernel) (blk_if (by decide +kernel) (blk_if (by decide +kernel) (blk_if (by decide +kernel) (rfl))))))
theorem go25 {d mc ms : Nat} {sh : List SC} {M : MM} {Post : PP} {a0 : Nat} {a1 : Int} (h : ∀ S : Nat → KK, Clo (Run d) 25 none mc ms (Rtn 25 mc ms Post) S → S 0 [some (vR a0), some (vI a1), none, none] [] (sh, 0, 0) M) : Run (d + 1) 25 [vR a0, vI a1] sh M mc ms Post := ⟨Nat.le_of_ble_eq_true rfl, h⟩
theorem rt25 {v : Int} {sh : List SC} {M : MM} {Post : PP} (h : Post (some (Sum.inl v)) sh M) : Rtn 25 0 0 Post (some (Sum.inl v)) (sh, 0, 0) M := ⟨Nat.le_refl _, Nat.le_refl _, trivial, h⟩
/-! 26 OwnSunday$Rota.mostOfWeek -/
def bt26 (pc : Nat) : BL := if pc = 0 then [(.iconst 1, 0, 1), (.aload 0, 0, 1), (.getfield 2, 2, 3), (.invokestatic 1002, 99, 3), (.istore 4, 0, 2), (.iconst 0, 0, 1), (.istore 5, 0, 2), (.iload 2, 0, 1), (.istore 6, 0, 2)] else if pc = 16 then [(.iload 6, 0, 2), (.aload 0, 0, 1), (.getfield 0, 2, 3), (.iload 1, 0, 1), (.iaload, 0, 1), (.if_icmp .ge 58, 0, 3)] else if pc = 27 then [(.iload 5, 0, 2), (.aload 0, 0, 1), (.getfield 1, 2, 3), (.iload 1, 0, 1), (.aaload, 0, 1), (.iload 6, 0, 2), (.iaload, 0, 1), (.iload 3, 0, 1), (.iand, 0, 1), (.invokestatic 161, 1, 3)] else if pc = 43 then [(.invokestatic 1002, 99, 3), (.istore 5, 0, 2), (.iload 6, 0, 2), (.iload 4, 0, 2), (.iadd, 0, 1), (.istore 6, 0, 2), (.goto 16, 0, 3)] else if pc = 58 then [(.iload 5, 0, 2), (.ireturn, 0, 1)] else []
def sp26 (pc : Nat) : Bool := [16, 43].contains pc
theorem BT26 : bt26 0 = [(.iconst 1, 0, 1), (.aload 0, 0, 1), (.getfield 2, 2, 3), (.invokestatic 1002, 99, 3), (.istore 4, 0, 2), (.iconst 0, 0, 1), (.istore 5, 0, 2), (.iload 2, 0, 1), (.istore 6, 0, 2)] ∧ bt26 16 = [(.iload 6, 0, 2), (.aload 0, 0, 1), (.getfield 0, 2, 3), (.iload 1, 0, 1), (.iaload, 0, 1), (.if_icmp .ge 58, 0, 3)] ∧ bt26 27 = [(.iload 5, 0, 2), (.aload 0, 0, 1), (.getfield 1, 2, 3), (.iload 1, 0, 1), (.aaload, 0, 1), (.iload 6, 0, 2), (.iaload, 0, 1), (.iload 3, 0, 1), (.iand, 0, 1), (.invokestatic 161, 1, 3)] ∧ bt26 43 = [(.invokestatic 1002, 99, 3), (.istore 5, 0, 2), (.iload 6, 0, 2), (.iload 4, 0, 2), (.iadd, 0, 1), (.istore 6, 0, 2), (.goto 16, 0, 3)] ∧ bt26 58 = [(.iload 5, 0, 2), (.ireturn, 0, 1)] ∧ True := ⟨rfl, rfl, rfl, rfl, rfl, trivial⟩
theorem SP26 : sp26 0 = false ∧ sp26 16 = true ∧ sp26 27 = false ∧ sp26 43 = true ∧ sp26 58 = false ∧ True := ⟨rfl, rfl, rfl, rfl, rfl, trivial⟩
set_option maxRecDepth 100000 in
theorem bk26 : ∀ pc, blk 26 pc (bt26 pc) = true := fun pc => blk_if (by decide +kernel) (blk_if (by decide +kernel) (blk_if (by decide +kernel) (blk_if (by decide +kernel) (blk_if (by decide +kernel) (rfl)))))
theorem go26 {d mc ms : Nat} {sh : List SC} {M : MM} {Post : PP} {a0 : Nat} {a1 : Int} {a2 : Int} {a3 : Int} (h : ∀ S : Nat → KK, Clo (Run d) 26 none mc ms (Rtn 26 mc ms Post) S → S 0 [some (vR a0), some (vI a1), some (vI a2), some (vI a3), none, none, none] [] (sh, 0, 0) M) : Run (d + 1) 26 [vR a0, vI a1, vI a2, vI a3] sh M mc ms Post := ⟨Nat.le_of_ble_eq_true rfl, h⟩
theorem rt26 {v : Int} {sh : List SC} {M : MM} {Post : PP} (h : Post (some (Sum.inl v)) sh M) : Rtn 26 0 0 Post (some (Sum.inl v)) (sh, 0, 0) M := ⟨Nat.le_refl _, Nat.le_refl _, trivial, h⟩
/-! 27 OwnSunday$Town.<init> -/
def bt27 (pc : Nat) : BL := if pc = 0 then [(.aload 0, 0, 1), (.invokespecial 1001, 99, 3), (.aload 0, 0, 1), (.iconst 2, 0, 1), (.newarray .int, 0, 2), (.putstatic 0, 3, 3), (.aload 0, 0, 1), (.iconst 10, 0, 2), (.newarray .int, 0, 2), (.putstatic 2, 3, 3), (.aload 0, 0, 1), (.iconst 10, 0, 2), (.newarray .int, 0, 2), (.putstatic 3, 3, 3), (.aload 0, 0, 1), (.iconst 5, 0, 1), (.newarray .int, 0, 2), (.putstatic 4, 3, 3), (.aload 0, 0, 1), (.iconst 6, 0, 2), (.newarray .int, 0, 2), (.putstatic 6, 3, 3), (.aload 0, 0, 1), (.iconst 6, 0, 2), (.newarray .int, 0, 2), (.putstatic 7, 3, 3), (.aload 0, 0, 1), (.iconst 6, 0, 2), (.newarray .int, 0, 2), (.putstatic 8, 3, 3), (.return_, 0, 1)] else []
def sp27 (pc : Nat) : Bool := [].contains pc
theorem BT27 : bt27 0 = [(.aload 0, 0, 1), (.invokespecial 1001, 99, 3), (.aload 0, 0, 1), (.iconst 2, 0, 1), (.newarray .int, 0, 2), (.putstatic 0, 3, 3), (.aload 0, 0, 1), (.iconst 10, 0, 2), (.newarray .int, 0, 2), (.putstatic 2, 3, 3), (.aload 0, 0, 1), (.iconst 10, 0, 2), (.newarray .int, 0, 2), (.putstatic 3, 3, 3), (.aload 0, 0, 1), (.iconst 5, 0, 1), (.newarray .int, 0, 2), (.putstatic 4, 3, 3), (.aload 0, 0, 1), (.iconst 6, 0, 2), (.newarray .int, 0, 2), (.putstatic 6, 3, 3), (.aload 0, 0, 1), (.iconst 6, 0, 2), (.newarray .int, 0, 2), (.putstatic 7, 3, 3), (.aload 0, 0, 1), (.iconst 6, 0, 2), (.newarray .int, 0, 2), (.putstatic 8, 3, 3), (.return_, 0, 1)] ∧ True := ⟨rfl, trivial⟩
theorem SP27 : sp27 0 = false ∧ True := ⟨rfl, trivial⟩
set_option maxRecDepth 100000 in
theorem bk27 : ∀ pc, blk 27 pc (bt27 pc) = true := fun pc => blk_if (by decide +kernel) (rfl)
theorem go27 {d mc ms : Nat} {sh : List SC} {M : MM} {Post : PP} {a0 : Nat} (h : ∀ S : Nat → KK, Clo (Run d) 27 none mc ms (Rtn 27 mc ms Post) S → S 0 [some (vR a0)] [] (sh, 0, 0) M) : Run (d + 1) 27 [vR a0] sh M mc ms Post := ⟨Nat.le_of_ble_eq_true rfl, h⟩
theorem rt27 {mc ms : Nat} {Z : ZZ} {M : MM} {Post : PP} (h1 : Z.2.1 ≤ mc) (h2 : Z.2.2 ≤ ms) (h : Post none Z.1 M) : Rtn 27 mc ms Post none Z M := ⟨h1, h2, trivial, h⟩
/-! 28 OwnSunday$Town.begin -/
def bt28 (pc : Nat) : BL := if pc = 0 then [(.aload 0, 0, 1), (.getfield 0, 3, 3), (.iconst 0, 0, 1), (.iconst 7, 0, 2), (.iastore, 0, 1), (.aload 0, 0, 1), (.getfield 0, 3, 3), (.iconst 1, 0, 1), (.iconst 9, 0, 2), (.iastore, 0, 1), (.aload 0, 0, 1), (.iconst 0, 0, 1), (.putfield 1, 3, 3), (.aload 0, 0, 1), (.getfield 4, 3, 3), (.iconst 0, 0, 1), (.invokestatic 162, 2, 3)] else if pc = 29 then [(.aload 0, 0, 1), (.iconst 0, 0, 1), (.putfield 5, 3, 3), (.aload 0, 0, 1), (.iconst 0, 0, 1), (.putfield 9, 3, 3), (.return_, 0, 1)] else []
def sp28 (pc : Nat) : Bool := [29].contains pc
theorem BT28 : bt28 0 = [(.aload 0, 0, 1), (.getfield 0, 3, 3), (.iconst 0, 0, 1), (.iconst 7, 0, 2), (.iastore, 0, 1), (.aload 0, 0, 1), (.getfield 0, 3, 3), (.iconst 1, 0, 1), (.iconst 9, 0, 2), (.iastore, 0, 1), (.aload 0, 0, 1), (.iconst 0, 0, 1), (.putfield 1, 3, 3), (.aload 0, 0, 1), (.getfield 4, 3, 3), (.iconst 0, 0, 1), (.invokestatic 162, 2, 3)] ∧ bt28 29 = [(.aload 0, 0, 1), (.iconst 0, 0, 1), (.putfield 5, 3, 3), (.aload 0, 0, 1), (.iconst 0, 0, 1), (.putfield 9, 3, 3), (.return_, 0, 1)] ∧ True := ⟨rfl, rfl, trivial⟩
theorem SP28 : sp28 0 = false ∧ sp28 29 = true ∧ True := ⟨rfl, rfl, trivial⟩
set_option maxRecDepth 100000 in
theorem bk28 : ∀ pc, blk 28 pc (bt28 pc) = true := fun pc => blk_if (by decide +kernel) (blk_if (by decide +kernel) (rfl))
theorem go28 {d mc ms : Nat} {sh : List SC} {M : MM} {Post : PP} {a0 : Nat} (h : ∀ S : Nat → KK, Clo (Run d) 28 none mc ms (Rtn 28 mc ms Post) S → S 0 [some (vR a0)] [] (sh, 0, 0) M) : Run (d + 1) 28 [vR a0] sh M mc ms Post := ⟨Nat.le_of_ble_eq_true rfl, h⟩
theorem rt28 {mc ms : Nat} {Z : ZZ} {M : MM} {Post : PP} (h1 : Z.2.1 ≤ mc) (h2 : Z.2.2 ≤ ms) (h : Post none Z.1 M) : Rtn 28 mc ms Post none Z M := ⟨h1, h2, trivial, h⟩
/-! 29 OwnSunday$Town.addHouse -/
def bt29 (pc : Nat) : BL := if pc = 0 then [(.aload 0, 0, 1), (.getfield 1, 3, 3), (.iconst 10, 0, 2), (.if_icmp .lt 10, 0, 3)] else if pc = 9 then [(.return_, 0, 1)] else if pc = 10 then [(.aload 0, 0, 1), (.getfield 2, 3, 3), (.aload 0, 0, 1), (.getfield 1, 3, 3), (.iload 1, 0, 1), (.iastore, 0, 1), (.aload 0, 0, 1), (.getfield 3, 3, 3), (.aload 0, 0, 1), (.getfield 1, 3, 3), (.iload 2, 0, 1), (.iastore, 0, 1), (.iconst 0, 0, 1), (.istore 3, 0, 1)] else if pc = 32 then [(.iload 3, 0, 1), (.iconst 5, 0, 1), (.if_icmp .ge 66, 0, 3)] else if pc = 37 then [(.iload 1, 0, 1), (.iconst 1, 0, 1), (.iload 3, 0, 1), (.ishl, 0, 1), (.iand, 0, 1), (.ifCond .eq 60, 0, 3)] else if pc = 45 then [(.aload 0, 0, 1), (.getfield 4, 3, 3), (.iload 3, 0, 1), (.dup2, 0, 1), (.iaload, 0, 1), (.iconst 1, 0, 1), (.aload 0, 0, 1), (.getfield 1, 3, 3), (.ishl, 0, 1), (.ior, 0, 1), (.iastore, 0, 1)] else if pc = 60 then [(.iinc 3 1, 0, 3), (.goto 32, 0, 3)] else if pc = 66 then [(.aload 0, 0, 1), (.dup, 0, 1), (.getfield 1, 3, 3), (.iconst 1, 0, 1), (.iadd, 0, 1), (.putfield 1, 3, 3), (.return_, 0, 1)] else []
def sp29 (pc : Nat) : Bool := [32].contains pc
theorem BT29 : bt29 0 = [(.aload 0, 0, 1), (.getfield 1, 3, 3), (.iconst 10, 0, 2), (.if_icmp .lt 10, 0, 3)] ∧ bt29 9 = [(.return_, 0, 1)] ∧ bt29 10 = [(.aload 0, 0, 1), (.getfield 2, 3, 3), (.aload 0, 0, 1), (.getfield 1, 3, 3), (.iload 1, 0, 1), (.iastore, 0, 1), (.aload 0, 0, 1), (.getfield 3, 3, 3), (.aload 0, 0, 1), (.getfield 1, 3, 3), (.iload 2, 0, 1), (.iastore, 0, 1), (.iconst 0, 0, 1), (.istore 3, 0, 1)] ∧ bt29 32 = [(.iload 3, 0, 1), (.iconst 5, 0, 1), (.if_icmp .ge 66, 0, 3)] ∧ bt29 37 = [(.iload 1, 0, 1), (.iconst 1, 0, 1), (.iload 3, 0, 1), (.ishl, 0, 1), (.iand, 0, 1), (.ifCond .eq 60, 0, 3)] ∧ bt29 45 = [(.aload 0, 0, 1), (.getfield 4, 3, 3), (.iload 3, 0, 1), (.dup2, 0, 1), (.iaload, 0, 1), (.iconst 1, 0, 1), (.aload 0, 0, 1), (.getfield 1, 3, 3), (.ishl, 0, 1), (.ior, 0, 1), (.iastore, 0, 1)] ∧ bt29 60 = [(.iinc 3 1, 0, 3), (.goto 32, 0, 3)] ∧ bt29 66 = [(.aload 0, 0, 1), (.dup, 0, 1), (.getfield 1, 3, 3), (.iconst 1, 0, 1), (.iadd, 0, 1), (.putfield 1, 3, 3), (.return_, 0, 1)] ∧ True := ⟨rfl, rfl, rfl, rfl, rfl, rfl, rfl, rfl, trivial⟩
theorem SP29 : sp29 0 = false ∧ sp29 9 = false ∧ sp29 10 = false ∧ sp29 32 = true ∧ sp29 37 = false ∧ sp29 45 = false ∧ sp29 60 = false ∧ sp29 66 = false ∧ True := ⟨rfl, rfl, rfl, rfl, rfl, rfl, rfl, rfl, trivial⟩
set_option maxRecDepth 100000 in
theorem bk29 : ∀ pc, blk 29 pc (bt29 pc) = true := fun pc => blk_if (by decide +kernel) (blk_if (by decide +kernel) (blk_if (by decide +kernel) (blk_if (by decide +kernel) (blk_if (by decide +kernel) (blk_if (by decide +kernel) (blk_if (by decide +kernel) (blk_if (by decide +kernel) (rfl))))))))
theorem go29 {d mc ms : Nat} {sh : List SC} {M : MM} {Post : PP} {a0 : Nat} {a1 : Int} {a2 : Int} (h : ∀ S : Nat → KK, Clo (Run d) 29 none mc ms (Rtn 29 mc ms Post) S → S 0 [some (vR a0), some (vI a1), some (vI a2), none] [] (sh, 0, 0) M) : Run (d + 1) 29 [vR a0, vI a1, vI a2] sh M mc ms Post := ⟨Nat.le_of_ble_eq_true rfl, h⟩
theorem rt29 {mc ms : Nat} {Z : ZZ} {M : MM} {Post : PP} (h1 : Z.2.1 ≤ mc) (h2 : Z.2.2 ≤ ms) (h : Post none Z.1 M) : Rtn 29 mc ms Post none Z M := ⟨h1, h2, trivial, h⟩
/-! 30 OwnSunday$Town.addWork -/
def bt30 (pc : Nat) : BL := if pc = 0 then [(.aload 0, 0, 1), (.getfield 5, 3, 3), (.iconst 6, 0, 2), (.if_icmp .lt 10, 0, 3)] else if pc = 9 then [(.return_, 0, 1)] else if pc = 10 then [(.aload 0, 0, 1), (.getfield 6, 3, 3), (.aload 0, 0, 1), (.getfield 5, 3, 3), (.iload 1, 0, 1), (.iastore, 0, 1), (.aload 0, 0, 1), (.getfield 7, 3, 3), (.aload 0, 0, 1), (.getfield 5, 3, 3), (.iload 2, 0, 1), (.iastore, 0, 1), (.aload 0, 0, 1), (.getfield 8, 3, 3), (.aload 0, 0, 1), (.getfield 5, 3, 3), (.iload 3, 0, 1), (.iastore, 0, 1), (.aload 0, 0, 1), (.dup, 0, 1), (.getfield 5, 3, 3), (.iconst 1, 0, 1), (.iadd, 0, 1), (.putfield 5, 3, 3), (.return_, 0, 1)] else []
def sp30 (pc : Nat) : Bool := [].contains pc
theorem BT30 : bt30 0 = [(.aload 0, 0, 1), (.getfield 5, 3, 3), (.iconst 6, 0, 2), (.if_icmp .lt 10, 0, 3)] ∧ bt30 9 = [(.return_, 0, 1)] ∧ bt30 10 = [(.aload 0, 0, 1), (.getfield 6, 3, 3), (.aload 0, 0, 1), (.getfield 5, 3, 3), (.iload 1, 0, 1), (.iastore, 0, 1), (.aload 0, 0, 1), (.getfield 7, 3, 3), (.aload 0, 0, 1), (.getfield 5, 3, 3), (.iload 2, 0, 1), (.iastore, 0, 1), (.aload 0, 0, 1), (.getfield 8, 3, 3), (.aload 0, 0, 1), (.getfield 5, 3, 3), (.iload 3, 0, 1), (.iastore, 0, 1), (.aload 0, 0, 1), (.dup, 0, 1), (.getfield 5, 3, 3), (.iconst 1, 0, 1), (.iadd, 0, 1), (.putfield 5, 3, 3), (.return_, 0, 1)] ∧ True := ⟨rfl, rfl, rfl, trivial⟩
theorem SP30 : sp30 0 = false ∧ sp30 9 = false ∧ sp30 10 = false ∧ True := ⟨rfl, rfl, rfl, trivial⟩
set_option maxRecDepth 100000 in
theorem bk30 : ∀ pc, blk 30 pc (bt30 pc) = true := fun pc => blk_if (by decide +kernel) (blk_if (by decide +kernel) (blk_if (by decide +kernel) (rfl)))
theorem go30 {d mc ms : Nat} {sh : List SC} {M : MM} {Post : PP} {a0 : Nat} {a1 : Int} {a2 : Int} {a3 : Int} (h : ∀ S : Nat → KK, Clo (Run d) 30 none mc ms (Rtn 30 mc ms Post) S → S 0 [some (vR a0), some (vI a1), some (vI a2), some (vI a3)] [] (sh, 0, 0) M) : Run (d + 1) 30 [vR a0, vI a1, vI a2, vI a3] sh M mc ms Post := ⟨Nat.le_of_ble_eq_true rfl, h⟩
theorem rt30 {mc ms : Nat} {Z : ZZ} {M : MM} {Post : PP} (h1 : Z.2.1 ≤ mc) (h2 : Z.2.2 ≤ ms) (h : Post none Z.1 M) : Rtn 30 mc ms Post none Z M := ⟨h1, h2, trivial, h⟩
/-! 31 OwnSunday$Town.period -/
def bt31 (pc : Nat) : BL := if pc = 0 then [(.iconst 1, 0, 1), (.aload 0, 0, 1), (.getfield 0, 3, 3), (.iconst 1, 0, 1), (.iaload, 0, 1), (.invokestatic 1002, 99, 3), (.istore 1, 0, 1), (.aload 0, 0, 1), (.getfield 0, 3, 3), (.iconst 0, 0, 1), (.iaload, 0, 1), (.istore 2, 0, 1), (.iconst 1, 0, 1), (.istore 3, 0, 1)] else if pc = 20 then [(.iload 3, 0, 1), (.iconst 12, 0, 2), (.if_icmp .ge 47, 0, 3)] else if pc = 26 then [(.iload 2, 0, 1), (.iload 1, 0, 1), (.irem, 0, 1), (.ifCond .eq 47, 0, 3)] else if pc = 32 then [(.iload 2, 0, 1), (.aload 0, 0, 1), (.getfield 0, 3, 3), (.iconst 0, 0, 1), (.iaload, 0, 1), (.iadd, 0, 1), (.istore 2, 0, 1), (.iinc 3 1, 0, 3), (.goto 20, 0, 3)] else if pc = 47 then [(.iconst 1, 0, 1), (.iload 2, 0, 1), (.invokestatic 1002, 99, 3), (.ireturn, 0, 1)] else []
def sp31 (pc : Nat) : Bool := [20].contains pc
theorem BT31 : bt31 0 = [(.iconst 1, 0, 1), (.aload 0, 0, 1), (.getfield 0, 3, 3), (.iconst 1, 0, 1), (.iaload, 0, 1), (.invokestatic 1002, 99, 3), (.istore 1, 0, 1), (.aload 0, 0, 1), (.getfield 0, 3, 3), (.iconst 0, 0, 1), (.iaload, 0, 1), (.istore 2, 0, 1), (.iconst 1, 0, 1), (.istore 3, 0, 1)] ∧ bt31 20 = [(.iload 3, 0, 1), (.iconst 12, 0, 2), (.if_icmp .ge 47, 0, 3)] ∧ bt31 26 = [(.iload 2, 0, 1), (.iload 1, 0, 1), (.irem, 0, 1), (.ifCond .eq 47, 0, 3)] ∧ bt31 32 = [(.iload 2, 0, 1), (.aload 0, 0, 1), (.getfield 0, 3, 3), (.iconst 0, 0, 1), (.iaload, 0, 1), (.iadd, 0, 1), (.istore 2, 0, 1), (.iinc 3 1, 0, 3), (.goto 20, 0, 3)] ∧ bt31 47 = [(.iconst 1, 0, 1), (.iload 2, 0, 1), (.invokestatic 1002, 99, 3), (.ireturn, 0, 1)] ∧ True := ⟨rfl, rfl, rfl, rfl, rfl, trivial⟩
theorem SP31 : sp31 0 = false ∧ sp31 20 = true ∧ sp31 26 = false ∧ sp31 32 = false ∧ sp31 47 = false ∧ True := ⟨rfl, rfl, rfl, rfl, rfl, trivial⟩
set_option maxRecDepth 100000 in
theorem bk31 : ∀ pc, blk 31 pc (bt31 pc) = true := fun pc => blk_if (by decide +kernel) (blk_if (by decide +kernel) (blk_if (by decide +kernel) (blk_if (by decide +kernel) (blk_if (by decide +kernel) (rfl)))))
theorem go31 {d mc ms : Nat} {sh : List SC} {M : MM} {Post : PP} {a0 : Nat} (h : ∀ S : Nat → KK, Clo (Run d) 31 none mc ms (Rtn 31 mc ms Post) S → S 0 [some (vR a0), none, none, none] [] (sh, 0, 0) M) : Run (d + 1) 31 [vR a0] sh M mc ms Post := ⟨Nat.le_of_ble_eq_true rfl, h⟩
theorem rt31 {v : Int} {sh : List SC} {M : MM} {Post : PP} (h : Post (some (Sum.inl v)) sh M) : Rtn 31 0 0 Post (some (Sum.inl v)) (sh, 0, 0) M := ⟨Nat.le_refl _, Nat.le_refl _, trivial, h⟩
/-! 32 OwnSunday$Town.housesOfStreet -/
def bt32 (pc : Nat) : BL := if pc = 0 then [(.iconst 0, 0, 1), (.istore 2, 0, 1), (.iconst 0, 0, 1), (.istore 3, 0, 1)] else if pc = 4 then [(.iload 3, 0, 1), (.aload 0, 0, 1), (.getfield 1, 3, 3), (.if_icmp .ge 34, 0, 3)] else if pc = 12 then [(.aload 0, 0, 1), (.getfield 3, 3, 3), (.iload 3, 0, 1), (.iaload, 0, 1), (.iload 1, 0, 1), (.if_icmp .ne 28, 0, 3)] else if pc = 22 then [(.iload 2, 0, 1), (.iconst 1, 0, 1), (.iload 3, 0, 1), (.ishl, 0, 1), (.ior, 0, 1), (.istore 2, 0, 1)] else if pc = 28 then [(.iinc 3 1, 0, 3), (.goto 4, 0, 3)] else if pc = 34 then [(.iload 2, 0, 1), (.ireturn, 0, 1)] else []
def sp32 (pc : Nat) : Bool := [4].contains pc
theorem BT32 : bt32 0 = [(.iconst 0, 0, 1), (.istore 2, 0, 1), (.iconst 0, 0, 1), (.istore 3, 0, 1)] ∧ bt32 4 = [(.iload 3, 0, 1), (.aload 0, 0, 1), (.getfield 1, 3, 3), (.if_icmp .ge 34, 0, 3)] ∧ bt32 12 = [(.aload 0, 0, 1), (.getfield 3, 3, 3), (.iload 3, 0, 1), (.iaload, 0, 1), (.iload 1, 0, 1), (.if_icmp .ne 28, 0, 3)] ∧ bt32 22 = [(.iload 2, 0, 1), (.iconst 1, 0, 1), (.iload 3, 0, 1), (.ishl, 0, 1), (.ior, 0, 1), (.istore 2, 0, 1)] ∧ bt32 28 = [(.iinc 3 1, 0, 3), (.goto 4, 0, 3)] ∧ bt32 34 = [(.iload 2, 0, 1), (.ireturn, 0, 1)] ∧ True := ⟨rfl, rfl, rfl, rfl, rfl, rfl, trivial⟩
theorem SP32 : sp32 0 = false ∧ sp32 4 = true ∧ sp32 12 = false ∧ sp32 22 = false ∧ sp32 28 = false ∧ sp32 34 = false ∧ True := ⟨rfl, rfl, rfl, rfl, rfl, rfl, trivial⟩
set_option maxRecDepth 100000 in
theorem bk32 : ∀ pc, blk 32 pc (bt32 pc) = true := fun pc => blk_if (by decide +kernel) (blk_if (by decide +kernel) (blk_if (by decide +kernel) (blk_if (by decide +kernel) (blk_if (by decide +kernel) (blk_if (by decide +kernel) (rfl))))))
theorem go32 {d mc ms : Nat} {sh : List SC} {M : MM} {Post : PP} {a0 : Nat} {a1 : Int} (h : ∀ S : Nat → KK, Clo (Run d) 32 none mc ms (Rtn 32 mc ms Post) S → S 0 [some (vR a0), some (vI a1), none, none] [] (sh, 0, 0) M) : Run (d + 1) 32 [vR a0, vI a1] sh M mc ms Post := ⟨Nat.le_of_ble_eq_true rfl, h⟩
theorem rt32 {v : Int} {sh : List SC} {M : MM} {Post : PP} (h : Post (some (Sum.inl v)) sh M) : Rtn 32 0 0 Post (some (Sum.inl v)) (sh, 0, 0) M := ⟨Nat.le_refl _, Nat.le_refl _, trivial, h⟩
/-! 33 OwnSunday$Town.isShort -/
def bt33 (pc : Nat) : BL := if pc = 0 then [(.aload 0, 0, 1), (.getfield 4, 3, 3), (.aload 0, 0, 1), (.getfield 6, 3, 3), (.iload 1, 0, 1), (.iaload, 0, 1), (.iaload, 0, 1), (.iload 2, 0, 1), (.iconst (-1), 0, 1), (.ixor, 0, 1), (.iand, 0, 1), (.invokestatic 161, 1, 3)] else if pc = 18 then [(.aload 0, 0, 1), (.getfield 7, 3, 3), (.iload 1, 0, 1), (.iaload, 0, 1), (.if_icmp .ge 31, 0, 3)] else if pc = 27 then [(.iconst 1, 0, 1), (.goto 32, 0, 3)] else if pc = 31 then [(.iconst 0, 0, 1)] else if pc = 32 then [(.ireturn, 0, 1)] else []
def sp33 (pc : Nat) : Bool := [18].contains pc
theorem BT33 : bt33 0 = [(.aload 0, 0, 1), (.getfield 4, 3, 3), (.aload 0, 0, 1), (.getfield 6, 3, 3), (.iload 1, 0, 1), (.iaload, 0, 1), (.iaload, 0, 1), (.iload 2, 0, 1), (.iconst (-1), 0, 1), (.ixor, 0, 1), (.iand, 0, 1), (.invokestatic 161, 1, 3)] ∧ bt33 18 = [(.aload 0, 0, 1), (.getfield 7, 3, 3), (.iload 1, 0, 1), (.iaload, 0, 1), (.if_icmp .ge 31, 0, 3)] ∧ bt33 27 = [(.iconst 1, 0, 1), (.goto 32, 0, 3)] ∧ bt33 31 = [(.iconst 0, 0, 1)] ∧ bt33 32 = [(.ireturn, 0, 1)] ∧ True := ⟨rfl, rfl, rfl, rfl, rfl, trivial⟩
theorem SP33 : sp33 0 = false ∧ sp33 18 = true ∧ sp33 27 = false ∧ sp33 31 = false ∧ sp33 32 = false ∧ True := ⟨rfl, rfl, rfl, rfl, rfl, trivial⟩
set_option maxRecDepth 100000 in
theorem bk33 : ∀ pc, blk 33 pc (bt33 pc) = true := fun pc => blk_if (by decide +kernel) (blk_if (by decide +kernel) (blk_if (by decide +kernel) (blk_if (by decide +kernel) (blk_if (by decide +kernel) (rfl)))))
theorem go33 {d mc ms : Nat} {sh : List SC} {M : MM} {Post : PP} {a0 : Nat} {a1 : Int} {a2 : Int} (h : ∀ S : Nat → KK, Clo (Run d) 33 none mc ms (Rtn 33 mc ms Post) S → S 0 [some (vR a0), some (vI a1), some (vI a2)] [] (sh, 0, 0) M) : Run (d + 1) 33 [vR a0, vI a1, vI a2] sh M mc ms Post := ⟨Nat.le_of_ble_eq_true rfl, h⟩
theorem rt33 {v : Int} {sh : List SC} {M : MM} {Post : PP} (hv : v = 0 ∨ v = 1) (h : Post (some (Sum.inl v)) sh M) : Rtn 33 0 0 Post (some (Sum.inl v)) (sh, 0, 0) M := ⟨Nat.le_refl _, Nat.le_refl _, hv, h⟩
/-! 34 OwnSunday$Ways.<init> -/
def bt34 (pc : Nat) : BL := if pc = 0 then [(.aload 0, 0, 1), (.invokespecial 1001, 99, 3), (.aload 0, 0, 1), (.iconst 3, 0, 1), (.newarray .int, 0, 2), (.putstatic 1, 4, 3), (.aload 0, 0, 1), (.iconst 3, 0, 1), (.newarray .int, 0, 2), (.putstatic 2, 4, 3), (.aload 0, 0, 1), (.iconst 3, 0, 1), (.newarray .int, 0, 2), (.putstatic 3, 4, 3), (.aload 0, 0, 1), (.iconst 3, 0, 1), (.newarray .int, 0, 2), (.putstatic 4, 4, 3), (.aload 0, 0, 1), (.iconst 3, 0, 1), (.newarray .int, 0, 2), (.putstatic 8, 4, 3), (.aload 0, 0, 1), (.iconst 3, 0, 1), (.newarray .int, 0, 2), (.putstatic 9, 4, 3), (.return_, 0, 1)] else []
def sp34 (pc : Nat) : Bool := [].contains pc
theorem BT34 : bt34 0 = [(.aload 0, 0, 1), (.invokespecial 1001, 99, 3), (.aload 0, 0, 1), (.iconst 3, 0, 1), (.newarray .int, 0, 2), (.putstatic 1, 4, 3), (.aload 0, 0, 1), (.iconst 3, 0, 1), (.newarray .int, 0, 2), (.putstatic 2, 4, 3), (.aload 0, 0, 1), (.iconst 3, 0, 1), (.newarray .int, 0, 2), (.putstatic 3, 4, 3), (.aload 0, 0, 1), (.iconst 3, 0, 1), (.newarray .int, 0, 2), (.putstatic 4, 4, 3), (.aload 0, 0, 1), (.iconst 3, 0, 1), (.newarray .int, 0, 2), (.putstatic 8, 4, 3), (.aload 0, 0, 1), (.iconst 3, 0, 1), (.newarray .int, 0, 2), (.putstatic 9, 4, 3), (.return_, 0, 1)] ∧ True := ⟨rfl, trivial⟩
theorem SP34 : sp34 0 = false ∧ True := ⟨rfl, trivial⟩
set_option maxRecDepth 100000 in
theorem bk34 : ∀ pc, blk 34 pc (bt34 pc) = true := fun pc => blk_if (by decide +kernel) (rfl)
theorem go34 {d mc ms : Nat} {sh : List SC} {M : MM} {Post : PP} {a0 : Nat} (h : ∀ S : Nat → KK, Clo (Run d) 34 none mc ms (Rtn 34 mc ms Post) S → S 0 [some (vR a0)] [] (sh, 0, 0) M) : Run (d + 1) 34 [vR a0] sh M mc ms Post := ⟨Nat.le_of_ble_eq_true rfl, h⟩
theorem rt34 {mc ms : Nat} {Z : ZZ} {M : MM} {Post : PP} (h1 : Z.2.1 ≤ mc) (h2 : Z.2.2 ≤ ms) (h : Post none Z.1 M) : Rtn 34 mc ms Post none Z M := ⟨h1, h2, trivial, h⟩
/-! 35 OwnSunday$Ways.begin -/
def bt35 (pc : Nat) : BL := if pc = 0 then [(.aload 0, 0, 1), (.iconst 0, 0, 1), (.putfield 0, 4, 3), (.aload 0, 0, 1), (.iconst 1, 0, 1), (.putfield 5, 4, 3), (.aload 0, 0, 1), (.iconst 0, 0, 1), (.putfield 6, 4, 3), (.aload 0, 0, 1), (.iconst 0, 0, 1), (.putfield 7, 4, 3), (.iconst 0, 0, 1), (.istore 3, 0, 1)] else if pc = 22 then [(.iload 3, 0, 1), (.aload 1, 0, 1), (.getfield 1, 3, 3), (.if_icmp .ge 145, 0, 3)] else if pc = 30 then [(.aload 0, 0, 1), (.getfield 0, 4, 3), (.iconst 3, 0, 1), (.if_icmp .ge 145, 0, 3)] else if pc = 38 then [(.aload 2, 0, 1), (.iload 3, 0, 1), (.invokevirtual 3, 2, 3)] else if pc = 43 then [(.ifCond .eq 139, 0, 3)] else if pc = 46 then [(.aload 0, 0, 1), (.getfield 1, 4, 3), (.aload 0, 0, 1), (.getfield 0, 4, 3), (.iload 3, 0, 1), (.iastore, 0, 1), (.aload 0, 0, 1), (.getfield 2, 4, 3), (.aload 0, 0, 1), (.getfield 0, 4, 3), (.aload 2, 0, 1), (.getfield 0, 0, 3), (.iload 3, 0, 1), (.iaload, 0, 1), (.iastore, 0, 1), (.aload 0, 0, 1), (.getfield 3, 4, 3), (.aload 0, 0, 1), (.getfield 0, 4, 3), (.aload 1, 0, 1), (.getfield 0, 3, 3), (.aload 2, 0, 1), (.getfield 0, 0, 3), (.iload 3, 0, 1), (.iaload, 0, 1), (.iaload, 0, 1), (.iastore, 0, 1), (.aload 0, 0, 1), (.getfield 4, 4, 3), (.aload 0, 0, 1), (.getfield 0, 4, 3), (.iconst 0, 0, 1), (.iastore, 0, 1), (.aload 0, 0, 1), (.getfield 9, 4, 3), (.aload 0, 0, 1), (.getfield 0, 4, 3), (.iconst 0, 0, 1), (.iastore, 0, 1), (.aload 0, 0, 1), (.dup, 0, 1), (.getfield 5, 4, 3), (.aload 0, 0, 1), (.getfield 3, 4, 3), (.aload 0, 0, 1), (.getfield 0, 4, 3), (.iaload, 0, 1), (.imul, 0, 1), (.putfield 5, 4, 3), (.aload 0, 0, 1), (.dup, 0, 1), (.getfield 0, 4, 3), (.iconst 1, 0, 1), (.iadd, 0, 1), (.putfield 0, 4, 3)] else if pc = 139 then [(.iinc 3 1, 0, 3), (.goto 22, 0, 3)] else if pc = 145 then [(.return_, 0, 1)] else []
def sp35 (pc : Nat) : Bool := [22, 43].contains pc
theorem BT35 : bt35 0 = [(.aload 0, 0, 1), (.iconst 0, 0, 1), (.putfield 0, 4, 3), (.aload 0, 0, 1), (.iconst 1, 0, 1), (.putfield 5, 4, 3), (.aload 0, 0, 1), (.iconst 0, 0, 1), (.putfield 6, 4, 3), (.aload 0, 0, 1), (.iconst 0, 0, 1), (.putfield 7, 4, 3), (.iconst 0, 0, 1), (.istore 3, 0, 1)] ∧ bt35 22 = [(.iload 3, 0, 1), (.aload 1, 0, 1), (.getfield 1, 3, 3), (.if_icmp .ge 145, 0, 3)] ∧ bt35 30 = [(.aload 0, 0, 1), (.getfield 0, 4, 3), (.iconst 3, 0, 1), (.if_icmp .ge 145, 0, 3)] ∧ bt35 38 = [(.aload 2, 0, 1), (.iload 3, 0, 1), (.invokevirtual 3, 2, 3)] ∧ bt35 43 = [(.ifCond .eq 139, 0, 3)] ∧ bt35 46 = [(.aload 0, 0, 1), (.getfield 1, 4, 3), (.aload 0, 0, 1), (.getfield 0, 4, 3), (.iload 3, 0, 1), (.iastore, 0, 1), (.aload 0, 0, 1), (.getfield 2, 4, 3), (.aload 0, 0, 1), (.getfield 0, 4, 3), (.aload 2, 0, 1), (.getfield 0, 0, 3), (.iload 3, 0, 1), (.iaload, 0, 1), (.iastore, 0, 1), (.aload 0, 0, 1), (.getfield 3, 4, 3), (.aload 0, 0, 1), (.getfield 0, 4, 3), (.aload 1, 0, 1), (.getfield 0, 3, 3), (.aload 2, 0, 1), (.getfield 0, 0, 3), (.iload 3, 0, 1), (.iaload, 0, 1), (.iaload, 0, 1), (.iastore, 0, 1), (.aload 0, 0, 1), (.getfield 4, 4, 3), (.aload 0, 0, 1), (.getfield 0, 4, 3), (.iconst 0, 0, 1), (.iastore, 0, 1), (.aload 0, 0, 1), (.getfield 9, 4, 3), (.aload 0, 0, 1), (.getfield 0, 4, 3), (.iconst 0, 0, 1), (.iastore, 0, 1), (.aload 0, 0, 1), (.dup, 0, 1), (.getfield 5, 4, 3), (.aload 0, 0, 1), (.getfield 3, 4, 3), (.aload 0, 0, 1), (.getfield 0, 4, 3), (.iaload, 0, 1), (.imul, 0, 1), (.putfield 5, 4, 3), (.aload 0, 0, 1), (.dup, 0, 1), (.getfield 0, 4, 3), (.iconst 1, 0, 1), (.iadd, 0, 1), (.putfield 0, 4, 3)] ∧ bt35 139 = [(.iinc 3 1, 0, 3), (.goto 22, 0, 3)] ∧ bt35 145 = [(.return_, 0, 1)] ∧ True := ⟨rfl, rfl, rfl, rfl, rfl, rfl, rfl, rfl, trivial⟩
theorem SP35 : sp35 0 = false ∧ sp35 22 = true ∧ sp35 30 = false ∧ sp35 38 = false ∧ sp35 43 = true ∧ sp35 46 = false ∧ sp35 139 = false ∧ sp35 145 = false ∧ True := ⟨rfl, rfl, rfl, rfl, rfl, rfl, rfl, rfl, trivial⟩
set_option maxRecDepth 100000 in
theorem bk35 : ∀ pc, blk 35 pc (bt35 pc) = true := fun pc => blk_if (by decide +kernel) (blk_if (by decide +kernel) (blk_if (by decide +kernel) (blk_if (by decide +kernel) (blk_if (by decide +kernel) (blk_if (by decide +kernel) (blk_if (by decide +kernel) (blk_if (by decide +kernel) (rfl))))))))
theorem go35 {d mc ms : Nat} {sh : List SC} {M : MM} {Post : PP} {a0 : Nat} {a1 : Nat} {a2 : Nat} (h : ∀ S : Nat → KK, Clo (Run d) 35 none mc ms (Rtn 35 mc ms Post) S → S 0 [some (vR a0), some (vR a1), some (vR a2), none] [] (sh, 0, 0) M) : Run (d + 1) 35 [vR a0, vR a1, vR a2] sh M mc ms Post := ⟨Nat.le_of_ble_eq_true rfl, h⟩
theorem rt35 {mc ms : Nat} {Z : ZZ} {M : MM} {Post : PP} (h1 : Z.2.1 ≤ mc) (h2 : Z.2.2 ≤ ms) (h : Post none Z.1 M) : Rtn 35 mc ms Post none Z M := ⟨h1, h2, trivial, h⟩
/-! 36 OwnSunday$Ways.advance -/
def bt36 (pc : Nat) : BL := if pc = 0 then [(.aload 0, 0, 1), (.getfield 0, 4, 3), (.iconst 1, 0, 1), (.isub, 0, 1), (.istore 1, 0, 1)] else if pc = 7 then [(.iload 1, 0, 1), (.ifCond .lt 50, 0, 3)] else if pc = 11 then [(.aload 0, 0, 1), (.getfield 4, 4, 3), (.iload 1, 0, 1), (.dup2, 0, 1), (.iaload, 0, 1), (.iconst 1, 0, 1), (.iadd, 0, 1), (.iastore, 0, 1), (.aload 0, 0, 1), (.getfield 4, 4, 3), (.iload 1, 0, 1), (.iaload, 0, 1), (.aload 0, 0, 1), (.getfield 3, 4, 3), (.iload 1, 0, 1), (.iaload, 0, 1), (.if_icmp .ge 37, 0, 3)] else if pc = 36 then [(.return_, 0, 1)] else if pc = 37 then [(.aload 0, 0, 1), (.getfield 4, 4, 3), (.iload 1, 0, 1), (.iconst 0, 0, 1), (.iastore, 0, 1), (.iinc 1 (-1), 0, 3), (.goto 7, 0, 3)] else if pc = 50 then [(.return_, 0, 1)] else []
def sp36 (pc : Nat) : Bool := [7].contains pc
theorem BT36 : bt36 0 = [(.aload 0, 0, 1), (.getfield 0, 4, 3), (.iconst 1, 0, 1), (.isub, 0, 1), (.istore 1, 0, 1)] ∧ bt36 7 = [(.iload 1, 0, 1), (.ifCond .lt 50, 0, 3)] ∧ bt36 11 = [(.aload 0, 0, 1), (.getfield 4, 4, 3), (.iload 1, 0, 1), (.dup2, 0, 1), (.iaload, 0, 1), (.iconst 1, 0, 1), (.iadd, 0, 1), (.iastore, 0, 1), (.aload 0, 0, 1), (.getfield 4, 4, 3), (.iload 1, 0, 1), (.iaload, 0, 1), (.aload 0, 0, 1), (.getfield 3, 4, 3), (.iload 1, 0, 1), (.iaload, 0, 1), (.if_icmp .ge 37, 0, 3)] ∧ bt36 36 = [(.return_, 0, 1)] ∧ bt36 37 = [(.aload 0, 0, 1), (.getfield 4, 4, 3), (.iload 1, 0, 1), (.iconst 0, 0, 1), (.iastore, 0, 1), (.iinc 1 (-1), 0, 3), (.goto 7, 0, 3)] ∧ bt36 50 = [(.return_, 0, 1)] ∧ True := ⟨rfl, rfl, rfl, rfl, rfl, rfl, trivial⟩
theorem SP36 : sp36 0 = false ∧ sp36 7 = true ∧ sp36 11 = false ∧ sp36 36 = false ∧ sp36 37 = false ∧ sp36 50 = false ∧ True := ⟨rfl, rfl, rfl, rfl, rfl, rfl, trivial⟩
set_option maxRecDepth 100000 in
theorem bk36 : ∀ pc, blk 36 pc (bt36 pc) = true := fun pc => blk_if (by decide +kernel) (blk_if (by decide +kernel) (blk_if (by decide +kernel) (blk_if (by decide +kernel) (blk_if (by decide +kernel) (blk_if (by decide +kernel) (rfl))))))
theorem go36 {d mc ms : Nat} {sh : List SC} {M : MM} {Post : PP} {a0 : Nat} (h : ∀ S : Nat → KK, Clo (Run d) 36 none mc ms (Rtn 36 mc ms Post) S → S 0 [some (vR a0), none] [] (sh, 0, 0) M) : Run (d + 1) 36 [vR a0] sh M mc ms Post := ⟨Nat.le_of_ble_eq_true rfl, h⟩
theorem rt36 {mc ms : Nat} {Z : ZZ} {M : MM} {Post : PP} (h1 : Z.2.1 ≤ mc) (h2 : Z.2.2 ≤ ms) (h : Post none Z.1 M) : Rtn 36 mc ms Post none Z M := ⟨h1, h2, trivial, h⟩
/-! 37 OwnSunday$Ways.putInto -/
def bt37 (pc : Nat) : BL := if pc = 0 then [(.iconst 0, 0, 1), (.istore 2, 0, 1)] else if pc = 2 then [(.iload 2, 0, 1), (.aload 0, 0, 1), (.getfield 0, 4, 3), (.if_icmp .ge 38, 0, 3)] else if pc = 10 then [(.aload 1, 0, 1), (.aload 0, 0, 1), (.getfield 1, 4, 3), (.iload 2, 0, 1), (.iaload, 0, 1), (.aload 0, 0, 1), (.getfield 2, 4, 3), (.iload 2, 0, 1), (.iaload, 0, 1), (.aload 0, 0, 1), (.getfield 4, 4, 3), (.iload 2, 0, 1), (.iaload, 0, 1), (.invokevirtual 22, 4, 3)] else if pc = 32 then [(.iinc 2 1, 0, 3), (.goto 2, 0, 3)] else if pc = 38 then [(.return_, 0, 1)] else []
def sp37 (pc : Nat) : Bool := [2, 32].contains pc
theorem BT37 : bt37 0 = [(.iconst 0, 0, 1), (.istore 2, 0, 1)] ∧ bt37 2 = [(.iload 2, 0, 1), (.aload 0, 0, 1), (.getfield 0, 4, 3), (.if_icmp .ge 38, 0, 3)] ∧ bt37 10 = [(.aload 1, 0, 1), (.aload 0, 0, 1), (.getfield 1, 4, 3), (.iload 2, 0, 1), (.iaload, 0, 1), (.aload 0, 0, 1), (.getfield 2, 4, 3), (.iload 2, 0, 1), (.iaload, 0, 1), (.aload 0, 0, 1), (.getfield 4, 4, 3), (.iload 2, 0, 1), (.iaload, 0, 1), (.invokevirtual 22, 4, 3)] ∧ bt37 32 = [(.iinc 2 1, 0, 3), (.goto 2, 0, 3)] ∧ bt37 38 = [(.return_, 0, 1)] ∧ True := ⟨rfl, rfl, rfl, rfl, rfl, trivial⟩
theorem SP37 : sp37 0 = false ∧ sp37 2 = true ∧ sp37 10 = false ∧ sp37 32 = true ∧ sp37 38 = false ∧ True := ⟨rfl, rfl, rfl, rfl, rfl, trivial⟩
set_option maxRecDepth 100000 in
theorem bk37 : ∀ pc, blk 37 pc (bt37 pc) = true := fun pc => blk_if (by decide +kernel) (blk_if (by decide +kernel) (blk_if (by decide +kernel) (blk_if (by decide +kernel) (blk_if (by decide +kernel) (rfl)))))
theorem go37 {d mc ms : Nat} {sh : List SC} {M : MM} {Post : PP} {a0 : Nat} {a1 : Nat} (h : ∀ S : Nat → KK, Clo (Run d) 37 none mc ms (Rtn 37 mc ms Post) S → S 0 [some (vR a0), some (vR a1), none] [] (sh, 0, 0) M) : Run (d + 1) 37 [vR a0, vR a1] sh M mc ms Post := ⟨Nat.le_of_ble_eq_true rfl, h⟩
theorem rt37 {mc ms : Nat} {Z : ZZ} {M : MM} {Post : PP} (h1 : Z.2.1 ≤ mc) (h2 : Z.2.2 ≤ ms) (h : Post none Z.1 M) : Rtn 37 mc ms Post none Z M := ⟨h1, h2, trivial, h⟩
/-! 38 OwnSunday$Ways.liftFrom -/
def bt38 (pc : Nat) : BL := if pc = 0 then [(.iconst 0, 0, 1), (.istore 2, 0, 1)] else if pc = 2 then [(.iload 2, 0, 1), (.aload 0, 0, 1), (.getfield 0, 4, 3), (.if_icmp .ge 38, 0, 3)] else if pc = 10 then [(.aload 1, 0, 1), (.aload 0, 0, 1), (.getfield 1, 4, 3), (.iload 2, 0, 1), (.iaload, 0, 1), (.aload 0, 0, 1), (.getfield 2, 4, 3), (.iload 2, 0, 1), (.iaload, 0, 1), (.aload 0, 0, 1), (.getfield 4, 4, 3), (.iload 2, 0, 1), (.iaload, 0, 1), (.invokevirtual 23, 4, 3)] else if pc = 32 then [(.iinc 2 1, 0, 3), (.goto 2, 0, 3)] else if pc = 38 then [(.return_, 0, 1)] else []
def sp38 (pc : Nat) : Bool := [2, 32].contains pc
theorem BT38 : bt38 0 = [(.iconst 0, 0, 1), (.istore 2, 0, 1)] ∧ bt38 2 = [(.iload 2, 0, 1), (.aload 0, 0, 1), (.getfield 0, 4, 3), (.if_icmp .ge 38, 0, 3)] ∧ bt38 10 = [(.aload 1, 0, 1), (.aload 0, 0, 1), (.getfield 1, 4, 3), (.iload 2, 0, 1), (.iaload, 0, 1), (.aload 0, 0, 1), (.getfield 2, 4, 3), (.iload 2, 0, 1), (.iaload, 0, 1), (.aload 0, 0, 1), (.getfield 4, 4, 3), (.iload 2, 0, 1), (.iaload, 0, 1), (.invokevirtual 23, 4, 3)] ∧ bt38 32 = [(.iinc 2 1, 0, 3), (.goto 2, 0, 3)] ∧ bt38 38 = [(.return_, 0, 1)] ∧ True := ⟨rfl, rfl, rfl, rfl, rfl, trivial⟩
theorem SP38 : sp38 0 = false ∧ sp38 2 = true ∧ sp38 10 = false ∧ sp38 32 = true ∧ sp38 38 = false ∧ True := ⟨rfl, rfl, rfl, rfl, rfl, trivial⟩
set_option maxRecDepth 100000 in
theorem bk38 : ∀ pc, blk 38 pc (bt38 pc) = true := fun pc => blk_if (by decide +kernel) (blk_if (by decide +kernel) (blk_if (by decide +kernel) (blk_if (by decide +kernel) (blk_if (by decide +kernel) (rfl)))))
theorem go38 {d mc ms : Nat} {sh : List SC} {M : MM} {Post : PP} {a0 : Nat} {a1 : Nat} (h : ∀ S : Nat → KK, Clo (Run d) 38 none mc ms (Rtn 38 mc ms Post) S → S 0 [some (vR a0), some (vR a1), none] [] (sh, 0, 0) M) : Run (d + 1) 38 [vR a0, vR a1] sh M mc ms Post := ⟨Nat.le_of_ble_eq_true rfl, h⟩
theorem rt38 {mc ms : Nat} {Z : ZZ} {M : MM} {Post : PP} (h1 : Z.2.1 ≤ mc) (h2 : Z.2.2 ≤ ms) (h : Post none Z.1 M) : Rtn 38 mc ms Post none Z M := ⟨h1, h2, trivial, h⟩
/-! 39 OwnSunday$Ways.find -/
def bt39 (pc : Nat) : BL := if pc = 0 then [(.aload 0, 0, 1), (.getfield 6, 4, 3), (.ifCond .eq 15, 0, 3)] else if pc = 7 then [(.iload 1, 0, 1), (.aload 0, 0, 1), (.getfield 7, 4, 3), (.if_icmp .ge 34, 0, 3)] else if pc = 15 then [(.aload 0, 0, 1), (.iload 1, 0, 1), (.putfield 7, 4, 3), (.aload 0, 0, 1), (.getfield 4, 4, 3), (.iconst 0, 0, 1), (.aload 0, 0, 1), (.getfield 8, 4, 3), (.iconst 0, 0, 1), (.iconst 3, 0, 1), (.invokestatic 1000, 99, 3)] else if pc = 34 then [(.aload 0, 0, 1), (.dup, 0, 1), (.getfield 6, 4, 3), (.iconst 1, 0, 1), (.iadd, 0, 1), (.putfield 6, 4, 3), (.iconst 0, 0, 1), (.istore 2, 0, 1)] else if pc = 46 then [(.iload 2, 0, 1), (.aload 0, 0, 1), (.getfield 0, 4, 3), (.if_icmp .ge 77, 0, 3)] else if pc = 54 then [(.aload 0, 0, 1), (.getfield 9, 4, 3), (.iload 2, 0, 1), (.dup2, 0, 1), (.iaload, 0, 1), (.iconst 1, 0, 1), (.aload 0, 0, 1), (.getfield 4, 4, 3), (.iload 2, 0, 1), (.iaload, 0, 1), (.ishl, 0, 1), (.ior, 0, 1), (.iastore, 0, 1), (.iinc 2 1, 0, 3), (.goto 46, 0, 3)] else if pc = 77 then [(.return_, 0, 1)] else []
def sp39 (pc : Nat) : Bool := [46].contains pc
theorem BT39 : bt39 0 = [(.aload 0, 0, 1), (.getfield 6, 4, 3), (.ifCond .eq 15, 0, 3)] ∧ bt39 7 = [(.iload 1, 0, 1), (.aload 0, 0, 1), (.getfield 7, 4, 3), (.if_icmp .ge 34, 0, 3)] ∧ bt39 15 = [(.aload 0, 0, 1), (.iload 1, 0, 1), (.putfield 7, 4, 3), (.aload 0, 0, 1), (.getfield 4, 4, 3), (.iconst 0, 0, 1), (.aload 0, 0, 1), (.getfield 8, 4, 3), (.iconst 0, 0, 1), (.iconst 3, 0, 1), (.invokestatic 1000, 99, 3)] ∧ bt39 34 = [(.aload 0, 0, 1), (.dup, 0, 1), (.getfield 6, 4, 3), (.iconst 1, 0, 1), (.iadd, 0, 1), (.putfield 6, 4, 3), (.iconst 0, 0, 1), (.istore 2, 0, 1)] ∧ bt39 46 = [(.iload 2, 0, 1), (.aload 0, 0, 1), (.getfield 0, 4, 3), (.if_icmp .ge 77, 0, 3)] ∧ bt39 54 = [(.aload 0, 0, 1), (.getfield 9, 4, 3), (.iload 2, 0, 1), (.dup2, 0, 1), (.iaload, 0, 1), (.iconst 1, 0, 1), (.aload 0, 0, 1), (.getfield 4, 4, 3), (.iload 2, 0, 1), (.iaload, 0, 1), (.ishl, 0, 1), (.ior, 0, 1), (.iastore, 0, 1), (.iinc 2 1, 0, 3), (.goto 46, 0, 3)] ∧ bt39 77 = [(.return_, 0, 1)] ∧ True := ⟨rfl, rfl, rfl, rfl, rfl, rfl, rfl, trivial⟩
theorem SP39 : sp39 0 = false ∧ sp39 7 = false ∧ sp39 15 = false ∧ sp39 34 = false ∧ sp39 46 = true ∧ sp39 54 = false ∧ sp39 77 = false ∧ True := ⟨rfl, rfl, rfl, rfl, rfl, rfl, rfl, trivial⟩
set_option maxRecDepth 100000 in
theorem bk39 : ∀ pc, blk 39 pc (bt39 pc) = true := fun pc => blk_if (by decide +kernel) (blk_if (by decide +kernel) (blk_if (by decide +kernel) (blk_if (by decide +kernel) (blk_if (by decide +kernel) (blk_if (by decide +kernel) (blk_if (by decide +kernel) (rfl)))))))
theorem go39 {d mc ms : Nat} {sh : List SC} {M : MM} {Post : PP} {a0 : Nat} {a1 : Int} (h : ∀ S : Nat → KK, Clo (Run d) 39 none mc ms (Rtn 39 mc ms Post) S → S 0 [some (vR a0), some (vI a1), none] [] (sh, 0, 0) M) : Run (d + 1) 39 [vR a0, vI a1] sh M mc ms Post := ⟨Nat.le_of_ble_eq_true rfl, h⟩
theorem rt39 {mc ms : Nat} {Z : ZZ} {M : MM} {Post : PP} (h1 : Z.2.1 ≤ mc) (h2 : Z.2.2 ≤ ms) (h : Post none Z.1 M) : Rtn 39 mc ms Post none Z M := ⟨h1, h2, trivial, h⟩
/-! 40 OwnSunday$Ways.chosenRest -/
def bt40 (pc : Nat) : BL := if pc = 0 then [(.aload 0, 0, 1), (.aload 0, 0, 1), (.getfield 8, 4, 3), (.iload 1, 0, 1), (.invokevirtual 42, 3, 3)] else if pc = 9 then [(.ireturn, 0, 1)] else []
def sp40 (pc : Nat) : Bool := [9].contains pc
theorem BT40 : bt40 0 = [(.aload 0, 0, 1), (.aload 0, 0, 1), (.getfield 8, 4, 3), (.iload 1, 0, 1), (.invokevirtual 42, 3, 3)] ∧ bt40 9 = [(.ireturn, 0, 1)] ∧ True := ⟨rfl, rfl, trivial⟩
theorem SP40 : sp40 0 = false ∧ sp40 9 = true ∧ True := ⟨rfl, rfl, trivial⟩
set_option maxRecDepth 100000 in
theorem bk40 : ∀ pc, blk 40 pc (bt40 pc) = true := fun pc => blk_if (by decide +kernel) (blk_if (by decide +kernel) (rfl))
theorem go40 {d mc ms : Nat} {sh : List SC} {M : MM} {Post : PP} {a0 : Nat} {a1 : Int} (h : ∀ S : Nat → KK, Clo (Run d) 40 none mc ms (Rtn 40 mc ms Post) S → S 0 [some (vR a0), some (vI a1)] [] (sh, 0, 0) M) : Run (d + 1) 40 [vR a0, vI a1] sh M mc ms Post := ⟨Nat.le_of_ble_eq_true rfl, h⟩
theorem rt40 {v : Int} {sh : List SC} {M : MM} {Post : PP} (h : Post (some (Sum.inl v)) sh M) : Rtn 40 0 0 Post (some (Sum.inl v)) (sh, 0, 0) M := ⟨Nat.le_refl _, Nat.le_refl _, trivial, h⟩
/-! 41 OwnSunday$Ways.restsOfSome -/
def bt41 (pc : Nat) : BL := if pc = 0 then [(.aload 0, 0, 1), (.aload 0, 0, 1), (.getfield 9, 4, 3), (.iload 1, 0, 1), (.invokevirtual 42, 3, 3)] else if pc = 9 then [(.ireturn, 0, 1)] else []
def sp41 (pc : Nat) : Bool := [9].contains pc
theorem BT41 : bt41 0 = [(.aload 0, 0, 1), (.aload 0, 0, 1), (.getfield 9, 4, 3), (.iload 1, 0, 1), (.invokevirtual 42, 3, 3)] ∧ bt41 9 = [(.ireturn, 0, 1)] ∧ True := ⟨rfl, rfl, trivial⟩
theorem SP41 : sp41 0 = false ∧ sp41 9 = true ∧ True := ⟨rfl, rfl, trivial⟩
set_option maxRecDepth 100000 in
theorem bk41 : ∀ pc, blk 41 pc (bt41 pc) = true := fun pc => blk_if (by decide +kernel) (blk_if (by decide +kernel) (rfl))
theorem go41 {d mc ms : Nat} {sh : List SC} {M : MM} {Post : PP} {a0 : Nat} {a1 : Int} (h : ∀ S : Nat → KK, Clo (Run d) 41 none mc ms (Rtn 41 mc ms Post) S → S 0 [some (vR a0), some (vI a1)] [] (sh, 0, 0) M) : Run (d + 1) 41 [vR a0, vI a1] sh M mc ms Post := ⟨Nat.le_of_ble_eq_true rfl, h⟩
theorem rt41 {v : Int} {sh : List SC} {M : MM} {Post : PP} (h : Post (some (Sum.inl v)) sh M) : Rtn 41 0 0 Post (some (Sum.inl v)) (sh, 0, 0) M := ⟨Nat.le_refl _, Nat.le_refl _, trivial, h⟩
/-! 42 OwnSunday$Ways.ofHouse -/
def bt42 (pc : Nat) : BL := if pc = 0 then [(.iconst 0, 0, 1), (.istore 3, 0, 1)] else if pc = 2 then [(.iload 3, 0, 1), (.aload 0, 0, 1), (.getfield 0, 4, 3), (.if_icmp .ge 30, 0, 3)] else if pc = 10 then [(.aload 0, 0, 1), (.getfield 1, 4, 3), (.iload 3, 0, 1), (.iaload, 0, 1), (.iload 2, 0, 1), (.if_icmp .ne 24, 0, 3)] else if pc = 20 then [(.aload 1, 0, 1), (.iload 3, 0, 1), (.iaload, 0, 1), (.ireturn, 0, 1)] else if pc = 24 then [(.iinc 3 1, 0, 3), (.goto 2, 0, 3)] else if pc = 30 then [(.iconst (-4), 0, 2), (.ireturn, 0, 1)] else []
def sp42 (pc : Nat) : Bool := [2].contains pc
theorem BT42 : bt42 0 = [(.iconst 0, 0, 1), (.istore 3, 0, 1)] ∧ bt42 2 = [(.iload 3, 0, 1), (.aload 0, 0, 1), (.getfield 0, 4, 3), (.if_icmp .ge 30, 0, 3)] ∧ bt42 10 = [(.aload 0, 0, 1), (.getfield 1, 4, 3), (.iload 3, 0, 1), (.iaload, 0, 1), (.iload 2, 0, 1), (.if_icmp .ne 24, 0, 3)] ∧ bt42 20 = [(.aload 1, 0, 1), (.iload 3, 0, 1), (.iaload, 0, 1), (.ireturn, 0, 1)] ∧ bt42 24 = [(.iinc 3 1, 0, 3), (.goto 2, 0, 3)] ∧ bt42 30 = [(.iconst (-4), 0, 2), (.ireturn, 0, 1)] ∧ True := ⟨rfl, rfl, rfl, rfl, rfl, rfl, trivial⟩
theorem SP42 : sp42 0 = false ∧ sp42 2 = true ∧ sp42 10 = false ∧ sp42 20 = false ∧ sp42 24 = false ∧ sp42 30 = false ∧ True := ⟨rfl, rfl, rfl, rfl, rfl, rfl, trivial⟩
set_option maxRecDepth 100000 in
theorem bk42 : ∀ pc, blk 42 pc (bt42 pc) = true := fun pc => blk_if (by decide +kernel) (blk_if (by decide +kernel) (blk_if (by decide +kernel) (blk_if (by decide +kernel) (blk_if (by decide +kernel) (blk_if (by decide +kernel) (rfl))))))
theorem go42 {d mc ms : Nat} {sh : List SC} {M : MM} {Post : PP} {a0 : Nat} {a1 : Nat} {a2 : Int} (h : ∀ S : Nat → KK, Clo (Run d) 42 none mc ms (Rtn 42 mc ms Post) S → S 0 [some (vR a0), some (vR a1), some (vI a2), none] [] (sh, 0, 0) M) : Run (d + 1) 42 [vR a0, vR a1, vI a2] sh M mc ms Post := ⟨Nat.le_of_ble_eq_true rfl, h⟩
theorem rt42 {v : Int} {sh : List SC} {M : MM} {Post : PP} (h : Post (some (Sum.inl v)) sh M) : Rtn 42 0 0 Post (some (Sum.inl v)) (sh, 0, 0) M := ⟨Nat.le_refl _, Nat.le_refl _, trivial, h⟩
end
section
/-! 43 OwnSunday.<init> -/
def bt43 (pc : Nat) : BL := if pc = 0 then [(.aload 0, 0, 1), (.invokespecial 1001, 99, 3), (.aload 0, 0, 1), (.iconst 400, 0, 3), (.newarray .byte, 0, 2), (.putstatic 0, 5, 3), (.aload 0, 0, 1), (.new 1, 0, 3), (.dup, 0, 1), (.invokespecial 7, 1, 3)] else if pc = 21 then [(.putstatic 2, 5, 3), (.aload 0, 0, 1), (.new 3, 0, 3), (.dup, 0, 1), (.invokespecial 27, 1, 3)] else if pc = 32 then [(.putstatic 3, 5, 3), (.aload 0, 0, 1), (.new 0, 0, 3), (.dup, 0, 1), (.invokespecial 0, 1, 3)] else if pc = 43 then [(.putstatic 4, 5, 3), (.aload 0, 0, 1), (.new 3, 0, 3), (.dup, 0, 1), (.invokespecial 27, 1, 3)] else if pc = 54 then [(.putstatic 5, 5, 3), (.aload 0, 0, 1), (.new 0, 0, 3), (.dup, 0, 1), (.invokespecial 0, 1, 3)] else if pc = 65 then [(.putstatic 6, 5, 3), (.aload 0, 0, 1), (.iconst 2, 0, 1), (.anewarray 0, 0, 3), (.putstatic 7, 5, 3), (.aload 0, 0, 1), (.new 2, 0, 3), (.dup, 0, 1), (.invokespecial 20, 1, 3)] else if pc = 84 then [(.putstatic 9, 5, 3), (.aload 0, 0, 1), (.new 4, 0, 3), (.dup, 0, 1), (.invokespecial 34, 1, 3)] else if pc = 95 then [(.putstatic 10, 5, 3), (.aload 0, 0, 1), (.iconst 5, 0, 1), (.newarray .int, 0, 2), (.putstatic 11, 5, 3), (.iconst 0, 0, 1), (.istore 1, 0, 1)] else if pc = 107 then [(.iload 1, 0, 1), (.iconst 2, 0, 1), (.if_icmp .ge 131, 0, 3)] else if pc = 112 then [(.aload 0, 0, 1), (.getfield 7, 5, 3), (.iload 1, 0, 1), (.new 0, 0, 3), (.dup, 0, 1), (.invokespecial 0, 1, 3)] else if pc = 124 then [(.aastore, 0, 1), (.iinc 1 1, 0, 3), (.goto 107, 0, 3)] else if pc = 131 then [(.aload 0, 0, 1), (.getfield 5, 5, 3), (.invokevirtual 28, 1, 3)] else if pc = 138 then [(.aload 0, 0, 1), (.getfield 6, 5, 3), (.invokevirtual 1, 1, 3)] else if pc = 145 then [(.aload 0, 0, 1), (.getfield 6, 5, 3), (.aload 0, 0, 1), (.getfield 5, 5, 3), (.getfield 1, 3, 3), (.iconst 0, 0, 1), (.iconst 6, 0, 2), (.invokevirtual 2, 4, 3)] else if pc = 162 then [(.aload 0, 0, 1), (.getfield 5, 5, 3), (.iconst 1, 0, 1), (.iconst 0, 0, 1), (.invokevirtual 29, 3, 3)] else if pc = 171 then [(.return_, 0, 1)] else []
def sp43 (pc : Nat) : Bool := [21, 32, 43, 54, 65, 84, 95, 107, 124, 138, 145, 162, 171].contains pc
theorem BT43 : bt43 0 = [(.aload 0, 0, 1), (.invokespecial 1001, 99, 3), (.aload 0, 0, 1), (.iconst 400, 0, 3), (.newarray .byte, 0, 2), (.putstatic 0, 5, 3), (.aload 0, 0, 1), (.new 1, 0, 3), (.dup, 0, 1), (.invokespecial 7, 1, 3)] ∧ bt43 21 = [(.putstatic 2, 5, 3), (.aload 0, 0, 1), (.new 3, 0, 3), (.dup, 0, 1), (.invokespecial 27, 1, 3)] ∧ bt43 32 = [(.putstatic 3, 5, 3), (.aload 0, 0, 1), (.new 0, 0, 3), (.dup, 0, 1), (.invokespecial 0, 1, 3)] ∧ bt43 43 = [(.putstatic 4, 5, 3), (.aload 0, 0, 1), (.new 3, 0, 3), (.dup, 0, 1), (.invokespecial 27, 1, 3)] ∧ bt43 54 = [(.putstatic 5, 5, 3), (.aload 0, 0, 1), (.new 0, 0, 3), (.dup, 0, 1), (.invokespecial 0, 1, 3)] ∧ bt43 65 = [(.putstatic 6, 5, 3), (.aload 0, 0, 1), (.iconst 2, 0, 1), (.anewarray 0, 0, 3), (.putstatic 7, 5, 3), (.aload 0, 0, 1), (.new 2, 0, 3), (.dup, 0, 1), (.invokespecial 20, 1, 3)] ∧ bt43 84 = [(.putstatic 9, 5, 3), (.aload 0, 0, 1), (.new 4, 0, 3), (.dup, 0, 1), (.invokespecial 34, 1, 3)] ∧ bt43 95 = [(.putstatic 10, 5, 3), (.aload 0, 0, 1), (.iconst 5, 0, 1), (.newarray .int, 0, 2), (.putstatic 11, 5, 3), (.iconst 0, 0, 1), (.istore 1, 0, 1)] ∧ bt43 107 = [(.iload 1, 0, 1), (.iconst 2, 0, 1), (.if_icmp .ge 131, 0, 3)] ∧ bt43 112 = [(.aload 0, 0, 1), (.getfield 7, 5, 3), (.iload 1, 0, 1), (.new 0, 0, 3), (.dup, 0, 1), (.invokespecial 0, 1, 3)] ∧ bt43 124 = [(.aastore, 0, 1), (.iinc 1 1, 0, 3), (.goto 107, 0, 3)] ∧ bt43 131 = [(.aload 0, 0, 1), (.getfield 5, 5, 3), (.invokevirtual 28, 1, 3)] ∧ bt43 138 = [(.aload 0, 0, 1), (.getfield 6, 5, 3), (.invokevirtual 1, 1, 3)] ∧ bt43 145 = [(.aload 0, 0, 1), (.getfield 6, 5, 3), (.aload 0, 0, 1), (.getfield 5, 5, 3), (.getfield 1, 3, 3), (.iconst 0, 0, 1), (.iconst 6, 0, 2), (.invokevirtual 2, 4, 3)] ∧ bt43 162 = [(.aload 0, 0, 1), (.getfield 5, 5, 3), (.iconst 1, 0, 1), (.iconst 0, 0, 1), (.invokevirtual 29, 3, 3)] ∧ bt43 171 = [(.return_, 0, 1)] ∧ True := ⟨rfl, rfl, rfl, rfl, rfl, rfl, rfl, rfl, rfl, rfl, rfl, rfl, rfl, rfl, rfl, rfl, trivial⟩
theorem SP43 : sp43 0 = false ∧ sp43 21 = true ∧ sp43 32 = true ∧ sp43 43 = true ∧ sp43 54 = true ∧ sp43 65 = true ∧ sp43 84 = true ∧ sp43 95 = true ∧ sp43 107 = true ∧ sp43 112 = false ∧ sp43 124 = true ∧ sp43 131 = false ∧ sp43 138 = true ∧ sp43 145 = true ∧ sp43 162 = true ∧ sp43 171 = true ∧ True := ⟨rfl, rfl, rfl, rfl, rfl, rfl, rfl, rfl, rfl, rfl, rfl, rfl, rfl, rfl, rfl, rfl, trivial⟩
set_option maxRecDepth 100000 in
theorem bk43 : ∀ pc, blk 43 pc (bt43 pc) = true := fun pc => blk_if (by decide +kernel) (blk_if (by decide +kernel) (blk_if (by decide +kernel) (blk_if (by decide +kernel) (blk_if (by decide +kernel) (blk_if (by decide +kernel) (blk_if (by decide +kernel) (blk_if (by decide +kernel) (blk_if (by decide +kernel) (blk_if (by decide +kernel) (blk_if (by decide +kernel) (blk_if (by decide +kernel) (blk_if (by decide +kernel) (blk_if (by decide +kernel) (blk_if (by decide +kernel) (blk_if (by decide +kernel) (rfl))))))))))))))))
theorem go43 {d mc ms : Nat} {sh : List SC} {M : MM} {Post : PP} {a0 : Nat} (h : ∀ S : Nat → KK, Clo (Run d) 43 none mc ms (Rtn 43 mc ms Post) S → S 0 [some (vR a0), none] [] (sh, 0, 0) M) : Run (d + 1) 43 [vR a0] sh M mc ms Post := ⟨Nat.le_of_ble_eq_true rfl, h⟩
theorem rt43 {mc ms : Nat} {Z : ZZ} {M : MM} {Post : PP} (h1 : Z.2.1 ≤ mc) (h2 : Z.2.2 ≤ ms) (h : Post none Z.1 M) : Rtn 43 mc ms Post none Z M := ⟨h1, h2, trivial, h⟩
/-! 44 OwnSunday.write -/
def bt44 (pc : Nat) : BL := if pc = 0 then [(.iload 1, 0, 1), (.iconst 1, 0, 1), (.if_icmp .lt 11, 0, 3)] else if pc = 5 then [(.iload 1, 0, 1), (.iconst 8, 0, 2), (.if_icmp .le 13, 0, 3)] else if pc = 11 then [(.iconst (-1), 0, 1), (.ireturn, 0, 1)] else if pc = 13 then [(.aload 0, 0, 1), (.getfield 1, 5, 3), (.iload 1, 0, 1), (.iadd, 0, 1), (.iconst 400, 0, 3), (.if_icmp .le 28, 0, 3)] else if pc = 25 then [(.iconst (-3), 0, 2), (.ireturn, 0, 1)] else if pc = 28 then [(.iload 1, 0, 1), (.iconst 1, 0, 1), (.isub, 0, 1), (.istore 4, 0, 2)] else if pc = 33 then [(.iload 4, 0, 2), (.ifCond .lt 72, 0, 3)] else if pc = 38 then [(.aload 0, 0, 1), (.getfield 0, 5, 3), (.aload 0, 0, 1), (.getfield 1, 5, 3), (.lload 2, 0, 1), (.iconst 8, 0, 2), (.iload 4, 0, 2), (.imul, 0, 1), (.lushr, 0, 1), (.l2i, 0, 1), (.i2b, 0, 1), (.bastore, 0, 1), (.aload 0, 0, 1), (.dup, 0, 1), (.getfield 1, 5, 3), (.iconst 1, 0, 1), (.iadd, 0, 1), (.putfield 1, 5, 3), (.iinc 4 (-1), 0, 3), (.goto 33, 0, 3)] else if pc = 72 then [(.aload 0, 0, 1), (.getfield 1, 5, 3), (.ireturn, 0, 1)] else []
def sp44 (pc : Nat) : Bool := [33].contains pc
theorem BT44 : bt44 0 = [(.iload 1, 0, 1), (.iconst 1, 0, 1), (.if_icmp .lt 11, 0, 3)] ∧ bt44 5 = [(.iload 1, 0, 1), (.iconst 8, 0, 2), (.if_icmp .le 13, 0, 3)] ∧ bt44 11 = [(.iconst (-1), 0, 1), (.ireturn, 0, 1)] ∧ bt44 13 = [(.aload 0, 0, 1), (.getfield 1, 5, 3), (.iload 1, 0, 1), (.iadd, 0, 1), (.iconst 400, 0, 3), (.if_icmp .le 28, 0, 3)] ∧ bt44 25 = [(.iconst (-3), 0, 2), (.ireturn, 0, 1)] ∧ bt44 28 = [(.iload 1, 0, 1), (.iconst 1, 0, 1), (.isub, 0, 1), (.istore 4, 0, 2)] ∧ bt44 33 = [(.iload 4, 0, 2), (.ifCond .lt 72, 0, 3)] ∧ bt44 38 = [(.aload 0, 0, 1), (.getfield 0, 5, 3), (.aload 0, 0, 1), (.getfield 1, 5, 3), (.lload 2, 0, 1), (.iconst 8, 0, 2), (.iload 4, 0, 2), (.imul, 0, 1), (.lushr, 0, 1), (.l2i, 0, 1), (.i2b, 0, 1), (.bastore, 0, 1), (.aload 0, 0, 1), (.dup, 0, 1), (.getfield 1, 5, 3), (.iconst 1, 0, 1), (.iadd, 0, 1), (.putfield 1, 5, 3), (.iinc 4 (-1), 0, 3), (.goto 33, 0, 3)] ∧ bt44 72 = [(.aload 0, 0, 1), (.getfield 1, 5, 3), (.ireturn, 0, 1)] ∧ True := ⟨rfl, rfl, rfl, rfl, rfl, rfl, rfl, rfl, rfl, trivial⟩
theorem SP44 : sp44 0 = false ∧ sp44 5 = false ∧ sp44 11 = false ∧ sp44 13 = false ∧ sp44 25 = false ∧ sp44 28 = false ∧ sp44 33 = true ∧ sp44 38 = false ∧ sp44 72 = false ∧ True := ⟨rfl, rfl, rfl, rfl, rfl, rfl, rfl, rfl, rfl, trivial⟩
set_option maxRecDepth 100000 in
theorem bk44 : ∀ pc, blk 44 pc (bt44 pc) = true := fun pc => blk_if (by decide +kernel) (blk_if (by decide +kernel) (blk_if (by decide +kernel) (blk_if (by decide +kernel) (blk_if (by decide +kernel) (blk_if (by decide +kernel) (blk_if (by decide +kernel) (blk_if (by decide +kernel) (blk_if (by decide +kernel) (rfl)))))))))
theorem go44 {d mc ms : Nat} {sh : List SC} {M : MM} {Post : PP} {a0 : Nat} {a1 : Int} {a2 : Int} (h : ∀ S : Nat → KK, Clo (Run d) 44 none mc ms (Rtn 44 mc ms Post) S → S 0 [some (vR a0), some (vI a1), some (vL a2), none, none] [] (sh, 0, 0) M) : Run (d + 1) 44 [vR a0, vI a1, vL a2] sh M mc ms Post := ⟨Nat.le_of_ble_eq_true rfl, h⟩
theorem rt44 {v : Int} {sh : List SC} {M : MM} {Post : PP} (h : Post (some (Sum.inl v)) sh M) : Rtn 44 0 0 Post (some (Sum.inl v)) (sh, 0, 0) M := ⟨Nat.le_refl _, Nat.le_refl _, trivial, h⟩
/-! 45 OwnSunday.wipe -/
def bt45 (pc : Nat) : BL := if pc = 0 then [(.aload 0, 0, 1), (.getfield 1, 5, 3), (.istore 1, 0, 1), (.aload 0, 0, 1), (.iconst 0, 0, 1), (.putfield 1, 5, 3), (.iload 1, 0, 1), (.ireturn, 0, 1)] else []
def sp45 (pc : Nat) : Bool := [].contains pc
theorem BT45 : bt45 0 = [(.aload 0, 0, 1), (.getfield 1, 5, 3), (.istore 1, 0, 1), (.aload 0, 0, 1), (.iconst 0, 0, 1), (.putfield 1, 5, 3), (.iload 1, 0, 1), (.ireturn, 0, 1)] ∧ True := ⟨rfl, trivial⟩
theorem SP45 : sp45 0 = false ∧ True := ⟨rfl, trivial⟩
set_option maxRecDepth 100000 in
theorem bk45 : ∀ pc, blk 45 pc (bt45 pc) = true := fun pc => blk_if (by decide +kernel) (rfl)
theorem go45 {d mc ms : Nat} {sh : List SC} {M : MM} {Post : PP} {a0 : Nat} (h : ∀ S : Nat → KK, Clo (Run d) 45 none mc ms (Rtn 45 mc ms Post) S → S 0 [some (vR a0), none] [] (sh, 0, 0) M) : Run (d + 1) 45 [vR a0] sh M mc ms Post := ⟨Nat.le_of_ble_eq_true rfl, h⟩
theorem rt45 {v : Int} {sh : List SC} {M : MM} {Post : PP} (h : Post (some (Sum.inl v)) sh M) : Rtn 45 0 0 Post (some (Sum.inl v)) (sh, 0, 0) M := ⟨Nat.le_refl _, Nat.le_refl _, trivial, h⟩
/-! 46 OwnSunday.fault -/
def bt46 (pc : Nat) : BL := if pc = 0 then [(.aload 0, 0, 1), (.getfield 2, 5, 3), (.aload 0, 0, 1), (.getfield 0, 5, 3), (.aload 0, 0, 1), (.getfield 1, 5, 3), (.aload 0, 0, 1), (.getfield 3, 5, 3), (.aload 0, 0, 1), (.getfield 4, 5, 3), (.invokevirtual 8, 5, 3)] else if pc = 23 then [(.ireturn, 0, 1)] else []
def sp46 (pc : Nat) : Bool := [23].contains pc
theorem BT46 : bt46 0 = [(.aload 0, 0, 1), (.getfield 2, 5, 3), (.aload 0, 0, 1), (.getfield 0, 5, 3), (.aload 0, 0, 1), (.getfield 1, 5, 3), (.aload 0, 0, 1), (.getfield 3, 5, 3), (.aload 0, 0, 1), (.getfield 4, 5, 3), (.invokevirtual 8, 5, 3)] ∧ bt46 23 = [(.ireturn, 0, 1)] ∧ True := ⟨rfl, rfl, trivial⟩
theorem SP46 : sp46 0 = false ∧ sp46 23 = true ∧ True := ⟨rfl, rfl, trivial⟩
set_option maxRecDepth 100000 in
theorem bk46 : ∀ pc, blk 46 pc (bt46 pc) = true := fun pc => blk_if (by decide +kernel) (blk_if (by decide +kernel) (rfl))
theorem go46 {d mc ms : Nat} {sh : List SC} {M : MM} {Post : PP} {a0 : Nat} (h : ∀ S : Nat → KK, Clo (Run d) 46 none mc ms (Rtn 46 mc ms Post) S → S 0 [some (vR a0)] [] (sh, 0, 0) M) : Run (d + 1) 46 [vR a0] sh M mc ms Post := ⟨Nat.le_of_ble_eq_true rfl, h⟩
theorem rt46 {v : Int} {sh : List SC} {M : MM} {Post : PP} (h : Post (some (Sum.inl v)) sh M) : Rtn 46 0 0 Post (some (Sum.inl v)) (sh, 0, 0) M := ⟨Nat.le_refl _, Nat.le_refl _, trivial, h⟩
/-! 47 OwnSunday.lay -/
def bt47 (pc : Nat) : BL := if pc = 0 then [(.aload 0, 0, 1), (.getfield 2, 5, 3), (.aload 0, 0, 1), (.getfield 0, 5, 3), (.aload 0, 0, 1), (.getfield 1, 5, 3), (.aload 0, 0, 1), (.getfield 3, 5, 3), (.aload 0, 0, 1), (.getfield 4, 5, 3), (.invokevirtual 8, 5, 3)] else if pc = 23 then [(.iconst (-4), 0, 2), (.if_icmp .ne 38, 0, 3)] else if pc = 28 then [(.aload 0, 0, 1), (.getfield 3, 5, 3), (.getfield 1, 3, 3), (.ifCond .ne 41, 0, 3)] else if pc = 38 then [(.iconst (-2), 0, 2), (.ireturn, 0, 1)] else if pc = 41 then [(.aload 0, 0, 1), (.getfield 2, 5, 3), (.aload 0, 0, 1), (.getfield 0, 5, 3), (.aload 0, 0, 1), (.getfield 1, 5, 3), (.aload 0, 0, 1), (.getfield 5, 5, 3), (.aload 0, 0, 1), (.getfield 6, 5, 3), (.invokevirtual 8, 5, 3)] else if pc = 64 then [(.pop, 0, 1), (.aload 0, 0, 1), (.iconst 0, 0, 1), (.putfield 8, 5, 3), (.aload 0, 0, 1), (.getfield 5, 5, 3), (.getfield 1, 3, 3), (.ireturn, 0, 1)] else []
def sp47 (pc : Nat) : Bool := [23, 64].contains pc
theorem BT47 : bt47 0 = [(.aload 0, 0, 1), (.getfield 2, 5, 3), (.aload 0, 0, 1), (.getfield 0, 5, 3), (.aload 0, 0, 1), (.getfield 1, 5, 3), (.aload 0, 0, 1), (.getfield 3, 5, 3), (.aload 0, 0, 1), (.getfield 4, 5, 3), (.invokevirtual 8, 5, 3)] ∧ bt47 23 = [(.iconst (-4), 0, 2), (.if_icmp .ne 38, 0, 3)] ∧ bt47 28 = [(.aload 0, 0, 1), (.getfield 3, 5, 3), (.getfield 1, 3, 3), (.ifCond .ne 41, 0, 3)] ∧ bt47 38 = [(.iconst (-2), 0, 2), (.ireturn, 0, 1)] ∧ bt47 41 = [(.aload 0, 0, 1), (.getfield 2, 5, 3), (.aload 0, 0, 1), (.getfield 0, 5, 3), (.aload 0, 0, 1), (.getfield 1, 5, 3), (.aload 0, 0, 1), (.getfield 5, 5, 3), (.aload 0, 0, 1), (.getfield 6, 5, 3), (.invokevirtual 8, 5, 3)] ∧ bt47 64 = [(.pop, 0, 1), (.aload 0, 0, 1), (.iconst 0, 0, 1), (.putfield 8, 5, 3), (.aload 0, 0, 1), (.getfield 5, 5, 3), (.getfield 1, 3, 3), (.ireturn, 0, 1)] ∧ True := ⟨rfl, rfl, rfl, rfl, rfl, rfl, trivial⟩
theorem SP47 : sp47 0 = false ∧ sp47 23 = true ∧ sp47 28 = false ∧ sp47 38 = false ∧ sp47 41 = false ∧ sp47 64 = true ∧ True := ⟨rfl, rfl, rfl, rfl, rfl, rfl, trivial⟩
set_option maxRecDepth 100000 in
theorem bk47 : ∀ pc, blk 47 pc (bt47 pc) = true := fun pc => blk_if (by decide +kernel) (blk_if (by decide +kernel) (blk_if (by decide +kernel) (blk_if (by decide +kernel) (blk_if (by decide +kernel) (blk_if (by decide +kernel) (rfl))))))
theorem go47 {d mc ms : Nat} {sh : List SC} {M : MM} {Post : PP} {a0 : Nat} (h : ∀ S : Nat → KK, Clo (Run d) 47 none mc ms (Rtn 47 mc ms Post) S → S 0 [some (vR a0)] [] (sh, 0, 0) M) : Run (d + 1) 47 [vR a0] sh M mc ms Post := ⟨Nat.le_of_ble_eq_true rfl, h⟩
theorem rt47 {v : Int} {sh : List SC} {M : MM} {Post : PP} (h : Post (some (Sum.inl v)) sh M) : Rtn 47 0 0 Post (some (Sum.inl v)) (sh, 0, 0) M := ⟨Nat.le_refl _, Nat.le_refl _, trivial, h⟩
/-! 48 OwnSunday.house -/
def bt48 (pc : Nat) : BL := if pc = 0 then [(.aload 0, 0, 1), (.iload 1, 0, 1), (.invokevirtual 72, 2, 3)] else if pc = 5 then [(.ifCond .ne 10, 0, 3)] else if pc = 8 then [(.iconst (-1), 0, 1), (.ireturn, 0, 1)] else if pc = 10 then [(.iload 2, 0, 1), (.tableswitch 101 0 4 #[44, 54, 64, 74, 84], 0, 33)] else if pc = 44 then [(.aload 0, 0, 1), (.getfield 6, 5, 3), (.getfield 0, 0, 3), (.iload 1, 0, 1), (.iaload, 0, 1), (.ireturn, 0, 1)] else if pc = 54 then [(.aload 0, 0, 1), (.getfield 6, 5, 3), (.getfield 1, 0, 3), (.iload 1, 0, 1), (.iaload, 0, 1), (.ireturn, 0, 1)] else if pc = 64 then [(.aload 0, 0, 1), (.getfield 5, 5, 3), (.getfield 2, 3, 3), (.iload 1, 0, 1), (.iaload, 0, 1), (.ireturn, 0, 1)] else if pc = 74 then [(.aload 0, 0, 1), (.getfield 5, 5, 3), (.getfield 3, 3, 3), (.iload 1, 0, 1), (.iaload, 0, 1), (.ireturn, 0, 1)] else if pc = 84 then [(.aload 0, 0, 1), (.getfield 6, 5, 3), (.iload 1, 0, 1), (.invokevirtual 3, 2, 3)] else if pc = 92 then [(.ifCond .eq 99, 0, 3)] else if pc = 95 then [(.iconst 1, 0, 1), (.goto 100, 0, 3)] else if pc = 99 then [(.iconst 0, 0, 1)] else if pc = 100 then [(.ireturn, 0, 1)] else if pc = 101 then [(.iconst (-1), 0, 1), (.ireturn, 0, 1)] else []
def sp48 (pc : Nat) : Bool := [5, 92].contains pc
theorem BT48 : bt48 0 = [(.aload 0, 0, 1), (.iload 1, 0, 1), (.invokevirtual 72, 2, 3)] ∧ bt48 5 = [(.ifCond .ne 10, 0, 3)] ∧ bt48 8 = [(.iconst (-1), 0, 1), (.ireturn, 0, 1)] ∧ bt48 10 = [(.iload 2, 0, 1), (.tableswitch 101 0 4 #[44, 54, 64, 74, 84], 0, 33)] ∧ bt48 44 = [(.aload 0, 0, 1), (.getfield 6, 5, 3), (.getfield 0, 0, 3), (.iload 1, 0, 1), (.iaload, 0, 1), (.ireturn, 0, 1)] ∧ bt48 54 = [(.aload 0, 0, 1), (.getfield 6, 5, 3), (.getfield 1, 0, 3), (.iload 1, 0, 1), (.iaload, 0, 1), (.ireturn, 0, 1)] ∧ bt48 64 = [(.aload 0, 0, 1), (.getfield 5, 5, 3), (.getfield 2, 3, 3), (.iload 1, 0, 1), (.iaload, 0, 1), (.ireturn, 0, 1)] ∧ bt48 74 = [(.aload 0, 0, 1), (.getfield 5, 5, 3), (.getfield 3, 3, 3), (.iload 1, 0, 1), (.iaload, 0, 1), (.ireturn, 0, 1)] ∧ bt48 84 = [(.aload 0, 0, 1), (.getfield 6, 5, 3), (.iload 1, 0, 1), (.invokevirtual 3, 2, 3)] ∧ bt48 92 = [(.ifCond .eq 99, 0, 3)] ∧ bt48 95 = [(.iconst 1, 0, 1), (.goto 100, 0, 3)] ∧ bt48 99 = [(.iconst 0, 0, 1)] ∧ bt48 100 = [(.ireturn, 0, 1)] ∧ bt48 101 = [(.iconst (-1), 0, 1), (.ireturn, 0, 1)] ∧ True := ⟨rfl, rfl, rfl, rfl, rfl, rfl, rfl, rfl, rfl, rfl, rfl, rfl, rfl, rfl, trivial⟩
theorem SP48 : sp48 0 = false ∧ sp48 5 = true ∧ sp48 8 = false ∧ sp48 10 = false ∧ sp48 44 = false ∧ sp48 54 = false ∧ sp48 64 = false ∧ sp48 74 = false ∧ sp48 84 = false ∧ sp48 92 = true ∧ sp48 95 = false ∧ sp48 99 = false ∧ sp48 100 = false ∧ sp48 101 = false ∧ True := ⟨rfl, rfl, rfl, rfl, rfl, rfl, rfl, rfl, rfl, rfl, rfl, rfl, rfl, rfl, trivial⟩
set_option maxRecDepth 100000 in
theorem bk48 : ∀ pc, blk 48 pc (bt48 pc) = true := fun pc => blk_if (by decide +kernel) (blk_if (by decide +kernel) (blk_if (by decide +kernel) (blk_if (by decide +kernel) (blk_if (by decide +kernel) (blk_if (by decide +kernel) (blk_if (by decide +kernel) (blk_if (by decide +kernel) (blk_if (by decide +kernel) (blk_if (by decide +kernel) (blk_if (by decide +kernel) (blk_if (by decide +kernel) (blk_if (by decide +kernel) (blk_if (by decide +kernel) (rfl))))))))))))))
theorem go48 {d mc ms : Nat} {sh : List SC} {M : MM} {Post : PP} {a0 : Nat} {a1 : Int} {a2 : Int} (h : ∀ S : Nat → KK, Clo (Run d) 48 none mc ms (Rtn 48 mc ms Post) S → S 0 [some (vR a0), some (vI a1), some (vI a2)] [] (sh, 0, 0) M) : Run (d + 1) 48 [vR a0, vI a1, vI a2] sh M mc ms Post := ⟨Nat.le_of_ble_eq_true rfl, h⟩
theorem rt48 {v : Int} {sh : List SC} {M : MM} {Post : PP} (h : Post (some (Sum.inl v)) sh M) : Rtn 48 0 0 Post (some (Sum.inl v)) (sh, 0, 0) M := ⟨Nat.le_refl _, Nat.le_refl _, trivial, h⟩
/-! 49 OwnSunday.up -/
def bt49 (pc : Nat) : BL := if pc = 0 then [(.lload 1, 0, 1), (.invokestatic 77, 1, 3)] else if pc = 4 then [(.ifCond .ne 9, 0, 3)] else if pc = 7 then [(.iconst (-1), 0, 1), (.ireturn, 0, 1)] else if pc = 9 then [(.aload 0, 0, 1), (.invokevirtual 78, 1, 3)] else if pc = 13 then [(.aload 0, 0, 1), (.lload 1, 0, 1), (.invokevirtual 80, 2, 3)] else if pc = 18 then [(.ireturn, 0, 1)] else []
def sp49 (pc : Nat) : Bool := [4, 13, 18].contains pc
theorem BT49 : bt49 0 = [(.lload 1, 0, 1), (.invokestatic 77, 1, 3)] ∧ bt49 4 = [(.ifCond .ne 9, 0, 3)] ∧ bt49 7 = [(.iconst (-1), 0, 1), (.ireturn, 0, 1)] ∧ bt49 9 = [(.aload 0, 0, 1), (.invokevirtual 78, 1, 3)] ∧ bt49 13 = [(.aload 0, 0, 1), (.lload 1, 0, 1), (.invokevirtual 80, 2, 3)] ∧ bt49 18 = [(.ireturn, 0, 1)] ∧ True := ⟨rfl, rfl, rfl, rfl, rfl, rfl, trivial⟩
theorem SP49 : sp49 0 = false ∧ sp49 4 = true ∧ sp49 7 = false ∧ sp49 9 = false ∧ sp49 13 = true ∧ sp49 18 = true ∧ True := ⟨rfl, rfl, rfl, rfl, rfl, rfl, trivial⟩
set_option maxRecDepth 100000 in
theorem bk49 : ∀ pc, blk 49 pc (bt49 pc) = true := fun pc => blk_if (by decide +kernel) (blk_if (by decide +kernel) (blk_if (by decide +kernel) (blk_if (by decide +kernel) (blk_if (by decide +kernel) (blk_if (by decide +kernel) (rfl))))))
theorem go49 {d mc ms : Nat} {sh : List SC} {M : MM} {Post : PP} {a0 : Nat} {a1 : Int} (h : ∀ S : Nat → KK, Clo (Run d) 49 none mc ms (Rtn 49 mc ms Post) S → S 0 [some (vR a0), some (vL a1), none] [] (sh, 0, 0) M) : Run (d + 1) 49 [vR a0, vL a1] sh M mc ms Post := ⟨Nat.le_of_ble_eq_true rfl, h⟩
theorem rt49 {v : Int} {sh : List SC} {M : MM} {Post : PP} (h : Post (some (Sum.inl v)) sh M) : Rtn 49 0 0 Post (some (Sum.inl v)) (sh, 0, 0) M := ⟨Nat.le_refl _, Nat.le_refl _, trivial, h⟩
/-! 50 OwnSunday.hands -/
def bt50 (pc : Nat) : BL := if pc = 0 then [(.iload 1, 0, 1), (.invokestatic 76, 1, 3)] else if pc = 4 then [(.ifCond .eq 14, 0, 3)] else if pc = 7 then [(.lload 2, 0, 1), (.invokestatic 77, 1, 3)] else if pc = 11 then [(.ifCond .ne 16, 0, 3)] else if pc = 14 then [(.iconst (-1), 0, 1), (.ireturn, 0, 1)] else if pc = 16 then [(.aload 0, 0, 1), (.invokevirtual 78, 1, 3)] else if pc = 20 then [(.aload 0, 0, 1), (.iload 1, 0, 1), (.lload 2, 0, 1), (.invokevirtual 81, 3, 3)] else if pc = 26 then [(.ireturn, 0, 1)] else []
def sp50 (pc : Nat) : Bool := [4, 11, 20, 26].contains pc
theorem BT50 : bt50 0 = [(.iload 1, 0, 1), (.invokestatic 76, 1, 3)] ∧ bt50 4 = [(.ifCond .eq 14, 0, 3)] ∧ bt50 7 = [(.lload 2, 0, 1), (.invokestatic 77, 1, 3)] ∧ bt50 11 = [(.ifCond .ne 16, 0, 3)] ∧ bt50 14 = [(.iconst (-1), 0, 1), (.ireturn, 0, 1)] ∧ bt50 16 = [(.aload 0, 0, 1), (.invokevirtual 78, 1, 3)] ∧ bt50 20 = [(.aload 0, 0, 1), (.iload 1, 0, 1), (.lload 2, 0, 1), (.invokevirtual 81, 3, 3)] ∧ bt50 26 = [(.ireturn, 0, 1)] ∧ True := ⟨rfl, rfl, rfl, rfl, rfl, rfl, rfl, rfl, trivial⟩
theorem SP50 : sp50 0 = false ∧ sp50 4 = true ∧ sp50 7 = false ∧ sp50 11 = true ∧ sp50 14 = false ∧ sp50 16 = false ∧ sp50 20 = true ∧ sp50 26 = true ∧ True := ⟨rfl, rfl, rfl, rfl, rfl, rfl, rfl, rfl, trivial⟩
set_option maxRecDepth 100000 in
theorem bk50 : ∀ pc, blk 50 pc (bt50 pc) = true := fun pc => blk_if (by decide +kernel) (blk_if (by decide +kernel) (blk_if (by decide +kernel) (blk_if (by decide +kernel) (blk_if (by decide +kernel) (blk_if (by decide +kernel) (blk_if (by decide +kernel) (blk_if (by decide +kernel) (rfl))))))))
theorem go50 {d mc ms : Nat} {sh : List SC} {M : MM} {Post : PP} {a0 : Nat} {a1 : Int} {a2 : Int} (h : ∀ S : Nat → KK, Clo (Run d) 50 none mc ms (Rtn 50 mc ms Post) S → S 0 [some (vR a0), some (vI a1), some (vL a2), none] [] (sh, 0, 0) M) : Run (d + 1) 50 [vR a0, vI a1, vL a2] sh M mc ms Post := ⟨Nat.le_of_ble_eq_true rfl, h⟩
theorem rt50 {v : Int} {sh : List SC} {M : MM} {Post : PP} (h : Post (some (Sum.inl v)) sh M) : Rtn 50 0 0 Post (some (Sum.inl v)) (sh, 0, 0) M := ⟨Nat.le_refl _, Nat.le_refl _, trivial, h⟩
/-! 51 OwnSunday.judge -/
def bt51 (pc : Nat) : BL := if pc = 0 then [(.lload 1, 0, 1), (.invokestatic 77, 1, 3)] else if pc = 4 then [(.ifCond .eq 16, 0, 3)] else if pc = 7 then [(.iload 3, 0, 1), (.ifCond .lt 16, 0, 3)] else if pc = 11 then [(.iload 3, 0, 1), (.iconst 1, 0, 1), (.if_icmp .le 20, 0, 3)] else if pc = 16 then [(.ldc2_w 0, (-1), 3), (.lreturn, 0, 1)] else if pc = 20 then [(.aload 0, 0, 1), (.invokevirtual 78, 1, 3)] else if pc = 24 then [(.iconst 1000, 0, 3), (.aload 0, 0, 1), (.getfield 5, 5, 3), (.invokevirtual 31, 1, 3)] else if pc = 34 then [(.invokestatic 1003, 99, 3), (.istore 4, 0, 2), (.iconst 0, 0, 1), (.istore 5, 0, 2)] else if pc = 42 then [(.iload 5, 0, 2), (.iload 4, 0, 2), (.if_icmp .ge 96, 0, 3)] else if pc = 49 then [(.aload 0, 0, 1), (.aload 0, 0, 1), (.getfield 9, 5, 3), (.lload 1, 0, 1), (.iload 5, 0, 2), (.i2l, 0, 1), (.ladd, 0, 1), (.invokevirtual 24, 2, 3)] else if pc = 62 then [(.invokevirtual 85, 2, 3)] else if pc = 65 then [(.istore 6, 0, 2), (.iload 6, 0, 2), (.iconst (-4), 0, 2), (.if_icmp .eq 90, 0, 3)] else if pc = 74 then [(.iload 3, 0, 1), (.ifCond .ne 86, 0, 3)] else if pc = 78 then [(.lload 1, 0, 1), (.iload 5, 0, 2), (.i2l, 0, 1), (.ladd, 0, 1), (.goto 89, 0, 3)] else if pc = 86 then [(.iload 6, 0, 2), (.i2l, 0, 1)] else if pc = 89 then [(.lreturn, 0, 1)] else if pc = 90 then [(.iinc 5 1, 0, 3), (.goto 42, 0, 3)] else if pc = 96 then [(.ldc2_w 0, (-4), 3), (.lreturn, 0, 1)] else []
def sp51 (pc : Nat) : Bool := [4, 24, 34, 42, 62, 65].contains pc
theorem BT51 : bt51 0 = [(.lload 1, 0, 1), (.invokestatic 77, 1, 3)] ∧ bt51 4 = [(.ifCond .eq 16, 0, 3)] ∧ bt51 7 = [(.iload 3, 0, 1), (.ifCond .lt 16, 0, 3)] ∧ bt51 11 = [(.iload 3, 0, 1), (.iconst 1, 0, 1), (.if_icmp .le 20, 0, 3)] ∧ bt51 16 = [(.ldc2_w 0, (-1), 3), (.lreturn, 0, 1)] ∧ bt51 20 = [(.aload 0, 0, 1), (.invokevirtual 78, 1, 3)] ∧ bt51 24 = [(.iconst 1000, 0, 3), (.aload 0, 0, 1), (.getfield 5, 5, 3), (.invokevirtual 31, 1, 3)] ∧ bt51 34 = [(.invokestatic 1003, 99, 3), (.istore 4, 0, 2), (.iconst 0, 0, 1), (.istore 5, 0, 2)] ∧ bt51 42 = [(.iload 5, 0, 2), (.iload 4, 0, 2), (.if_icmp .ge 96, 0, 3)] ∧ bt51 49 = [(.aload 0, 0, 1), (.aload 0, 0, 1), (.getfield 9, 5, 3), (.lload 1, 0, 1), (.iload 5, 0, 2), (.i2l, 0, 1), (.ladd, 0, 1), (.invokevirtual 24, 2, 3)] ∧ bt51 62 = [(.invokevirtual 85, 2, 3)] ∧ bt51 65 = [(.istore 6, 0, 2), (.iload 6, 0, 2), (.iconst (-4), 0, 2), (.if_icmp .eq 90, 0, 3)] ∧ bt51 74 = [(.iload 3, 0, 1), (.ifCond .ne 86, 0, 3)] ∧ bt51 78 = [(.lload 1, 0, 1), (.iload 5, 0, 2), (.i2l, 0, 1), (.ladd, 0, 1), (.goto 89, 0, 3)] ∧ bt51 86 = [(.iload 6, 0, 2), (.i2l, 0, 1)] ∧ bt51 89 = [(.lreturn, 0, 1)] ∧ bt51 90 = [(.iinc 5 1, 0, 3), (.goto 42, 0, 3)] ∧ bt51 96 = [(.ldc2_w 0, (-4), 3), (.lreturn, 0, 1)] ∧ True := ⟨rfl, rfl, rfl, rfl, rfl, rfl, rfl, rfl, rfl, rfl, rfl, rfl, rfl, rfl, rfl, rfl, rfl, rfl, trivial⟩
theorem SP51 : sp51 0 = false ∧ sp51 4 = true ∧ sp51 7 = false ∧ sp51 11 = false ∧ sp51 16 = false ∧ sp51 20 = false ∧ sp51 24 = true ∧ sp51 34 = true ∧ sp51 42 = true ∧ sp51 49 = false ∧ sp51 62 = true ∧ sp51 65 = true ∧ sp51 74 = false ∧ sp51 78 = false ∧ sp51 86 = false ∧ sp51 89 = false ∧ sp51 90 = false ∧ sp51 96 = false ∧ True := ⟨rfl, rfl, rfl, rfl, rfl, rfl, rfl, rfl, rfl, rfl, rfl, rfl, rfl, rfl, rfl, rfl, rfl, rfl, trivial⟩
set_option maxRecDepth 100000 in
theorem bk51 : ∀ pc, blk 51 pc (bt51 pc) = true := fun pc => blk_if (by decide +kernel) (blk_if (by decide +kernel) (blk_if (by decide +kernel) (blk_if (by decide +kernel) (blk_if (by decide +kernel) (blk_if (by decide +kernel) (blk_if (by decide +kernel) (blk_if (by decide +kernel) (blk_if (by decide +kernel) (blk_if (by decide +kernel) (blk_if (by decide +kernel) (blk_if (by decide +kernel) (blk_if (by decide +kernel) (blk_if (by decide +kernel) (blk_if (by decide +kernel) (blk_if (by decide +kernel) (blk_if (by decide +kernel) (blk_if (by decide +kernel) (rfl))))))))))))))))))
theorem go51 {d mc ms : Nat} {sh : List SC} {M : MM} {Post : PP} {a0 : Nat} {a1 : Int} {a2 : Int} (h : ∀ S : Nat → KK, Clo (Run d) 51 none mc ms (Rtn 51 mc ms Post) S → S 0 [some (vR a0), some (vL a1), none, some (vI a2), none, none, none] [] (sh, 0, 0) M) : Run (d + 1) 51 [vR a0, vL a1, vI a2] sh M mc ms Post := ⟨Nat.le_of_ble_eq_true rfl, h⟩
theorem rt51 {v : Int} {sh : List SC} {M : MM} {Post : PP} (h : Post (some (Sum.inr (Sum.inl v))) sh M) : Rtn 51 0 0 Post (some (Sum.inr (Sum.inl v))) (sh, 0, 0) M := ⟨Nat.le_refl _, Nat.le_refl _, trivial, h⟩
/-! 52 OwnSunday.still -/
def bt52 (pc : Nat) : BL := if pc = 0 then [(.aload 0, 0, 1), (.iload 1, 0, 1), (.invokevirtual 74, 2, 3)] else if pc = 5 then [(.ifCond .ne 10, 0, 3)] else if pc = 8 then [(.iconst (-1), 0, 1), (.ireturn, 0, 1)] else if pc = 10 then [(.aload 0, 0, 1), (.invokevirtual 78, 1, 3)] else if pc = 14 then [(.aload 0, 0, 1), (.getfield 5, 5, 3), (.invokevirtual 31, 1, 3)] else if pc = 21 then [(.istore 2, 0, 1), (.iconst 0, 0, 1), (.istore 3, 0, 1), (.iconst 0, 0, 1), (.istore 4, 0, 2), (.iconst 0, 0, 1), (.istore 5, 0, 2)] else if pc = 30 then [(.iload 5, 0, 2), (.iconst 2, 0, 1), (.iload 2, 0, 1), (.imul, 0, 1), (.if_icmp .ge 95, 0, 3)] else if pc = 38 then [(.aload 0, 0, 1), (.getfield 5, 5, 3), (.iload 1, 0, 1), (.aload 0, 0, 1), (.getfield 9, 5, 3), (.iload 5, 0, 2), (.i2l, 0, 1), (.invokevirtual 24, 2, 3)] else if pc = 53 then [(.invokevirtual 33, 3, 3)] else if pc = 56 then [(.ifCond .eq 65, 0, 3)] else if pc = 59 then [(.iload 3, 0, 1), (.iconst 1, 0, 1), (.iadd, 0, 1), (.goto 66, 0, 3)] else if pc = 65 then [(.iconst 0, 0, 1)] else if pc = 66 then [(.istore 3, 0, 1), (.iload 5, 0, 2), (.iload 2, 0, 1), (.if_icmp .lt 89, 0, 3)] else if pc = 73 then [(.iload 3, 0, 1), (.aload 0, 0, 1), (.getfield 5, 5, 3), (.getfield 8, 3, 3), (.iload 1, 0, 1), (.iaload, 0, 1), (.if_icmp .lt 89, 0, 3)] else if pc = 86 then [(.iinc 4 1, 0, 3)] else if pc = 89 then [(.iinc 5 1, 0, 3), (.goto 30, 0, 3)] else if pc = 95 then [(.iload 4, 0, 2), (.ireturn, 0, 1)] else []
def sp52 (pc : Nat) : Bool := [5, 14, 21, 30, 53, 56].contains pc
theorem BT52 : bt52 0 = [(.aload 0, 0, 1), (.iload 1, 0, 1), (.invokevirtual 74, 2, 3)] ∧ bt52 5 = [(.ifCond .ne 10, 0, 3)] ∧ bt52 8 = [(.iconst (-1), 0, 1), (.ireturn, 0, 1)] ∧ bt52 10 = [(.aload 0, 0, 1), (.invokevirtual 78, 1, 3)] ∧ bt52 14 = [(.aload 0, 0, 1), (.getfield 5, 5, 3), (.invokevirtual 31, 1, 3)] ∧ bt52 21 = [(.istore 2, 0, 1), (.iconst 0, 0, 1), (.istore 3, 0, 1), (.iconst 0, 0, 1), (.istore 4, 0, 2), (.iconst 0, 0, 1), (.istore 5, 0, 2)] ∧ bt52 30 = [(.iload 5, 0, 2), (.iconst 2, 0, 1), (.iload 2, 0, 1), (.imul, 0, 1), (.if_icmp .ge 95, 0, 3)] ∧ bt52 38 = [(.aload 0, 0, 1), (.getfield 5, 5, 3), (.iload 1, 0, 1), (.aload 0, 0, 1), (.getfield 9, 5, 3), (.iload 5, 0, 2), (.i2l, 0, 1), (.invokevirtual 24, 2, 3)] ∧ bt52 53 = [(.invokevirtual 33, 3, 3)] ∧ bt52 56 = [(.ifCond .eq 65, 0, 3)] ∧ bt52 59 = [(.iload 3, 0, 1), (.iconst 1, 0, 1), (.iadd, 0, 1), (.goto 66, 0, 3)] ∧ bt52 65 = [(.iconst 0, 0, 1)] ∧ bt52 66 = [(.istore 3, 0, 1), (.iload 5, 0, 2), (.iload 2, 0, 1), (.if_icmp .lt 89, 0, 3)] ∧ bt52 73 = [(.iload 3, 0, 1), (.aload 0, 0, 1), (.getfield 5, 5, 3), (.getfield 8, 3, 3), (.iload 1, 0, 1), (.iaload, 0, 1), (.if_icmp .lt 89, 0, 3)] ∧ bt52 86 = [(.iinc 4 1, 0, 3)] ∧ bt52 89 = [(.iinc 5 1, 0, 3), (.goto 30, 0, 3)] ∧ bt52 95 = [(.iload 4, 0, 2), (.ireturn, 0, 1)] ∧ True := ⟨rfl, rfl, rfl, rfl, rfl, rfl, rfl, rfl, rfl, rfl, rfl, rfl, rfl, rfl, rfl, rfl, rfl, trivial⟩
theorem SP52 : sp52 0 = false ∧ sp52 5 = true ∧ sp52 8 = false ∧ sp52 10 = false ∧ sp52 14 = true ∧ sp52 21 = true ∧ sp52 30 = true ∧ sp52 38 = false ∧ sp52 53 = true ∧ sp52 56 = true ∧ sp52 59 = false ∧ sp52 65 = false ∧ sp52 66 = false ∧ sp52 73 = false ∧ sp52 86 = false ∧ sp52 89 = false ∧ sp52 95 = false ∧ True := ⟨rfl, rfl, rfl, rfl, rfl, rfl, rfl, rfl, rfl, rfl, rfl, rfl, rfl, rfl, rfl, rfl, rfl, trivial⟩
set_option maxRecDepth 100000 in
theorem bk52 : ∀ pc, blk 52 pc (bt52 pc) = true := fun pc => blk_if (by decide +kernel) (blk_if (by decide +kernel) (blk_if (by decide +kernel) (blk_if (by decide +kernel) (blk_if (by decide +kernel) (blk_if (by decide +kernel) (blk_if (by decide +kernel) (blk_if (by decide +kernel) (blk_if (by decide +kernel) (blk_if (by decide +kernel) (blk_if (by decide +kernel) (blk_if (by decide +kernel) (blk_if (by decide +kernel) (blk_if (by decide +kernel) (blk_if (by decide +kernel) (blk_if (by decide +kernel) (blk_if (by decide +kernel) (rfl)))))))))))))))))
theorem go52 {d mc ms : Nat} {sh : List SC} {M : MM} {Post : PP} {a0 : Nat} {a1 : Int} (h : ∀ S : Nat → KK, Clo (Run d) 52 none mc ms (Rtn 52 mc ms Post) S → S 0 [some (vR a0), some (vI a1), none, none, none, none] [] (sh, 0, 0) M) : Run (d + 1) 52 [vR a0, vI a1] sh M mc ms Post := ⟨Nat.le_of_ble_eq_true rfl, h⟩
theorem rt52 {v : Int} {sh : List SC} {M : MM} {Post : PP} (h : Post (some (Sum.inl v)) sh M) : Rtn 52 0 0 Post (some (Sum.inl v)) (sh, 0, 0) M := ⟨Nat.le_refl _, Nat.le_refl _, trivial, h⟩
/-! 53 OwnSunday.together -/
def bt53 (pc : Nat) : BL := if pc = 0 then [(.aload 0, 0, 1), (.iload 1, 0, 1), (.invokevirtual 75, 2, 3)] else if pc = 5 then [(.ifCond .eq 15, 0, 3)] else if pc = 8 then [(.lload 2, 0, 1), (.invokestatic 77, 1, 3)] else if pc = 12 then [(.ifCond .ne 19, 0, 3)] else if pc = 15 then [(.ldc2_w 0, (-1), 3), (.lreturn, 0, 1)] else if pc = 19 then [(.aload 0, 0, 1), (.invokevirtual 78, 1, 3)] else if pc = 23 then [(.aload 0, 0, 1), (.getfield 5, 5, 3), (.invokevirtual 31, 1, 3)] else if pc = 30 then [(.istore 4, 0, 2), (.iconst 0, 0, 1), (.istore 5, 0, 2)] else if pc = 35 then [(.iload 5, 0, 2), (.iload 4, 0, 2), (.if_icmp .ge 67, 0, 3)] else if pc = 42 then [(.aload 0, 0, 1), (.iload 1, 0, 1), (.lload 2, 0, 1), (.iload 5, 0, 2), (.i2l, 0, 1), (.ladd, 0, 1), (.invokevirtual 82, 3, 3)] else if pc = 52 then [(.ifCond .eq 61, 0, 3)] else if pc = 55 then [(.lload 2, 0, 1), (.iload 5, 0, 2), (.i2l, 0, 1), (.ladd, 0, 1), (.lreturn, 0, 1)] else if pc = 61 then [(.iinc 5 1, 0, 3), (.goto 35, 0, 3)] else if pc = 67 then [(.ldc2_w 0, (-4), 3), (.lreturn, 0, 1)] else []
def sp53 (pc : Nat) : Bool := [5, 12, 23, 30, 35, 52].contains pc
theorem BT53 : bt53 0 = [(.aload 0, 0, 1), (.iload 1, 0, 1), (.invokevirtual 75, 2, 3)] ∧ bt53 5 = [(.ifCond .eq 15, 0, 3)] ∧ bt53 8 = [(.lload 2, 0, 1), (.invokestatic 77, 1, 3)] ∧ bt53 12 = [(.ifCond .ne 19, 0, 3)] ∧ bt53 15 = [(.ldc2_w 0, (-1), 3), (.lreturn, 0, 1)] ∧ bt53 19 = [(.aload 0, 0, 1), (.invokevirtual 78, 1, 3)] ∧ bt53 23 = [(.aload 0, 0, 1), (.getfield 5, 5, 3), (.invokevirtual 31, 1, 3)] ∧ bt53 30 = [(.istore 4, 0, 2), (.iconst 0, 0, 1), (.istore 5, 0, 2)] ∧ bt53 35 = [(.iload 5, 0, 2), (.iload 4, 0, 2), (.if_icmp .ge 67, 0, 3)] ∧ bt53 42 = [(.aload 0, 0, 1), (.iload 1, 0, 1), (.lload 2, 0, 1), (.iload 5, 0, 2), (.i2l, 0, 1), (.ladd, 0, 1), (.invokevirtual 82, 3, 3)] ∧ bt53 52 = [(.ifCond .eq 61, 0, 3)] ∧ bt53 55 = [(.lload 2, 0, 1), (.iload 5, 0, 2), (.i2l, 0, 1), (.ladd, 0, 1), (.lreturn, 0, 1)] ∧ bt53 61 = [(.iinc 5 1, 0, 3), (.goto 35, 0, 3)] ∧ bt53 67 = [(.ldc2_w 0, (-4), 3), (.lreturn, 0, 1)] ∧ True := ⟨rfl, rfl, rfl, rfl, rfl, rfl, rfl, rfl, rfl, rfl, rfl, rfl, rfl, rfl, trivial⟩
theorem SP53 : sp53 0 = false ∧ sp53 5 = true ∧ sp53 8 = false ∧ sp53 12 = true ∧ sp53 15 = false ∧ sp53 19 = false ∧ sp53 23 = true ∧ sp53 30 = true ∧ sp53 35 = true ∧ sp53 42 = false ∧ sp53 52 = true ∧ sp53 55 = false ∧ sp53 61 = false ∧ sp53 67 = false ∧ True := ⟨rfl, rfl, rfl, rfl, rfl, rfl, rfl, rfl, rfl, rfl, rfl, rfl, rfl, rfl, trivial⟩
set_option maxRecDepth 100000 in
theorem bk53 : ∀ pc, blk 53 pc (bt53 pc) = true := fun pc => blk_if (by decide +kernel) (blk_if (by decide +kernel) (blk_if (by decide +kernel) (blk_if (by decide +kernel) (blk_if (by decide +kernel) (blk_if (by decide +kernel) (blk_if (by decide +kernel) (blk_if (by decide +kernel) (blk_if (by decide +kernel) (blk_if (by decide +kernel) (blk_if (by decide +kernel) (blk_if (by decide +kernel) (blk_if (by decide +kernel) (blk_if (by decide +kernel) (rfl))))))))))))))
theorem go53 {d mc ms : Nat} {sh : List SC} {M : MM} {Post : PP} {a0 : Nat} {a1 : Int} {a2 : Int} (h : ∀ S : Nat → KK, Clo (Run d) 53 none mc ms (Rtn 53 mc ms Post) S → S 0 [some (vR a0), some (vI a1), some (vL a2), none, none, none] [] (sh, 0, 0) M) : Run (d + 1) 53 [vR a0, vI a1, vL a2] sh M mc ms Post := ⟨Nat.le_of_ble_eq_true rfl, h⟩
theorem rt53 {v : Int} {sh : List SC} {M : MM} {Post : PP} (h : Post (some (Sum.inr (Sum.inl v))) sh M) : Rtn 53 0 0 Post (some (Sum.inr (Sum.inl v))) (sh, 0, 0) M := ⟨Nat.le_refl _, Nat.le_refl _, trivial, h⟩
/-! 54 OwnSunday.often -/
def bt54 (pc : Nat) : BL := if pc = 0 then [(.aload 0, 0, 1), (.iload 1, 0, 1), (.invokevirtual 75, 2, 3)] else if pc = 5 then [(.ifCond .eq 31, 0, 3)] else if pc = 8 then [(.lload 2, 0, 1), (.invokestatic 77, 1, 3)] else if pc = 12 then [(.ifCond .eq 31, 0, 3)] else if pc = 15 then [(.lload 4, 0, 2), (.ldc2_w 0, 0, 1), (.lcmp, 0, 1), (.ifCond .lt 31, 0, 3)] else if pc = 22 then [(.lload 4, 0, 2), (.ldc2_w 0, 1000000000000, 3), (.lcmp, 0, 1), (.ifCond .le 35, 0, 3)] else if pc = 31 then [(.ldc2_w 0, (-1), 3), (.lreturn, 0, 1)] else if pc = 35 then [(.aload 0, 0, 1), (.invokevirtual 78, 1, 3)] else if pc = 39 then [(.aload 0, 0, 1), (.getfield 5, 5, 3), (.invokevirtual 31, 1, 3)] else if pc = 46 then [(.istore 6, 0, 2), (.lload 4, 0, 2), (.iload 6, 0, 2), (.i2l, 0, 1), (.ldiv, 0, 1), (.lstore 7, 0, 2), (.lload 4, 0, 2), (.lload 7, 0, 2), (.iload 6, 0, 2), (.i2l, 0, 1), (.lmul, 0, 1), (.lsub, 0, 1), (.l2i, 0, 1), (.istore 9, 0, 2), (.lload 7, 0, 2), (.aload 0, 0, 1), (.iload 1, 0, 1), (.lload 2, 0, 1), (.iload 6, 0, 2), (.invokevirtual 86, 4, 3)] else if pc = 78 then [(.i2l, 0, 1), (.lmul, 0, 1), (.aload 0, 0, 1), (.iload 1, 0, 1), (.lload 2, 0, 1), (.iload 9, 0, 2), (.invokevirtual 86, 4, 3)] else if pc = 88 then [(.i2l, 0, 1), (.ladd, 0, 1), (.lreturn, 0, 1)] else []
def sp54 (pc : Nat) : Bool := [5, 12, 39, 46, 78, 88].contains pc
theorem BT54 : bt54 0 = [(.aload 0, 0, 1), (.iload 1, 0, 1), (.invokevirtual 75, 2, 3)] ∧ bt54 5 = [(.ifCond .eq 31, 0, 3)] ∧ bt54 8 = [(.lload 2, 0, 1), (.invokestatic 77, 1, 3)] ∧ bt54 12 = [(.ifCond .eq 31, 0, 3)] ∧ bt54 15 = [(.lload 4, 0, 2), (.ldc2_w 0, 0, 1), (.lcmp, 0, 1), (.ifCond .lt 31, 0, 3)] ∧ bt54 22 = [(.lload 4, 0, 2), (.ldc2_w 0, 1000000000000, 3), (.lcmp, 0, 1), (.ifCond .le 35, 0, 3)] ∧ bt54 31 = [(.ldc2_w 0, (-1), 3), (.lreturn, 0, 1)] ∧ bt54 35 = [(.aload 0, 0, 1), (.invokevirtual 78, 1, 3)] ∧ bt54 39 = [(.aload 0, 0, 1), (.getfield 5, 5, 3), (.invokevirtual 31, 1, 3)] ∧ bt54 46 = [(.istore 6, 0, 2), (.lload 4, 0, 2), (.iload 6, 0, 2), (.i2l, 0, 1), (.ldiv, 0, 1), (.lstore 7, 0, 2), (.lload 4, 0, 2), (.lload 7, 0, 2), (.iload 6, 0, 2), (.i2l, 0, 1), (.lmul, 0, 1), (.lsub, 0, 1), (.l2i, 0, 1), (.istore 9, 0, 2), (.lload 7, 0, 2), (.aload 0, 0, 1), (.iload 1, 0, 1), (.lload 2, 0, 1), (.iload 6, 0, 2), (.invokevirtual 86, 4, 3)] ∧ bt54 78 = [(.i2l, 0, 1), (.lmul, 0, 1), (.aload 0, 0, 1), (.iload 1, 0, 1), (.lload 2, 0, 1), (.iload 9, 0, 2), (.invokevirtual 86, 4, 3)] ∧ bt54 88 = [(.i2l, 0, 1), (.ladd, 0, 1), (.lreturn, 0, 1)] ∧ True := ⟨rfl, rfl, rfl, rfl, rfl, rfl, rfl, rfl, rfl, rfl, rfl, rfl, trivial⟩
theorem SP54 : sp54 0 = false ∧ sp54 5 = true ∧ sp54 8 = false ∧ sp54 12 = true ∧ sp54 15 = false ∧ sp54 22 = false ∧ sp54 31 = false ∧ sp54 35 = false ∧ sp54 39 = true ∧ sp54 46 = true ∧ sp54 78 = true ∧ sp54 88 = true ∧ True := ⟨rfl, rfl, rfl, rfl, rfl, rfl, rfl, rfl, rfl, rfl, rfl, rfl, trivial⟩
set_option maxRecDepth 100000 in
theorem bk54 : ∀ pc, blk 54 pc (bt54 pc) = true := fun pc => blk_if (by decide +kernel) (blk_if (by decide +kernel) (blk_if (by decide +kernel) (blk_if (by decide +kernel) (blk_if (by decide +kernel) (blk_if (by decide +kernel) (blk_if (by decide +kernel) (blk_if (by decide +kernel) (blk_if (by decide +kernel) (blk_if (by decide +kernel) (blk_if (by decide +kernel) (blk_if (by decide +kernel) (rfl))))))))))))
theorem go54 {d mc ms : Nat} {sh : List SC} {M : MM} {Post : PP} {a0 : Nat} {a1 : Int} {a2 : Int} {a3 : Int} (h : ∀ S : Nat → KK, Clo (Run d) 54 none mc ms (Rtn 54 mc ms Post) S → S 0 [some (vR a0), some (vI a1), some (vL a2), none, some (vL a3), none, none, none, none, none] [] (sh, 0, 0) M) : Run (d + 1) 54 [vR a0, vI a1, vL a2, vL a3] sh M mc ms Post := ⟨Nat.le_of_ble_eq_true rfl, h⟩
theorem rt54 {v : Int} {sh : List SC} {M : MM} {Post : PP} (h : Post (some (Sum.inr (Sum.inl v))) sh M) : Rtn 54 0 0 Post (some (Sum.inr (Sum.inl v))) (sh, 0, 0) M := ⟨Nat.le_refl _, Nat.le_refl _, trivial, h⟩
/-! 55 OwnSunday.longest -/
def bt55 (pc : Nat) : BL := if pc = 0 then [(.aload 0, 0, 1), (.iload 1, 0, 1), (.invokevirtual 75, 2, 3)] else if pc = 5 then [(.ifCond .ne 10, 0, 3)] else if pc = 8 then [(.iconst (-1), 0, 1), (.ireturn, 0, 1)] else if pc = 10 then [(.aload 0, 0, 1), (.invokevirtual 78, 1, 3)] else if pc = 14 then [(.iconst 2, 0, 1), (.aload 0, 0, 1), (.getfield 5, 5, 3), (.invokevirtual 31, 1, 3)] else if pc = 22 then [(.imul, 0, 1), (.istore 2, 0, 1), (.iconst 0, 0, 1), (.istore 3, 0, 1), (.iconst 0, 0, 1), (.istore 4, 0, 2), (.iconst 0, 0, 1), (.istore 5, 0, 2)] else if pc = 32 then [(.iload 5, 0, 2), (.iload 2, 0, 1), (.if_icmp .ge 71, 0, 3)] else if pc = 38 then [(.aload 0, 0, 1), (.iload 1, 0, 1), (.iload 5, 0, 2), (.i2l, 0, 1), (.invokevirtual 82, 3, 3)] else if pc = 46 then [(.ifCond .eq 53, 0, 3)] else if pc = 49 then [(.iconst 0, 0, 1), (.goto 56, 0, 3)] else if pc = 53 then [(.iload 3, 0, 1), (.iconst 1, 0, 1), (.iadd, 0, 1)] else if pc = 56 then [(.istore 3, 0, 1), (.iload 4, 0, 2), (.iload 3, 0, 1), (.invokestatic 1002, 99, 3), (.istore 4, 0, 2), (.iinc 5 1, 0, 3), (.goto 32, 0, 3)] else if pc = 71 then [(.iload 4, 0, 2), (.iload 2, 0, 1), (.if_icmp .ne 82, 0, 3)] else if pc = 77 then [(.iconst (-4), 0, 2), (.goto 84, 0, 3)] else if pc = 82 then [(.iload 4, 0, 2)] else if pc = 84 then [(.ireturn, 0, 1)] else []
def sp55 (pc : Nat) : Bool := [5, 14, 22, 32, 46].contains pc
theorem BT55 : bt55 0 = [(.aload 0, 0, 1), (.iload 1, 0, 1), (.invokevirtual 75, 2, 3)] ∧ bt55 5 = [(.ifCond .ne 10, 0, 3)] ∧ bt55 8 = [(.iconst (-1), 0, 1), (.ireturn, 0, 1)] ∧ bt55 10 = [(.aload 0, 0, 1), (.invokevirtual 78, 1, 3)] ∧ bt55 14 = [(.iconst 2, 0, 1), (.aload 0, 0, 1), (.getfield 5, 5, 3), (.invokevirtual 31, 1, 3)] ∧ bt55 22 = [(.imul, 0, 1), (.istore 2, 0, 1), (.iconst 0, 0, 1), (.istore 3, 0, 1), (.iconst 0, 0, 1), (.istore 4, 0, 2), (.iconst 0, 0, 1), (.istore 5, 0, 2)] ∧ bt55 32 = [(.iload 5, 0, 2), (.iload 2, 0, 1), (.if_icmp .ge 71, 0, 3)] ∧ bt55 38 = [(.aload 0, 0, 1), (.iload 1, 0, 1), (.iload 5, 0, 2), (.i2l, 0, 1), (.invokevirtual 82, 3, 3)] ∧ bt55 46 = [(.ifCond .eq 53, 0, 3)] ∧ bt55 49 = [(.iconst 0, 0, 1), (.goto 56, 0, 3)] ∧ bt55 53 = [(.iload 3, 0, 1), (.iconst 1, 0, 1), (.iadd, 0, 1)] ∧ bt55 56 = [(.istore 3, 0, 1), (.iload 4, 0, 2), (.iload 3, 0, 1), (.invokestatic 1002, 99, 3), (.istore 4, 0, 2), (.iinc 5 1, 0, 3), (.goto 32, 0, 3)] ∧ bt55 71 = [(.iload 4, 0, 2), (.iload 2, 0, 1), (.if_icmp .ne 82, 0, 3)] ∧ bt55 77 = [(.iconst (-4), 0, 2), (.goto 84, 0, 3)] ∧ bt55 82 = [(.iload 4, 0, 2)] ∧ bt55 84 = [(.ireturn, 0, 1)] ∧ True := ⟨rfl, rfl, rfl, rfl, rfl, rfl, rfl, rfl, rfl, rfl, rfl, rfl, rfl, rfl, rfl, rfl, trivial⟩
theorem SP55 : sp55 0 = false ∧ sp55 5 = true ∧ sp55 8 = false ∧ sp55 10 = false ∧ sp55 14 = true ∧ sp55 22 = true ∧ sp55 32 = true ∧ sp55 38 = false ∧ sp55 46 = true ∧ sp55 49 = false ∧ sp55 53 = false ∧ sp55 56 = false ∧ sp55 71 = false ∧ sp55 77 = false ∧ sp55 82 = false ∧ sp55 84 = false ∧ True := ⟨rfl, rfl, rfl, rfl, rfl, rfl, rfl, rfl, rfl, rfl, rfl, rfl, rfl, rfl, rfl, rfl, trivial⟩
set_option maxRecDepth 100000 in
theorem bk55 : ∀ pc, blk 55 pc (bt55 pc) = true := fun pc => blk_if (by decide +kernel) (blk_if (by decide +kernel) (blk_if (by decide +kernel) (blk_if (by decide +kernel) (blk_if (by decide +kernel) (blk_if (by decide +kernel) (blk_if (by decide +kernel) (blk_if (by decide +kernel) (blk_if (by decide +kernel) (blk_if (by decide +kernel) (blk_if (by decide +kernel) (blk_if (by decide +kernel) (blk_if (by decide +kernel) (blk_if (by decide +kernel) (blk_if (by decide +kernel) (blk_if (by decide +kernel) (rfl))))))))))))))))
theorem go55 {d mc ms : Nat} {sh : List SC} {M : MM} {Post : PP} {a0 : Nat} {a1 : Int} (h : ∀ S : Nat → KK, Clo (Run d) 55 none mc ms (Rtn 55 mc ms Post) S → S 0 [some (vR a0), some (vI a1), none, none, none, none] [] (sh, 0, 0) M) : Run (d + 1) 55 [vR a0, vI a1] sh M mc ms Post := ⟨Nat.le_of_ble_eq_true rfl, h⟩
theorem rt55 {v : Int} {sh : List SC} {M : MM} {Post : PP} (h : Post (some (Sum.inl v)) sh M) : Rtn 55 0 0 Post (some (Sum.inl v)) (sh, 0, 0) M := ⟨Nat.le_refl _, Nat.le_refl _, trivial, h⟩
/-! 56 OwnSunday.street -/
def bt56 (pc : Nat) : BL := if pc = 0 then [(.iload 1, 0, 1), (.ifCond .lt 16, 0, 3)] else if pc = 4 then [(.iload 1, 0, 1), (.iconst 4, 0, 1), (.if_icmp .ge 16, 0, 3)] else if pc = 9 then [(.lload 2, 0, 1), (.invokestatic 77, 1, 3)] else if pc = 13 then [(.ifCond .ne 20, 0, 3)] else if pc = 16 then [(.ldc2_w 0, (-1), 3), (.lreturn, 0, 1)] else if pc = 20 then [(.aload 0, 0, 1), (.getfield 5, 5, 3), (.iload 1, 0, 1), (.invokevirtual 32, 2, 3)] else if pc = 28 then [(.istore 4, 0, 2), (.iload 4, 0, 2), (.ifCond .ne 39, 0, 3)] else if pc = 35 then [(.ldc2_w 0, (-4), 3), (.lreturn, 0, 1)] else if pc = 39 then [(.aload 0, 0, 1), (.invokevirtual 78, 1, 3)] else if pc = 43 then [(.aload 0, 0, 1), (.getfield 5, 5, 3), (.invokevirtual 31, 1, 3)] else if pc = 50 then [(.istore 5, 0, 2), (.iconst 0, 0, 1), (.istore 6, 0, 2)] else if pc = 55 then [(.iload 6, 0, 2), (.iload 5, 0, 2), (.if_icmp .ge 94, 0, 3)] else if pc = 62 then [(.aload 0, 0, 1), (.getfield 9, 5, 3), (.lload 2, 0, 1), (.iload 6, 0, 2), (.i2l, 0, 1), (.ladd, 0, 1), (.invokevirtual 24, 2, 3)] else if pc = 74 then [(.iload 4, 0, 2), (.iand, 0, 1), (.iload 4, 0, 2), (.if_icmp .ne 88, 0, 3)] else if pc = 82 then [(.lload 2, 0, 1), (.iload 6, 0, 2), (.i2l, 0, 1), (.ladd, 0, 1), (.lreturn, 0, 1)] else if pc = 88 then [(.iinc 6 1, 0, 3), (.goto 55, 0, 3)] else if pc = 94 then [(.ldc2_w 0, (-4), 3), (.lreturn, 0, 1)] else []
def sp56 (pc : Nat) : Bool := [13, 28, 43, 50, 55, 74].contains pc
theorem BT56 : bt56 0 = [(.iload 1, 0, 1), (.ifCond .lt 16, 0, 3)] ∧ bt56 4 = [(.iload 1, 0, 1), (.iconst 4, 0, 1), (.if_icmp .ge 16, 0, 3)] ∧ bt56 9 = [(.lload 2, 0, 1), (.invokestatic 77, 1, 3)] ∧ bt56 13 = [(.ifCond .ne 20, 0, 3)] ∧ bt56 16 = [(.ldc2_w 0, (-1), 3), (.lreturn, 0, 1)] ∧ bt56 20 = [(.aload 0, 0, 1), (.getfield 5, 5, 3), (.iload 1, 0, 1), (.invokevirtual 32, 2, 3)] ∧ bt56 28 = [(.istore 4, 0, 2), (.iload 4, 0, 2), (.ifCond .ne 39, 0, 3)] ∧ bt56 35 = [(.ldc2_w 0, (-4), 3), (.lreturn, 0, 1)] ∧ bt56 39 = [(.aload 0, 0, 1), (.invokevirtual 78, 1, 3)] ∧ bt56 43 = [(.aload 0, 0, 1), (.getfield 5, 5, 3), (.invokevirtual 31, 1, 3)] ∧ bt56 50 = [(.istore 5, 0, 2), (.iconst 0, 0, 1), (.istore 6, 0, 2)] ∧ bt56 55 = [(.iload 6, 0, 2), (.iload 5, 0, 2), (.if_icmp .ge 94, 0, 3)] ∧ bt56 62 = [(.aload 0, 0, 1), (.getfield 9, 5, 3), (.lload 2, 0, 1), (.iload 6, 0, 2), (.i2l, 0, 1), (.ladd, 0, 1), (.invokevirtual 24, 2, 3)] ∧ bt56 74 = [(.iload 4, 0, 2), (.iand, 0, 1), (.iload 4, 0, 2), (.if_icmp .ne 88, 0, 3)] ∧ bt56 82 = [(.lload 2, 0, 1), (.iload 6, 0, 2), (.i2l, 0, 1), (.ladd, 0, 1), (.lreturn, 0, 1)] ∧ bt56 88 = [(.iinc 6 1, 0, 3), (.goto 55, 0, 3)] ∧ bt56 94 = [(.ldc2_w 0, (-4), 3), (.lreturn, 0, 1)] ∧ True := ⟨rfl, rfl, rfl, rfl, rfl, rfl, rfl, rfl, rfl, rfl, rfl, rfl, rfl, rfl, rfl, rfl, rfl, trivial⟩
theorem SP56 : sp56 0 = false ∧ sp56 4 = false ∧ sp56 9 = false ∧ sp56 13 = true ∧ sp56 16 = false ∧ sp56 20 = false ∧ sp56 28 = true ∧ sp56 35 = false ∧ sp56 39 = false ∧ sp56 43 = true ∧ sp56 50 = true ∧ sp56 55 = true ∧ sp56 62 = false ∧ sp56 74 = true ∧ sp56 82 = false ∧ sp56 88 = false ∧ sp56 94 = false ∧ True := ⟨rfl, rfl, rfl, rfl, rfl, rfl, rfl, rfl, rfl, rfl, rfl, rfl, rfl, rfl, rfl, rfl, rfl, trivial⟩
set_option maxRecDepth 100000 in
theorem bk56 : ∀ pc, blk 56 pc (bt56 pc) = true := fun pc => blk_if (by decide +kernel) (blk_if (by decide +kernel) (blk_if (by decide +kernel) (blk_if (by decide +kernel) (blk_if (by decide +kernel) (blk_if (by decide +kernel) (blk_if (by decide +kernel) (blk_if (by decide +kernel) (blk_if (by decide +kernel) (blk_if (by decide +kernel) (blk_if (by decide +kernel) (blk_if (by decide +kernel) (blk_if (by decide +kernel) (blk_if (by decide +kernel) (blk_if (by decide +kernel) (blk_if (by decide +kernel) (blk_if (by decide +kernel) (rfl)))))))))))))))))
theorem go56 {d mc ms : Nat} {sh : List SC} {M : MM} {Post : PP} {a0 : Nat} {a1 : Int} {a2 : Int} (h : ∀ S : Nat → KK, Clo (Run d) 56 none mc ms (Rtn 56 mc ms Post) S → S 0 [some (vR a0), some (vI a1), some (vL a2), none, none, none, none] [] (sh, 0, 0) M) : Run (d + 1) 56 [vR a0, vI a1, vL a2] sh M mc ms Post := ⟨Nat.le_of_ble_eq_true rfl, h⟩
theorem rt56 {v : Int} {sh : List SC} {M : MM} {Post : PP} (h : Post (some (Sum.inr (Sum.inl v))) sh M) : Rtn 56 0 0 Post (some (Sum.inr (Sum.inl v))) (sh, 0, 0) M := ⟨Nat.le_refl _, Nat.le_refl _, trivial, h⟩
/-! 57 OwnSunday.same -/
def bt57 (pc : Nat) : BL := if pc = 0 then [(.iload 1, 0, 1), (.ifCond .lt 9, 0, 3)] else if pc = 4 then [(.iload 1, 0, 1), (.iconst 1, 0, 1), (.if_icmp .le 11, 0, 3)] else if pc = 9 then [(.iconst (-1), 0, 1), (.ireturn, 0, 1)] else if pc = 11 then [(.aload 0, 0, 1), (.invokevirtual 78, 1, 3)] else if pc = 15 then [(.aload 0, 0, 1), (.getfield 9, 5, 3), (.iconst 1023, 0, 3), (.invokevirtual 25, 2, 3)] else if pc = 25 then [(.istore 2, 0, 1), (.iload 1, 0, 1), (.ifCond .ne 34, 0, 3)] else if pc = 30 then [(.iload 2, 0, 1), (.goto 39, 0, 3)] else if pc = 34 then [(.aload 0, 0, 1), (.iload 2, 0, 1), (.invokevirtual 87, 2, 3)] else if pc = 39 then [(.ireturn, 0, 1)] else []
def sp57 (pc : Nat) : Bool := [15, 25, 39].contains pc
theorem BT57 : bt57 0 = [(.iload 1, 0, 1), (.ifCond .lt 9, 0, 3)] ∧ bt57 4 = [(.iload 1, 0, 1), (.iconst 1, 0, 1), (.if_icmp .le 11, 0, 3)] ∧ bt57 9 = [(.iconst (-1), 0, 1), (.ireturn, 0, 1)] ∧ bt57 11 = [(.aload 0, 0, 1), (.invokevirtual 78, 1, 3)] ∧ bt57 15 = [(.aload 0, 0, 1), (.getfield 9, 5, 3), (.iconst 1023, 0, 3), (.invokevirtual 25, 2, 3)] ∧ bt57 25 = [(.istore 2, 0, 1), (.iload 1, 0, 1), (.ifCond .ne 34, 0, 3)] ∧ bt57 30 = [(.iload 2, 0, 1), (.goto 39, 0, 3)] ∧ bt57 34 = [(.aload 0, 0, 1), (.iload 2, 0, 1), (.invokevirtual 87, 2, 3)] ∧ bt57 39 = [(.ireturn, 0, 1)] ∧ True := ⟨rfl, rfl, rfl, rfl, rfl, rfl, rfl, rfl, rfl, trivial⟩
theorem SP57 : sp57 0 = false ∧ sp57 4 = false ∧ sp57 9 = false ∧ sp57 11 = false ∧ sp57 15 = true ∧ sp57 25 = true ∧ sp57 30 = false ∧ sp57 34 = false ∧ sp57 39 = true ∧ True := ⟨rfl, rfl, rfl, rfl, rfl, rfl, rfl, rfl, rfl, trivial⟩
set_option maxRecDepth 100000 in
theorem bk57 : ∀ pc, blk 57 pc (bt57 pc) = true := fun pc => blk_if (by decide +kernel) (blk_if (by decide +kernel) (blk_if (by decide +kernel) (blk_if (by decide +kernel) (blk_if (by decide +kernel) (blk_if (by decide +kernel) (blk_if (by decide +kernel) (blk_if (by decide +kernel) (blk_if (by decide +kernel) (rfl)))))))))
theorem go57 {d mc ms : Nat} {sh : List SC} {M : MM} {Post : PP} {a0 : Nat} {a1 : Int} (h : ∀ S : Nat → KK, Clo (Run d) 57 none mc ms (Rtn 57 mc ms Post) S → S 0 [some (vR a0), some (vI a1), none] [] (sh, 0, 0) M) : Run (d + 1) 57 [vR a0, vI a1] sh M mc ms Post := ⟨Nat.le_of_ble_eq_true rfl, h⟩
theorem rt57 {v : Int} {sh : List SC} {M : MM} {Post : PP} (h : Post (some (Sum.inl v)) sh M) : Rtn 57 0 0 Post (some (Sum.inl v)) (sh, 0, 0) M := ⟨Nat.le_refl _, Nat.le_refl _, trivial, h⟩
/-! 58 OwnSunday.harvest -/
def bt58 (pc : Nat) : BL := if pc = 0 then [(.iload 1, 0, 1), (.invokestatic 76, 1, 3)] else if pc = 4 then [(.ifCond .eq 30, 0, 3)] else if pc = 7 then [(.lload 2, 0, 1), (.invokestatic 77, 1, 3)] else if pc = 11 then [(.ifCond .eq 30, 0, 3)] else if pc = 14 then [(.lload 4, 0, 2), (.ldc2_w 0, 1, 1), (.lcmp, 0, 1), (.ifCond .lt 30, 0, 3)] else if pc = 21 then [(.lload 4, 0, 2), (.ldc2_w 0, 1000000000000, 3), (.lcmp, 0, 1), (.ifCond .le 34, 0, 3)] else if pc = 30 then [(.ldc2_w 0, (-1), 3), (.lreturn, 0, 1)] else if pc = 34 then [(.aload 0, 0, 1), (.invokevirtual 78, 1, 3)] else if pc = 38 then [(.aload 0, 0, 1), (.getfield 5, 5, 3), (.invokevirtual 31, 1, 3)] else if pc = 45 then [(.istore 6, 0, 2), (.ldc2_w 0, 0, 1), (.lstore 7, 0, 2), (.iconst 0, 0, 1), (.istore 9, 0, 2)] else if pc = 53 then [(.iload 9, 0, 2), (.iload 6, 0, 2), (.if_icmp .ge 82, 0, 3)] else if pc = 60 then [(.lload 7, 0, 2), (.aload 0, 0, 1), (.iload 1, 0, 1), (.lload 2, 0, 1), (.iload 9, 0, 2), (.i2l, 0, 1), (.ladd, 0, 1), (.invokevirtual 81, 3, 3)] else if pc = 72 then [(.i2l, 0, 1), (.ladd, 0, 1), (.lstore 7, 0, 2), (.iinc 9 1, 0, 3), (.goto 53, 0, 3)] else if pc = 82 then [(.lload 7, 0, 2), (.ldc2_w 0, 1, 1), (.lcmp, 0, 1), (.ifCond .ge 93, 0, 3)] else if pc = 89 then [(.ldc2_w 0, (-4), 3), (.lreturn, 0, 1)] else if pc = 93 then [(.lload 4, 0, 2), (.ldc2_w 0, 1, 1), (.lsub, 0, 1), (.lload 7, 0, 2), (.ldiv, 0, 1), (.lstore 9, 0, 2), (.lload 9, 0, 2), (.iload 6, 0, 2), (.i2l, 0, 1), (.lmul, 0, 1), (.aload 0, 0, 1), (.iload 1, 0, 1), (.lload 2, 0, 1), (.lload 4, 0, 2), (.lload 9, 0, 2), (.lload 7, 0, 2), (.lmul, 0, 1), (.lsub, 0, 1), (.invokevirtual 88, 4, 3)] else if pc = 122 then [(.i2l, 0, 1), (.ladd, 0, 1), (.lreturn, 0, 1)] else []
def sp58 (pc : Nat) : Bool := [4, 11, 38, 45, 53, 72, 122].contains pc
theorem BT58 : bt58 0 = [(.iload 1, 0, 1), (.invokestatic 76, 1, 3)] ∧ bt58 4 = [(.ifCond .eq 30, 0, 3)] ∧ bt58 7 = [(.lload 2, 0, 1), (.invokestatic 77, 1, 3)] ∧ bt58 11 = [(.ifCond .eq 30, 0, 3)] ∧ bt58 14 = [(.lload 4, 0, 2), (.ldc2_w 0, 1, 1), (.lcmp, 0, 1), (.ifCond .lt 30, 0, 3)] ∧ bt58 21 = [(.lload 4, 0, 2), (.ldc2_w 0, 1000000000000, 3), (.lcmp, 0, 1), (.ifCond .le 34, 0, 3)] ∧ bt58 30 = [(.ldc2_w 0, (-1), 3), (.lreturn, 0, 1)] ∧ bt58 34 = [(.aload 0, 0, 1), (.invokevirtual 78, 1, 3)] ∧ bt58 38 = [(.aload 0, 0, 1), (.getfield 5, 5, 3), (.invokevirtual 31, 1, 3)] ∧ bt58 45 = [(.istore 6, 0, 2), (.ldc2_w 0, 0, 1), (.lstore 7, 0, 2), (.iconst 0, 0, 1), (.istore 9, 0, 2)] ∧ bt58 53 = [(.iload 9, 0, 2), (.iload 6, 0, 2), (.if_icmp .ge 82, 0, 3)] ∧ bt58 60 = [(.lload 7, 0, 2), (.aload 0, 0, 1), (.iload 1, 0, 1), (.lload 2, 0, 1), (.iload 9, 0, 2), (.i2l, 0, 1), (.ladd, 0, 1), (.invokevirtual 81, 3, 3)] ∧ bt58 72 = [(.i2l, 0, 1), (.ladd, 0, 1), (.lstore 7, 0, 2), (.iinc 9 1, 0, 3), (.goto 53, 0, 3)] ∧ bt58 82 = [(.lload 7, 0, 2), (.ldc2_w 0, 1, 1), (.lcmp, 0, 1), (.ifCond .ge 93, 0, 3)] ∧ bt58 89 = [(.ldc2_w 0, (-4), 3), (.lreturn, 0, 1)] ∧ bt58 93 = [(.lload 4, 0, 2), (.ldc2_w 0, 1, 1), (.lsub, 0, 1), (.lload 7, 0, 2), (.ldiv, 0, 1), (.lstore 9, 0, 2), (.lload 9, 0, 2), (.iload 6, 0, 2), (.i2l, 0, 1), (.lmul, 0, 1), (.aload 0, 0, 1), (.iload 1, 0, 1), (.lload 2, 0, 1), (.lload 4, 0, 2), (.lload 9, 0, 2), (.lload 7, 0, 2), (.lmul, 0, 1), (.lsub, 0, 1), (.invokevirtual 88, 4, 3)] ∧ bt58 122 = [(.i2l, 0, 1), (.ladd, 0, 1), (.lreturn, 0, 1)] ∧ True := ⟨rfl, rfl, rfl, rfl, rfl, rfl, rfl, rfl, rfl, rfl, rfl, rfl, rfl, rfl, rfl, rfl, rfl, trivial⟩
theorem SP58 : sp58 0 = false ∧ sp58 4 = true ∧ sp58 7 = false ∧ sp58 11 = true ∧ sp58 14 = false ∧ sp58 21 = false ∧ sp58 30 = false ∧ sp58 34 = false ∧ sp58 38 = true ∧ sp58 45 = true ∧ sp58 53 = true ∧ sp58 60 = false ∧ sp58 72 = true ∧ sp58 82 = false ∧ sp58 89 = false ∧ sp58 93 = false ∧ sp58 122 = true ∧ True := ⟨rfl, rfl, rfl, rfl, rfl, rfl, rfl, rfl, rfl, rfl, rfl, rfl, rfl, rfl, rfl, rfl, rfl, trivial⟩
set_option maxRecDepth 100000 in
theorem bk58 : ∀ pc, blk 58 pc (bt58 pc) = true := fun pc => blk_if (by decide +kernel) (blk_if (by decide +kernel) (blk_if (by decide +kernel) (blk_if (by decide +kernel) (blk_if (by decide +kernel) (blk_if (by decide +kernel) (blk_if (by decide +kernel) (blk_if (by decide +kernel) (blk_if (by decide +kernel) (blk_if (by decide +kernel) (blk_if (by decide +kernel) (blk_if (by decide +kernel) (blk_if (by decide +kernel) (blk_if (by decide +kernel) (blk_if (by decide +kernel) (blk_if (by decide +kernel) (blk_if (by decide +kernel) (rfl)))))))))))))))))
theorem go58 {d mc ms : Nat} {sh : List SC} {M : MM} {Post : PP} {a0 : Nat} {a1 : Int} {a2 : Int} {a3 : Int} (h : ∀ S : Nat → KK, Clo (Run d) 58 none mc ms (Rtn 58 mc ms Post) S → S 0 [some (vR a0), some (vI a1), some (vL a2), none, some (vL a3), none, none, none, none, none, none] [] (sh, 0, 0) M) : Run (d + 1) 58 [vR a0, vI a1, vL a2, vL a3] sh M mc ms Post := ⟨Nat.le_of_ble_eq_true rfl, h⟩
theorem rt58 {v : Int} {sh : List SC} {M : MM} {Post : PP} (h : Post (some (Sum.inr (Sum.inl v))) sh M) : Rtn 58 0 0 Post (some (Sum.inr (Sum.inl v))) (sh, 0, 0) M := ⟨Nat.le_refl _, Nat.le_refl _, trivial, h⟩
/-! 59 OwnSunday.settled -/
def bt59 (pc : Nat) : BL := if pc = 0 then [(.iload 1, 0, 1), (.iconst (-1), 0, 1), (.if_icmp .eq 21, 0, 3)] else if pc = 5 then [(.iload 1, 0, 1), (.iconst (-2), 0, 2), (.if_icmp .eq 21, 0, 3)] else if pc = 11 then [(.aload 0, 0, 1), (.iload 1, 0, 1), (.invokevirtual 73, 2, 3)] else if pc = 16 then [(.ifCond .ne 21, 0, 3)] else if pc = 19 then [(.iconst (-1), 0, 1), (.ireturn, 0, 1)] else if pc = 21 then [(.aload 0, 0, 1), (.invokevirtual 92, 1, 3)] else if pc = 25 then [(.iload 1, 0, 1), (.iconst (-1), 0, 1), (.if_icmp .ne 38, 0, 3)] else if pc = 30 then [(.aload 0, 0, 1), (.getfield 10, 5, 3), (.getfield 6, 4, 3), (.ireturn, 0, 1)] else if pc = 38 then [(.aload 0, 0, 1), (.getfield 10, 5, 3), (.getfield 6, 4, 3), (.ifCond .ne 51, 0, 3)] else if pc = 48 then [(.iconst (-4), 0, 2), (.ireturn, 0, 1)] else if pc = 51 then [(.iload 1, 0, 1), (.iconst (-2), 0, 2), (.if_icmp .ne 67, 0, 3)] else if pc = 57 then [(.aload 0, 0, 1), (.getfield 10, 5, 3), (.getfield 7, 4, 3), (.goto 75, 0, 3)] else if pc = 67 then [(.aload 0, 0, 1), (.getfield 10, 5, 3), (.iload 1, 0, 1), (.invokevirtual 40, 2, 3)] else if pc = 75 then [(.ireturn, 0, 1)] else []
def sp59 (pc : Nat) : Bool := [16, 25, 75].contains pc
theorem BT59 : bt59 0 = [(.iload 1, 0, 1), (.iconst (-1), 0, 1), (.if_icmp .eq 21, 0, 3)] ∧ bt59 5 = [(.iload 1, 0, 1), (.iconst (-2), 0, 2), (.if_icmp .eq 21, 0, 3)] ∧ bt59 11 = [(.aload 0, 0, 1), (.iload 1, 0, 1), (.invokevirtual 73, 2, 3)] ∧ bt59 16 = [(.ifCond .ne 21, 0, 3)] ∧ bt59 19 = [(.iconst (-1), 0, 1), (.ireturn, 0, 1)] ∧ bt59 21 = [(.aload 0, 0, 1), (.invokevirtual 92, 1, 3)] ∧ bt59 25 = [(.iload 1, 0, 1), (.iconst (-1), 0, 1), (.if_icmp .ne 38, 0, 3)] ∧ bt59 30 = [(.aload 0, 0, 1), (.getfield 10, 5, 3), (.getfield 6, 4, 3), (.ireturn, 0, 1)] ∧ bt59 38 = [(.aload 0, 0, 1), (.getfield 10, 5, 3), (.getfield 6, 4, 3), (.ifCond .ne 51, 0, 3)] ∧ bt59 48 = [(.iconst (-4), 0, 2), (.ireturn, 0, 1)] ∧ bt59 51 = [(.iload 1, 0, 1), (.iconst (-2), 0, 2), (.if_icmp .ne 67, 0, 3)] ∧ bt59 57 = [(.aload 0, 0, 1), (.getfield 10, 5, 3), (.getfield 7, 4, 3), (.goto 75, 0, 3)] ∧ bt59 67 = [(.aload 0, 0, 1), (.getfield 10, 5, 3), (.iload 1, 0, 1), (.invokevirtual 40, 2, 3)] ∧ bt59 75 = [(.ireturn, 0, 1)] ∧ True := ⟨rfl, rfl, rfl, rfl, rfl, rfl, rfl, rfl, rfl, rfl, rfl, rfl, rfl, rfl, trivial⟩
theorem SP59 : sp59 0 = false ∧ sp59 5 = false ∧ sp59 11 = false ∧ sp59 16 = true ∧ sp59 19 = false ∧ sp59 21 = false ∧ sp59 25 = true ∧ sp59 30 = false ∧ sp59 38 = false ∧ sp59 48 = false ∧ sp59 51 = false ∧ sp59 57 = false ∧ sp59 67 = false ∧ sp59 75 = true ∧ True := ⟨rfl, rfl, rfl, rfl, rfl, rfl, rfl, rfl, rfl, rfl, rfl, rfl, rfl, rfl, trivial⟩
set_option maxRecDepth 100000 in
theorem bk59 : ∀ pc, blk 59 pc (bt59 pc) = true := fun pc => blk_if (by decide +kernel) (blk_if (by decide +kernel) (blk_if (by decide +kernel) (blk_if (by decide +kernel) (blk_if (by decide +kernel) (blk_if (by decide +kernel) (blk_if (by decide +kernel) (blk_if (by decide +kernel) (blk_if (by decide +kernel) (blk_if (by decide +kernel) (blk_if (by decide +kernel) (blk_if (by decide +kernel) (blk_if (by decide +kernel) (blk_if (by decide +kernel) (rfl))))))))))))))
theorem go59 {d mc ms : Nat} {sh : List SC} {M : MM} {Post : PP} {a0 : Nat} {a1 : Int} (h : ∀ S : Nat → KK, Clo (Run d) 59 none mc ms (Rtn 59 mc ms Post) S → S 0 [some (vR a0), some (vI a1)] [] (sh, 0, 0) M) : Run (d + 1) 59 [vR a0, vI a1] sh M mc ms Post := ⟨Nat.le_of_ble_eq_true rfl, h⟩
theorem rt59 {v : Int} {sh : List SC} {M : MM} {Post : PP} (h : Post (some (Sum.inl v)) sh M) : Rtn 59 0 0 Post (some (Sum.inl v)) (sh, 0, 0) M := ⟨Nat.le_refl _, Nat.le_refl _, trivial, h⟩
/-! 60 OwnSunday.years -/
def bt60 (pc : Nat) : BL := if pc = 0 then [(.aload 0, 0, 1), (.iload 1, 0, 1), (.invokevirtual 74, 2, 3)] else if pc = 5 then [(.ifCond .eq 21, 0, 3)] else if pc = 8 then [(.iload 2, 0, 1), (.ifCond .lt 21, 0, 3)] else if pc = 12 then [(.iload 2, 0, 1), (.aload 0, 0, 1), (.getfield 11, 5, 3), (.arraylength, 0, 1), (.if_icmp .lt 23, 0, 3)] else if pc = 21 then [(.iconst (-1), 0, 1), (.ireturn, 0, 1)] else if pc = 23 then [(.aload 0, 0, 1), (.iload 1, 0, 1), (.invokevirtual 95, 2, 3)] else if pc = 28 then [(.aload 0, 0, 1), (.getfield 11, 5, 3), (.iload 2, 0, 1), (.iaload, 0, 1), (.ireturn, 0, 1)] else []
def sp60 (pc : Nat) : Bool := [5, 28].contains pc
theorem BT60 : bt60 0 = [(.aload 0, 0, 1), (.iload 1, 0, 1), (.invokevirtual 74, 2, 3)] ∧ bt60 5 = [(.ifCond .eq 21, 0, 3)] ∧ bt60 8 = [(.iload 2, 0, 1), (.ifCond .lt 21, 0, 3)] ∧ bt60 12 = [(.iload 2, 0, 1), (.aload 0, 0, 1), (.getfield 11, 5, 3), (.arraylength, 0, 1), (.if_icmp .lt 23, 0, 3)] ∧ bt60 21 = [(.iconst (-1), 0, 1), (.ireturn, 0, 1)] ∧ bt60 23 = [(.aload 0, 0, 1), (.iload 1, 0, 1), (.invokevirtual 95, 2, 3)] ∧ bt60 28 = [(.aload 0, 0, 1), (.getfield 11, 5, 3), (.iload 2, 0, 1), (.iaload, 0, 1), (.ireturn, 0, 1)] ∧ True := ⟨rfl, rfl, rfl, rfl, rfl, rfl, rfl, trivial⟩
theorem SP60 : sp60 0 = false ∧ sp60 5 = true ∧ sp60 8 = false ∧ sp60 12 = false ∧ sp60 21 = false ∧ sp60 23 = false ∧ sp60 28 = true ∧ True := ⟨rfl, rfl, rfl, rfl, rfl, rfl, rfl, trivial⟩
set_option maxRecDepth 100000 in
theorem bk60 : ∀ pc, blk 60 pc (bt60 pc) = true := fun pc => blk_if (by decide +kernel) (blk_if (by decide +kernel) (blk_if (by decide +kernel) (blk_if (by decide +kernel) (blk_if (by decide +kernel) (blk_if (by decide +kernel) (blk_if (by decide +kernel) (rfl)))))))
theorem go60 {d mc ms : Nat} {sh : List SC} {M : MM} {Post : PP} {a0 : Nat} {a1 : Int} {a2 : Int} (h : ∀ S : Nat → KK, Clo (Run d) 60 none mc ms (Rtn 60 mc ms Post) S → S 0 [some (vR a0), some (vI a1), some (vI a2)] [] (sh, 0, 0) M) : Run (d + 1) 60 [vR a0, vI a1, vI a2] sh M mc ms Post := ⟨Nat.le_of_ble_eq_true rfl, h⟩
theorem rt60 {v : Int} {sh : List SC} {M : MM} {Post : PP} (h : Post (some (Sum.inl v)) sh M) : Rtn 60 0 0 Post (some (Sum.inl v)) (sh, 0, 0) M := ⟨Nat.le_refl _, Nat.le_refl _, trivial, h⟩
/-! 61 OwnSunday.wedding -/
def bt61 (pc : Nat) : BL := if pc = 0 then [(.aload 0, 0, 1), (.iload 1, 0, 1), (.invokevirtual 72, 2, 3)] else if pc = 5 then [(.ifCond .eq 30, 0, 3)] else if pc = 8 then [(.aload 0, 0, 1), (.iload 2, 0, 1), (.invokevirtual 72, 2, 3)] else if pc = 13 then [(.ifCond .eq 30, 0, 3)] else if pc = 16 then [(.iload 1, 0, 1), (.iload 2, 0, 1), (.if_icmp .eq 30, 0, 3)] else if pc = 21 then [(.iload 3, 0, 1), (.ifCond .lt 30, 0, 3)] else if pc = 25 then [(.iload 3, 0, 1), (.iconst 1, 0, 1), (.if_icmp .le 32, 0, 3)] else if pc = 30 then [(.iconst (-1), 0, 1), (.ireturn, 0, 1)] else if pc = 32 then [(.aload 0, 0, 1), (.iload 1, 0, 1), (.iload 2, 0, 1), (.iload 1, 0, 1), (.invokevirtual 91, 4, 3)] else if pc = 39 then [(.istore 4, 0, 2), (.aload 0, 0, 1), (.iload 1, 0, 1), (.iload 2, 0, 1), (.iload 2, 0, 1), (.invokevirtual 91, 4, 3)] else if pc = 48 then [(.istore 5, 0, 2), (.iload 3, 0, 1), (.ifCond .ne 62, 0, 3)] else if pc = 54 then [(.iload 4, 0, 2), (.iload 5, 0, 2), (.invokestatic 1003, 99, 3), (.ireturn, 0, 1)] else if pc = 62 then [(.iload 5, 0, 2), (.iload 4, 0, 2), (.if_icmp .ge 73, 0, 3)] else if pc = 69 then [(.iconst 1, 0, 1), (.goto 74, 0, 3)] else if pc = 73 then [(.iconst 0, 0, 1)] else if pc = 74 then [(.ireturn, 0, 1)] else []
def sp61 (pc : Nat) : Bool := [5, 13, 39, 48].contains pc
theorem BT61 : bt61 0 = [(.aload 0, 0, 1), (.iload 1, 0, 1), (.invokevirtual 72, 2, 3)] ∧ bt61 5 = [(.ifCond .eq 30, 0, 3)] ∧ bt61 8 = [(.aload 0, 0, 1), (.iload 2, 0, 1), (.invokevirtual 72, 2, 3)] ∧ bt61 13 = [(.ifCond .eq 30, 0, 3)] ∧ bt61 16 = [(.iload 1, 0, 1), (.iload 2, 0, 1), (.if_icmp .eq 30, 0, 3)] ∧ bt61 21 = [(.iload 3, 0, 1), (.ifCond .lt 30, 0, 3)] ∧ bt61 25 = [(.iload 3, 0, 1), (.iconst 1, 0, 1), (.if_icmp .le 32, 0, 3)] ∧ bt61 30 = [(.iconst (-1), 0, 1), (.ireturn, 0, 1)] ∧ bt61 32 = [(.aload 0, 0, 1), (.iload 1, 0, 1), (.iload 2, 0, 1), (.iload 1, 0, 1), (.invokevirtual 91, 4, 3)] ∧ bt61 39 = [(.istore 4, 0, 2), (.aload 0, 0, 1), (.iload 1, 0, 1), (.iload 2, 0, 1), (.iload 2, 0, 1), (.invokevirtual 91, 4, 3)] ∧ bt61 48 = [(.istore 5, 0, 2), (.iload 3, 0, 1), (.ifCond .ne 62, 0, 3)] ∧ bt61 54 = [(.iload 4, 0, 2), (.iload 5, 0, 2), (.invokestatic 1003, 99, 3), (.ireturn, 0, 1)] ∧ bt61 62 = [(.iload 5, 0, 2), (.iload 4, 0, 2), (.if_icmp .ge 73, 0, 3)] ∧ bt61 69 = [(.iconst 1, 0, 1), (.goto 74, 0, 3)] ∧ bt61 73 = [(.iconst 0, 0, 1)] ∧ bt61 74 = [(.ireturn, 0, 1)] ∧ True := ⟨rfl, rfl, rfl, rfl, rfl, rfl, rfl, rfl, rfl, rfl, rfl, rfl, rfl, rfl, rfl, rfl, trivial⟩
theorem SP61 : sp61 0 = false ∧ sp61 5 = true ∧ sp61 8 = false ∧ sp61 13 = true ∧ sp61 16 = false ∧ sp61 21 = false ∧ sp61 25 = false ∧ sp61 30 = false ∧ sp61 32 = false ∧ sp61 39 = true ∧ sp61 48 = true ∧ sp61 54 = false ∧ sp61 62 = false ∧ sp61 69 = false ∧ sp61 73 = false ∧ sp61 74 = false ∧ True := ⟨rfl, rfl, rfl, rfl, rfl, rfl, rfl, rfl, rfl, rfl, rfl, rfl, rfl, rfl, rfl, rfl, trivial⟩
set_option maxRecDepth 100000 in
theorem bk61 : ∀ pc, blk 61 pc (bt61 pc) = true := fun pc => blk_if (by decide +kernel) (blk_if (by decide +kernel) (blk_if (by decide +kernel) (blk_if (by decide +kernel) (blk_if (by decide +kernel) (blk_if (by decide +kernel) (blk_if (by decide +kernel) (blk_if (by decide +kernel) (blk_if (by decide +kernel) (blk_if (by decide +kernel) (blk_if (by decide +kernel) (blk_if (by decide +kernel) (blk_if (by decide +kernel) (blk_if (by decide +kernel) (blk_if (by decide +kernel) (blk_if (by decide +kernel) (rfl))))))))))))))))
theorem go61 {d mc ms : Nat} {sh : List SC} {M : MM} {Post : PP} {a0 : Nat} {a1 : Int} {a2 : Int} {a3 : Int} (h : ∀ S : Nat → KK, Clo (Run d) 61 none mc ms (Rtn 61 mc ms Post) S → S 0 [some (vR a0), some (vI a1), some (vI a2), some (vI a3), none, none] [] (sh, 0, 0) M) : Run (d + 1) 61 [vR a0, vI a1, vI a2, vI a3] sh M mc ms Post := ⟨Nat.le_of_ble_eq_true rfl, h⟩
theorem rt61 {v : Int} {sh : List SC} {M : MM} {Post : PP} (h : Post (some (Sum.inl v)) sh M) : Rtn 61 0 0 Post (some (Sum.inl v)) (sh, 0, 0) M := ⟨Nat.le_refl _, Nat.le_refl _, trivial, h⟩
/-! 62 OwnSunday.seen -/
def bt62 (pc : Nat) : BL := if pc = 0 then [(.lload 1, 0, 1), (.invokestatic 77, 1, 3)] else if pc = 4 then [(.ifCond .eq 15, 0, 3)] else if pc = 7 then [(.aload 0, 0, 1), (.iload 3, 0, 1), (.invokevirtual 74, 2, 3)] else if pc = 12 then [(.ifCond .ne 17, 0, 3)] else if pc = 15 then [(.iconst (-1), 0, 1), (.ireturn, 0, 1)] else if pc = 17 then [(.aload 0, 0, 1), (.getfield 6, 5, 3), (.getfield 3, 0, 3), (.iconst 20, 0, 2), (.if_icmp .lt 32, 0, 3)] else if pc = 29 then [(.iconst (-3), 0, 2), (.ireturn, 0, 1)] else if pc = 32 then [(.aload 0, 0, 1), (.getfield 6, 5, 3), (.lload 1, 0, 1), (.iload 3, 0, 1), (.iload 4, 0, 2), (.invokevirtual 5, 4, 3)] else if pc = 43 then [(.aload 0, 0, 1), (.getfield 6, 5, 3), (.getfield 3, 0, 3), (.ireturn, 0, 1)] else []
def sp62 (pc : Nat) : Bool := [4, 12, 43].contains pc
theorem BT62 : bt62 0 = [(.lload 1, 0, 1), (.invokestatic 77, 1, 3)] ∧ bt62 4 = [(.ifCond .eq 15, 0, 3)] ∧ bt62 7 = [(.aload 0, 0, 1), (.iload 3, 0, 1), (.invokevirtual 74, 2, 3)] ∧ bt62 12 = [(.ifCond .ne 17, 0, 3)] ∧ bt62 15 = [(.iconst (-1), 0, 1), (.ireturn, 0, 1)] ∧ bt62 17 = [(.aload 0, 0, 1), (.getfield 6, 5, 3), (.getfield 3, 0, 3), (.iconst 20, 0, 2), (.if_icmp .lt 32, 0, 3)] ∧ bt62 29 = [(.iconst (-3), 0, 2), (.ireturn, 0, 1)] ∧ bt62 32 = [(.aload 0, 0, 1), (.getfield 6, 5, 3), (.lload 1, 0, 1), (.iload 3, 0, 1), (.iload 4, 0, 2), (.invokevirtual 5, 4, 3)] ∧ bt62 43 = [(.aload 0, 0, 1), (.getfield 6, 5, 3), (.getfield 3, 0, 3), (.ireturn, 0, 1)] ∧ True := ⟨rfl, rfl, rfl, rfl, rfl, rfl, rfl, rfl, rfl, trivial⟩
theorem SP62 : sp62 0 = false ∧ sp62 4 = true ∧ sp62 7 = false ∧ sp62 12 = true ∧ sp62 15 = false ∧ sp62 17 = false ∧ sp62 29 = false ∧ sp62 32 = false ∧ sp62 43 = true ∧ True := ⟨rfl, rfl, rfl, rfl, rfl, rfl, rfl, rfl, rfl, trivial⟩
set_option maxRecDepth 100000 in
theorem bk62 : ∀ pc, blk 62 pc (bt62 pc) = true := fun pc => blk_if (by decide +kernel) (blk_if (by decide +kernel) (blk_if (by decide +kernel) (blk_if (by decide +kernel) (blk_if (by decide +kernel) (blk_if (by decide +kernel) (blk_if (by decide +kernel) (blk_if (by decide +kernel) (blk_if (by decide +kernel) (rfl)))))))))
theorem go62 {d mc ms : Nat} {sh : List SC} {M : MM} {Post : PP} {a0 : Nat} {a1 : Int} {a2 : Int} {a3 : Int} (h : ∀ S : Nat → KK, Clo (Run d) 62 none mc ms (Rtn 62 mc ms Post) S → S 0 [some (vR a0), some (vL a1), none, some (vI a2), some (vI a3)] [] (sh, 0, 0) M) : Run (d + 1) 62 [vR a0, vL a1, vI a2, vI a3] sh M mc ms Post := ⟨Nat.le_of_ble_eq_true rfl, h⟩
theorem rt62 {v : Int} {sh : List SC} {M : MM} {Post : PP} (h : Post (some (Sum.inl v)) sh M) : Rtn 62 0 0 Post (some (Sum.inl v)) (sh, 0, 0) M := ⟨Nat.le_refl _, Nat.le_refl _, trivial, h⟩
/-! 63 OwnSunday.forget -/
def bt63 (pc : Nat) : BL := if pc = 0 then [(.aload 0, 0, 1), (.getfield 6, 5, 3), (.getfield 3, 0, 3), (.istore 1, 0, 1), (.aload 0, 0, 1), (.getfield 6, 5, 3), (.iconst 0, 0, 1), (.putfield 3, 0, 3), (.iload 1, 0, 1), (.ireturn, 0, 1)] else []
def sp63 (pc : Nat) : Bool := [].contains pc
theorem BT63 : bt63 0 = [(.aload 0, 0, 1), (.getfield 6, 5, 3), (.getfield 3, 0, 3), (.istore 1, 0, 1), (.aload 0, 0, 1), (.getfield 6, 5, 3), (.iconst 0, 0, 1), (.putfield 3, 0, 3), (.iload 1, 0, 1), (.ireturn, 0, 1)] ∧ True := ⟨rfl, trivial⟩
theorem SP63 : sp63 0 = false ∧ True := ⟨rfl, trivial⟩
set_option maxRecDepth 100000 in
theorem bk63 : ∀ pc, blk 63 pc (bt63 pc) = true := fun pc => blk_if (by decide +kernel) (rfl)
theorem go63 {d mc ms : Nat} {sh : List SC} {M : MM} {Post : PP} {a0 : Nat} (h : ∀ S : Nat → KK, Clo (Run d) 63 none mc ms (Rtn 63 mc ms Post) S → S 0 [some (vR a0), none] [] (sh, 0, 0) M) : Run (d + 1) 63 [vR a0] sh M mc ms Post := ⟨Nat.le_of_ble_eq_true rfl, h⟩
theorem rt63 {v : Int} {sh : List SC} {M : MM} {Post : PP} (h : Post (some (Sum.inl v)) sh M) : Rtn 63 0 0 Post (some (Sum.inl v)) (sh, 0, 0) M := ⟨Nat.le_refl _, Nat.le_refl _, trivial, h⟩
/-! 64 OwnSunday.fits -/
def bt64 (pc : Nat) : BL := if pc = 0 then [(.iload 1, 0, 1), (.iconst (-1), 0, 1), (.if_icmp .eq 15, 0, 3)] else if pc = 5 then [(.aload 0, 0, 1), (.iload 1, 0, 1), (.invokevirtual 73, 2, 3)] else if pc = 10 then [(.ifCond .ne 15, 0, 3)] else if pc = 13 then [(.iconst (-1), 0, 1), (.ireturn, 0, 1)] else if pc = 15 then [(.aload 0, 0, 1), (.invokevirtual 93, 1, 3)] else if pc = 19 then [(.iload 1, 0, 1), (.iconst (-1), 0, 1), (.if_icmp .ne 32, 0, 3)] else if pc = 24 then [(.aload 0, 0, 1), (.getfield 10, 5, 3), (.getfield 6, 4, 3), (.ireturn, 0, 1)] else if pc = 32 then [(.aload 0, 0, 1), (.getfield 10, 5, 3), (.getfield 6, 4, 3), (.ifCond .ne 45, 0, 3)] else if pc = 42 then [(.iconst (-4), 0, 2), (.ireturn, 0, 1)] else if pc = 45 then [(.iload 2, 0, 1), (.ifCond .eq 60, 0, 3)] else if pc = 49 then [(.aload 0, 0, 1), (.getfield 10, 5, 3), (.iload 1, 0, 1), (.invokevirtual 41, 2, 3)] else if pc = 57 then [(.goto 68, 0, 3)] else if pc = 60 then [(.aload 0, 0, 1), (.getfield 10, 5, 3), (.iload 1, 0, 1), (.invokevirtual 40, 2, 3)] else if pc = 68 then [(.ireturn, 0, 1)] else []
def sp64 (pc : Nat) : Bool := [10, 19, 57, 68].contains pc
theorem BT64 : bt64 0 = [(.iload 1, 0, 1), (.iconst (-1), 0, 1), (.if_icmp .eq 15, 0, 3)] ∧ bt64 5 = [(.aload 0, 0, 1), (.iload 1, 0, 1), (.invokevirtual 73, 2, 3)] ∧ bt64 10 = [(.ifCond .ne 15, 0, 3)] ∧ bt64 13 = [(.iconst (-1), 0, 1), (.ireturn, 0, 1)] ∧ bt64 15 = [(.aload 0, 0, 1), (.invokevirtual 93, 1, 3)] ∧ bt64 19 = [(.iload 1, 0, 1), (.iconst (-1), 0, 1), (.if_icmp .ne 32, 0, 3)] ∧ bt64 24 = [(.aload 0, 0, 1), (.getfield 10, 5, 3), (.getfield 6, 4, 3), (.ireturn, 0, 1)] ∧ bt64 32 = [(.aload 0, 0, 1), (.getfield 10, 5, 3), (.getfield 6, 4, 3), (.ifCond .ne 45, 0, 3)] ∧ bt64 42 = [(.iconst (-4), 0, 2), (.ireturn, 0, 1)] ∧ bt64 45 = [(.iload 2, 0, 1), (.ifCond .eq 60, 0, 3)] ∧ bt64 49 = [(.aload 0, 0, 1), (.getfield 10, 5, 3), (.iload 1, 0, 1), (.invokevirtual 41, 2, 3)] ∧ bt64 57 = [(.goto 68, 0, 3)] ∧ bt64 60 = [(.aload 0, 0, 1), (.getfield 10, 5, 3), (.iload 1, 0, 1), (.invokevirtual 40, 2, 3)] ∧ bt64 68 = [(.ireturn, 0, 1)] ∧ True := ⟨rfl, rfl, rfl, rfl, rfl, rfl, rfl, rfl, rfl, rfl, rfl, rfl, rfl, rfl, trivial⟩
theorem SP64 : sp64 0 = false ∧ sp64 5 = false ∧ sp64 10 = true ∧ sp64 13 = false ∧ sp64 15 = false ∧ sp64 19 = true ∧ sp64 24 = false ∧ sp64 32 = false ∧ sp64 42 = false ∧ sp64 45 = false ∧ sp64 49 = false ∧ sp64 57 = true ∧ sp64 60 = false ∧ sp64 68 = true ∧ True := ⟨rfl, rfl, rfl, rfl, rfl, rfl, rfl, rfl, rfl, rfl, rfl, rfl, rfl, rfl, trivial⟩
set_option maxRecDepth 100000 in
theorem bk64 : ∀ pc, blk 64 pc (bt64 pc) = true := fun pc => blk_if (by decide +kernel) (blk_if (by decide +kernel) (blk_if (by decide +kernel) (blk_if (by decide +kernel) (blk_if (by decide +kernel) (blk_if (by decide +kernel) (blk_if (by decide +kernel) (blk_if (by decide +kernel) (blk_if (by decide +kernel) (blk_if (by decide +kernel) (blk_if (by decide +kernel) (blk_if (by decide +kernel) (blk_if (by decide +kernel) (blk_if (by decide +kernel) (rfl))))))))))))))
theorem go64 {d mc ms : Nat} {sh : List SC} {M : MM} {Post : PP} {a0 : Nat} {a1 : Int} {a2 : Int} (h : ∀ S : Nat → KK, Clo (Run d) 64 none mc ms (Rtn 64 mc ms Post) S → S 0 [some (vR a0), some (vI a1), some (vI a2)] [] (sh, 0, 0) M) : Run (d + 1) 64 [vR a0, vI a1, vI a2] sh M mc ms Post := ⟨Nat.le_of_ble_eq_true rfl, h⟩
theorem rt64 {v : Int} {sh : List SC} {M : MM} {Post : PP} (h : Post (some (Sum.inl v)) sh M) : Rtn 64 0 0 Post (some (Sum.inl v)) (sh, 0, 0) M := ⟨Nat.le_refl _, Nat.le_refl _, trivial, h⟩
/-! 65 OwnSunday.fire -/
def bt65 (pc : Nat) : BL := if pc = 0 then [(.iload 1, 0, 1), (.ifCond .lt 41, 0, 3)] else if pc = 4 then [(.iload 1, 0, 1), (.iconst 10000, 0, 3), (.if_icmp .ge 41, 0, 3)] else if pc = 11 then [(.iload 2, 0, 1), (.iconst 1, 0, 1), (.if_icmp .lt 41, 0, 3)] else if pc = 16 then [(.iload 2, 0, 1), (.iconst 999, 0, 3), (.if_icmp .gt 41, 0, 3)] else if pc = 23 then [(.lload 3, 0, 1), (.invokestatic 77, 1, 3)] else if pc = 27 then [(.ifCond .eq 41, 0, 3)] else if pc = 30 then [(.iload 5, 0, 2), (.ifCond .lt 41, 0, 3)] else if pc = 35 then [(.iload 5, 0, 2), (.iconst 2, 0, 1), (.if_icmp .le 43, 0, 3)] else if pc = 41 then [(.iconst (-1), 0, 1), (.ireturn, 0, 1)] else if pc = 43 then [(.aload 0, 0, 1), (.invokevirtual 78, 1, 3)] else if pc = 47 then [(.iload 5, 0, 2), (.ifCond .ne 71, 0, 3)] else if pc = 52 then [(.aload 0, 0, 1), (.iload 1, 0, 1), (.iload 2, 0, 1), (.lload 3, 0, 1), (.invokestatic 84, 3, 3)] else if pc = 59 then [(.invokevirtual 83, 2, 3)] else if pc = 62 then [(.ifCond .eq 69, 0, 3)] else if pc = 65 then [(.iconst 1, 0, 1), (.goto 70, 0, 3)] else if pc = 69 then [(.iconst 0, 0, 1)] else if pc = 70 then [(.ireturn, 0, 1)] else if pc = 71 then [(.iload 5, 0, 2), (.iconst 1, 0, 1), (.if_icmp .ne 91, 0, 3)] else if pc = 77 then [(.aload 0, 0, 1), (.iload 1, 0, 1), (.iload 2, 0, 1), (.lload 3, 0, 1), (.invokestatic 84, 3, 3)] else if pc = 84 then [(.invokevirtual 80, 2, 3)] else if pc = 87 then [(.invokestatic 161, 1, 3)] else if pc = 90 then [(.ireturn, 0, 1)] else if pc = 91 then [(.iconst 0, 0, 1), (.istore 6, 0, 2), (.iconst 0, 0, 1), (.istore 7, 0, 2)] else if pc = 97 then [(.iload 7, 0, 2), (.iconst 100, 0, 2), (.if_icmp .ge 133, 0, 3)] else if pc = 104 then [(.aload 0, 0, 1), (.iload 1, 0, 1), (.iload 7, 0, 2), (.iadd, 0, 1), (.iconst 10000, 0, 3), (.irem, 0, 1), (.iload 2, 0, 1), (.lload 3, 0, 1), (.invokestatic 84, 3, 3)] else if pc = 118 then [(.invokevirtual 83, 2, 3)] else if pc = 121 then [(.ifCond .eq 127, 0, 3)] else if pc = 124 then [(.iinc 6 1, 0, 3)] else if pc = 127 then [(.iinc 7 1, 0, 3), (.goto 97, 0, 3)] else if pc = 133 then [(.iload 6, 0, 2), (.ireturn, 0, 1)] else []
def sp65 (pc : Nat) : Bool := [27, 47, 59, 62, 84, 87, 90, 97, 118, 121].contains pc
theorem BT65 : bt65 0 = [(.iload 1, 0, 1), (.ifCond .lt 41, 0, 3)] ∧ bt65 4 = [(.iload 1, 0, 1), (.iconst 10000, 0, 3), (.if_icmp .ge 41, 0, 3)] ∧ bt65 11 = [(.iload 2, 0, 1), (.iconst 1, 0, 1), (.if_icmp .lt 41, 0, 3)] ∧ bt65 16 = [(.iload 2, 0, 1), (.iconst 999, 0, 3), (.if_icmp .gt 41, 0, 3)] ∧ bt65 23 = [(.lload 3, 0, 1), (.invokestatic 77, 1, 3)] ∧ bt65 27 = [(.ifCond .eq 41, 0, 3)] ∧ bt65 30 = [(.iload 5, 0, 2), (.ifCond .lt 41, 0, 3)] ∧ bt65 35 = [(.iload 5, 0, 2), (.iconst 2, 0, 1), (.if_icmp .le 43, 0, 3)] ∧ bt65 41 = [(.iconst (-1), 0, 1), (.ireturn, 0, 1)] ∧ bt65 43 = [(.aload 0, 0, 1), (.invokevirtual 78, 1, 3)] ∧ bt65 47 = [(.iload 5, 0, 2), (.ifCond .ne 71, 0, 3)] ∧ bt65 52 = [(.aload 0, 0, 1), (.iload 1, 0, 1), (.iload 2, 0, 1), (.lload 3, 0, 1), (.invokestatic 84, 3, 3)] ∧ bt65 59 = [(.invokevirtual 83, 2, 3)] ∧ bt65 62 = [(.ifCond .eq 69, 0, 3)] ∧ bt65 65 = [(.iconst 1, 0, 1), (.goto 70, 0, 3)] ∧ bt65 69 = [(.iconst 0, 0, 1)] ∧ bt65 70 = [(.ireturn, 0, 1)] ∧ bt65 71 = [(.iload 5, 0, 2), (.iconst 1, 0, 1), (.if_icmp .ne 91, 0, 3)] ∧ bt65 77 = [(.aload 0, 0, 1), (.iload 1, 0, 1), (.iload 2, 0, 1), (.lload 3, 0, 1), (.invokestatic 84, 3, 3)] ∧ bt65 84 = [(.invokevirtual 80, 2, 3)] ∧ bt65 87 = [(.invokestatic 161, 1, 3)] ∧ bt65 90 = [(.ireturn, 0, 1)] ∧ bt65 91 = [(.iconst 0, 0, 1), (.istore 6, 0, 2), (.iconst 0, 0, 1), (.istore 7, 0, 2)] ∧ bt65 97 = [(.iload 7, 0, 2), (.iconst 100, 0, 2), (.if_icmp .ge 133, 0, 3)] ∧ bt65 104 = [(.aload 0, 0, 1), (.iload 1, 0, 1), (.iload 7, 0, 2), (.iadd, 0, 1), (.iconst 10000, 0, 3), (.irem, 0, 1), (.iload 2, 0, 1), (.lload 3, 0, 1), (.invokestatic 84, 3, 3)] ∧ bt65 118 = [(.invokevirtual 83, 2, 3)] ∧ bt65 121 = [(.ifCond .eq 127, 0, 3)] ∧ bt65 124 = [(.iinc 6 1, 0, 3)] ∧ bt65 127 = [(.iinc 7 1, 0, 3), (.goto 97, 0, 3)] ∧ bt65 133 = [(.iload 6, 0, 2), (.ireturn, 0, 1)] ∧ True := ⟨rfl, rfl, rfl, rfl, rfl, rfl, rfl, rfl, rfl, rfl, rfl, rfl, rfl, rfl, rfl, rfl, rfl, rfl, rfl, rfl, rfl, rfl, rfl, rfl, rfl, rfl, rfl, rfl, rfl, rfl, trivial⟩
theorem SP65 : sp65 0 = false ∧ sp65 4 = false ∧ sp65 11 = false ∧ sp65 16 = false ∧ sp65 23 = false ∧ sp65 27 = true ∧ sp65 30 = false ∧ sp65 35 = false ∧ sp65 41 = false ∧ sp65 43 = false ∧ sp65 47 = true ∧ sp65 52 = false ∧ sp65 59 = true ∧ sp65 62 = true ∧ sp65 65 = false ∧ sp65 69 = false ∧ sp65 70 = false ∧ sp65 71 = false ∧ sp65 77 = false ∧ sp65 84 = true ∧ sp65 87 = true ∧ sp65 90 = true ∧ sp65 91 = false ∧ sp65 97 = true ∧ sp65 104 = false ∧ sp65 118 = true ∧ sp65 121 = true ∧ sp65 124 = false ∧ sp65 127 = false ∧ sp65 133 = false ∧ True := ⟨rfl, rfl, rfl, rfl, rfl, rfl, rfl, rfl, rfl, rfl, rfl, rfl, rfl, rfl, rfl, rfl, rfl, rfl, rfl, rfl, rfl, rfl, rfl, rfl, rfl, rfl, rfl, rfl, rfl, rfl, trivial⟩
set_option maxRecDepth 100000 in
theorem bk65 : ∀ pc, blk 65 pc (bt65 pc) = true := fun pc => blk_if (by decide +kernel) (blk_if (by decide +kernel) (blk_if (by decide +kernel) (blk_if (by decide +kernel) (blk_if (by decide +kernel) (blk_if (by decide +kernel) (blk_if (by decide +kernel) (blk_if (by decide +kernel) (blk_if (by decide +kernel) (blk_if (by decide +kernel) (blk_if (by decide +kernel) (blk_if (by decide +kernel) (blk_if (by decide +kernel) (blk_if (by decide +kernel) (blk_if (by decide +kernel) (blk_if (by decide +kernel) (blk_if (by decide +kernel) (blk_if (by decide +kernel) (blk_if (by decide +kernel) (blk_if (by decide +kernel) (blk_if (by decide +kernel) (blk_if (by decide +kernel) (blk_if (by decide +kernel) (blk_if (by decide +kernel) (blk_if (by decide +kernel) (blk_if (by decide +kernel) (blk_if (by decide +kernel) (blk_if (by decide +kernel) (blk_if (by decide +kernel) (blk_if (by decide +kernel) (rfl))))))))))))))))))))))))))))))
theorem go65 {d mc ms : Nat} {sh : List SC} {M : MM} {Post : PP} {a0 : Nat} {a1 : Int} {a2 : Int} {a3 : Int} {a4 : Int} (h : ∀ S : Nat → KK, Clo (Run d) 65 none mc ms (Rtn 65 mc ms Post) S → S 0 [some (vR a0), some (vI a1), some (vI a2), some (vL a3), none, some (vI a4), none, none] [] (sh, 0, 0) M) : Run (d + 1) 65 [vR a0, vI a1, vI a2, vL a3, vI a4] sh M mc ms Post := ⟨Nat.le_of_ble_eq_true rfl, h⟩
theorem rt65 {v : Int} {sh : List SC} {M : MM} {Post : PP} (h : Post (some (Sum.inl v)) sh M) : Rtn 65 0 0 Post (some (Sum.inl v)) (sh, 0, 0) M := ⟨Nat.le_refl _, Nat.le_refl _, trivial, h⟩
/-! 66 OwnSunday.change -/
def bt66 (pc : Nat) : BL := if pc = 0 then [(.aload 0, 0, 1), (.iload 1, 0, 1), (.invokevirtual 72, 2, 3)] else if pc = 5 then [(.ifCond .eq 21, 0, 3)] else if pc = 8 then [(.iload 2, 0, 1), (.ifCond .lt 21, 0, 3)] else if pc = 12 then [(.iload 2, 0, 1), (.aload 0, 0, 1), (.iload 1, 0, 1), (.invokevirtual 79, 2, 3)] else if pc = 18 then [(.if_icmp .lt 23, 0, 3)] else if pc = 21 then [(.iconst (-1), 0, 1), (.ireturn, 0, 1)] else if pc = 23 then [(.aload 0, 0, 1), (.getfield 6, 5, 3), (.getfield 1, 0, 3), (.iload 1, 0, 1), (.iaload, 0, 1), (.istore 3, 0, 1), (.aload 0, 0, 1), (.getfield 6, 5, 3), (.getfield 1, 0, 3), (.iload 1, 0, 1), (.iload 2, 0, 1), (.iastore, 0, 1), (.iload 3, 0, 1), (.ireturn, 0, 1)] else []
def sp66 (pc : Nat) : Bool := [5, 18].contains pc
theorem BT66 : bt66 0 = [(.aload 0, 0, 1), (.iload 1, 0, 1), (.invokevirtual 72, 2, 3)] ∧ bt66 5 = [(.ifCond .eq 21, 0, 3)] ∧ bt66 8 = [(.iload 2, 0, 1), (.ifCond .lt 21, 0, 3)] ∧ bt66 12 = [(.iload 2, 0, 1), (.aload 0, 0, 1), (.iload 1, 0, 1), (.invokevirtual 79, 2, 3)] ∧ bt66 18 = [(.if_icmp .lt 23, 0, 3)] ∧ bt66 21 = [(.iconst (-1), 0, 1), (.ireturn, 0, 1)] ∧ bt66 23 = [(.aload 0, 0, 1), (.getfield 6, 5, 3), (.getfield 1, 0, 3), (.iload 1, 0, 1), (.iaload, 0, 1), (.istore 3, 0, 1), (.aload 0, 0, 1), (.getfield 6, 5, 3), (.getfield 1, 0, 3), (.iload 1, 0, 1), (.iload 2, 0, 1), (.iastore, 0, 1), (.iload 3, 0, 1), (.ireturn, 0, 1)] ∧ True := ⟨rfl, rfl, rfl, rfl, rfl, rfl, rfl, trivial⟩
theorem SP66 : sp66 0 = false ∧ sp66 5 = true ∧ sp66 8 = false ∧ sp66 12 = false ∧ sp66 18 = true ∧ sp66 21 = false ∧ sp66 23 = false ∧ True := ⟨rfl, rfl, rfl, rfl, rfl, rfl, rfl, trivial⟩
set_option maxRecDepth 100000 in
theorem bk66 : ∀ pc, blk 66 pc (bt66 pc) = true := fun pc => blk_if (by decide +kernel) (blk_if (by decide +kernel) (blk_if (by decide +kernel) (blk_if (by decide +kernel) (blk_if (by decide +kernel) (blk_if (by decide +kernel) (blk_if (by decide +kernel) (rfl)))))))
theorem go66 {d mc ms : Nat} {sh : List SC} {M : MM} {Post : PP} {a0 : Nat} {a1 : Int} {a2 : Int} (h : ∀ S : Nat → KK, Clo (Run d) 66 none mc ms (Rtn 66 mc ms Post) S → S 0 [some (vR a0), some (vI a1), some (vI a2), none] [] (sh, 0, 0) M) : Run (d + 1) 66 [vR a0, vI a1, vI a2] sh M mc ms Post := ⟨Nat.le_of_ble_eq_true rfl, h⟩
theorem rt66 {v : Int} {sh : List SC} {M : MM} {Post : PP} (h : Post (some (Sum.inl v)) sh M) : Rtn 66 0 0 Post (some (Sum.inl v)) (sh, 0, 0) M := ⟨Nat.le_refl _, Nat.le_refl _, trivial, h⟩
/-! 67 OwnSunday.wed -/
def bt67 (pc : Nat) : BL := if pc = 0 then [(.aload 0, 0, 1), (.iload 1, 0, 1), (.invokevirtual 72, 2, 3)] else if pc = 5 then [(.ifCond .eq 21, 0, 3)] else if pc = 8 then [(.aload 0, 0, 1), (.iload 2, 0, 1), (.invokevirtual 72, 2, 3)] else if pc = 13 then [(.ifCond .eq 21, 0, 3)] else if pc = 16 then [(.iload 1, 0, 1), (.iload 2, 0, 1), (.if_icmp .ne 23, 0, 3)] else if pc = 21 then [(.iconst (-1), 0, 1), (.ireturn, 0, 1)] else if pc = 23 then [(.aload 0, 0, 1), (.getfield 6, 5, 3), (.getfield 1, 0, 3), (.iload 2, 0, 1), (.iaload, 0, 1), (.istore 3, 0, 1), (.aload 0, 0, 1), (.getfield 6, 5, 3), (.iload 2, 0, 1), (.aload 0, 0, 1), (.getfield 6, 5, 3), (.getfield 0, 0, 3), (.iload 1, 0, 1), (.iaload, 0, 1), (.aload 0, 0, 1), (.getfield 6, 5, 3), (.getfield 1, 0, 3), (.iload 1, 0, 1), (.iaload, 0, 1), (.invokevirtual 2, 4, 3)] else if pc = 59 then [(.iload 3, 0, 1), (.ireturn, 0, 1)] else []
def sp67 (pc : Nat) : Bool := [5, 13, 59].contains pc
theorem BT67 : bt67 0 = [(.aload 0, 0, 1), (.iload 1, 0, 1), (.invokevirtual 72, 2, 3)] ∧ bt67 5 = [(.ifCond .eq 21, 0, 3)] ∧ bt67 8 = [(.aload 0, 0, 1), (.iload 2, 0, 1), (.invokevirtual 72, 2, 3)] ∧ bt67 13 = [(.ifCond .eq 21, 0, 3)] ∧ bt67 16 = [(.iload 1, 0, 1), (.iload 2, 0, 1), (.if_icmp .ne 23, 0, 3)] ∧ bt67 21 = [(.iconst (-1), 0, 1), (.ireturn, 0, 1)] ∧ bt67 23 = [(.aload 0, 0, 1), (.getfield 6, 5, 3), (.getfield 1, 0, 3), (.iload 2, 0, 1), (.iaload, 0, 1), (.istore 3, 0, 1), (.aload 0, 0, 1), (.getfield 6, 5, 3), (.iload 2, 0, 1), (.aload 0, 0, 1), (.getfield 6, 5, 3), (.getfield 0, 0, 3), (.iload 1, 0, 1), (.iaload, 0, 1), (.aload 0, 0, 1), (.getfield 6, 5, 3), (.getfield 1, 0, 3), (.iload 1, 0, 1), (.iaload, 0, 1), (.invokevirtual 2, 4, 3)] ∧ bt67 59 = [(.iload 3, 0, 1), (.ireturn, 0, 1)] ∧ True := ⟨rfl, rfl, rfl, rfl, rfl, rfl, rfl, rfl, trivial⟩
theorem SP67 : sp67 0 = false ∧ sp67 5 = true ∧ sp67 8 = false ∧ sp67 13 = true ∧ sp67 16 = false ∧ sp67 21 = false ∧ sp67 23 = false ∧ sp67 59 = true ∧ True := ⟨rfl, rfl, rfl, rfl, rfl, rfl, rfl, rfl, trivial⟩
set_option maxRecDepth 100000 in
theorem bk67 : ∀ pc, blk 67 pc (bt67 pc) = true := fun pc => blk_if (by decide +kernel) (blk_if (by decide +kernel) (blk_if (by decide +kernel) (blk_if (by decide +kernel) (blk_if (by decide +kernel) (blk_if (by decide +kernel) (blk_if (by decide +kernel) (blk_if (by decide +kernel) (rfl))))))))
theorem go67 {d mc ms : Nat} {sh : List SC} {M : MM} {Post : PP} {a0 : Nat} {a1 : Int} {a2 : Int} (h : ∀ S : Nat → KK, Clo (Run d) 67 none mc ms (Rtn 67 mc ms Post) S → S 0 [some (vR a0), some (vI a1), some (vI a2), none] [] (sh, 0, 0) M) : Run (d + 1) 67 [vR a0, vI a1, vI a2] sh M mc ms Post := ⟨Nat.le_of_ble_eq_true rfl, h⟩
theorem rt67 {v : Int} {sh : List SC} {M : MM} {Post : PP} (h : Post (some (Sum.inl v)) sh M) : Rtn 67 0 0 Post (some (Sum.inl v)) (sh, 0, 0) M := ⟨Nat.le_refl _, Nat.le_refl _, trivial, h⟩
/-! 68 OwnSunday.settle -/
def bt68 (pc : Nat) : BL := if pc = 0 then [(.aload 0, 0, 1), (.getfield 6, 5, 3), (.getfield 2, 0, 3), (.ifCond .ne 13, 0, 3)] else if pc = 10 then [(.iconst (-2), 0, 2), (.ireturn, 0, 1)] else if pc = 13 then [(.aload 0, 0, 1), (.invokevirtual 92, 1, 3)] else if pc = 17 then [(.aload 0, 0, 1), (.getfield 10, 5, 3), (.getfield 6, 4, 3), (.ifCond .ne 30, 0, 3)] else if pc = 27 then [(.iconst (-2), 0, 2), (.ireturn, 0, 1)] else if pc = 30 then [(.iconst 0, 0, 1), (.istore 1, 0, 1)] else if pc = 32 then [(.iload 1, 0, 1), (.aload 0, 0, 1), (.getfield 10, 5, 3), (.getfield 0, 4, 3), (.if_icmp .ge 75, 0, 3)] else if pc = 43 then [(.aload 0, 0, 1), (.getfield 6, 5, 3), (.getfield 1, 0, 3), (.aload 0, 0, 1), (.getfield 10, 5, 3), (.getfield 1, 4, 3), (.iload 1, 0, 1), (.iaload, 0, 1), (.aload 0, 0, 1), (.getfield 10, 5, 3), (.getfield 8, 4, 3), (.iload 1, 0, 1), (.iaload, 0, 1), (.iastore, 0, 1), (.iinc 1 1, 0, 3), (.goto 32, 0, 3)] else if pc = 75 then [(.aload 0, 0, 1), (.getfield 6, 5, 3), (.iconst 0, 0, 1), (.putfield 2, 0, 3), (.aload 0, 0, 1), (.getfield 10, 5, 3), (.getfield 0, 4, 3), (.ireturn, 0, 1)] else []
def sp68 (pc : Nat) : Bool := [17, 32].contains pc
theorem BT68 : bt68 0 = [(.aload 0, 0, 1), (.getfield 6, 5, 3), (.getfield 2, 0, 3), (.ifCond .ne 13, 0, 3)] ∧ bt68 10 = [(.iconst (-2), 0, 2), (.ireturn, 0, 1)] ∧ bt68 13 = [(.aload 0, 0, 1), (.invokevirtual 92, 1, 3)] ∧ bt68 17 = [(.aload 0, 0, 1), (.getfield 10, 5, 3), (.getfield 6, 4, 3), (.ifCond .ne 30, 0, 3)] ∧ bt68 27 = [(.iconst (-2), 0, 2), (.ireturn, 0, 1)] ∧ bt68 30 = [(.iconst 0, 0, 1), (.istore 1, 0, 1)] ∧ bt68 32 = [(.iload 1, 0, 1), (.aload 0, 0, 1), (.getfield 10, 5, 3), (.getfield 0, 4, 3), (.if_icmp .ge 75, 0, 3)] ∧ bt68 43 = [(.aload 0, 0, 1), (.getfield 6, 5, 3), (.getfield 1, 0, 3), (.aload 0, 0, 1), (.getfield 10, 5, 3), (.getfield 1, 4, 3), (.iload 1, 0, 1), (.iaload, 0, 1), (.aload 0, 0, 1), (.getfield 10, 5, 3), (.getfield 8, 4, 3), (.iload 1, 0, 1), (.iaload, 0, 1), (.iastore, 0, 1), (.iinc 1 1, 0, 3), (.goto 32, 0, 3)] ∧ bt68 75 = [(.aload 0, 0, 1), (.getfield 6, 5, 3), (.iconst 0, 0, 1), (.putfield 2, 0, 3), (.aload 0, 0, 1), (.getfield 10, 5, 3), (.getfield 0, 4, 3), (.ireturn, 0, 1)] ∧ True := ⟨rfl, rfl, rfl, rfl, rfl, rfl, rfl, rfl, rfl, trivial⟩
theorem SP68 : sp68 0 = false ∧ sp68 10 = false ∧ sp68 13 = false ∧ sp68 17 = true ∧ sp68 27 = false ∧ sp68 30 = false ∧ sp68 32 = true ∧ sp68 43 = false ∧ sp68 75 = false ∧ True := ⟨rfl, rfl, rfl, rfl, rfl, rfl, rfl, rfl, rfl, trivial⟩
set_option maxRecDepth 100000 in
theorem bk68 : ∀ pc, blk 68 pc (bt68 pc) = true := fun pc => blk_if (by decide +kernel) (blk_if (by decide +kernel) (blk_if (by decide +kernel) (blk_if (by decide +kernel) (blk_if (by decide +kernel) (blk_if (by decide +kernel) (blk_if (by decide +kernel) (blk_if (by decide +kernel) (blk_if (by decide +kernel) (rfl)))))))))
theorem go68 {d mc ms : Nat} {sh : List SC} {M : MM} {Post : PP} {a0 : Nat} (h : ∀ S : Nat → KK, Clo (Run d) 68 none mc ms (Rtn 68 mc ms Post) S → S 0 [some (vR a0), none] [] (sh, 0, 0) M) : Run (d + 1) 68 [vR a0] sh M mc ms Post := ⟨Nat.le_of_ble_eq_true rfl, h⟩
theorem rt68 {v : Int} {sh : List SC} {M : MM} {Post : PP} (h : Post (some (Sum.inl v)) sh M) : Rtn 68 0 0 Post (some (Sum.inl v)) (sh, 0, 0) M := ⟨Nat.le_refl _, Nat.le_refl _, trivial, h⟩
/-! 69 OwnSunday.keep -/
def bt69 (pc : Nat) : BL := if pc = 0 then [(.aload 0, 0, 1), (.getfield 8, 5, 3), (.iconst 2, 0, 1), (.if_icmp .lt 11, 0, 3)] else if pc = 8 then [(.iconst (-3), 0, 2), (.ireturn, 0, 1)] else if pc = 11 then [(.aload 0, 0, 1), (.getfield 7, 5, 3), (.aload 0, 0, 1), (.getfield 8, 5, 3), (.aaload, 0, 1), (.aload 0, 0, 1), (.getfield 6, 5, 3), (.invokevirtual 6, 2, 3)] else if pc = 27 then [(.aload 0, 0, 1), (.dup, 0, 1), (.getfield 8, 5, 3), (.iconst 1, 0, 1), (.iadd, 0, 1), (.putfield 8, 5, 3), (.aload 0, 0, 1), (.getfield 8, 5, 3), (.ireturn, 0, 1)] else []
def sp69 (pc : Nat) : Bool := [27].contains pc
theorem BT69 : bt69 0 = [(.aload 0, 0, 1), (.getfield 8, 5, 3), (.iconst 2, 0, 1), (.if_icmp .lt 11, 0, 3)] ∧ bt69 8 = [(.iconst (-3), 0, 2), (.ireturn, 0, 1)] ∧ bt69 11 = [(.aload 0, 0, 1), (.getfield 7, 5, 3), (.aload 0, 0, 1), (.getfield 8, 5, 3), (.aaload, 0, 1), (.aload 0, 0, 1), (.getfield 6, 5, 3), (.invokevirtual 6, 2, 3)] ∧ bt69 27 = [(.aload 0, 0, 1), (.dup, 0, 1), (.getfield 8, 5, 3), (.iconst 1, 0, 1), (.iadd, 0, 1), (.putfield 8, 5, 3), (.aload 0, 0, 1), (.getfield 8, 5, 3), (.ireturn, 0, 1)] ∧ True := ⟨rfl, rfl, rfl, rfl, trivial⟩
theorem SP69 : sp69 0 = false ∧ sp69 8 = false ∧ sp69 11 = false ∧ sp69 27 = true ∧ True := ⟨rfl, rfl, rfl, rfl, trivial⟩
set_option maxRecDepth 100000 in
theorem bk69 : ∀ pc, blk 69 pc (bt69 pc) = true := fun pc => blk_if (by decide +kernel) (blk_if (by decide +kernel) (blk_if (by decide +kernel) (blk_if (by decide +kernel) (rfl))))
theorem go69 {d mc ms : Nat} {sh : List SC} {M : MM} {Post : PP} {a0 : Nat} (h : ∀ S : Nat → KK, Clo (Run d) 69 none mc ms (Rtn 69 mc ms Post) S → S 0 [some (vR a0)] [] (sh, 0, 0) M) : Run (d + 1) 69 [vR a0] sh M mc ms Post := ⟨Nat.le_of_ble_eq_true rfl, h⟩
theorem rt69 {v : Int} {sh : List SC} {M : MM} {Post : PP} (h : Post (some (Sum.inl v)) sh M) : Rtn 69 0 0 Post (some (Sum.inl v)) (sh, 0, 0) M := ⟨Nat.le_refl _, Nat.le_refl _, trivial, h⟩
/-! 70 OwnSunday.back -/
def bt70 (pc : Nat) : BL := if pc = 0 then [(.aload 0, 0, 1), (.getfield 8, 5, 3), (.iconst 1, 0, 1), (.if_icmp .ge 11, 0, 3)] else if pc = 8 then [(.iconst (-2), 0, 2), (.ireturn, 0, 1)] else if pc = 11 then [(.aload 0, 0, 1), (.dup, 0, 1), (.getfield 8, 5, 3), (.iconst 1, 0, 1), (.isub, 0, 1), (.putfield 8, 5, 3), (.aload 0, 0, 1), (.getfield 6, 5, 3), (.aload 0, 0, 1), (.getfield 7, 5, 3), (.aload 0, 0, 1), (.getfield 8, 5, 3), (.aaload, 0, 1), (.invokevirtual 6, 2, 3)] else if pc = 37 then [(.aload 0, 0, 1), (.getfield 8, 5, 3), (.ireturn, 0, 1)] else []
def sp70 (pc : Nat) : Bool := [37].contains pc
theorem BT70 : bt70 0 = [(.aload 0, 0, 1), (.getfield 8, 5, 3), (.iconst 1, 0, 1), (.if_icmp .ge 11, 0, 3)] ∧ bt70 8 = [(.iconst (-2), 0, 2), (.ireturn, 0, 1)] ∧ bt70 11 = [(.aload 0, 0, 1), (.dup, 0, 1), (.getfield 8, 5, 3), (.iconst 1, 0, 1), (.isub, 0, 1), (.putfield 8, 5, 3), (.aload 0, 0, 1), (.getfield 6, 5, 3), (.aload 0, 0, 1), (.getfield 7, 5, 3), (.aload 0, 0, 1), (.getfield 8, 5, 3), (.aaload, 0, 1), (.invokevirtual 6, 2, 3)] ∧ bt70 37 = [(.aload 0, 0, 1), (.getfield 8, 5, 3), (.ireturn, 0, 1)] ∧ True := ⟨rfl, rfl, rfl, rfl, trivial⟩
theorem SP70 : sp70 0 = false ∧ sp70 8 = false ∧ sp70 11 = false ∧ sp70 37 = true ∧ True := ⟨rfl, rfl, rfl, rfl, trivial⟩
set_option maxRecDepth 100000 in
theorem bk70 : ∀ pc, blk 70 pc (bt70 pc) = true := fun pc => blk_if (by decide +kernel) (blk_if (by decide +kernel) (blk_if (by decide +kernel) (blk_if (by decide +kernel) (rfl))))
theorem go70 {d mc ms : Nat} {sh : List SC} {M : MM} {Post : PP} {a0 : Nat} (h : ∀ S : Nat → KK, Clo (Run d) 70 none mc ms (Rtn 70 mc ms Post) S → S 0 [some (vR a0)] [] (sh, 0, 0) M) : Run (d + 1) 70 [vR a0] sh M mc ms Post := ⟨Nat.le_of_ble_eq_true rfl, h⟩
theorem rt70 {v : Int} {sh : List SC} {M : MM} {Post : PP} (h : Post (some (Sum.inl v)) sh M) : Rtn 70 0 0 Post (some (Sum.inl v)) (sh, 0, 0) M := ⟨Nat.le_refl _, Nat.le_refl _, trivial, h⟩
/-! 71 OwnSunday.count -/
def bt71 (pc : Nat) : BL := if pc = 0 then [(.iload 1, 0, 1), (.tableswitch 97 0 6 #[44, 52, 60, 65, 76, 84, 89], 0, 43)] else if pc = 44 then [(.aload 0, 0, 1), (.getfield 5, 5, 3), (.getfield 1, 3, 3), (.ireturn, 0, 1)] else if pc = 52 then [(.aload 0, 0, 1), (.getfield 5, 5, 3), (.getfield 5, 3, 3), (.ireturn, 0, 1)] else if pc = 60 then [(.aload 0, 0, 1), (.getfield 1, 5, 3), (.ireturn, 0, 1)] else if pc = 65 then [(.aload 0, 0, 1), (.getfield 6, 5, 3), (.getfield 2, 0, 3), (.invokestatic 161, 1, 3)] else if pc = 75 then [(.ireturn, 0, 1)] else if pc = 76 then [(.aload 0, 0, 1), (.getfield 6, 5, 3), (.getfield 3, 0, 3), (.ireturn, 0, 1)] else if pc = 84 then [(.aload 0, 0, 1), (.getfield 8, 5, 3), (.ireturn, 0, 1)] else if pc = 89 then [(.aload 0, 0, 1), (.getfield 5, 5, 3), (.invokevirtual 31, 1, 3)] else if pc = 96 then [(.ireturn, 0, 1)] else if pc = 97 then [(.iconst (-1), 0, 1), (.ireturn, 0, 1)] else []
def sp71 (pc : Nat) : Bool := [75, 96].contains pc
theorem BT71 : bt71 0 = [(.iload 1, 0, 1), (.tableswitch 97 0 6 #[44, 52, 60, 65, 76, 84, 89], 0, 43)] ∧ bt71 44 = [(.aload 0, 0, 1), (.getfield 5, 5, 3), (.getfield 1, 3, 3), (.ireturn, 0, 1)] ∧ bt71 52 = [(.aload 0, 0, 1), (.getfield 5, 5, 3), (.getfield 5, 3, 3), (.ireturn, 0, 1)] ∧ bt71 60 = [(.aload 0, 0, 1), (.getfield 1, 5, 3), (.ireturn, 0, 1)] ∧ bt71 65 = [(.aload 0, 0, 1), (.getfield 6, 5, 3), (.getfield 2, 0, 3), (.invokestatic 161, 1, 3)] ∧ bt71 75 = [(.ireturn, 0, 1)] ∧ bt71 76 = [(.aload 0, 0, 1), (.getfield 6, 5, 3), (.getfield 3, 0, 3), (.ireturn, 0, 1)] ∧ bt71 84 = [(.aload 0, 0, 1), (.getfield 8, 5, 3), (.ireturn, 0, 1)] ∧ bt71 89 = [(.aload 0, 0, 1), (.getfield 5, 5, 3), (.invokevirtual 31, 1, 3)] ∧ bt71 96 = [(.ireturn, 0, 1)] ∧ bt71 97 = [(.iconst (-1), 0, 1), (.ireturn, 0, 1)] ∧ True := ⟨rfl, rfl, rfl, rfl, rfl, rfl, rfl, rfl, rfl, rfl, rfl, trivial⟩
theorem SP71 : sp71 0 = false ∧ sp71 44 = false ∧ sp71 52 = false ∧ sp71 60 = false ∧ sp71 65 = false ∧ sp71 75 = true ∧ sp71 76 = false ∧ sp71 84 = false ∧ sp71 89 = false ∧ sp71 96 = true ∧ sp71 97 = false ∧ True := ⟨rfl, rfl, rfl, rfl, rfl, rfl, rfl, rfl, rfl, rfl, rfl, trivial⟩
set_option maxRecDepth 100000 in
theorem bk71 : ∀ pc, blk 71 pc (bt71 pc) = true := fun pc => blk_if (by decide +kernel) (blk_if (by decide +kernel) (blk_if (by decide +kernel) (blk_if (by decide +kernel) (blk_if (by decide +kernel) (blk_if (by decide +kernel) (blk_if (by decide +kernel) (blk_if (by decide +kernel) (blk_if (by decide +kernel) (blk_if (by decide +kernel) (blk_if (by decide +kernel) (rfl)))))))))))
theorem go71 {d mc ms : Nat} {sh : List SC} {M : MM} {Post : PP} {a0 : Nat} {a1 : Int} (h : ∀ S : Nat → KK, Clo (Run d) 71 none mc ms (Rtn 71 mc ms Post) S → S 0 [some (vR a0), some (vI a1)] [] (sh, 0, 0) M) : Run (d + 1) 71 [vR a0, vI a1] sh M mc ms Post := ⟨Nat.le_of_ble_eq_true rfl, h⟩
theorem rt71 {v : Int} {sh : List SC} {M : MM} {Post : PP} (h : Post (some (Sum.inl v)) sh M) : Rtn 71 0 0 Post (some (Sum.inl v)) (sh, 0, 0) M := ⟨Nat.le_refl _, Nat.le_refl _, trivial, h⟩
/-! 72 OwnSunday.isHouse -/
def bt72 (pc : Nat) : BL := if pc = 0 then [(.iload 1, 0, 1), (.ifCond .lt 19, 0, 3)] else if pc = 4 then [(.iload 1, 0, 1), (.aload 0, 0, 1), (.getfield 5, 5, 3), (.getfield 1, 3, 3), (.if_icmp .ge 19, 0, 3)] else if pc = 15 then [(.iconst 1, 0, 1), (.goto 20, 0, 3)] else if pc = 19 then [(.iconst 0, 0, 1)] else if pc = 20 then [(.ireturn, 0, 1)] else []
def sp72 (pc : Nat) : Bool := [].contains pc
theorem BT72 : bt72 0 = [(.iload 1, 0, 1), (.ifCond .lt 19, 0, 3)] ∧ bt72 4 = [(.iload 1, 0, 1), (.aload 0, 0, 1), (.getfield 5, 5, 3), (.getfield 1, 3, 3), (.if_icmp .ge 19, 0, 3)] ∧ bt72 15 = [(.iconst 1, 0, 1), (.goto 20, 0, 3)] ∧ bt72 19 = [(.iconst 0, 0, 1)] ∧ bt72 20 = [(.ireturn, 0, 1)] ∧ True := ⟨rfl, rfl, rfl, rfl, rfl, trivial⟩
theorem SP72 : sp72 0 = false ∧ sp72 4 = false ∧ sp72 15 = false ∧ sp72 19 = false ∧ sp72 20 = false ∧ True := ⟨rfl, rfl, rfl, rfl, rfl, trivial⟩
set_option maxRecDepth 100000 in
theorem bk72 : ∀ pc, blk 72 pc (bt72 pc) = true := fun pc => blk_if (by decide +kernel) (blk_if (by decide +kernel) (blk_if (by decide +kernel) (blk_if (by decide +kernel) (blk_if (by decide +kernel) (rfl)))))
theorem go72 {d mc ms : Nat} {sh : List SC} {M : MM} {Post : PP} {a0 : Nat} {a1 : Int} (h : ∀ S : Nat → KK, Clo (Run d) 72 none mc ms (Rtn 72 mc ms Post) S → S 0 [some (vR a0), some (vI a1)] [] (sh, 0, 0) M) : Run (d + 1) 72 [vR a0, vI a1] sh M mc ms Post := ⟨Nat.le_of_ble_eq_true rfl, h⟩
theorem rt72 {v : Int} {sh : List SC} {M : MM} {Post : PP} (hv : v = 0 ∨ v = 1) (h : Post (some (Sum.inl v)) sh M) : Rtn 72 0 0 Post (some (Sum.inl v)) (sh, 0, 0) M := ⟨Nat.le_refl _, Nat.le_refl _, hv, h⟩
/-! 73 OwnSunday.isNewHouse -/
def bt73 (pc : Nat) : BL := if pc = 0 then [(.aload 0, 0, 1), (.iload 1, 0, 1), (.invokevirtual 72, 2, 3)] else if pc = 5 then [(.ifCond .eq 23, 0, 3)] else if pc = 8 then [(.aload 0, 0, 1), (.getfield 6, 5, 3), (.iload 1, 0, 1), (.invokevirtual 3, 2, 3)] else if pc = 16 then [(.ifCond .eq 23, 0, 3)] else if pc = 19 then [(.iconst 1, 0, 1), (.goto 24, 0, 3)] else if pc = 23 then [(.iconst 0, 0, 1)] else if pc = 24 then [(.ireturn, 0, 1)] else []
def sp73 (pc : Nat) : Bool := [5, 16].contains pc
theorem BT73 : bt73 0 = [(.aload 0, 0, 1), (.iload 1, 0, 1), (.invokevirtual 72, 2, 3)] ∧ bt73 5 = [(.ifCond .eq 23, 0, 3)] ∧ bt73 8 = [(.aload 0, 0, 1), (.getfield 6, 5, 3), (.iload 1, 0, 1), (.invokevirtual 3, 2, 3)] ∧ bt73 16 = [(.ifCond .eq 23, 0, 3)] ∧ bt73 19 = [(.iconst 1, 0, 1), (.goto 24, 0, 3)] ∧ bt73 23 = [(.iconst 0, 0, 1)] ∧ bt73 24 = [(.ireturn, 0, 1)] ∧ True := ⟨rfl, rfl, rfl, rfl, rfl, rfl, rfl, trivial⟩
theorem SP73 : sp73 0 = false ∧ sp73 5 = true ∧ sp73 8 = false ∧ sp73 16 = true ∧ sp73 19 = false ∧ sp73 23 = false ∧ sp73 24 = false ∧ True := ⟨rfl, rfl, rfl, rfl, rfl, rfl, rfl, trivial⟩
set_option maxRecDepth 100000 in
theorem bk73 : ∀ pc, blk 73 pc (bt73 pc) = true := fun pc => blk_if (by decide +kernel) (blk_if (by decide +kernel) (blk_if (by decide +kernel) (blk_if (by decide +kernel) (blk_if (by decide +kernel) (blk_if (by decide +kernel) (blk_if (by decide +kernel) (rfl)))))))
theorem go73 {d mc ms : Nat} {sh : List SC} {M : MM} {Post : PP} {a0 : Nat} {a1 : Int} (h : ∀ S : Nat → KK, Clo (Run d) 73 none mc ms (Rtn 73 mc ms Post) S → S 0 [some (vR a0), some (vI a1)] [] (sh, 0, 0) M) : Run (d + 1) 73 [vR a0, vI a1] sh M mc ms Post := ⟨Nat.le_of_ble_eq_true rfl, h⟩
theorem rt73 {v : Int} {sh : List SC} {M : MM} {Post : PP} (hv : v = 0 ∨ v = 1) (h : Post (some (Sum.inl v)) sh M) : Rtn 73 0 0 Post (some (Sum.inl v)) (sh, 0, 0) M := ⟨Nat.le_refl _, Nat.le_refl _, hv, h⟩
/-! 74 OwnSunday.isWork -/
def bt74 (pc : Nat) : BL := if pc = 0 then [(.iload 1, 0, 1), (.ifCond .lt 19, 0, 3)] else if pc = 4 then [(.iload 1, 0, 1), (.aload 0, 0, 1), (.getfield 5, 5, 3), (.getfield 5, 3, 3), (.if_icmp .ge 19, 0, 3)] else if pc = 15 then [(.iconst 1, 0, 1), (.goto 20, 0, 3)] else if pc = 19 then [(.iconst 0, 0, 1)] else if pc = 20 then [(.ireturn, 0, 1)] else []
def sp74 (pc : Nat) : Bool := [].contains pc
theorem BT74 : bt74 0 = [(.iload 1, 0, 1), (.ifCond .lt 19, 0, 3)] ∧ bt74 4 = [(.iload 1, 0, 1), (.aload 0, 0, 1), (.getfield 5, 5, 3), (.getfield 5, 3, 3), (.if_icmp .ge 19, 0, 3)] ∧ bt74 15 = [(.iconst 1, 0, 1), (.goto 20, 0, 3)] ∧ bt74 19 = [(.iconst 0, 0, 1)] ∧ bt74 20 = [(.ireturn, 0, 1)] ∧ True := ⟨rfl, rfl, rfl, rfl, rfl, trivial⟩
theorem SP74 : sp74 0 = false ∧ sp74 4 = false ∧ sp74 15 = false ∧ sp74 19 = false ∧ sp74 20 = false ∧ True := ⟨rfl, rfl, rfl, rfl, rfl, trivial⟩
set_option maxRecDepth 100000 in
theorem bk74 : ∀ pc, blk 74 pc (bt74 pc) = true := fun pc => blk_if (by decide +kernel) (blk_if (by decide +kernel) (blk_if (by decide +kernel) (blk_if (by decide +kernel) (blk_if (by decide +kernel) (rfl)))))
theorem go74 {d mc ms : Nat} {sh : List SC} {M : MM} {Post : PP} {a0 : Nat} {a1 : Int} (h : ∀ S : Nat → KK, Clo (Run d) 74 none mc ms (Rtn 74 mc ms Post) S → S 0 [some (vR a0), some (vI a1)] [] (sh, 0, 0) M) : Run (d + 1) 74 [vR a0, vI a1] sh M mc ms Post := ⟨Nat.le_of_ble_eq_true rfl, h⟩
theorem rt74 {v : Int} {sh : List SC} {M : MM} {Post : PP} (hv : v = 0 ∨ v = 1) (h : Post (some (Sum.inl v)) sh M) : Rtn 74 0 0 Post (some (Sum.inl v)) (sh, 0, 0) M := ⟨Nat.le_refl _, Nat.le_refl _, hv, h⟩
/-! 75 OwnSunday.isSet -/
def bt75 (pc : Nat) : BL := if pc = 0 then [(.iload 1, 0, 1), (.ifCond .le 21, 0, 3)] else if pc = 4 then [(.iload 1, 0, 1), (.iconst 1, 0, 1), (.aload 0, 0, 1), (.getfield 5, 5, 3), (.getfield 1, 3, 3), (.ishl, 0, 1), (.if_icmp .ge 21, 0, 3)] else if pc = 17 then [(.iconst 1, 0, 1), (.goto 22, 0, 3)] else if pc = 21 then [(.iconst 0, 0, 1)] else if pc = 22 then [(.ireturn, 0, 1)] else []
def sp75 (pc : Nat) : Bool := [].contains pc
theorem BT75 : bt75 0 = [(.iload 1, 0, 1), (.ifCond .le 21, 0, 3)] ∧ bt75 4 = [(.iload 1, 0, 1), (.iconst 1, 0, 1), (.aload 0, 0, 1), (.getfield 5, 5, 3), (.getfield 1, 3, 3), (.ishl, 0, 1), (.if_icmp .ge 21, 0, 3)] ∧ bt75 17 = [(.iconst 1, 0, 1), (.goto 22, 0, 3)] ∧ bt75 21 = [(.iconst 0, 0, 1)] ∧ bt75 22 = [(.ireturn, 0, 1)] ∧ True := ⟨rfl, rfl, rfl, rfl, rfl, trivial⟩
theorem SP75 : sp75 0 = false ∧ sp75 4 = false ∧ sp75 17 = false ∧ sp75 21 = false ∧ sp75 22 = false ∧ True := ⟨rfl, rfl, rfl, rfl, rfl, trivial⟩
set_option maxRecDepth 100000 in
theorem bk75 : ∀ pc, blk 75 pc (bt75 pc) = true := fun pc => blk_if (by decide +kernel) (blk_if (by decide +kernel) (blk_if (by decide +kernel) (blk_if (by decide +kernel) (blk_if (by decide +kernel) (rfl)))))
theorem go75 {d mc ms : Nat} {sh : List SC} {M : MM} {Post : PP} {a0 : Nat} {a1 : Int} (h : ∀ S : Nat → KK, Clo (Run d) 75 none mc ms (Rtn 75 mc ms Post) S → S 0 [some (vR a0), some (vI a1)] [] (sh, 0, 0) M) : Run (d + 1) 75 [vR a0, vI a1] sh M mc ms Post := ⟨Nat.le_of_ble_eq_true rfl, h⟩
theorem rt75 {v : Int} {sh : List SC} {M : MM} {Post : PP} (hv : v = 0 ∨ v = 1) (h : Post (some (Sum.inl v)) sh M) : Rtn 75 0 0 Post (some (Sum.inl v)) (sh, 0, 0) M := ⟨Nat.le_refl _, Nat.le_refl _, hv, h⟩
/-! 76 OwnSunday.isSkill -/
def bt76 (pc : Nat) : BL := if pc = 0 then [(.iload 0, 0, 1), (.ifCond .lt 13, 0, 3)] else if pc = 4 then [(.iload 0, 0, 1), (.iconst 5, 0, 1), (.if_icmp .ge 13, 0, 3)] else if pc = 9 then [(.iconst 1, 0, 1), (.goto 14, 0, 3)] else if pc = 13 then [(.iconst 0, 0, 1)] else if pc = 14 then [(.ireturn, 0, 1)] else []
def sp76 (pc : Nat) : Bool := [].contains pc
theorem BT76 : bt76 0 = [(.iload 0, 0, 1), (.ifCond .lt 13, 0, 3)] ∧ bt76 4 = [(.iload 0, 0, 1), (.iconst 5, 0, 1), (.if_icmp .ge 13, 0, 3)] ∧ bt76 9 = [(.iconst 1, 0, 1), (.goto 14, 0, 3)] ∧ bt76 13 = [(.iconst 0, 0, 1)] ∧ bt76 14 = [(.ireturn, 0, 1)] ∧ True := ⟨rfl, rfl, rfl, rfl, rfl, trivial⟩
theorem SP76 : sp76 0 = false ∧ sp76 4 = false ∧ sp76 9 = false ∧ sp76 13 = false ∧ sp76 14 = false ∧ True := ⟨rfl, rfl, rfl, rfl, rfl, trivial⟩
set_option maxRecDepth 100000 in
theorem bk76 : ∀ pc, blk 76 pc (bt76 pc) = true := fun pc => blk_if (by decide +kernel) (blk_if (by decide +kernel) (blk_if (by decide +kernel) (blk_if (by decide +kernel) (blk_if (by decide +kernel) (rfl)))))
theorem go76 {d mc ms : Nat} {sh : List SC} {M : MM} {Post : PP} {a0 : Int} (h : ∀ S : Nat → KK, Clo (Run d) 76 none mc ms (Rtn 76 mc ms Post) S → S 0 [some (vI a0)] [] (sh, 0, 0) M) : Run (d + 1) 76 [vI a0] sh M mc ms Post := ⟨Nat.le_of_ble_eq_true rfl, h⟩
theorem rt76 {v : Int} {sh : List SC} {M : MM} {Post : PP} (hv : v = 0 ∨ v = 1) (h : Post (some (Sum.inl v)) sh M) : Rtn 76 0 0 Post (some (Sum.inl v)) (sh, 0, 0) M := ⟨Nat.le_refl _, Nat.le_refl _, hv, h⟩
/-! 77 OwnSunday.isDay -/
def bt77 (pc : Nat) : BL := if pc = 0 then [(.lload 0, 0, 1), (.ldc2_w 0, 0, 1), (.lcmp, 0, 1), (.ifCond .lt 18, 0, 3)] else if pc = 6 then [(.lload 0, 0, 1), (.ldc2_w 0, 1000000000000000, 3), (.lcmp, 0, 1), (.ifCond .gt 18, 0, 3)] else if pc = 14 then [(.iconst 1, 0, 1), (.goto 19, 0, 3)] else if pc = 18 then [(.iconst 0, 0, 1)] else if pc = 19 then [(.ireturn, 0, 1)] else []
def sp77 (pc : Nat) : Bool := [].contains pc
theorem BT77 : bt77 0 = [(.lload 0, 0, 1), (.ldc2_w 0, 0, 1), (.lcmp, 0, 1), (.ifCond .lt 18, 0, 3)] ∧ bt77 6 = [(.lload 0, 0, 1), (.ldc2_w 0, 1000000000000000, 3), (.lcmp, 0, 1), (.ifCond .gt 18, 0, 3)] ∧ bt77 14 = [(.iconst 1, 0, 1), (.goto 19, 0, 3)] ∧ bt77 18 = [(.iconst 0, 0, 1)] ∧ bt77 19 = [(.ireturn, 0, 1)] ∧ True := ⟨rfl, rfl, rfl, rfl, rfl, trivial⟩
theorem SP77 : sp77 0 = false ∧ sp77 6 = false ∧ sp77 14 = false ∧ sp77 18 = false ∧ sp77 19 = false ∧ True := ⟨rfl, rfl, rfl, rfl, rfl, trivial⟩
set_option maxRecDepth 100000 in
theorem bk77 : ∀ pc, blk 77 pc (bt77 pc) = true := fun pc => blk_if (by decide +kernel) (blk_if (by decide +kernel) (blk_if (by decide +kernel) (blk_if (by decide +kernel) (blk_if (by decide +kernel) (rfl)))))
theorem go77 {d mc ms : Nat} {sh : List SC} {M : MM} {Post : PP} {a0 : Int} (h : ∀ S : Nat → KK, Clo (Run d) 77 none mc ms (Rtn 77 mc ms Post) S → S 0 [some (vL a0), none] [] (sh, 0, 0) M) : Run (d + 1) 77 [vL a0] sh M mc ms Post := ⟨Nat.le_of_ble_eq_true rfl, h⟩
theorem rt77 {v : Int} {sh : List SC} {M : MM} {Post : PP} (hv : v = 0 ∨ v = 1) (h : Post (some (Sum.inl v)) sh M) : Rtn 77 0 0 Post (some (Sum.inl v)) (sh, 0, 0) M := ⟨Nat.le_refl _, Nat.le_refl _, hv, h⟩
/-! 78 OwnSunday.fillRota -/
def bt78 (pc : Nat) : BL := if pc = 0 then [(.aload 0, 0, 1), (.getfield 9, 5, 3), (.aload 0, 0, 1), (.getfield 5, 5, 3), (.aload 0, 0, 1), (.getfield 6, 5, 3), (.iconst 0, 0, 1), (.invokevirtual 21, 4, 3)] else if pc = 16 then [(.return_, 0, 1)] else []
def sp78 (pc : Nat) : Bool := [16].contains pc
theorem BT78 : bt78 0 = [(.aload 0, 0, 1), (.getfield 9, 5, 3), (.aload 0, 0, 1), (.getfield 5, 5, 3), (.aload 0, 0, 1), (.getfield 6, 5, 3), (.iconst 0, 0, 1), (.invokevirtual 21, 4, 3)] ∧ bt78 16 = [(.return_, 0, 1)] ∧ True := ⟨rfl, rfl, trivial⟩
theorem SP78 : sp78 0 = false ∧ sp78 16 = true ∧ True := ⟨rfl, rfl, trivial⟩
set_option maxRecDepth 100000 in
theorem bk78 : ∀ pc, blk 78 pc (bt78 pc) = true := fun pc => blk_if (by decide +kernel) (blk_if (by decide +kernel) (rfl))
theorem go78 {d mc ms : Nat} {sh : List SC} {M : MM} {Post : PP} {a0 : Nat} (h : ∀ S : Nat → KK, Clo (Run d) 78 none mc ms (Rtn 78 mc ms Post) S → S 0 [some (vR a0)] [] (sh, 0, 0) M) : Run (d + 1) 78 [vR a0] sh M mc ms Post := ⟨Nat.le_of_ble_eq_true rfl, h⟩
theorem rt78 {mc ms : Nat} {Z : ZZ} {M : MM} {Post : PP} (h1 : Z.2.1 ≤ mc) (h2 : Z.2.2 ≤ ms) (h : Post none Z.1 M) : Rtn 78 mc ms Post none Z M := ⟨h1, h2, trivial, h⟩
/-! 79 OwnSunday.weekLength -/
def bt79 (pc : Nat) : BL := if pc = 0 then [(.aload 0, 0, 1), (.getfield 5, 5, 3), (.getfield 0, 3, 3), (.aload 0, 0, 1), (.getfield 6, 5, 3), (.getfield 0, 0, 3), (.iload 1, 0, 1), (.iaload, 0, 1), (.iaload, 0, 1), (.ireturn, 0, 1)] else []
def sp79 (pc : Nat) : Bool := [].contains pc
theorem BT79 : bt79 0 = [(.aload 0, 0, 1), (.getfield 5, 5, 3), (.getfield 0, 3, 3), (.aload 0, 0, 1), (.getfield 6, 5, 3), (.getfield 0, 0, 3), (.iload 1, 0, 1), (.iaload, 0, 1), (.iaload, 0, 1), (.ireturn, 0, 1)] ∧ True := ⟨rfl, trivial⟩
theorem SP79 : sp79 0 = false ∧ True := ⟨rfl, trivial⟩
set_option maxRecDepth 100000 in
theorem bk79 : ∀ pc, blk 79 pc (bt79 pc) = true := fun pc => blk_if (by decide +kernel) (rfl)
theorem go79 {d mc ms : Nat} {sh : List SC} {M : MM} {Post : PP} {a0 : Nat} {a1 : Int} (h : ∀ S : Nat → KK, Clo (Run d) 79 none mc ms (Rtn 79 mc ms Post) S → S 0 [some (vR a0), some (vI a1)] [] (sh, 0, 0) M) : Run (d + 1) 79 [vR a0, vI a1] sh M mc ms Post := ⟨Nat.le_of_ble_eq_true rfl, h⟩
theorem rt79 {v : Int} {sh : List SC} {M : MM} {Post : PP} (h : Post (some (Sum.inl v)) sh M) : Rtn 79 0 0 Post (some (Sum.inl v)) (sh, 0, 0) M := ⟨Nat.le_refl _, Nat.le_refl _, trivial, h⟩
/-! 80 OwnSunday.upOn -/
def bt80 (pc : Nat) : BL := if pc = 0 then [(.iconst 1, 0, 1), (.aload 0, 0, 1), (.getfield 5, 5, 3), (.getfield 1, 3, 3), (.ishl, 0, 1), (.iconst 1, 0, 1), (.isub, 0, 1), (.aload 0, 0, 1), (.getfield 9, 5, 3), (.lload 1, 0, 1), (.invokevirtual 24, 2, 3)] else if pc = 19 then [(.iconst (-1), 0, 1), (.ixor, 0, 1), (.iand, 0, 1), (.ireturn, 0, 1)] else []
def sp80 (pc : Nat) : Bool := [19].contains pc
theorem BT80 : bt80 0 = [(.iconst 1, 0, 1), (.aload 0, 0, 1), (.getfield 5, 5, 3), (.getfield 1, 3, 3), (.ishl, 0, 1), (.iconst 1, 0, 1), (.isub, 0, 1), (.aload 0, 0, 1), (.getfield 9, 5, 3), (.lload 1, 0, 1), (.invokevirtual 24, 2, 3)] ∧ bt80 19 = [(.iconst (-1), 0, 1), (.ixor, 0, 1), (.iand, 0, 1), (.ireturn, 0, 1)] ∧ True := ⟨rfl, rfl, trivial⟩
theorem SP80 : sp80 0 = false ∧ sp80 19 = true ∧ True := ⟨rfl, rfl, trivial⟩
set_option maxRecDepth 100000 in
theorem bk80 : ∀ pc, blk 80 pc (bt80 pc) = true := fun pc => blk_if (by decide +kernel) (blk_if (by decide +kernel) (rfl))
theorem go80 {d mc ms : Nat} {sh : List SC} {M : MM} {Post : PP} {a0 : Nat} {a1 : Int} (h : ∀ S : Nat → KK, Clo (Run d) 80 none mc ms (Rtn 80 mc ms Post) S → S 0 [some (vR a0), some (vL a1), none] [] (sh, 0, 0) M) : Run (d + 1) 80 [vR a0, vL a1] sh M mc ms Post := ⟨Nat.le_of_ble_eq_true rfl, h⟩
theorem rt80 {v : Int} {sh : List SC} {M : MM} {Post : PP} (h : Post (some (Sum.inl v)) sh M) : Rtn 80 0 0 Post (some (Sum.inl v)) (sh, 0, 0) M := ⟨Nat.le_refl _, Nat.le_refl _, trivial, h⟩
/-! 81 OwnSunday.handsOn -/
def bt81 (pc : Nat) : BL := if pc = 0 then [(.aload 0, 0, 1), (.getfield 5, 5, 3), (.getfield 4, 3, 3), (.iload 1, 0, 1), (.iaload, 0, 1), (.aload 0, 0, 1), (.lload 2, 0, 1), (.invokevirtual 80, 2, 3)] else if pc = 14 then [(.iand, 0, 1), (.invokestatic 161, 1, 3)] else if pc = 18 then [(.ireturn, 0, 1)] else []
def sp81 (pc : Nat) : Bool := [14, 18].contains pc
theorem BT81 : bt81 0 = [(.aload 0, 0, 1), (.getfield 5, 5, 3), (.getfield 4, 3, 3), (.iload 1, 0, 1), (.iaload, 0, 1), (.aload 0, 0, 1), (.lload 2, 0, 1), (.invokevirtual 80, 2, 3)] ∧ bt81 14 = [(.iand, 0, 1), (.invokestatic 161, 1, 3)] ∧ bt81 18 = [(.ireturn, 0, 1)] ∧ True := ⟨rfl, rfl, rfl, trivial⟩
theorem SP81 : sp81 0 = false ∧ sp81 14 = true ∧ sp81 18 = true ∧ True := ⟨rfl, rfl, rfl, trivial⟩
set_option maxRecDepth 100000 in
theorem bk81 : ∀ pc, blk 81 pc (bt81 pc) = true := fun pc => blk_if (by decide +kernel) (blk_if (by decide +kernel) (blk_if (by decide +kernel) (rfl)))
theorem go81 {d mc ms : Nat} {sh : List SC} {M : MM} {Post : PP} {a0 : Nat} {a1 : Int} {a2 : Int} (h : ∀ S : Nat → KK, Clo (Run d) 81 none mc ms (Rtn 81 mc ms Post) S → S 0 [some (vR a0), some (vI a1), some (vL a2), none] [] (sh, 0, 0) M) : Run (d + 1) 81 [vR a0, vI a1, vL a2] sh M mc ms Post := ⟨Nat.le_of_ble_eq_true rfl, h⟩
theorem rt81 {v : Int} {sh : List SC} {M : MM} {Post : PP} (h : Post (some (Sum.inl v)) sh M) : Rtn 81 0 0 Post (some (Sum.inl v)) (sh, 0, 0) M := ⟨Nat.le_refl _, Nat.le_refl _, trivial, h⟩
/-! 82 OwnSunday.allUp -/
def bt82 (pc : Nat) : BL := if pc = 0 then [(.aload 0, 0, 1), (.getfield 9, 5, 3), (.lload 2, 0, 1), (.invokevirtual 24, 2, 3)] else if pc = 8 then [(.iload 1, 0, 1), (.iand, 0, 1), (.ifCond .ne 17, 0, 3)] else if pc = 13 then [(.iconst 1, 0, 1), (.goto 18, 0, 3)] else if pc = 17 then [(.iconst 0, 0, 1)] else if pc = 18 then [(.ireturn, 0, 1)] else []
def sp82 (pc : Nat) : Bool := [8].contains pc
theorem BT82 : bt82 0 = [(.aload 0, 0, 1), (.getfield 9, 5, 3), (.lload 2, 0, 1), (.invokevirtual 24, 2, 3)] ∧ bt82 8 = [(.iload 1, 0, 1), (.iand, 0, 1), (.ifCond .ne 17, 0, 3)] ∧ bt82 13 = [(.iconst 1, 0, 1), (.goto 18, 0, 3)] ∧ bt82 17 = [(.iconst 0, 0, 1)] ∧ bt82 18 = [(.ireturn, 0, 1)] ∧ True := ⟨rfl, rfl, rfl, rfl, rfl, trivial⟩
theorem SP82 : sp82 0 = false ∧ sp82 8 = true ∧ sp82 13 = false ∧ sp82 17 = false ∧ sp82 18 = false ∧ True := ⟨rfl, rfl, rfl, rfl, rfl, trivial⟩
set_option maxRecDepth 100000 in
theorem bk82 : ∀ pc, blk 82 pc (bt82 pc) = true := fun pc => blk_if (by decide +kernel) (blk_if (by decide +kernel) (blk_if (by decide +kernel) (blk_if (by decide +kernel) (blk_if (by decide +kernel) (rfl)))))
theorem go82 {d mc ms : Nat} {sh : List SC} {M : MM} {Post : PP} {a0 : Nat} {a1 : Int} {a2 : Int} (h : ∀ S : Nat → KK, Clo (Run d) 82 none mc ms (Rtn 82 mc ms Post) S → S 0 [some (vR a0), some (vI a1), some (vL a2), none] [] (sh, 0, 0) M) : Run (d + 1) 82 [vR a0, vI a1, vL a2] sh M mc ms Post := ⟨Nat.le_of_ble_eq_true rfl, h⟩
theorem rt82 {v : Int} {sh : List SC} {M : MM} {Post : PP} (hv : v = 0 ∨ v = 1) (h : Post (some (Sum.inl v)) sh M) : Rtn 82 0 0 Post (some (Sum.inl v)) (sh, 0, 0) M := ⟨Nat.le_refl _, Nat.le_refl _, hv, h⟩
/-! 83 OwnSunday.cookRests -/
def bt83 (pc : Nat) : BL := if pc = 0 then [(.aload 0, 0, 1), (.getfield 9, 5, 3), (.lload 1, 0, 1), (.invokevirtual 24, 2, 3)] else if pc = 8 then [(.iconst 1, 0, 1), (.aload 0, 0, 1), (.getfield 5, 5, 3), (.getfield 9, 3, 3), (.ishl, 0, 1), (.iand, 0, 1), (.ifCond .eq 25, 0, 3)] else if pc = 21 then [(.iconst 1, 0, 1), (.goto 26, 0, 3)] else if pc = 25 then [(.iconst 0, 0, 1)] else if pc = 26 then [(.ireturn, 0, 1)] else []
def sp83 (pc : Nat) : Bool := [8].contains pc
theorem BT83 : bt83 0 = [(.aload 0, 0, 1), (.getfield 9, 5, 3), (.lload 1, 0, 1), (.invokevirtual 24, 2, 3)] ∧ bt83 8 = [(.iconst 1, 0, 1), (.aload 0, 0, 1), (.getfield 5, 5, 3), (.getfield 9, 3, 3), (.ishl, 0, 1), (.iand, 0, 1), (.ifCond .eq 25, 0, 3)] ∧ bt83 21 = [(.iconst 1, 0, 1), (.goto 26, 0, 3)] ∧ bt83 25 = [(.iconst 0, 0, 1)] ∧ bt83 26 = [(.ireturn, 0, 1)] ∧ True := ⟨rfl, rfl, rfl, rfl, rfl, trivial⟩
theorem SP83 : sp83 0 = false ∧ sp83 8 = true ∧ sp83 21 = false ∧ sp83 25 = false ∧ sp83 26 = false ∧ True := ⟨rfl, rfl, rfl, rfl, rfl, trivial⟩
set_option maxRecDepth 100000 in
theorem bk83 : ∀ pc, blk 83 pc (bt83 pc) = true := fun pc => blk_if (by decide +kernel) (blk_if (by decide +kernel) (blk_if (by decide +kernel) (blk_if (by decide +kernel) (blk_if (by decide +kernel) (rfl)))))
theorem go83 {d mc ms : Nat} {sh : List SC} {M : MM} {Post : PP} {a0 : Nat} {a1 : Int} (h : ∀ S : Nat → KK, Clo (Run d) 83 none mc ms (Rtn 83 mc ms Post) S → S 0 [some (vR a0), some (vL a1), none] [] (sh, 0, 0) M) : Run (d + 1) 83 [vR a0, vL a1] sh M mc ms Post := ⟨Nat.le_of_ble_eq_true rfl, h⟩
theorem rt83 {v : Int} {sh : List SC} {M : MM} {Post : PP} (hv : v = 0 ∨ v = 1) (h : Post (some (Sum.inl v)) sh M) : Rtn 83 0 0 Post (some (Sum.inl v)) (sh, 0, 0) M := ⟨Nat.le_refl _, Nat.le_refl _, hv, h⟩
/-! 84 OwnSunday.dayOfFire -/
def bt84 (pc : Nat) : BL := if pc = 0 then [(.ldc2_w 0, 7919, 3), (.iload 0, 0, 1), (.i2l, 0, 1), (.lmul, 0, 1), (.ldc2_w 0, 1, 1), (.ladd, 0, 1), (.lstore 4, 0, 2), (.lload 2, 0, 1), (.lload 4, 0, 2), (.lload 4, 0, 2), (.lmul, 0, 1), (.ldc2_w 0, 65521, 3), (.lrem, 0, 1), (.iconst 1, 0, 1), (.iload 1, 0, 1), (.invokestatic 1002, 99, 3), (.i2l, 0, 1), (.lrem, 0, 1), (.ladd, 0, 1), (.lreturn, 0, 1)] else []
def sp84 (pc : Nat) : Bool := [].contains pc
theorem BT84 : bt84 0 = [(.ldc2_w 0, 7919, 3), (.iload 0, 0, 1), (.i2l, 0, 1), (.lmul, 0, 1), (.ldc2_w 0, 1, 1), (.ladd, 0, 1), (.lstore 4, 0, 2), (.lload 2, 0, 1), (.lload 4, 0, 2), (.lload 4, 0, 2), (.lmul, 0, 1), (.ldc2_w 0, 65521, 3), (.lrem, 0, 1), (.iconst 1, 0, 1), (.iload 1, 0, 1), (.invokestatic 1002, 99, 3), (.i2l, 0, 1), (.lrem, 0, 1), (.ladd, 0, 1), (.lreturn, 0, 1)] ∧ True := ⟨rfl, trivial⟩
theorem SP84 : sp84 0 = false ∧ True := ⟨rfl, trivial⟩
set_option maxRecDepth 100000 in
theorem bk84 : ∀ pc, blk 84 pc (bt84 pc) = true := fun pc => blk_if (by decide +kernel) (rfl)
theorem go84 {d mc ms : Nat} {sh : List SC} {M : MM} {Post : PP} {a0 : Int} {a1 : Int} {a2 : Int} (h : ∀ S : Nat → KK, Clo (Run d) 84 none mc ms (Rtn 84 mc ms Post) S → S 0 [some (vI a0), some (vI a1), some (vL a2), none, none, none] [] (sh, 0, 0) M) : Run (d + 1) 84 [vI a0, vI a1, vL a2] sh M mc ms Post := ⟨Nat.le_of_ble_eq_true rfl, h⟩
theorem rt84 {v : Int} {sh : List SC} {M : MM} {Post : PP} (h : Post (some (Sum.inr (Sum.inl v))) sh M) : Rtn 84 0 0 Post (some (Sum.inr (Sum.inl v))) (sh, 0, 0) M := ⟨Nat.le_refl _, Nat.le_refl _, trivial, h⟩
/-! 85 OwnSunday.firstShort -/
def bt85 (pc : Nat) : BL := if pc = 0 then [(.iconst 0, 0, 1), (.istore 2, 0, 1)] else if pc = 2 then [(.iload 2, 0, 1), (.aload 0, 0, 1), (.getfield 5, 5, 3), (.getfield 5, 3, 3), (.if_icmp .ge 33, 0, 3)] else if pc = 13 then [(.aload 0, 0, 1), (.getfield 5, 5, 3), (.iload 2, 0, 1), (.iload 1, 0, 1), (.invokevirtual 33, 3, 3)] else if pc = 22 then [(.ifCond .eq 27, 0, 3)] else if pc = 25 then [(.iload 2, 0, 1), (.ireturn, 0, 1)] else if pc = 27 then [(.iinc 2 1, 0, 3), (.goto 2, 0, 3)] else if pc = 33 then [(.iconst (-4), 0, 2), (.ireturn, 0, 1)] else []
def sp85 (pc : Nat) : Bool := [2, 22].contains pc
theorem BT85 : bt85 0 = [(.iconst 0, 0, 1), (.istore 2, 0, 1)] ∧ bt85 2 = [(.iload 2, 0, 1), (.aload 0, 0, 1), (.getfield 5, 5, 3), (.getfield 5, 3, 3), (.if_icmp .ge 33, 0, 3)] ∧ bt85 13 = [(.aload 0, 0, 1), (.getfield 5, 5, 3), (.iload 2, 0, 1), (.iload 1, 0, 1), (.invokevirtual 33, 3, 3)] ∧ bt85 22 = [(.ifCond .eq 27, 0, 3)] ∧ bt85 25 = [(.iload 2, 0, 1), (.ireturn, 0, 1)] ∧ bt85 27 = [(.iinc 2 1, 0, 3), (.goto 2, 0, 3)] ∧ bt85 33 = [(.iconst (-4), 0, 2), (.ireturn, 0, 1)] ∧ True := ⟨rfl, rfl, rfl, rfl, rfl, rfl, rfl, trivial⟩
theorem SP85 : sp85 0 = false ∧ sp85 2 = true ∧ sp85 13 = false ∧ sp85 22 = true ∧ sp85 25 = false ∧ sp85 27 = false ∧ sp85 33 = false ∧ True := ⟨rfl, rfl, rfl, rfl, rfl, rfl, rfl, trivial⟩
set_option maxRecDepth 100000 in
theorem bk85 : ∀ pc, blk 85 pc (bt85 pc) = true := fun pc => blk_if (by decide +kernel) (blk_if (by decide +kernel) (blk_if (by decide +kernel) (blk_if (by decide +kernel) (blk_if (by decide +kernel) (blk_if (by decide +kernel) (blk_if (by decide +kernel) (rfl)))))))
theorem go85 {d mc ms : Nat} {sh : List SC} {M : MM} {Post : PP} {a0 : Nat} {a1 : Int} (h : ∀ S : Nat → KK, Clo (Run d) 85 none mc ms (Rtn 85 mc ms Post) S → S 0 [some (vR a0), some (vI a1), none] [] (sh, 0, 0) M) : Run (d + 1) 85 [vR a0, vI a1] sh M mc ms Post := ⟨Nat.le_of_ble_eq_true rfl, h⟩
theorem rt85 {v : Int} {sh : List SC} {M : MM} {Post : PP} (h : Post (some (Sum.inl v)) sh M) : Rtn 85 0 0 Post (some (Sum.inl v)) (sh, 0, 0) M := ⟨Nat.le_refl _, Nat.le_refl _, trivial, h⟩
/-! 86 OwnSunday.daysAllUp -/
def bt86 (pc : Nat) : BL := if pc = 0 then [(.iconst 0, 0, 1), (.istore 5, 0, 2), (.iconst 0, 0, 1), (.istore 6, 0, 2)] else if pc = 6 then [(.iload 6, 0, 2), (.iload 4, 0, 2), (.if_icmp .ge 35, 0, 3)] else if pc = 13 then [(.aload 0, 0, 1), (.iload 1, 0, 1), (.lload 2, 0, 1), (.iload 6, 0, 2), (.i2l, 0, 1), (.ladd, 0, 1), (.invokevirtual 82, 3, 3)] else if pc = 23 then [(.ifCond .eq 29, 0, 3)] else if pc = 26 then [(.iinc 5 1, 0, 3)] else if pc = 29 then [(.iinc 6 1, 0, 3), (.goto 6, 0, 3)] else if pc = 35 then [(.iload 5, 0, 2), (.ireturn, 0, 1)] else []
def sp86 (pc : Nat) : Bool := [6, 23].contains pc
theorem BT86 : bt86 0 = [(.iconst 0, 0, 1), (.istore 5, 0, 2), (.iconst 0, 0, 1), (.istore 6, 0, 2)] ∧ bt86 6 = [(.iload 6, 0, 2), (.iload 4, 0, 2), (.if_icmp .ge 35, 0, 3)] ∧ bt86 13 = [(.aload 0, 0, 1), (.iload 1, 0, 1), (.lload 2, 0, 1), (.iload 6, 0, 2), (.i2l, 0, 1), (.ladd, 0, 1), (.invokevirtual 82, 3, 3)] ∧ bt86 23 = [(.ifCond .eq 29, 0, 3)] ∧ bt86 26 = [(.iinc 5 1, 0, 3)] ∧ bt86 29 = [(.iinc 6 1, 0, 3), (.goto 6, 0, 3)] ∧ bt86 35 = [(.iload 5, 0, 2), (.ireturn, 0, 1)] ∧ True := ⟨rfl, rfl, rfl, rfl, rfl, rfl, rfl, trivial⟩
theorem SP86 : sp86 0 = false ∧ sp86 6 = true ∧ sp86 13 = false ∧ sp86 23 = true ∧ sp86 26 = false ∧ sp86 29 = false ∧ sp86 35 = false ∧ True := ⟨rfl, rfl, rfl, rfl, rfl, rfl, rfl, trivial⟩
set_option maxRecDepth 100000 in
theorem bk86 : ∀ pc, blk 86 pc (bt86 pc) = true := fun pc => blk_if (by decide +kernel) (blk_if (by decide +kernel) (blk_if (by decide +kernel) (blk_if (by decide +kernel) (blk_if (by decide +kernel) (blk_if (by decide +kernel) (blk_if (by decide +kernel) (rfl)))))))
theorem go86 {d mc ms : Nat} {sh : List SC} {M : MM} {Post : PP} {a0 : Nat} {a1 : Int} {a2 : Int} {a3 : Int} (h : ∀ S : Nat → KK, Clo (Run d) 86 none mc ms (Rtn 86 mc ms Post) S → S 0 [some (vR a0), some (vI a1), some (vL a2), none, some (vI a3), none, none] [] (sh, 0, 0) M) : Run (d + 1) 86 [vR a0, vI a1, vL a2, vI a3] sh M mc ms Post := ⟨Nat.le_of_ble_eq_true rfl, h⟩
theorem rt86 {v : Int} {sh : List SC} {M : MM} {Post : PP} (h : Post (some (Sum.inl v)) sh M) : Rtn 86 0 0 Post (some (Sum.inl v)) (sh, 0, 0) M := ⟨Nat.le_refl _, Nat.le_refl _, trivial, h⟩
/-! 87 OwnSunday.firstDayResting -/
def bt87 (pc : Nat) : BL := if pc = 0 then [(.aload 0, 0, 1), (.getfield 5, 5, 3), (.invokevirtual 31, 1, 3)] else if pc = 7 then [(.istore 2, 0, 1), (.iconst 0, 0, 1), (.istore 3, 0, 1)] else if pc = 10 then [(.iload 3, 0, 1), (.iload 2, 0, 1), (.if_icmp .ge 39, 0, 3)] else if pc = 15 then [(.aload 0, 0, 1), (.getfield 9, 5, 3), (.iload 3, 0, 1), (.i2l, 0, 1), (.invokevirtual 24, 2, 3)] else if pc = 24 then [(.invokestatic 161, 1, 3)] else if pc = 27 then [(.iload 1, 0, 1), (.if_icmp .ne 33, 0, 3)] else if pc = 31 then [(.iload 3, 0, 1), (.ireturn, 0, 1)] else if pc = 33 then [(.iinc 3 1, 0, 3), (.goto 10, 0, 3)] else if pc = 39 then [(.iconst (-4), 0, 2), (.ireturn, 0, 1)] else []
def sp87 (pc : Nat) : Bool := [7, 10, 24, 27].contains pc
theorem BT87 : bt87 0 = [(.aload 0, 0, 1), (.getfield 5, 5, 3), (.invokevirtual 31, 1, 3)] ∧ bt87 7 = [(.istore 2, 0, 1), (.iconst 0, 0, 1), (.istore 3, 0, 1)] ∧ bt87 10 = [(.iload 3, 0, 1), (.iload 2, 0, 1), (.if_icmp .ge 39, 0, 3)] ∧ bt87 15 = [(.aload 0, 0, 1), (.getfield 9, 5, 3), (.iload 3, 0, 1), (.i2l, 0, 1), (.invokevirtual 24, 2, 3)] ∧ bt87 24 = [(.invokestatic 161, 1, 3)] ∧ bt87 27 = [(.iload 1, 0, 1), (.if_icmp .ne 33, 0, 3)] ∧ bt87 31 = [(.iload 3, 0, 1), (.ireturn, 0, 1)] ∧ bt87 33 = [(.iinc 3 1, 0, 3), (.goto 10, 0, 3)] ∧ bt87 39 = [(.iconst (-4), 0, 2), (.ireturn, 0, 1)] ∧ True := ⟨rfl, rfl, rfl, rfl, rfl, rfl, rfl, rfl, rfl, trivial⟩
theorem SP87 : sp87 0 = false ∧ sp87 7 = true ∧ sp87 10 = true ∧ sp87 15 = false ∧ sp87 24 = true ∧ sp87 27 = true ∧ sp87 31 = false ∧ sp87 33 = false ∧ sp87 39 = false ∧ True := ⟨rfl, rfl, rfl, rfl, rfl, rfl, rfl, rfl, rfl, trivial⟩
set_option maxRecDepth 100000 in
theorem bk87 : ∀ pc, blk 87 pc (bt87 pc) = true := fun pc => blk_if (by decide +kernel) (blk_if (by decide +kernel) (blk_if (by decide +kernel) (blk_if (by decide +kernel) (blk_if (by decide +kernel) (blk_if (by decide +kernel) (blk_if (by decide +kernel) (blk_if (by decide +kernel) (blk_if (by decide +kernel) (rfl)))))))))
theorem go87 {d mc ms : Nat} {sh : List SC} {M : MM} {Post : PP} {a0 : Nat} {a1 : Int} (h : ∀ S : Nat → KK, Clo (Run d) 87 none mc ms (Rtn 87 mc ms Post) S → S 0 [some (vR a0), some (vI a1), none, none] [] (sh, 0, 0) M) : Run (d + 1) 87 [vR a0, vI a1] sh M mc ms Post := ⟨Nat.le_of_ble_eq_true rfl, h⟩
theorem rt87 {v : Int} {sh : List SC} {M : MM} {Post : PP} (h : Post (some (Sum.inl v)) sh M) : Rtn 87 0 0 Post (some (Sum.inl v)) (sh, 0, 0) M := ⟨Nat.le_refl _, Nat.le_refl _, trivial, h⟩
/-! 88 OwnSunday.daysToDo -/
def bt88 (pc : Nat) : BL := if pc = 0 then [(.aload 0, 0, 1), (.getfield 5, 5, 3), (.invokevirtual 31, 1, 3)] else if pc = 7 then [(.istore 6, 0, 2), (.lload 4, 0, 2), (.lstore 7, 0, 2), (.iconst 0, 0, 1), (.istore 9, 0, 2)] else if pc = 16 then [(.iload 9, 0, 2), (.iload 6, 0, 2), (.if_icmp .ge 52, 0, 3)] else if pc = 23 then [(.lload 7, 0, 2), (.ldc2_w 0, 0, 1), (.lcmp, 0, 1), (.ifCond .le 52, 0, 3)] else if pc = 30 then [(.lload 7, 0, 2), (.aload 0, 0, 1), (.iload 1, 0, 1), (.lload 2, 0, 1), (.iload 9, 0, 2), (.i2l, 0, 1), (.ladd, 0, 1), (.invokevirtual 81, 3, 3)] else if pc = 42 then [(.i2l, 0, 1), (.lsub, 0, 1), (.lstore 7, 0, 2), (.iinc 9 1, 0, 3), (.goto 16, 0, 3)] else if pc = 52 then [(.iload 9, 0, 2), (.ireturn, 0, 1)] else []
def sp88 (pc : Nat) : Bool := [7, 16, 42].contains pc
theorem BT88 : bt88 0 = [(.aload 0, 0, 1), (.getfield 5, 5, 3), (.invokevirtual 31, 1, 3)] ∧ bt88 7 = [(.istore 6, 0, 2), (.lload 4, 0, 2), (.lstore 7, 0, 2), (.iconst 0, 0, 1), (.istore 9, 0, 2)] ∧ bt88 16 = [(.iload 9, 0, 2), (.iload 6, 0, 2), (.if_icmp .ge 52, 0, 3)] ∧ bt88 23 = [(.lload 7, 0, 2), (.ldc2_w 0, 0, 1), (.lcmp, 0, 1), (.ifCond .le 52, 0, 3)] ∧ bt88 30 = [(.lload 7, 0, 2), (.aload 0, 0, 1), (.iload 1, 0, 1), (.lload 2, 0, 1), (.iload 9, 0, 2), (.i2l, 0, 1), (.ladd, 0, 1), (.invokevirtual 81, 3, 3)] ∧ bt88 42 = [(.i2l, 0, 1), (.lsub, 0, 1), (.lstore 7, 0, 2), (.iinc 9 1, 0, 3), (.goto 16, 0, 3)] ∧ bt88 52 = [(.iload 9, 0, 2), (.ireturn, 0, 1)] ∧ True := ⟨rfl, rfl, rfl, rfl, rfl, rfl, rfl, trivial⟩
theorem SP88 : sp88 0 = false ∧ sp88 7 = true ∧ sp88 16 = true ∧ sp88 23 = false ∧ sp88 30 = false ∧ sp88 42 = true ∧ sp88 52 = false ∧ True := ⟨rfl, rfl, rfl, rfl, rfl, rfl, rfl, trivial⟩
set_option maxRecDepth 100000 in
theorem bk88 : ∀ pc, blk 88 pc (bt88 pc) = true := fun pc => blk_if (by decide +kernel) (blk_if (by decide +kernel) (blk_if (by decide +kernel) (blk_if (by decide +kernel) (blk_if (by decide +kernel) (blk_if (by decide +kernel) (blk_if (by decide +kernel) (rfl)))))))
theorem go88 {d mc ms : Nat} {sh : List SC} {M : MM} {Post : PP} {a0 : Nat} {a1 : Int} {a2 : Int} {a3 : Int} (h : ∀ S : Nat → KK, Clo (Run d) 88 none mc ms (Rtn 88 mc ms Post) S → S 0 [some (vR a0), some (vI a1), some (vL a2), none, some (vL a3), none, none, none, none, none] [] (sh, 0, 0) M) : Run (d + 1) 88 [vR a0, vI a1, vL a2, vL a3] sh M mc ms Post := ⟨Nat.le_of_ble_eq_true rfl, h⟩
theorem rt88 {v : Int} {sh : List SC} {M : MM} {Post : PP} (h : Post (some (Sum.inl v)) sh M) : Rtn 88 0 0 Post (some (Sum.inl v)) (sh, 0, 0) M := ⟨Nat.le_refl _, Nat.le_refl _, trivial, h⟩
/-! 89 OwnSunday.everShort -/
def bt89 (pc : Nat) : BL := if pc = 0 then [(.aload 0, 0, 1), (.getfield 5, 5, 3), (.getfield 4, 3, 3), (.aload 0, 0, 1), (.getfield 5, 5, 3), (.getfield 6, 3, 3), (.iload 1, 0, 1), (.iaload, 0, 1), (.iaload, 0, 1), (.istore 2, 0, 1), (.iload 2, 0, 1), (.invokestatic 161, 1, 3)] else if pc = 22 then [(.aload 0, 0, 1), (.getfield 9, 5, 3), (.iload 2, 0, 1), (.invokevirtual 25, 2, 3)] else if pc = 30 then [(.isub, 0, 1), (.aload 0, 0, 1), (.getfield 5, 5, 3), (.getfield 7, 3, 3), (.iload 1, 0, 1), (.iaload, 0, 1), (.if_icmp .ge 47, 0, 3)] else if pc = 43 then [(.iconst 1, 0, 1), (.goto 48, 0, 3)] else if pc = 47 then [(.iconst 0, 0, 1)] else if pc = 48 then [(.ireturn, 0, 1)] else []
def sp89 (pc : Nat) : Bool := [22, 30].contains pc
theorem BT89 : bt89 0 = [(.aload 0, 0, 1), (.getfield 5, 5, 3), (.getfield 4, 3, 3), (.aload 0, 0, 1), (.getfield 5, 5, 3), (.getfield 6, 3, 3), (.iload 1, 0, 1), (.iaload, 0, 1), (.iaload, 0, 1), (.istore 2, 0, 1), (.iload 2, 0, 1), (.invokestatic 161, 1, 3)] ∧ bt89 22 = [(.aload 0, 0, 1), (.getfield 9, 5, 3), (.iload 2, 0, 1), (.invokevirtual 25, 2, 3)] ∧ bt89 30 = [(.isub, 0, 1), (.aload 0, 0, 1), (.getfield 5, 5, 3), (.getfield 7, 3, 3), (.iload 1, 0, 1), (.iaload, 0, 1), (.if_icmp .ge 47, 0, 3)] ∧ bt89 43 = [(.iconst 1, 0, 1), (.goto 48, 0, 3)] ∧ bt89 47 = [(.iconst 0, 0, 1)] ∧ bt89 48 = [(.ireturn, 0, 1)] ∧ True := ⟨rfl, rfl, rfl, rfl, rfl, rfl, trivial⟩
theorem SP89 : sp89 0 = false ∧ sp89 22 = true ∧ sp89 30 = true ∧ sp89 43 = false ∧ sp89 47 = false ∧ sp89 48 = false ∧ True := ⟨rfl, rfl, rfl, rfl, rfl, rfl, trivial⟩
set_option maxRecDepth 100000 in
theorem bk89 : ∀ pc, blk 89 pc (bt89 pc) = true := fun pc => blk_if (by decide +kernel) (blk_if (by decide +kernel) (blk_if (by decide +kernel) (blk_if (by decide +kernel) (blk_if (by decide +kernel) (blk_if (by decide +kernel) (rfl))))))
theorem go89 {d mc ms : Nat} {sh : List SC} {M : MM} {Post : PP} {a0 : Nat} {a1 : Int} (h : ∀ S : Nat → KK, Clo (Run d) 89 none mc ms (Rtn 89 mc ms Post) S → S 0 [some (vR a0), some (vI a1), none] [] (sh, 0, 0) M) : Run (d + 1) 89 [vR a0, vI a1] sh M mc ms Post := ⟨Nat.le_of_ble_eq_true rfl, h⟩
theorem rt89 {v : Int} {sh : List SC} {M : MM} {Post : PP} (hv : v = 0 ∨ v = 1) (h : Post (some (Sum.inl v)) sh M) : Rtn 89 0 0 Post (some (Sum.inl v)) (sh, 0, 0) M := ⟨Nat.le_refl _, Nat.le_refl _, hv, h⟩
/-! 90 OwnSunday.anyEverShort -/
def bt90 (pc : Nat) : BL := if pc = 0 then [(.iconst 0, 0, 1), (.istore 1, 0, 1)] else if pc = 2 then [(.iload 1, 0, 1), (.aload 0, 0, 1), (.getfield 5, 5, 3), (.getfield 5, 3, 3), (.if_icmp .ge 29, 0, 3)] else if pc = 13 then [(.aload 0, 0, 1), (.iload 1, 0, 1), (.invokevirtual 89, 2, 3)] else if pc = 18 then [(.ifCond .eq 23, 0, 3)] else if pc = 21 then [(.iconst 1, 0, 1), (.ireturn, 0, 1)] else if pc = 23 then [(.iinc 1 1, 0, 3), (.goto 2, 0, 3)] else if pc = 29 then [(.iconst 0, 0, 1), (.ireturn, 0, 1)] else []
def sp90 (pc : Nat) : Bool := [2, 18].contains pc
theorem BT90 : bt90 0 = [(.iconst 0, 0, 1), (.istore 1, 0, 1)] ∧ bt90 2 = [(.iload 1, 0, 1), (.aload 0, 0, 1), (.getfield 5, 5, 3), (.getfield 5, 3, 3), (.if_icmp .ge 29, 0, 3)] ∧ bt90 13 = [(.aload 0, 0, 1), (.iload 1, 0, 1), (.invokevirtual 89, 2, 3)] ∧ bt90 18 = [(.ifCond .eq 23, 0, 3)] ∧ bt90 21 = [(.iconst 1, 0, 1), (.ireturn, 0, 1)] ∧ bt90 23 = [(.iinc 1 1, 0, 3), (.goto 2, 0, 3)] ∧ bt90 29 = [(.iconst 0, 0, 1), (.ireturn, 0, 1)] ∧ True := ⟨rfl, rfl, rfl, rfl, rfl, rfl, rfl, trivial⟩
theorem SP90 : sp90 0 = false ∧ sp90 2 = true ∧ sp90 13 = false ∧ sp90 18 = true ∧ sp90 21 = false ∧ sp90 23 = false ∧ sp90 29 = false ∧ True := ⟨rfl, rfl, rfl, rfl, rfl, rfl, rfl, trivial⟩
set_option maxRecDepth 100000 in
theorem bk90 : ∀ pc, blk 90 pc (bt90 pc) = true := fun pc => blk_if (by decide +kernel) (blk_if (by decide +kernel) (blk_if (by decide +kernel) (blk_if (by decide +kernel) (blk_if (by decide +kernel) (blk_if (by decide +kernel) (blk_if (by decide +kernel) (rfl)))))))
theorem go90 {d mc ms : Nat} {sh : List SC} {M : MM} {Post : PP} {a0 : Nat} (h : ∀ S : Nat → KK, Clo (Run d) 90 none mc ms (Rtn 90 mc ms Post) S → S 0 [some (vR a0), none] [] (sh, 0, 0) M) : Run (d + 1) 90 [vR a0] sh M mc ms Post := ⟨Nat.le_of_ble_eq_true rfl, h⟩
theorem rt90 {v : Int} {sh : List SC} {M : MM} {Post : PP} (hv : v = 0 ∨ v = 1) (h : Post (some (Sum.inl v)) sh M) : Rtn 90 0 0 Post (some (Sum.inl v)) (sh, 0, 0) M := ⟨Nat.le_refl _, Nat.le_refl _, hv, h⟩
/-! 91 OwnSunday.shortDaysWed -/
def bt91 (pc : Nat) : BL := if pc = 0 then [(.aload 0, 0, 1), (.getfield 9, 5, 3), (.aload 0, 0, 1), (.getfield 5, 5, 3), (.aload 0, 0, 1), (.getfield 6, 5, 3), (.iconst 1, 0, 1), (.iload 1, 0, 1), (.ishl, 0, 1), (.iconst 1, 0, 1), (.iload 2, 0, 1), (.ishl, 0, 1), (.ior, 0, 1), (.invokevirtual 21, 4, 3)] else if pc = 22 then [(.aload 0, 0, 1), (.getfield 9, 5, 3), (.iload 1, 0, 1), (.aload 0, 0, 1), (.getfield 6, 5, 3), (.getfield 0, 0, 3), (.iload 3, 0, 1), (.iaload, 0, 1), (.aload 0, 0, 1), (.getfield 6, 5, 3), (.getfield 1, 0, 3), (.iload 3, 0, 1), (.iaload, 0, 1), (.invokevirtual 22, 4, 3)] else if pc = 48 then [(.aload 0, 0, 1), (.getfield 9, 5, 3), (.iload 2, 0, 1), (.aload 0, 0, 1), (.getfield 6, 5, 3), (.getfield 0, 0, 3), (.iload 3, 0, 1), (.iaload, 0, 1), (.aload 0, 0, 1), (.getfield 6, 5, 3), (.getfield 1, 0, 3), (.iload 3, 0, 1), (.iaload, 0, 1), (.invokevirtual 22, 4, 3)] else if pc = 74 then [(.aload 0, 0, 1), (.getfield 5, 5, 3), (.invokevirtual 31, 1, 3)] else if pc = 81 then [(.istore 4, 0, 2), (.iconst 0, 0, 1), (.istore 5, 0, 2), (.iconst 0, 0, 1), (.istore 6, 0, 2)] else if pc = 89 then [(.iload 6, 0, 2), (.iload 4, 0, 2), (.if_icmp .ge 124, 0, 3)] else if pc = 96 then [(.aload 0, 0, 1), (.aload 0, 0, 1), (.getfield 9, 5, 3), (.iload 6, 0, 2), (.i2l, 0, 1), (.invokevirtual 24, 2, 3)] else if pc = 107 then [(.invokevirtual 85, 2, 3)] else if pc = 110 then [(.iconst (-4), 0, 2), (.if_icmp .eq 118, 0, 3)] else if pc = 115 then [(.iinc 5 1, 0, 3)] else if pc = 118 then [(.iinc 6 1, 0, 3), (.goto 89, 0, 3)] else if pc = 124 then [(.iload 5, 0, 2), (.ireturn, 0, 1)] else []
def sp91 (pc : Nat) : Bool := [22, 48, 74, 81, 89, 107, 110].contains pc
theorem BT91 : bt91 0 = [(.aload 0, 0, 1), (.getfield 9, 5, 3), (.aload 0, 0, 1), (.getfield 5, 5, 3), (.aload 0, 0, 1), (.getfield 6, 5, 3), (.iconst 1, 0, 1), (.iload 1, 0, 1), (.ishl, 0, 1), (.iconst 1, 0, 1), (.iload 2, 0, 1), (.ishl, 0, 1), (.ior, 0, 1), (.invokevirtual 21, 4, 3)] ∧ bt91 22 = [(.aload 0, 0, 1), (.getfield 9, 5, 3), (.iload 1, 0, 1), (.aload 0, 0, 1), (.getfield 6, 5, 3), (.getfield 0, 0, 3), (.iload 3, 0, 1), (.iaload, 0, 1), (.aload 0, 0, 1), (.getfield 6, 5, 3), (.getfield 1, 0, 3), (.iload 3, 0, 1), (.iaload, 0, 1), (.invokevirtual 22, 4, 3)] ∧ bt91 48 = [(.aload 0, 0, 1), (.getfield 9, 5, 3), (.iload 2, 0, 1), (.aload 0, 0, 1), (.getfield 6, 5, 3), (.getfield 0, 0, 3), (.iload 3, 0, 1), (.iaload, 0, 1), (.aload 0, 0, 1), (.getfield 6, 5, 3), (.getfield 1, 0, 3), (.iload 3, 0, 1), (.iaload, 0, 1), (.invokevirtual 22, 4, 3)] ∧ bt91 74 = [(.aload 0, 0, 1), (.getfield 5, 5, 3), (.invokevirtual 31, 1, 3)] ∧ bt91 81 = [(.istore 4, 0, 2), (.iconst 0, 0, 1), (.istore 5, 0, 2), (.iconst 0, 0, 1), (.istore 6, 0, 2)] ∧ bt91 89 = [(.iload 6, 0, 2), (.iload 4, 0, 2), (.if_icmp .ge 124, 0, 3)] ∧ bt91 96 = [(.aload 0, 0, 1), (.aload 0, 0, 1), (.getfield 9, 5, 3), (.iload 6, 0, 2), (.i2l, 0, 1), (.invokevirtual 24, 2, 3)] ∧ bt91 107 = [(.invokevirtual 85, 2, 3)] ∧ bt91 110 = [(.iconst (-4), 0, 2), (.if_icmp .eq 118, 0, 3)] ∧ bt91 115 = [(.iinc 5 1, 0, 3)] ∧ bt91 118 = [(.iinc 6 1, 0, 3), (.goto 89, 0, 3)] ∧ bt91 124 = [(.iload 5, 0, 2), (.ireturn, 0, 1)] ∧ True := ⟨rfl, rfl, rfl, rfl, rfl, rfl, rfl, rfl, rfl, rfl, rfl, rfl, trivial⟩
theorem SP91 : sp91 0 = false ∧ sp91 22 = true ∧ sp91 48 = true ∧ sp91 74 = true ∧ sp91 81 = true ∧ sp91 89 = true ∧ sp91 96 = false ∧ sp91 107 = true ∧ sp91 110 = true ∧ sp91 115 = false ∧ sp91 118 = false ∧ sp91 124 = false ∧ True := ⟨rfl, rfl, rfl, rfl, rfl, rfl, rfl, rfl, rfl, rfl, rfl, rfl, trivial⟩
set_option maxRecDepth 100000 in
theorem bk91 : ∀ pc, blk 91 pc (bt91 pc) = true := fun pc => blk_if (by decide +kernel) (blk_if (by decide +kernel) (blk_if (by decide +kernel) (blk_if (by decide +kernel) (blk_if (by decide +kernel) (blk_if (by decide +kernel) (blk_if (by decide +kernel) (blk_if (by decide +kernel) (blk_if (by decide +kernel) (blk_if (by decide +kernel) (blk_if (by decide +kernel) (blk_if (by decide +kernel) (rfl))))))))))))
theorem go91 {d mc ms : Nat} {sh : List SC} {M : MM} {Post : PP} {a0 : Nat} {a1 : Int} {a2 : Int} {a3 : Int} (h : ∀ S : Nat → KK, Clo (Run d) 91 none mc ms (Rtn 91 mc ms Post) S → S 0 [some (vR a0), some (vI a1), some (vI a2), some (vI a3), none, none, none] [] (sh, 0, 0) M) : Run (d + 1) 91 [vR a0, vI a1, vI a2, vI a3] sh M mc ms Post := ⟨Nat.le_of_ble_eq_true rfl, h⟩
theorem rt91 {v : Int} {sh : List SC} {M : MM} {Post : PP} (h : Post (some (Sum.inl v)) sh M) : Rtn 91 0 0 Post (some (Sum.inl v)) (sh, 0, 0) M := ⟨Nat.le_refl _, Nat.le_refl _, trivial, h⟩
/-! 92 OwnSunday.goThroughSettled -/
def bt92 (pc : Nat) : BL := if pc = 0 then [(.aload 0, 0, 1), (.getfield 10, 5, 3), (.aload 0, 0, 1), (.getfield 5, 5, 3), (.aload 0, 0, 1), (.getfield 6, 5, 3), (.invokevirtual 35, 3, 3)] else if pc = 15 then [(.aload 0, 0, 1), (.getfield 9, 5, 3), (.aload 0, 0, 1), (.getfield 5, 5, 3), (.aload 0, 0, 1), (.getfield 6, 5, 3), (.aload 0, 0, 1), (.getfield 6, 5, 3), (.getfield 2, 0, 3), (.invokevirtual 21, 4, 3)] else if pc = 37 then [(.iconst 0, 0, 1), (.istore 1, 0, 1)] else if pc = 39 then [(.iload 1, 0, 1), (.aload 0, 0, 1), (.getfield 10, 5, 3), (.getfield 5, 4, 3), (.if_icmp .ge 109, 0, 3)] else if pc = 50 then [(.aload 0, 0, 1), (.getfield 10, 5, 3), (.aload 0, 0, 1), (.getfield 9, 5, 3), (.invokevirtual 37, 2, 3)] else if pc = 61 then [(.aload 0, 0, 1), (.invokevirtual 90, 1, 3)] else if pc = 65 then [(.ifCond .ne 85, 0, 3)] else if pc = 68 then [(.aload 0, 0, 1), (.getfield 10, 5, 3), (.aload 0, 0, 1), (.getfield 9, 5, 3), (.iconst 1023, 0, 3), (.invokevirtual 25, 2, 3)] else if pc = 82 then [(.invokevirtual 39, 2, 3)] else if pc = 85 then [(.aload 0, 0, 1), (.getfield 10, 5, 3), (.aload 0, 0, 1), (.getfield 9, 5, 3), (.invokevirtual 38, 2, 3)] else if pc = 96 then [(.aload 0, 0, 1), (.getfield 10, 5, 3), (.invokevirtual 36, 1, 3)] else if pc = 103 then [(.iinc 1 1, 0, 3), (.goto 39, 0, 3)] else if pc = 109 then [(.return_, 0, 1)] else []
def sp92 (pc : Nat) : Bool := [15, 37, 39, 61, 65, 82, 85, 96, 103].contains pc
theorem BT92 : bt92 0 = [(.aload 0, 0, 1), (.getfield 10, 5, 3), (.aload 0, 0, 1), (.getfield 5, 5, 3), (.aload 0, 0, 1), (.getfield 6, 5, 3), (.invokevirtual 35, 3, 3)] ∧ bt92 15 = [(.aload 0, 0, 1), (.getfield 9, 5, 3), (.aload 0, 0, 1), (.getfield 5, 5, 3), (.aload 0, 0, 1), (.getfield 6, 5, 3), (.aload 0, 0, 1), (.getfield 6, 5, 3), (.getfield 2, 0, 3), (.invokevirtual 21, 4, 3)] ∧ bt92 37 = [(.iconst 0, 0, 1), (.istore 1, 0, 1)] ∧ bt92 39 = [(.iload 1, 0, 1), (.aload 0, 0, 1), (.getfield 10, 5, 3), (.getfield 5, 4, 3), (.if_icmp .ge 109, 0, 3)] ∧ bt92 50 = [(.aload 0, 0, 1), (.getfield 10, 5, 3), (.aload 0, 0, 1), (.getfield 9, 5, 3), (.invokevirtual 37, 2, 3)] ∧ bt92 61 = [(.aload 0, 0, 1), (.invokevirtual 90, 1, 3)] ∧ bt92 65 = [(.ifCond .ne 85, 0, 3)] ∧ bt92 68 = [(.aload 0, 0, 1), (.getfield 10, 5, 3), (.aload 0, 0, 1), (.getfield 9, 5, 3), (.iconst 1023, 0, 3), (.invokevirtual 25, 2, 3)] ∧ bt92 82 = [(.invokevirtual 39, 2, 3)] ∧ bt92 85 = [(.aload 0, 0, 1), (.getfield 10, 5, 3), (.aload 0, 0, 1), (.getfield 9, 5, 3), (.invokevirtual 38, 2, 3)] ∧ bt92 96 = [(.aload 0, 0, 1), (.getfield 10, 5, 3), (.invokevirtual 36, 1, 3)] ∧ bt92 103 = [(.iinc 1 1, 0, 3), (.goto 39, 0, 3)] ∧ bt92 109 = [(.return_, 0, 1)] ∧ True := ⟨rfl, rfl, rfl, rfl, rfl, rfl, rfl, rfl, rfl, rfl, rfl, rfl, rfl, trivial⟩
theorem SP92 : sp92 0 = false ∧ sp92 15 = true ∧ sp92 37 = true ∧ sp92 39 = true ∧ sp92 50 = false ∧ sp92 61 = true ∧ sp92 65 = true ∧ sp92 68 = false ∧ sp92 82 = true ∧ sp92 85 = true ∧ sp92 96 = true ∧ sp92 103 = true ∧ sp92 109 = false ∧ True := ⟨rfl, rfl, rfl, rfl, rfl, rfl, rfl, rfl, rfl, rfl, rfl, rfl, rfl, trivial⟩
set_option maxRecDepth 100000 in
theorem bk92 : ∀ pc, blk 92 pc (bt92 pc) = true := fun pc => blk_if (by decide +kernel) (blk_if (by decide +kernel) (blk_if (by decide +kernel) (blk_if (by decide +kernel) (blk_if (by decide +kernel) (blk_if (by decide +kernel) (blk_if (by decide +kernel) (blk_if (by decide +kernel) (blk_if (by decide +kernel) (blk_if (by decide +kernel) (blk_if (by decide +kernel) (blk_if (by decide +kernel) (blk_if (by decide +kernel) (rfl)))))))))))))
theorem go92 {d mc ms : Nat} {sh : List SC} {M : MM} {Post : PP} {a0 : Nat} (h : ∀ S : Nat → KK, Clo (Run d) 92 none mc ms (Rtn 92 mc ms Post) S → S 0 [some (vR a0), none] [] (sh, 0, 0) M) : Run (d + 1) 92 [vR a0] sh M mc ms Post := ⟨Nat.le_of_ble_eq_true rfl, h⟩
theorem rt92 {mc ms : Nat} {Z : ZZ} {M : MM} {Post : PP} (h1 : Z.2.1 ≤ mc) (h2 : Z.2.2 ≤ ms) (h : Post none Z.1 M) : Rtn 92 mc ms Post none Z M := ⟨h1, h2, trivial, h⟩
/-! 93 OwnSunday.goThroughFits -/
def bt93 (pc : Nat) : BL := if pc = 0 then [(.aload 0, 0, 1), (.getfield 10, 5, 3), (.aload 0, 0, 1), (.getfield 5, 5, 3), (.aload 0, 0, 1), (.getfield 6, 5, 3), (.invokevirtual 35, 3, 3)] else if pc = 15 then [(.aload 0, 0, 1), (.getfield 9, 5, 3), (.aload 0, 0, 1), (.getfield 5, 5, 3), (.aload 0, 0, 1), (.getfield 6, 5, 3), (.aload 0, 0, 1), (.getfield 6, 5, 3), (.getfield 2, 0, 3), (.invokevirtual 21, 4, 3)] else if pc = 37 then [(.iconst 0, 0, 1), (.istore 1, 0, 1)] else if pc = 39 then [(.iload 1, 0, 1), (.aload 0, 0, 1), (.getfield 10, 5, 3), (.getfield 5, 4, 3), (.if_icmp .ge 100, 0, 3)] else if pc = 50 then [(.aload 0, 0, 1), (.getfield 10, 5, 3), (.aload 0, 0, 1), (.getfield 9, 5, 3), (.invokevirtual 37, 2, 3)] else if pc = 61 then [(.aload 0, 0, 1), (.invokevirtual 94, 1, 3)] else if pc = 65 then [(.ifCond .eq 76, 0, 3)] else if pc = 68 then [(.aload 0, 0, 1), (.getfield 10, 5, 3), (.iconst 0, 0, 1), (.invokevirtual 39, 2, 3)] else if pc = 76 then [(.aload 0, 0, 1), (.getfield 10, 5, 3), (.aload 0, 0, 1), (.getfield 9, 5, 3), (.invokevirtual 38, 2, 3)] else if pc = 87 then [(.aload 0, 0, 1), (.getfield 10, 5, 3), (.invokevirtual 36, 1, 3)] else if pc = 94 then [(.iinc 1 1, 0, 3), (.goto 39, 0, 3)] else if pc = 100 then [(.return_, 0, 1)] else []
def sp93 (pc : Nat) : Bool := [15, 37, 39, 61, 65, 76, 87, 94].contains pc
theorem BT93 : bt93 0 = [(.aload 0, 0, 1), (.getfield 10, 5, 3), (.aload 0, 0, 1), (.getfield 5, 5, 3), (.aload 0, 0, 1), (.getfield 6, 5, 3), (.invokevirtual 35, 3, 3)] ∧ bt93 15 = [(.aload 0, 0, 1), (.getfield 9, 5, 3), (.aload 0, 0, 1), (.getfield 5, 5, 3), (.aload 0, 0, 1), (.getfield 6, 5, 3), (.aload 0, 0, 1), (.getfield 6, 5, 3), (.getfield 2, 0, 3), (.invokevirtual 21, 4, 3)] ∧ bt93 37 = [(.iconst 0, 0, 1), (.istore 1, 0, 1)] ∧ bt93 39 = [(.iload 1, 0, 1), (.aload 0, 0, 1), (.getfield 10, 5, 3), (.getfield 5, 4, 3), (.if_icmp .ge 100, 0, 3)] ∧ bt93 50 = [(.aload 0, 0, 1), (.getfield 10, 5, 3), (.aload 0, 0, 1), (.getfield 9, 5, 3), (.invokevirtual 37, 2, 3)] ∧ bt93 61 = [(.aload 0, 0, 1), (.invokevirtual 94, 1, 3)] ∧ bt93 65 = [(.ifCond .eq 76, 0, 3)] ∧ bt93 68 = [(.aload 0, 0, 1), (.getfield 10, 5, 3), (.iconst 0, 0, 1), (.invokevirtual 39, 2, 3)] ∧ bt93 76 = [(.aload 0, 0, 1), (.getfield 10, 5, 3), (.aload 0, 0, 1), (.getfield 9, 5, 3), (.invokevirtual 38, 2, 3)] ∧ bt93 87 = [(.aload 0, 0, 1), (.getfield 10, 5, 3), (.invokevirtual 36, 1, 3)] ∧ bt93 94 = [(.iinc 1 1, 0, 3), (.goto 39, 0, 3)] ∧ bt93 100 = [(.return_, 0, 1)] ∧ True := ⟨rfl, rfl, rfl, rfl, rfl, rfl, rfl, rfl, rfl, rfl, rfl, rfl, trivial⟩
theorem SP93 : sp93 0 = false ∧ sp93 15 = true ∧ sp93 37 = true ∧ sp93 39 = true ∧ sp93 50 = false ∧ sp93 61 = true ∧ sp93 65 = true ∧ sp93 68 = false ∧ sp93 76 = true ∧ sp93 87 = true ∧ sp93 94 = true ∧ sp93 100 = false ∧ True := ⟨rfl, rfl, rfl, rfl, rfl, rfl, rfl, rfl, rfl, rfl, rfl, rfl, trivial⟩
set_option maxRecDepth 100000 in
theorem bk93 : ∀ pc, blk 93 pc (bt93 pc) = true := fun pc => blk_if (by decide +kernel) (blk_if (by decide +kernel) (blk_if (by decide +kernel) (blk_if (by decide +kernel) (blk_if (by decide +kernel) (blk_if (by decide +kernel) (blk_if (by decide +kernel) (blk_if (by decide +kernel) (blk_if (by decide +kernel) (blk_if (by decide +kernel) (blk_if (by decide +kernel) (blk_if (by decide +kernel) (rfl))))))))))))
theorem go93 {d mc ms : Nat} {sh : List SC} {M : MM} {Post : PP} {a0 : Nat} (h : ∀ S : Nat → KK, Clo (Run d) 93 none mc ms (Rtn 93 mc ms Post) S → S 0 [some (vR a0), none] [] (sh, 0, 0) M) : Run (d + 1) 93 [vR a0] sh M mc ms Post := ⟨Nat.le_of_ble_eq_true rfl, h⟩
theorem rt93 {mc ms : Nat} {Z : ZZ} {M : MM} {Post : PP} (h1 : Z.2.1 ≤ mc) (h2 : Z.2.2 ≤ ms) (h : Post none Z.1 M) : Rtn 93 mc ms Post none Z M := ⟨h1, h2, trivial, h⟩
/-! 94 OwnSunday.allSeenWasSo -/
def bt94 (pc : Nat) : BL := if pc = 0 then [(.iconst 0, 0, 1), (.istore 1, 0, 1)] else if pc = 2 then [(.iload 1, 0, 1), (.aload 0, 0, 1), (.getfield 6, 5, 3), (.getfield 3, 0, 3), (.if_icmp .ge 74, 0, 3)] else if pc = 13 then [(.aload 0, 0, 1), (.getfield 5, 5, 3), (.aload 0, 0, 1), (.getfield 6, 5, 3), (.getfield 5, 0, 3), (.iload 1, 0, 1), (.iaload, 0, 1), (.aload 0, 0, 1), (.getfield 9, 5, 3), (.aload 0, 0, 1), (.getfield 6, 5, 3), (.getfield 4, 0, 3), (.iload 1, 0, 1), (.laload, 0, 1), (.invokevirtual 24, 2, 3)] else if pc = 42 then [(.invokevirtual 33, 3, 3)] else if pc = 45 then [(.ifCond .ne 52, 0, 3)] else if pc = 48 then [(.iconst 1, 0, 1), (.goto 53, 0, 3)] else if pc = 52 then [(.iconst 0, 0, 1)] else if pc = 53 then [(.istore 2, 0, 1), (.iload 2, 0, 1), (.aload 0, 0, 1), (.getfield 6, 5, 3), (.iload 1, 0, 1), (.invokevirtual 4, 2, 3)] else if pc = 63 then [(.if_icmp .eq 68, 0, 3)] else if pc = 66 then [(.iconst 0, 0, 1), (.ireturn, 0, 1)] else if pc = 68 then [(.iinc 1 1, 0, 3), (.goto 2, 0, 3)] else if pc = 74 then [(.iconst 1, 0, 1), (.ireturn, 0, 1)] else []
def sp94 (pc : Nat) : Bool := [2, 42, 45, 63].contains pc
theorem BT94 : bt94 0 = [(.iconst 0, 0, 1), (.istore 1, 0, 1)] ∧ bt94 2 = [(.iload 1, 0, 1), (.aload 0, 0, 1), (.getfield 6, 5, 3), (.getfield 3, 0, 3), (.if_icmp .ge 74, 0, 3)] ∧ bt94 13 = [(.aload 0, 0, 1), (.getfield 5, 5, 3), (.aload 0, 0, 1), (.getfield 6, 5, 3), (.getfield 5, 0, 3), (.iload 1, 0, 1), (.iaload, 0, 1), (.aload 0, 0, 1), (.getfield 9, 5, 3), (.aload 0, 0, 1), (.getfield 6, 5, 3), (.getfield 4, 0, 3), (.iload 1, 0, 1), (.laload, 0, 1), (.invokevirtual 24, 2, 3)] ∧ bt94 42 = [(.invokevirtual 33, 3, 3)] ∧ bt94 45 = [(.ifCond .ne 52, 0, 3)] ∧ bt94 48 = [(.iconst 1, 0, 1), (.goto 53, 0, 3)] ∧ bt94 52 = [(.iconst 0, 0, 1)] ∧ bt94 53 = [(.istore 2, 0, 1), (.iload 2, 0, 1), (.aload 0, 0, 1), (.getfield 6, 5, 3), (.iload 1, 0, 1), (.invokevirtual 4, 2, 3)] ∧ bt94 63 = [(.if_icmp .eq 68, 0, 3)] ∧ bt94 66 = [(.iconst 0, 0, 1), (.ireturn, 0, 1)] ∧ bt94 68 = [(.iinc 1 1, 0, 3), (.goto 2, 0, 3)] ∧ bt94 74 = [(.iconst 1, 0, 1), (.ireturn, 0, 1)] ∧ True := ⟨rfl, rfl, rfl, rfl, rfl, rfl, rfl, rfl, rfl, rfl, rfl, rfl, trivial⟩
theorem SP94 : sp94 0 = false ∧ sp94 2 = true ∧ sp94 13 = false ∧ sp94 42 = true ∧ sp94 45 = true ∧ sp94 48 = false ∧ sp94 52 = false ∧ sp94 53 = false ∧ sp94 63 = true ∧ sp94 66 = false ∧ sp94 68 = false ∧ sp94 74 = false ∧ True := ⟨rfl, rfl, rfl, rfl, rfl, rfl, rfl, rfl, rfl, rfl, rfl, rfl, trivial⟩
set_option maxRecDepth 100000 in
theorem bk94 : ∀ pc, blk 94 pc (bt94 pc) = true := fun pc => blk_if (by decide +kernel) (blk_if (by decide +kernel) (blk_if (by decide +kernel) (blk_if (by decide +kernel) (blk_if (by decide +kernel) (blk_if (by decide +kernel) (blk_if (by decide +kernel) (blk_if (by decide +kernel) (blk_if (by decide +kernel) (blk_if (by decide +kernel) (blk_if (by decide +kernel) (blk_if (by decide +kernel) (rfl))))))))))))
theorem go94 {d mc ms : Nat} {sh : List SC} {M : MM} {Post : PP} {a0 : Nat} (h : ∀ S : Nat → KK, Clo (Run d) 94 none mc ms (Rtn 94 mc ms Post) S → S 0 [some (vR a0), none, none] [] (sh, 0, 0) M) : Run (d + 1) 94 [vR a0] sh M mc ms Post := ⟨Nat.le_of_ble_eq_true rfl, h⟩
theorem rt94 {v : Int} {sh : List SC} {M : MM} {Post : PP} (hv : v = 0 ∨ v = 1) (h : Post (some (Sum.inl v)) sh M) : Rtn 94 0 0 Post (some (Sum.inl v)) (sh, 0, 0) M := ⟨Nat.le_refl _, Nat.le_refl _, hv, h⟩
/-! 95 OwnSunday.findChanges -/
def bt95 (pc : Nat) : BL := if pc = 0 then [(.aload 0, 0, 1), (.getfield 11, 5, 3), (.iconst (-4), 0, 2), (.invokestatic 162, 2, 3)] else if pc = 9 then [(.aload 0, 0, 1), (.invokevirtual 78, 1, 3)] else if pc = 13 then [(.aload 0, 0, 1), (.iload 1, 0, 1), (.invokevirtual 89, 2, 3)] else if pc = 18 then [(.ifCond .ne 31, 0, 3)] else if pc = 21 then [(.aload 0, 0, 1), (.getfield 11, 5, 3), (.iconst 0, 0, 1), (.iconst 0, 0, 1), (.iastore, 0, 1), (.goto 44, 0, 3)] else if pc = 31 then [(.aload 0, 0, 1), (.iload 1, 0, 1), (.invokevirtual 96, 2, 3)] else if pc = 36 then [(.ifCond .ne 44, 0, 3)] else if pc = 39 then [(.aload 0, 0, 1), (.iload 1, 0, 1), (.invokevirtual 97, 2, 3)] else if pc = 44 then [(.return_, 0, 1)] else []
def sp95 (pc : Nat) : Bool := [9, 13, 18, 36, 44].contains pc
theorem BT95 : bt95 0 = [(.aload 0, 0, 1), (.getfield 11, 5, 3), (.iconst (-4), 0, 2), (.invokestatic 162, 2, 3)] ∧ bt95 9 = [(.aload 0, 0, 1), (.invokevirtual 78, 1, 3)] ∧ bt95 13 = [(.aload 0, 0, 1), (.iload 1, 0, 1), (.invokevirtual 89, 2, 3)] ∧ bt95 18 = [(.ifCond .ne 31, 0, 3)] ∧ bt95 21 = [(.aload 0, 0, 1), (.getfield 11, 5, 3), (.iconst 0, 0, 1), (.iconst 0, 0, 1), (.iastore, 0, 1), (.goto 44, 0, 3)] ∧ bt95 31 = [(.aload 0, 0, 1), (.iload 1, 0, 1), (.invokevirtual 96, 2, 3)] ∧ bt95 36 = [(.ifCond .ne 44, 0, 3)] ∧ bt95 39 = [(.aload 0, 0, 1), (.iload 1, 0, 1), (.invokevirtual 97, 2, 3)] ∧ bt95 44 = [(.return_, 0, 1)] ∧ True := ⟨rfl, rfl, rfl, rfl, rfl, rfl, rfl, rfl, rfl, trivial⟩
theorem SP95 : sp95 0 = false ∧ sp95 9 = true ∧ sp95 13 = true ∧ sp95 18 = true ∧ sp95 21 = false ∧ sp95 31 = false ∧ sp95 36 = true ∧ sp95 39 = false ∧ sp95 44 = true ∧ True := ⟨rfl, rfl, rfl, rfl, rfl, rfl, rfl, rfl, rfl, trivial⟩
set_option maxRecDepth 100000 in
theorem bk95 : ∀ pc, blk 95 pc (bt95 pc) = true := fun pc => blk_if (by decide +kernel) (blk_if (by decide +kernel) (blk_if (by decide +kernel) (blk_if (by decide +kernel) (blk_if (by decide +kernel) (blk_if (by decide +kernel) (blk_if (by decide +kernel) (blk_if (by decide +kernel) (blk_if (by decide +kernel) (rfl)))))))))
theorem go95 {d mc ms : Nat} {sh : List SC} {M : MM} {Post : PP} {a0 : Nat} {a1 : Int} (h : ∀ S : Nat → KK, Clo (Run d) 95 none mc ms (Rtn 95 mc ms Post) S → S 0 [some (vR a0), some (vI a1)] [] (sh, 0, 0) M) : Run (d + 1) 95 [vR a0, vI a1] sh M mc ms Post := ⟨Nat.le_of_ble_eq_true rfl, h⟩
theorem rt95 {mc ms : Nat} {Z : ZZ} {M : MM} {Post : PP} (h1 : Z.2.1 ≤ mc) (h2 : Z.2.2 ≤ ms) (h : Post none Z.1 M) : Rtn 95 mc ms Post none Z M := ⟨h1, h2, trivial, h⟩
/-! 96 OwnSunday.findOneChange -/
def bt96 (pc : Nat) : BL := if pc = 0 then [(.iconst 0, 0, 1), (.istore 2, 0, 1)] else if pc = 2 then [(.iload 2, 0, 1), (.aload 0, 0, 1), (.getfield 5, 5, 3), (.getfield 1, 3, 3), (.if_icmp .ge 55, 0, 3)] else if pc = 13 then [(.aload 0, 0, 1), (.iload 1, 0, 1), (.iload 2, 0, 1), (.invokevirtual 100, 3, 3)] else if pc = 19 then [(.istore 3, 0, 1), (.iload 3, 0, 1), (.iconst (-4), 0, 2), (.if_icmp .eq 49, 0, 3)] else if pc = 26 then [(.aload 0, 0, 1), (.getfield 11, 5, 3), (.iconst 0, 0, 1), (.iconst 1, 0, 1), (.iastore, 0, 1), (.aload 0, 0, 1), (.getfield 11, 5, 3), (.iconst 1, 0, 1), (.iload 2, 0, 1), (.iastore, 0, 1), (.aload 0, 0, 1), (.getfield 11, 5, 3), (.iconst 2, 0, 1), (.iload 3, 0, 1), (.iastore, 0, 1), (.iconst 1, 0, 1), (.ireturn, 0, 1)] else if pc = 49 then [(.iinc 2 1, 0, 3), (.goto 2, 0, 3)] else if pc = 55 then [(.iconst 0, 0, 1), (.ireturn, 0, 1)] else []
def sp96 (pc : Nat) : Bool := [2, 19].contains pc
theorem BT96 : bt96 0 = [(.iconst 0, 0, 1), (.istore 2, 0, 1)] ∧ bt96 2 = [(.iload 2, 0, 1), (.aload 0, 0, 1), (.getfield 5, 5, 3), (.getfield 1, 3, 3), (.if_icmp .ge 55, 0, 3)] ∧ bt96 13 = [(.aload 0, 0, 1), (.iload 1, 0, 1), (.iload 2, 0, 1), (.invokevirtual 100, 3, 3)] ∧ bt96 19 = [(.istore 3, 0, 1), (.iload 3, 0, 1), (.iconst (-4), 0, 2), (.if_icmp .eq 49, 0, 3)] ∧ bt96 26 = [(.aload 0, 0, 1), (.getfield 11, 5, 3), (.iconst 0, 0, 1), (.iconst 1, 0, 1), (.iastore, 0, 1), (.aload 0, 0, 1), (.getfield 11, 5, 3), (.iconst 1, 0, 1), (.iload 2, 0, 1), (.iastore, 0, 1), (.aload 0, 0, 1), (.getfield 11, 5, 3), (.iconst 2, 0, 1), (.iload 3, 0, 1), (.iastore, 0, 1), (.iconst 1, 0, 1), (.ireturn, 0, 1)] ∧ bt96 49 = [(.iinc 2 1, 0, 3), (.goto 2, 0, 3)] ∧ bt96 55 = [(.iconst 0, 0, 1), (.ireturn, 0, 1)] ∧ True := ⟨rfl, rfl, rfl, rfl, rfl, rfl, rfl, trivial⟩
theorem SP96 : sp96 0 = false ∧ sp96 2 = true ∧ sp96 13 = false ∧ sp96 19 = true ∧ sp96 26 = false ∧ sp96 49 = false ∧ sp96 55 = false ∧ True := ⟨rfl, rfl, rfl, rfl, rfl, rfl, rfl, trivial⟩
set_option maxRecDepth 100000 in
theorem bk96 : ∀ pc, blk 96 pc (bt96 pc) = true := fun pc => blk_if (by decide +kernel) (blk_if (by decide +kernel) (blk_if (by decide +kernel) (blk_if (by decide +kernel) (blk_if (by decide +kernel) (blk_if (by decide +kernel) (blk_if (by decide +kernel) (rfl)))))))
theorem go96 {d mc ms : Nat} {sh : List SC} {M : MM} {Post : PP} {a0 : Nat} {a1 : Int} (h : ∀ S : Nat → KK, Clo (Run d) 96 none mc ms (Rtn 96 mc ms Post) S → S 0 [some (vR a0), some (vI a1), none, none] [] (sh, 0, 0) M) : Run (d + 1) 96 [vR a0, vI a1] sh M mc ms Post := ⟨Nat.le_of_ble_eq_true rfl, h⟩
theorem rt96 {v : Int} {sh : List SC} {M : MM} {Post : PP} (hv : v = 0 ∨ v = 1) (h : Post (some (Sum.inl v)) sh M) : Rtn 96 0 0 Post (some (Sum.inl v)) (sh, 0, 0) M := ⟨Nat.le_refl _, Nat.le_refl _, hv, h⟩
/-! 97 OwnSunday.findTwoChanges -/
def bt97 (pc : Nat) : BL := if pc = 0 then [(.iconst 0, 0, 1), (.istore 2, 0, 1)] else if pc = 2 then [(.iload 2, 0, 1), (.aload 0, 0, 1), (.getfield 5, 5, 3), (.getfield 1, 3, 3), (.if_icmp .ge 130, 0, 3)] else if pc = 13 then [(.aload 0, 0, 1), (.iload 2, 0, 1), (.iload 1, 0, 1), (.invokevirtual 99, 3, 3)] else if pc = 19 then [(.ifCond .ne 25, 0, 3)] else if pc = 22 then [(.goto 124, 0, 3)] else if pc = 25 then [(.aload 0, 0, 1), (.getfield 6, 5, 3), (.getfield 0, 0, 3), (.iload 2, 0, 1), (.iaload, 0, 1), (.istore 3, 0, 1), (.aload 0, 0, 1), (.getfield 9, 5, 3), (.iload 2, 0, 1), (.iload 3, 0, 1), (.aload 0, 0, 1), (.getfield 6, 5, 3), (.getfield 1, 0, 3), (.iload 2, 0, 1), (.iaload, 0, 1), (.invokevirtual 23, 4, 3)] else if pc = 53 then [(.iconst 0, 0, 1), (.istore 4, 0, 2)] else if pc = 56 then [(.iload 4, 0, 2), (.aload 0, 0, 1), (.iload 2, 0, 1), (.invokevirtual 79, 2, 3)] else if pc = 63 then [(.if_icmp .ge 106, 0, 3)] else if pc = 66 then [(.aload 0, 0, 1), (.getfield 9, 5, 3), (.iload 2, 0, 1), (.iload 3, 0, 1), (.iload 4, 0, 2), (.invokevirtual 22, 4, 3)] else if pc = 77 then [(.aload 0, 0, 1), (.iload 1, 0, 1), (.iload 2, 0, 1), (.iload 4, 0, 2), (.invokevirtual 98, 4, 3)] else if pc = 85 then [(.ifCond .eq 89, 0, 3)] else if pc = 88 then [(.return_, 0, 1)] else if pc = 89 then [(.aload 0, 0, 1), (.getfield 9, 5, 3), (.iload 2, 0, 1), (.iload 3, 0, 1), (.iload 4, 0, 2), (.invokevirtual 23, 4, 3)] else if pc = 100 then [(.iinc 4 1, 0, 3), (.goto 56, 0, 3)] else if pc = 106 then [(.aload 0, 0, 1), (.getfield 9, 5, 3), (.iload 2, 0, 1), (.iload 3, 0, 1), (.aload 0, 0, 1), (.getfield 6, 5, 3), (.getfield 1, 0, 3), (.iload 2, 0, 1), (.iaload, 0, 1), (.invokevirtual 22, 4, 3)] else if pc = 124 then [(.iinc 2 1, 0, 3), (.goto 2, 0, 3)] else if pc = 130 then [(.return_, 0, 1)] else []
def sp97 (pc : Nat) : Bool := [2, 19, 53, 56, 63, 77, 85, 100, 124].contains pc
theorem BT97 : bt97 0 = [(.iconst 0, 0, 1), (.istore 2, 0, 1)] ∧ bt97 2 = [(.iload 2, 0, 1), (.aload 0, 0, 1), (.getfield 5, 5, 3), (.getfield 1, 3, 3), (.if_icmp .ge 130, 0, 3)] ∧ bt97 13 = [(.aload 0, 0, 1), (.iload 2, 0, 1), (.iload 1, 0, 1), (.invokevirtual 99, 3, 3)] ∧ bt97 19 = [(.ifCond .ne 25, 0, 3)] ∧ bt97 22 = [(.goto 124, 0, 3)] ∧ bt97 25 = [(.aload 0, 0, 1), (.getfield 6, 5, 3), (.getfield 0, 0, 3), (.iload 2, 0, 1), (.iaload, 0, 1), (.istore 3, 0, 1), (.aload 0, 0, 1), (.getfield 9, 5, 3), (.iload 2, 0, 1), (.iload 3, 0, 1), (.aload 0, 0, 1), (.getfield 6, 5, 3), (.getfield 1, 0, 3), (.iload 2, 0, 1), (.iaload, 0, 1), (.invokevirtual 23, 4, 3)] ∧ bt97 53 = [(.iconst 0, 0, 1), (.istore 4, 0, 2)] ∧ bt97 56 = [(.iload 4, 0, 2), (.aload 0, 0, 1), (.iload 2, 0, 1), (.invokevirtual 79, 2, 3)] ∧ bt97 63 = [(.if_icmp .ge 106, 0, 3)] ∧ bt97 66 = [(.aload 0, 0, 1), (.getfield 9, 5, 3), (.iload 2, 0, 1), (.iload 3, 0, 1), (.iload 4, 0, 2), (.invokevirtual 22, 4, 3)] ∧ bt97 77 = [(.aload 0, 0, 1), (.iload 1, 0, 1), (.iload 2, 0, 1), (.iload 4, 0, 2), (.invokevirtual 98, 4, 3)] ∧ bt97 85 = [(.ifCond .eq 89, 0, 3)] ∧ bt97 88 = [(.return_, 0, 1)] ∧ bt97 89 = [(.aload 0, 0, 1), (.getfield 9, 5, 3), (.iload 2, 0, 1), (.iload 3, 0, 1), (.iload 4, 0, 2), (.invokevirtual 23, 4, 3)] ∧ bt97 100 = [(.iinc 4 1, 0, 3), (.goto 56, 0, 3)] ∧ bt97 106 = [(.aload 0, 0, 1), (.getfield 9, 5, 3), (.iload 2, 0, 1), (.iload 3, 0, 1), (.aload 0, 0, 1), (.getfield 6, 5, 3), (.getfield 1, 0, 3), (.iload 2, 0, 1), (.iaload, 0, 1), (.invokevirtual 22, 4, 3)] ∧ bt97 124 = [(.iinc 2 1, 0, 3), (.goto 2, 0, 3)] ∧ bt97 130 = [(.return_, 0, 1)] ∧ True := ⟨rfl, rfl, rfl, rfl, rfl, rfl, rfl, rfl, rfl, rfl, rfl, rfl, rfl, rfl, rfl, rfl, rfl, rfl, trivial⟩
theorem SP97 : sp97 0 = false ∧ sp97 2 = true ∧ sp97 13 = false ∧ sp97 19 = true ∧ sp97 22 = false ∧ sp97 25 = false ∧ sp97 53 = true ∧ sp97 56 = true ∧ sp97 63 = true ∧ sp97 66 = false ∧ sp97 77 = true ∧ sp97 85 = true ∧ sp97 88 = false ∧ sp97 89 = false ∧ sp97 100 = true ∧ sp97 106 = false ∧ sp97 124 = true ∧ sp97 130 = false ∧ True := ⟨rfl, rfl, rfl, rfl, rfl, rfl, rfl, rfl, rfl, rfl, rfl, rfl, rfl, rfl, rfl, rfl, rfl, rfl, trivial⟩
set_option maxRecDepth 100000 in
theorem bk97 : ∀ pc, blk 97 pc (bt97 pc) = true := fun pc => blk_if (by decide +kernel) (blk_if (by decide +kernel) (blk_if (by decide +kernel) (blk_if (by decide +kernel) (blk_if (by decide +kernel) (blk_if (by decide +kernel) (blk_if (by decide +kernel) (blk_if (by decide +kernel) (blk_if (by decide +kernel) (blk_if (by decide +kernel) (blk_if (by decide +kernel) (blk_if (by decide +kernel) (blk_if (by decide +kernel) (blk_if (by decide +kernel) (blk_if (by decide +kernel) (blk_if (by decide +kernel) (blk_if (by decide +kernel) (blk_if (by decide +kernel) (rfl))))))))))))))))))
theorem go97 {d mc ms : Nat} {sh : List SC} {M : MM} {Post : PP} {a0 : Nat} {a1 : Int} (h : ∀ S : Nat → KK, Clo (Run d) 97 none mc ms (Rtn 97 mc ms Post) S → S 0 [some (vR a0), some (vI a1), none, none, none] [] (sh, 0, 0) M) : Run (d + 1) 97 [vR a0, vI a1] sh M mc ms Post := ⟨Nat.le_of_ble_eq_true rfl, h⟩
theorem rt97 {mc ms : Nat} {Z : ZZ} {M : MM} {Post : PP} (h1 : Z.2.1 ≤ mc) (h2 : Z.2.2 ≤ ms) (h : Post none Z.1 M) : Rtn 97 mc ms Post none Z M := ⟨h1, h2, trivial, h⟩
/-! 98 OwnSunday.findSecondChange -/
def bt98 (pc : Nat) : BL := if pc = 0 then [(.iload 2, 0, 1), (.iconst 1, 0, 1), (.iadd, 0, 1), (.istore 4, 0, 2)] else if pc = 5 then [(.iload 4, 0, 2), (.aload 0, 0, 1), (.getfield 5, 5, 3), (.getfield 1, 3, 3), (.if_icmp .ge 78, 0, 3)] else if pc = 17 then [(.aload 0, 0, 1), (.iload 1, 0, 1), (.iload 4, 0, 2), (.invokevirtual 100, 3, 3)] else if pc = 24 then [(.istore 5, 0, 2), (.iload 5, 0, 2), (.iconst (-4), 0, 2), (.if_icmp .eq 72, 0, 3)] else if pc = 33 then [(.aload 0, 0, 1), (.getfield 11, 5, 3), (.iconst 0, 0, 1), (.iconst 2, 0, 1), (.iastore, 0, 1), (.aload 0, 0, 1), (.getfield 11, 5, 3), (.iconst 1, 0, 1), (.iload 2, 0, 1), (.iastore, 0, 1), (.aload 0, 0, 1), (.getfield 11, 5, 3), (.iconst 2, 0, 1), (.iload 3, 0, 1), (.iastore, 0, 1), (.aload 0, 0, 1), (.getfield 11, 5, 3), (.iconst 3, 0, 1), (.iload 4, 0, 2), (.iastore, 0, 1), (.aload 0, 0, 1), (.getfield 11, 5, 3), (.iconst 4, 0, 1), (.iload 5, 0, 2), (.iastore, 0, 1), (.iconst 1, 0, 1), (.ireturn, 0, 1)] else if pc = 72 then [(.iinc 4 1, 0, 3), (.goto 5, 0, 3)] else if pc = 78 then [(.iconst 0, 0, 1), (.ireturn, 0, 1)] else []
def sp98 (pc : Nat) : Bool := [5, 24].contains pc
theorem BT98 : bt98 0 = [(.iload 2, 0, 1), (.iconst 1, 0, 1), (.iadd, 0, 1), (.istore 4, 0, 2)] ∧ bt98 5 = [(.iload 4, 0, 2), (.aload 0, 0, 1), (.getfield 5, 5, 3), (.getfield 1, 3, 3), (.if_icmp .ge 78, 0, 3)] ∧ bt98 17 = [(.aload 0, 0, 1), (.iload 1, 0, 1), (.iload 4, 0, 2), (.invokevirtual 100, 3, 3)] ∧ bt98 24 = [(.istore 5, 0, 2), (.iload 5, 0, 2), (.iconst (-4), 0, 2), (.if_icmp .eq 72, 0, 3)] ∧ bt98 33 = [(.aload 0, 0, 1), (.getfield 11, 5, 3), (.iconst 0, 0, 1), (.iconst 2, 0, 1), (.iastore, 0, 1), (.aload 0, 0, 1), (.getfield 11, 5, 3), (.iconst 1, 0, 1), (.iload 2, 0, 1), (.iastore, 0, 1), (.aload 0, 0, 1), (.getfield 11, 5, 3), (.iconst 2, 0, 1), (.iload 3, 0, 1), (.iastore, 0, 1), (.aload 0, 0, 1), (.getfield 11, 5, 3), (.iconst 3, 0, 1), (.iload 4, 0, 2), (.iastore, 0, 1), (.aload 0, 0, 1), (.getfield 11, 5, 3), (.iconst 4, 0, 1), (.iload 5, 0, 2), (.iastore, 0, 1), (.iconst 1, 0, 1), (.ireturn, 0, 1)] ∧ bt98 72 = [(.iinc 4 1, 0, 3), (.goto 5, 0, 3)] ∧ bt98 78 = [(.iconst 0, 0, 1), (.ireturn, 0, 1)] ∧ True := ⟨rfl, rfl, rfl, rfl, rfl, rfl, rfl, trivial⟩
theorem SP98 : sp98 0 = false ∧ sp98 5 = true ∧ sp98 17 = false ∧ sp98 24 = true ∧ sp98 33 = false ∧ sp98 72 = false ∧ sp98 78 = false ∧ True := ⟨rfl, rfl, rfl, rfl, rfl, rfl, rfl, trivial⟩
set_option maxRecDepth 100000 in
theorem bk98 : ∀ pc, blk 98 pc (bt98 pc) = true := fun pc => blk_if (by decide +kernel) (blk_if (by decide +kernel) (blk_if (by decide +kernel) (blk_if (by decide +kernel) (blk_if (by decide +kernel) (blk_if (by decide +kernel) (blk_if (by decide +kernel) (rfl)))))))
theorem go98 {d mc ms : Nat} {sh : List SC} {M : MM} {Post : PP} {a0 : Nat} {a1 : Int} {a2 : Int} {a3 : Int} (h : ∀ S : Nat → KK, Clo (Run d) 98 none mc ms (Rtn 98 mc ms Post) S → S 0 [some (vR a0), some (vI a1), some (vI a2), some (vI a3), none, none] [] (sh, 0, 0) M) : Run (d + 1) 98 [vR a0, vI a1, vI a2, vI a3] sh M mc ms Post := ⟨Nat.le_of_ble_eq_true rfl, h⟩
theorem rt98 {v : Int} {sh : List SC} {M : MM} {Post : PP} (hv : v = 0 ∨ v = 1) (h : Post (some (Sum.inl v)) sh M) : Rtn 98 0 0 Post (some (Sum.inl v)) (sh, 0, 0) M := ⟨Nat.le_refl _, Nat.le_refl _, hv, h⟩
/-! 99 OwnSunday.hasSkillOf -/
def bt99 (pc : Nat) : BL := if pc = 0 then [(.aload 0, 0, 1), (.getfield 5, 5, 3), (.getfield 4, 3, 3), (.aload 0, 0, 1), (.getfield 5, 5, 3), (.getfield 6, 3, 3), (.iload 2, 0, 1), (.iaload, 0, 1), (.iaload, 0, 1), (.iconst 1, 0, 1), (.iload 1, 0, 1), (.ishl, 0, 1), (.iand, 0, 1), (.ifCond .eq 28, 0, 3)] else if pc = 24 then [(.iconst 1, 0, 1), (.goto 29, 0, 3)] else if pc = 28 then [(.iconst 0, 0, 1)] else if pc = 29 then [(.ireturn, 0, 1)] else []
def sp99 (pc : Nat) : Bool := [].contains pc
theorem BT99 : bt99 0 = [(.aload 0, 0, 1), (.getfield 5, 5, 3), (.getfield 4, 3, 3), (.aload 0, 0, 1), (.getfield 5, 5, 3), (.getfield 6, 3, 3), (.iload 2, 0, 1), (.iaload, 0, 1), (.iaload, 0, 1), (.iconst 1, 0, 1), (.iload 1, 0, 1), (.ishl, 0, 1), (.iand, 0, 1), (.ifCond .eq 28, 0, 3)] ∧ bt99 24 = [(.iconst 1, 0, 1), (.goto 29, 0, 3)] ∧ bt99 28 = [(.iconst 0, 0, 1)] ∧ bt99 29 = [(.ireturn, 0, 1)] ∧ True := ⟨rfl, rfl, rfl, rfl, trivial⟩
theorem SP99 : sp99 0 = false ∧ sp99 24 = false ∧ sp99 28 = false ∧ sp99 29 = false ∧ True := ⟨rfl, rfl, rfl, rfl, trivial⟩
set_option maxRecDepth 100000 in
theorem bk99 : ∀ pc, blk 99 pc (bt99 pc) = true := fun pc => blk_if (by decide +kernel) (blk_if (by decide +kernel) (blk_if (by decide +kernel) (blk_if (by decide +kernel) (rfl))))
theorem go99 {d mc ms : Nat} {sh : List SC} {M : MM} {Post : PP} {a0 : Nat} {a1 : Int} {a2 : Int} (h : ∀ S : Nat → KK, Clo (Run d) 99 none mc ms (Rtn 99 mc ms Post) S → S 0 [some (vR a0), some (vI a1), some (vI a2)] [] (sh, 0, 0) M) : Run (d + 1) 99 [vR a0, vI a1, vI a2] sh M mc ms Post := ⟨Nat.le_of_ble_eq_true rfl, h⟩
theorem rt99 {v : Int} {sh : List SC} {M : MM} {Post : PP} (hv : v = 0 ∨ v = 1) (h : Post (some (Sum.inl v)) sh M) : Rtn 99 0 0 Post (some (Sum.inl v)) (sh, 0, 0) M := ⟨Nat.le_refl _, Nat.le_refl _, hv, h⟩
/-! 100 OwnSunday.helpfulRest -/
def bt100 (pc : Nat) : BL := if pc = 0 then [(.aload 0, 0, 1), (.iload 2, 0, 1), (.iload 1, 0, 1), (.invokevirtual 99, 3, 3)] else if pc = 6 then [(.ifCond .ne 12, 0, 3)] else if pc = 9 then [(.iconst (-4), 0, 2), (.ireturn, 0, 1)] else if pc = 12 then [(.aload 0, 0, 1), (.getfield 6, 5, 3), (.getfield 0, 0, 3), (.iload 2, 0, 1), (.iaload, 0, 1), (.istore 3, 0, 1), (.aload 0, 0, 1), (.iload 2, 0, 1), (.invokevirtual 79, 2, 3)] else if pc = 27 then [(.istore 4, 0, 2), (.iconst (-4), 0, 2), (.istore 5, 0, 2), (.aload 0, 0, 1), (.getfield 9, 5, 3), (.iload 2, 0, 1), (.iload 3, 0, 1), (.aload 0, 0, 1), (.getfield 6, 5, 3), (.getfield 1, 0, 3), (.iload 2, 0, 1), (.iaload, 0, 1), (.invokevirtual 23, 4, 3)] else if pc = 51 then [(.iconst 0, 0, 1), (.istore 6, 0, 2)] else if pc = 54 then [(.iload 6, 0, 2), (.iload 4, 0, 2), (.if_icmp .ge 108, 0, 3)] else if pc = 61 then [(.iload 5, 0, 2), (.iconst (-4), 0, 2), (.if_icmp .ne 108, 0, 3)] else if pc = 68 then [(.aload 0, 0, 1), (.getfield 9, 5, 3), (.iload 2, 0, 1), (.iload 3, 0, 1), (.iload 6, 0, 2), (.invokevirtual 22, 4, 3)] else if pc = 79 then [(.aload 0, 0, 1), (.iload 1, 0, 1), (.invokevirtual 89, 2, 3)] else if pc = 84 then [(.ifCond .ne 91, 0, 3)] else if pc = 87 then [(.iload 6, 0, 2), (.istore 5, 0, 2)] else if pc = 91 then [(.aload 0, 0, 1), (.getfield 9, 5, 3), (.iload 2, 0, 1), (.iload 3, 0, 1), (.iload 6, 0, 2), (.invokevirtual 23, 4, 3)] else if pc = 102 then [(.iinc 6 1, 0, 3), (.goto 54, 0, 3)] else if pc = 108 then [(.aload 0, 0, 1), (.getfield 9, 5, 3), (.iload 2, 0, 1), (.iload 3, 0, 1), (.aload 0, 0, 1), (.getfield 6, 5, 3), (.getfield 1, 0, 3), (.iload 2, 0, 1), (.iaload, 0, 1), (.invokevirtual 22, 4, 3)] else if pc = 126 then [(.iload 5, 0, 2), (.ireturn, 0, 1)] else []
def sp100 (pc : Nat) : Bool := [6, 27, 51, 54, 79, 84, 102, 126].contains pc
theorem BT100 : bt100 0 = [(.aload 0, 0, 1), (.iload 2, 0, 1), (.iload 1, 0, 1), (.invokevirtual 99, 3, 3)] ∧ bt100 6 = [(.ifCond .ne 12, 0, 3)] ∧ bt100 9 = [(.iconst (-4), 0, 2), (.ireturn, 0, 1)] ∧ bt100 12 = [(.aload 0, 0, 1), (.getfield 6, 5, 3), (.getfield 0, 0, 3), (.iload 2, 0, 1), (.iaload, 0, 1), (.istore 3, 0, 1), (.aload 0, 0, 1), (.iload 2, 0, 1), (.invokevirtual 79, 2, 3)] ∧ bt100 27 = [(.istore 4, 0, 2), (.iconst (-4), 0, 2), (.istore 5, 0, 2), (.aload 0, 0, 1), (.getfield 9, 5, 3), (.iload 2, 0, 1), (.iload 3, 0, 1), (.aload 0, 0, 1), (.getfield 6, 5, 3), (.getfield 1, 0, 3), (.iload 2, 0, 1), (.iaload, 0, 1), (.invokevirtual 23, 4, 3)] ∧ bt100 51 = [(.iconst 0, 0, 1), (.istore 6, 0, 2)] ∧ bt100 54 = [(.iload 6, 0, 2), (.iload 4, 0, 2), (.if_icmp .ge 108, 0, 3)] ∧ bt100 61 = [(.iload 5, 0, 2), (.iconst (-4), 0, 2), (.if_icmp .ne 108, 0, 3)] ∧ bt100 68 = [(.aload 0, 0, 1), (.getfield 9, 5, 3), (.iload 2, 0, 1), (.iload 3, 0, 1), (.iload 6, 0, 2), (.invokevirtual 22, 4, 3)] ∧ bt100 79 = [(.aload 0, 0, 1), (.iload 1, 0, 1), (.invokevirtual 89, 2, 3)] ∧ bt100 84 = [(.ifCond .ne 91, 0, 3)] ∧ bt100 87 = [(.iload 6, 0, 2), (.istore 5, 0, 2)] ∧ bt100 91 = [(.aload 0, 0, 1), (.getfield 9, 5, 3), (.iload 2, 0, 1), (.iload 3, 0, 1), (.iload 6, 0, 2), (.invokevirtual 23, 4, 3)] ∧ bt100 102 = [(.iinc 6 1, 0, 3), (.goto 54, 0, 3)] ∧ bt100 108 = [(.aload 0, 0, 1), (.getfield 9, 5, 3), (.iload 2, 0, 1), (.iload 3, 0, 1), (.aload 0, 0, 1), (.getfield 6, 5, 3), (.getfield 1, 0, 3), (.iload 2, 0, 1), (.iaload, 0, 1), (.invokevirtual 22, 4, 3)] ∧ bt100 126 = [(.iload 5, 0, 2), (.ireturn, 0, 1)] ∧ True := ⟨rfl, rfl, rfl, rfl, rfl, rfl, rfl, rfl, rfl, rfl, rfl, rfl, rfl, rfl, rfl, rfl, trivial⟩
theorem SP100 : sp100 0 = false ∧ sp100 6 = true ∧ sp100 9 = false ∧ sp100 12 = false ∧ sp100 27 = true ∧ sp100 51 = true ∧ sp100 54 = true ∧ sp100 61 = false ∧ sp100 68 = false ∧ sp100 79 = true ∧ sp100 84 = true ∧ sp100 87 = false ∧ sp100 91 = false ∧ sp100 102 = true ∧ sp100 108 = false ∧ sp100 126 = true ∧ True := ⟨rfl, rfl, rfl, rfl, rfl, rfl, rfl, rfl, rfl, rfl, rfl, rfl, rfl, rfl, rfl, rfl, trivial⟩
set_option maxRecDepth 100000 in
theorem bk100 : ∀ pc, blk 100 pc (bt100 pc) = true := fun pc => blk_if (by decide +kernel) (blk_if (by decide +kernel) (blk_if (by decide +kernel) (blk_if (by decide +kernel) (blk_if (by decide +kernel) (blk_if (by decide +kernel) (blk_if (by decide +kernel) (blk_if (by decide +kernel) (blk_if (by decide +kernel) (blk_if (by decide +kernel) (blk_if (by decide +kernel) (blk_if (by decide +kernel) (blk_if (by decide +kernel) (blk_if (by decide +kernel) (blk_if (by decide +kernel) (blk_if (by decide +kernel) (rfl))))))))))))))))
theorem go100 {d mc ms : Nat} {sh : List SC} {M : MM} {Post : PP} {a0 : Nat} {a1 : Int} {a2 : Int} (h : ∀ S : Nat → KK, Clo (Run d) 100 none mc ms (Rtn 100 mc ms Post) S → S 0 [some (vR a0), some (vI a1), some (vI a2), none, none, none, none] [] (sh, 0, 0) M) : Run (d + 1) 100 [vR a0, vI a1, vI a2] sh M mc ms Post := ⟨Nat.le_of_ble_eq_true rfl, h⟩
theorem rt100 {v : Int} {sh : List SC} {M : MM} {Post : PP} (h : Post (some (Sum.inl v)) sh M) : Rtn 100 0 0 Post (some (Sum.inl v)) (sh, 0, 0) M := ⟨Nat.le_refl _, Nat.le_refl _, trivial, h⟩
end
section
/-! 101 OwnSundayModel.<init> -/
def bt101 (pc : Nat) : BL := if pc = 0 then [(.aload 0, 0, 1), (.invokespecial 1001, 99, 3), (.aload 0, 0, 1), (.iconst 400, 0, 3), (.newarray .byte, 0, 2), (.putstatic 1, 6, 3), (.aload 0, 0, 1), (.iconst 4, 0, 1), (.newarray .int, 0, 2), (.dup, 0, 1), (.iconst 0, 0, 1), (.iconst 7, 0, 2), (.iastore, 0, 1), (.dup, 0, 1), (.iconst 1, 0, 1), (.iconst 9, 0, 2), (.iastore, 0, 1), (.dup, 0, 1), (.iconst 2, 0, 1), (.iconst 7, 0, 2), (.iastore, 0, 1), (.dup, 0, 1), (.iconst 3, 0, 1), (.iconst 9, 0, 2), (.iastore, 0, 1), (.putstatic 3, 6, 3), (.aload 0, 0, 1), (.iconst 2, 0, 1), (.newarray .int, 0, 2), (.putstatic 4, 6, 3), (.aload 0, 0, 1), (.iconst 2, 0, 1), (.newarray .int, 0, 2), (.putstatic 5, 6, 3), (.aload 0, 0, 1), (.iconst 2, 0, 1), (.newarray .int, 0, 2), (.putstatic 6, 6, 3), (.aload 0, 0, 1), (.iconst 80, 0, 2), (.newarray .int, 0, 2), (.putstatic 7, 6, 3), (.aload 0, 0, 1), (.iconst 10, 0, 2), (.newarray .int, 0, 2), (.putstatic 8, 6, 3), (.aload 0, 0, 1), (.iconst 36, 0, 2), (.newarray .int, 0, 2), (.putstatic 9, 6, 3), (.aload 0, 0, 1), (.iconst 20, 0, 2), (.newarray .boolean, 0, 2), (.putstatic 10, 6, 3), (.aload 0, 0, 1), (.iconst 20, 0, 2), (.newarray .long, 0, 2), (.putstatic 12, 6, 3), (.aload 0, 0, 1), (.iconst 20, 0, 2), (.newarray .int, 0, 2), (.putstatic 13, 6, 3), (.aload 0, 0, 1), (.iconst 20, 0, 2), (.newarray .boolean, 0, 2), (.putstatic 14, 6, 3), (.aload 0, 0, 1), (.iconst 40, 0, 2), (.newarray .int, 0, 2), (.putstatic 16, 6, 3), (.aload 0, 0, 1), (.iconst 20, 0, 2), (.newarray .boolean, 0, 2), (.putstatic 17, 6, 3), (.aload 0, 0, 1), (.iconst 2, 0, 1), (.newarray .int, 0, 2), (.putstatic 18, 6, 3), (.aload 0, 0, 1), (.iconst 40, 0, 2), (.newarray .long, 0, 2), (.putstatic 19, 6, 3), (.aload 0, 0, 1), (.iconst 40, 0, 2), (.newarray .int, 0, 2), (.putstatic 20, 6, 3), (.aload 0, 0, 1), (.iconst 40, 0, 2), (.newarray .boolean, 0, 2), (.putstatic 21, 6, 3), (.aload 0, 0, 1), (.iconst 10, 0, 2), (.newarray .int, 0, 2), (.putstatic 22, 6, 3), (.aload 0, 0, 1), (.iconst 10, 0, 2), (.newarray .int, 0, 2), (.putstatic 23, 6, 3), (.aload 0, 0, 1), (.iconst 10, 0, 2), (.newarray .int, 0, 2), (.putstatic 24, 6, 3), (.aload 0, 0, 1), (.iconst 5, 0, 1), (.newarray .int, 0, 2), (.putstatic 27, 6, 3), (.aload 0, 0, 1), (.iconst 4, 0, 1), (.newarray .int, 0, 2), (.putstatic 28, 6, 3), (.aload 0, 0, 1), (.invokevirtual 109, 1, 3)] else if pc = 206 then [(.aload 0, 0, 1), (.getfield 4, 6, 3), (.iconst 1, 0, 1), (.iconst 1, 0, 1), (.iastore, 0, 1), (.aload 0, 0, 1), (.getfield 7, 6, 3), (.iconst 41, 0, 2), (.iconst 6, 0, 2), (.iastore, 0, 1), (.aload 0, 0, 1), (.getfield 7, 6, 3), (.iconst 42, 0, 2), (.iconst 1, 0, 1), (.iastore, 0, 1), (.aload 0, 0, 1), (.invokevirtual 110, 1, 3)] else if pc = 234 then [(.return_, 0, 1)] else []
def sp101 (pc : Nat) : Bool := [206, 234].contains pc
theorem BT101 : bt101 0 = [(.aload 0, 0, 1), (.invokespecial 1001, 99, 3), (.aload 0, 0, 1), (.iconst 400, 0, 3), (.newarray .byte, 0, 2), (.putstatic 1, 6, 3), (.aload 0, 0, 1), (.iconst 4, 0, 1), (.newarray .int, 0, 2), (.dup, 0, 1), (.iconst 0, 0, 1), (.iconst 7, 0, 2), (.iastore, 0, 1), (.dup, 0, 1), (.iconst 1, 0, 1), (.iconst 9, 0, 2), (.iastore, 0, 1), (.dup, 0, 1), (.iconst 2, 0, 1), (.iconst 7, 0, 2), (.iastore, 0, 1), (.dup, 0, 1), (.iconst 3, 0, 1), (.iconst 9, 0, 2), (.iastore, 0, 1), (.putstatic 3, 6, 3), (.aload 0, 0, 1), (.iconst 2, 0, 1), (.newarray .int, 0, 2), (.putstatic 4, 6, 3), (.aload 0, 0, 1), (.iconst 2, 0, 1), (.newarray .int, 0, 2), (.putstatic 5, 6, 3), (.aload 0, 0, 1), (.iconst 2, 0, 1), (.newarray .int, 0, 2), (.putstatic 6, 6, 3), (.aload 0, 0, 1), (.iconst 80, 0, 2), (.newarray .int, 0, 2), (.putstatic 7, 6, 3), (.aload 0, 0, 1), (.iconst 10, 0, 2), (.newarray .int, 0, 2), (.putstatic 8, 6, 3), (.aload 0, 0, 1), (.iconst 36, 0, 2), (.newarray .int, 0, 2), (.putstatic 9, 6, 3), (.aload 0, 0, 1), (.iconst 20, 0, 2), (.newarray .boolean, 0, 2), (.putstatic 10, 6, 3), (.aload 0, 0, 1), (.iconst 20, 0, 2), (.newarray .long, 0, 2), (.putstatic 12, 6, 3), (.aload 0, 0, 1), (.iconst 20, 0, 2), (.newarray .int, 0, 2), (.putstatic 13, 6, 3), (.aload 0, 0, 1), (.iconst 20, 0, 2), (.newarray .boolean, 0, 2), (.putstatic 14, 6, 3), (.aload 0, 0, 1), (.iconst 40, 0, 2), (.newarray .int, 0, 2), (.putstatic 16, 6, 3), (.aload 0, 0, 1), (.iconst 20, 0, 2), (.newarray .boolean, 0, 2), (.putstatic 17, 6, 3), (.aload 0, 0, 1), (.iconst 2, 0, 1), (.newarray .int, 0, 2), (.putstatic 18, 6, 3), (.aload 0, 0, 1), (.iconst 40, 0, 2), (.newarray .long, 0, 2), (.putstatic 19, 6, 3), (.aload 0, 0, 1), (.iconst 40, 0, 2), (.newarray .int, 0, 2), (.putstatic 20, 6, 3), (.aload 0, 0, 1), (.iconst 40, 0, 2), (.newarray .boolean, 0, 2), (.putstatic 21, 6, 3), (.aload 0, 0, 1), (.iconst 10, 0, 2), (.newarray .int, 0, 2), (.putstatic 22, 6, 3), (.aload 0, 0, 1), (.iconst 10, 0, 2), (.newarray .int, 0, 2), (.putstatic 23, 6, 3), (.aload 0, 0, 1), (.iconst 10, 0, 2), (.newarray .int, 0, 2), (.putstatic 24, 6, 3), (.aload 0, 0, 1), (.iconst 5, 0, 1), (.newarray .int, 0, 2), (.putstatic 27, 6, 3), (.aload 0, 0, 1), (.iconst 4, 0, 1), (.newarray .int, 0, 2), (.putstatic 28, 6, 3), (.aload 0, 0, 1), (.invokevirtual 109, 1, 3)] ∧ bt101 206 = [(.aload 0, 0, 1), (.getfield 4, 6, 3), (.iconst 1, 0, 1), (.iconst 1, 0, 1), (.iastore, 0, 1), (.aload 0, 0, 1), (.getfield 7, 6, 3), (.iconst 41, 0, 2), (.iconst 6, 0, 2), (.iastore, 0, 1), (.aload 0, 0, 1), (.getfield 7, 6, 3), (.iconst 42, 0, 2), (.iconst 1, 0, 1), (.iastore, 0, 1), (.aload 0, 0, 1), (.invokevirtual 110, 1, 3)] ∧ bt101 234 = [(.return_, 0, 1)] ∧ True := ⟨rfl, rfl, rfl, trivial⟩
theorem SP101 : sp101 0 = false ∧ sp101 206 = true ∧ sp101 234 = true ∧ True := ⟨rfl, rfl, rfl, trivial⟩
set_option maxRecDepth 100000 in
theorem bk101 : ∀ pc, blk 101 pc (bt101 pc) = true := fun pc => blk_if (by decide +kernel) (blk_if (by decide +kernel) (blk_if (by decide +kernel) (rfl)))
theorem go101 {d mc ms : Nat} {sh : List SC} {M : MM} {Post : PP} {a0 : Nat} (h : ∀ S : Nat → KK, Clo (Run d) 101 none mc ms (Rtn 101 mc ms Post) S → S 0 [some (vR a0)] [] (sh, 0, 0) M) : Run (d + 1) 101 [vR a0] sh M mc ms Post := ⟨Nat.le_of_ble_eq_true rfl, h⟩
theorem rt101 {mc ms : Nat} {Z : ZZ} {M : MM} {Post : PP} (h1 : Z.2.1 ≤ mc) (h2 : Z.2.2 ≤ ms) (h : Post none Z.1 M) : Rtn 101 mc ms Post none Z M := ⟨h1, h2, trivial, h⟩
/-! 102 OwnSundayModel.in -/
def bt102 (pc : Nat) : BL := if pc = 0 then [(.lload 0, 0, 1), (.lload 2, 0, 1), (.lcmp, 0, 1), (.ifCond .lt 17, 0, 3)] else if pc = 6 then [(.lload 0, 0, 1), (.lload 4, 0, 2), (.lcmp, 0, 1), (.ifCond .gt 17, 0, 3)] else if pc = 13 then [(.iconst 1, 0, 1), (.goto 18, 0, 3)] else if pc = 17 then [(.iconst 0, 0, 1)] else if pc = 18 then [(.ireturn, 0, 1)] else []
def sp102 (pc : Nat) : Bool := [].contains pc
theorem BT102 : bt102 0 = [(.lload 0, 0, 1), (.lload 2, 0, 1), (.lcmp, 0, 1), (.ifCond .lt 17, 0, 3)] ∧ bt102 6 = [(.lload 0, 0, 1), (.lload 4, 0, 2), (.lcmp, 0, 1), (.ifCond .gt 17, 0, 3)] ∧ bt102 13 = [(.iconst 1, 0, 1), (.goto 18, 0, 3)] ∧ bt102 17 = [(.iconst 0, 0, 1)] ∧ bt102 18 = [(.ireturn, 0, 1)] ∧ True := ⟨rfl, rfl, rfl, rfl, rfl, trivial⟩
theorem SP102 : sp102 0 = false ∧ sp102 6 = false ∧ sp102 13 = false ∧ sp102 17 = false ∧ sp102 18 = false ∧ True := ⟨rfl, rfl, rfl, rfl, rfl, trivial⟩
set_option maxRecDepth 100000 in
theorem bk102 : ∀ pc, blk 102 pc (bt102 pc) = true := fun pc => blk_if (by decide +kernel) (blk_if (by decide +kernel) (blk_if (by decide +kernel) (blk_if (by decide +kernel) (blk_if (by decide +kernel) (rfl)))))
theorem go102 {d mc ms : Nat} {sh : List SC} {M : MM} {Post : PP} {a0 : Int} {a1 : Int} {a2 : Int} (h : ∀ S : Nat → KK, Clo (Run d) 102 none mc ms (Rtn 102 mc ms Post) S → S 0 [some (vL a0), none, some (vL a1), none, some (vL a2), none] [] (sh, 0, 0) M) : Run (d + 1) 102 [vL a0, vL a1, vL a2] sh M mc ms Post := ⟨Nat.le_of_ble_eq_true rfl, h⟩
theorem rt102 {v : Int} {sh : List SC} {M : MM} {Post : PP} (hv : v = 0 ∨ v = 1) (h : Post (some (Sum.inl v)) sh M) : Rtn 102 0 0 Post (some (Sum.inl v)) (sh, 0, 0) M := ⟨Nat.le_refl _, Nat.le_refl _, hv, h⟩
/-! 103 OwnSundayModel.write -/
def bt103 (pc : Nat) : BL := if pc = 0 then [(.iload 1, 0, 1), (.i2l, 0, 1), (.ldc2_w 0, 1, 1), (.ldc2_w 0, 8, 3), (.invokestatic 102, 3, 3)] else if pc = 9 then [(.ifCond .ne 14, 0, 3)] else if pc = 12 then [(.iconst (-1), 0, 1), (.ireturn, 0, 1)] else if pc = 14 then [(.aload 0, 0, 1), (.getfield 0, 6, 3), (.iload 1, 0, 1), (.iadd, 0, 1), (.iconst 400, 0, 3), (.if_icmp .le 29, 0, 3)] else if pc = 26 then [(.iconst (-3), 0, 2), (.ireturn, 0, 1)] else if pc = 29 then [(.iload 1, 0, 1), (.iconst 1, 0, 1), (.isub, 0, 1), (.istore 4, 0, 2)] else if pc = 34 then [(.iload 4, 0, 2), (.ifCond .lt 73, 0, 3)] else if pc = 39 then [(.aload 0, 0, 1), (.getfield 1, 6, 3), (.aload 0, 0, 1), (.getfield 0, 6, 3), (.lload 2, 0, 1), (.iconst 8, 0, 2), (.iload 4, 0, 2), (.imul, 0, 1), (.lshr, 0, 1), (.l2i, 0, 1), (.i2b, 0, 1), (.bastore, 0, 1), (.aload 0, 0, 1), (.dup, 0, 1), (.getfield 0, 6, 3), (.iconst 1, 0, 1), (.iadd, 0, 1), (.putfield 0, 6, 3), (.iinc 4 (-1), 0, 3), (.goto 34, 0, 3)] else if pc = 73 then [(.aload 0, 0, 1), (.getfield 0, 6, 3), (.ireturn, 0, 1)] else []
def sp103 (pc : Nat) : Bool := [9, 34].contains pc
theorem BT103 : bt103 0 = [(.iload 1, 0, 1), (.i2l, 0, 1), (.ldc2_w 0, 1, 1), (.ldc2_w 0, 8, 3), (.invokestatic 102, 3, 3)] ∧ bt103 9 = [(.ifCond .ne 14, 0, 3)] ∧ bt103 12 = [(.iconst (-1), 0, 1), (.ireturn, 0, 1)] ∧ bt103 14 = [(.aload 0, 0, 1), (.getfield 0, 6, 3), (.iload 1, 0, 1), (.iadd, 0, 1), (.iconst 400, 0, 3), (.if_icmp .le 29, 0, 3)] ∧ bt103 26 = [(.iconst (-3), 0, 2), (.ireturn, 0, 1)] ∧ bt103 29 = [(.iload 1, 0, 1), (.iconst 1, 0, 1), (.isub, 0, 1), (.istore 4, 0, 2)] ∧ bt103 34 = [(.iload 4, 0, 2), (.ifCond .lt 73, 0, 3)] ∧ bt103 39 = [(.aload 0, 0, 1), (.getfield 1, 6, 3), (.aload 0, 0, 1), (.getfield 0, 6, 3), (.lload 2, 0, 1), (.iconst 8, 0, 2), (.iload 4, 0, 2), (.imul, 0, 1), (.lshr, 0, 1), (.l2i, 0, 1), (.i2b, 0, 1), (.bastore, 0, 1), (.aload 0, 0, 1), (.dup, 0, 1), (.getfield 0, 6, 3), (.iconst 1, 0, 1), (.iadd, 0, 1), (.putfield 0, 6, 3), (.iinc 4 (-1), 0, 3), (.goto 34, 0, 3)] ∧ bt103 73 = [(.aload 0, 0, 1), (.getfield 0, 6, 3), (.ireturn, 0, 1)] ∧ True := ⟨rfl, rfl, rfl, rfl, rfl, rfl, rfl, rfl, rfl, trivial⟩
theorem SP103 : sp103 0 = false ∧ sp103 9 = true ∧ sp103 12 = false ∧ sp103 14 = false ∧ sp103 26 = false ∧ sp103 29 = false ∧ sp103 34 = true ∧ sp103 39 = false ∧ sp103 73 = false ∧ True := ⟨rfl, rfl, rfl, rfl, rfl, rfl, rfl, rfl, rfl, trivial⟩
set_option maxRecDepth 100000 in
theorem bk103 : ∀ pc, blk 103 pc (bt103 pc) = true := fun pc => blk_if (by decide +kernel) (blk_if (by decide +kernel) (blk_if (by decide +kernel) (blk_if (by decide +kernel) (blk_if (by decide +kernel) (blk_if (by decide +kernel) (blk_if (by decide +kernel) (blk_if (by decide +kernel) (blk_if (by decide +kernel) (rfl)))))))))
theorem go103 {d mc ms : Nat} {sh : List SC} {M : MM} {Post : PP} {a0 : Nat} {a1 : Int} {a2 : Int} (h : ∀ S : Nat → KK, Clo (Run d) 103 none mc ms (Rtn 103 mc ms Post) S → S 0 [some (vR a0), some (vI a1), some (vL a2), none, none] [] (sh, 0, 0) M) : Run (d + 1) 103 [vR a0, vI a1, vL a2] sh M mc ms Post := ⟨Nat.le_of_ble_eq_true rfl, h⟩
theorem rt103 {v : Int} {sh : List SC} {M : MM} {Post : PP} (h : Post (some (Sum.inl v)) sh M) : Rtn 103 0 0 Post (some (Sum.inl v)) (sh, 0, 0) M := ⟨Nat.le_refl _, Nat.le_refl _, trivial, h⟩
/-! 104 OwnSundayModel.wipe -/
def bt104 (pc : Nat) : BL := if pc = 0 then [(.aload 0, 0, 1), (.getfield 0, 6, 3), (.istore 1, 0, 1), (.aload 0, 0, 1), (.iconst 0, 0, 1), (.putfield 0, 6, 3), (.iload 1, 0, 1), (.ireturn, 0, 1)] else []
def sp104 (pc : Nat) : Bool := [].contains pc
theorem BT104 : bt104 0 = [(.aload 0, 0, 1), (.getfield 0, 6, 3), (.istore 1, 0, 1), (.aload 0, 0, 1), (.iconst 0, 0, 1), (.putfield 0, 6, 3), (.iload 1, 0, 1), (.ireturn, 0, 1)] ∧ True := ⟨rfl, trivial⟩
theorem SP104 : sp104 0 = false ∧ True := ⟨rfl, trivial⟩
set_option maxRecDepth 100000 in
theorem bk104 : ∀ pc, blk 104 pc (bt104 pc) = true := fun pc => blk_if (by decide +kernel) (rfl)
theorem go104 {d mc ms : Nat} {sh : List SC} {M : MM} {Post : PP} {a0 : Nat} (h : ∀ S : Nat → KK, Clo (Run d) 104 none mc ms (Rtn 104 mc ms Post) S → S 0 [some (vR a0), none] [] (sh, 0, 0) M) : Run (d + 1) 104 [vR a0] sh M mc ms Post := ⟨Nat.le_of_ble_eq_true rfl, h⟩
theorem rt104 {v : Int} {sh : List SC} {M : MM} {Post : PP} (h : Post (some (Sum.inl v)) sh M) : Rtn 104 0 0 Post (some (Sum.inl v)) (sh, 0, 0) M := ⟨Nat.le_refl _, Nat.le_refl _, trivial, h⟩
/-! 105 OwnSundayModel.number -/
def bt105 (pc : Nat) : BL := if pc = 0 then [(.iconst 0, 0, 1), (.istore 1, 0, 1), (.iconst 0, 0, 1), (.istore 2, 0, 1)] else if pc = 4 then [(.aload 0, 0, 1), (.getfield 2, 6, 3), (.aload 0, 0, 1), (.getfield 0, 6, 3), (.if_icmp .ge 80, 0, 3)] else if pc = 15 then [(.aload 0, 0, 1), (.getfield 1, 6, 3), (.aload 0, 0, 1), (.getfield 2, 6, 3), (.baload, 0, 1), (.i2l, 0, 1), (.ldc2_w 0, 48, 3), (.ldc2_w 0, 57, 3), (.invokestatic 102, 3, 3)] else if pc = 34 then [(.ifCond .eq 80, 0, 3)] else if pc = 37 then [(.iload 2, 0, 1), (.iconst 2, 0, 1), (.if_icmp .ge 62, 0, 3)] else if pc = 42 then [(.iconst 10, 0, 2), (.iload 1, 0, 1), (.imul, 0, 1), (.aload 0, 0, 1), (.getfield 1, 6, 3), (.aload 0, 0, 1), (.getfield 2, 6, 3), (.baload, 0, 1), (.iadd, 0, 1), (.iconst 48, 0, 2), (.isub, 0, 1), (.goto 63, 0, 3)] else if pc = 62 then [(.iload 1, 0, 1)] else if pc = 63 then [(.istore 1, 0, 1), (.iinc 2 1, 0, 3), (.aload 0, 0, 1), (.dup, 0, 1), (.getfield 2, 6, 3), (.iconst 1, 0, 1), (.iadd, 0, 1), (.putfield 2, 6, 3), (.goto 4, 0, 3)] else if pc = 80 then [(.iload 2, 0, 1), (.i2l, 0, 1), (.ldc2_w 0, 1, 1), (.ldc2_w 0, 2, 3), (.invokestatic 102, 3, 3)] else if pc = 89 then [(.ifCond .eq 96, 0, 3)] else if pc = 92 then [(.iload 1, 0, 1), (.goto 97, 0, 3)] else if pc = 96 then [(.iconst (-1), 0, 1)] else if pc = 97 then [(.ireturn, 0, 1)] else []
def sp105 (pc : Nat) : Bool := [4, 34, 89].contains pc
theorem BT105 : bt105 0 = [(.iconst 0, 0, 1), (.istore 1, 0, 1), (.iconst 0, 0, 1), (.istore 2, 0, 1)] ∧ bt105 4 = [(.aload 0, 0, 1), (.getfield 2, 6, 3), (.aload 0, 0, 1), (.getfield 0, 6, 3), (.if_icmp .ge 80, 0, 3)] ∧ bt105 15 = [(.aload 0, 0, 1), (.getfield 1, 6, 3), (.aload 0, 0, 1), (.getfield 2, 6, 3), (.baload, 0, 1), (.i2l, 0, 1), (.ldc2_w 0, 48, 3), (.ldc2_w 0, 57, 3), (.invokestatic 102, 3, 3)] ∧ bt105 34 = [(.ifCond .eq 80, 0, 3)] ∧ bt105 37 = [(.iload 2, 0, 1), (.iconst 2, 0, 1), (.if_icmp .ge 62, 0, 3)] ∧ bt105 42 = [(.iconst 10, 0, 2), (.iload 1, 0, 1), (.imul, 0, 1), (.aload 0, 0, 1), (.getfield 1, 6, 3), (.aload 0, 0, 1), (.getfield 2, 6, 3), (.baload, 0, 1), (.iadd, 0, 1), (.iconst 48, 0, 2), (.isub, 0, 1), (.goto 63, 0, 3)] ∧ bt105 62 = [(.iload 1, 0, 1)] ∧ bt105 63 = [(.istore 1, 0, 1), (.iinc 2 1, 0, 3), (.aload 0, 0, 1), (.dup, 0, 1), (.getfield 2, 6, 3), (.iconst 1, 0, 1), (.iadd, 0, 1), (.putfield 2, 6, 3), (.goto 4, 0, 3)] ∧ bt105 80 = [(.iload 2, 0, 1), (.i2l, 0, 1), (.ldc2_w 0, 1, 1), (.ldc2_w 0, 2, 3), (.invokestatic 102, 3, 3)] ∧ bt105 89 = [(.ifCond .eq 96, 0, 3)] ∧ bt105 92 = [(.iload 1, 0, 1), (.goto 97, 0, 3)] ∧ bt105 96 = [(.iconst (-1), 0, 1)] ∧ bt105 97 = [(.ireturn, 0, 1)] ∧ True := ⟨rfl, rfl, rfl, rfl, rfl, rfl, rfl, rfl, rfl, rfl, rfl, rfl, rfl, trivial⟩
theorem SP105 : sp105 0 = false ∧ sp105 4 = true ∧ sp105 15 = false ∧ sp105 34 = true ∧ sp105 37 = false ∧ sp105 42 = false ∧ sp105 62 = false ∧ sp105 63 = false ∧ sp105 80 = false ∧ sp105 89 = true ∧ sp105 92 = false ∧ sp105 96 = false ∧ sp105 97 = false ∧ True := ⟨rfl, rfl, rfl, rfl, rfl, rfl, rfl, rfl, rfl, rfl, rfl, rfl, rfl, trivial⟩
set_option maxRecDepth 100000 in
theorem bk105 : ∀ pc, blk 105 pc (bt105 pc) = true := fun pc => blk_if (by decide +kernel) (blk_if (by decide +kernel) (blk_if (by decide +kernel) (blk_if (by decide +kernel) (blk_if (by decide +kernel) (blk_if (by decide +kernel) (blk_if (by decide +kernel) (blk_if (by decide +kernel) (blk_if (by decide +kernel) (blk_if (by decide +kernel) (blk_if (by decide +kernel) (blk_if (by decide +kernel) (blk_if (by decide +kernel) (rfl)))))))))))))
theorem go105 {d mc ms : Nat} {sh : List SC} {M : MM} {Post : PP} {a0 : Nat} (h : ∀ S : Nat → KK, Clo (Run d) 105 none mc ms (Rtn 105 mc ms Post) S → S 0 [some (vR a0), none, none] [] (sh, 0, 0) M) : Run (d + 1) 105 [vR a0] sh M mc ms Post := ⟨Nat.le_of_ble_eq_true rfl, h⟩
theorem rt105 {v : Int} {sh : List SC} {M : MM} {Post : PP} (h : Post (some (Sum.inl v)) sh M) : Rtn 105 0 0 Post (some (Sum.inl v)) (sh, 0, 0) M := ⟨Nat.le_refl _, Nat.le_refl _, trivial, h⟩
/-! 106 OwnSundayModel.parts -/
def bt106 (pc : Nat) : BL := if pc = 0 then [(.iload 0, 0, 1), (.iconst 104, 0, 2), (.if_icmp .ne 10, 0, 3)] else if pc = 6 then [(.iconst 4, 0, 1), (.goto 47, 0, 3)] else if pc = 10 then [(.iload 0, 0, 1), (.iconst 109, 0, 2), (.if_icmp .ne 20, 0, 3)] else if pc = 16 then [(.iconst 3, 0, 1), (.goto 47, 0, 3)] else if pc = 20 then [(.iload 0, 0, 1), (.iconst 119, 0, 2), (.if_icmp .ne 30, 0, 3)] else if pc = 26 then [(.iconst 2, 0, 1), (.goto 47, 0, 3)] else if pc = 30 then [(.iload 0, 0, 1), (.iconst 110, 0, 2), (.if_icmp .eq 42, 0, 3)] else if pc = 36 then [(.iload 0, 0, 1), (.iconst 99, 0, 2), (.if_icmp .ne 46, 0, 3)] else if pc = 42 then [(.iconst 1, 0, 1), (.goto 47, 0, 3)] else if pc = 46 then [(.iconst 0, 0, 1)] else if pc = 47 then [(.ireturn, 0, 1)] else []
def sp106 (pc : Nat) : Bool := [].contains pc
theorem BT106 : bt106 0 = [(.iload 0, 0, 1), (.iconst 104, 0, 2), (.if_icmp .ne 10, 0, 3)] ∧ bt106 6 = [(.iconst 4, 0, 1), (.goto 47, 0, 3)] ∧ bt106 10 = [(.iload 0, 0, 1), (.iconst 109, 0, 2), (.if_icmp .ne 20, 0, 3)] ∧ bt106 16 = [(.iconst 3, 0, 1), (.goto 47, 0, 3)] ∧ bt106 20 = [(.iload 0, 0, 1), (.iconst 119, 0, 2), (.if_icmp .ne 30, 0, 3)] ∧ bt106 26 = [(.iconst 2, 0, 1), (.goto 47, 0, 3)] ∧ bt106 30 = [(.iload 0, 0, 1), (.iconst 110, 0, 2), (.if_icmp .eq 42, 0, 3)] ∧ bt106 36 = [(.iload 0, 0, 1), (.iconst 99, 0, 2), (.if_icmp .ne 46, 0, 3)] ∧ bt106 42 = [(.iconst 1, 0, 1), (.goto 47, 0, 3)] ∧ bt106 46 = [(.iconst 0, 0, 1)] ∧ bt106 47 = [(.ireturn, 0, 1)] ∧ True := ⟨rfl, rfl, rfl, rfl, rfl, rfl, rfl, rfl, rfl, rfl, rfl, trivial⟩
theorem SP106 : sp106 0 = false ∧ sp106 6 = false ∧ sp106 10 = false ∧ sp106 16 = false ∧ sp106 20 = false ∧ sp106 26 = false ∧ sp106 30 = false ∧ sp106 36 = false ∧ sp106 42 = false ∧ sp106 46 = false ∧ sp106 47 = false ∧ True := ⟨rfl, rfl, rfl, rfl, rfl, rfl, rfl, rfl, rfl, rfl, rfl, trivial⟩
set_option maxRecDepth 100000 in
theorem bk106 : ∀ pc, blk 106 pc (bt106 pc) = true := fun pc => blk_if (by decide +kernel) (blk_if (by decide +kernel) (blk_if (by decide +kernel) (blk_if (by decide +kernel) (blk_if (by decide +kernel) (blk_if (by decide +kernel) (blk_if (by decide +kernel) (blk_if (by decide +kernel) (blk_if (by decide +kernel) (blk_if (by decide +kernel) (blk_if (by decide +kernel) (rfl)))))))))))
theorem go106 {d mc ms : Nat} {sh : List SC} {M : MM} {Post : PP} {a0 : Int} (h : ∀ S : Nat → KK, Clo (Run d) 106 none mc ms (Rtn 106 mc ms Post) S → S 0 [some (vI a0)] [] (sh, 0, 0) M) : Run (d + 1) 106 [vI a0] sh M mc ms Post := ⟨Nat.le_of_ble_eq_true rfl, h⟩
theorem rt106 {v : Int} {sh : List SC} {M : MM} {Post : PP} (h : Post (some (Sum.inl v)) sh M) : Rtn 106 0 0 Post (some (Sum.inl v)) (sh, 0, 0) M := ⟨Nat.le_refl _, Nat.le_refl _, trivial, h⟩
/-! 107 OwnSundayModel.isItem -/
def bt107 (pc : Nat) : BL := if pc = 0 then [(.aload 0, 0, 1), (.getfield 2, 6, 3), (.istore 1, 0, 1), (.aload 0, 0, 1), (.getfield 1, 6, 3), (.aload 0, 0, 1), (.getfield 2, 6, 3), (.baload, 0, 1), (.istore 2, 0, 1), (.aload 0, 0, 1), (.dup, 0, 1), (.getfield 2, 6, 3), (.iconst 1, 0, 1), (.iadd, 0, 1), (.putfield 2, 6, 3), (.iload 2, 0, 1), (.invokestatic 106, 1, 3)] else if pc = 29 then [(.istore 3, 0, 1), (.iload 3, 0, 1), (.ifCond .le 38, 0, 3)] else if pc = 34 then [(.iconst 1, 0, 1), (.goto 39, 0, 3)] else if pc = 38 then [(.iconst 0, 0, 1)] else if pc = 39 then [(.istore 4, 0, 2), (.iconst 0, 0, 1), (.istore 5, 0, 2)] else if pc = 44 then [(.iload 5, 0, 2), (.iload 3, 0, 1), (.if_icmp .ge 154, 0, 3)] else if pc = 50 then [(.iload 4, 0, 2), (.ifCond .eq 154, 0, 3)] else if pc = 55 then [(.iload 5, 0, 2), (.ifCond .eq 85, 0, 3)] else if pc = 60 then [(.aload 0, 0, 1), (.getfield 2, 6, 3), (.aload 0, 0, 1), (.getfield 0, 6, 3), (.if_icmp .ge 89, 0, 3)] else if pc = 71 then [(.aload 0, 0, 1), (.getfield 1, 6, 3), (.aload 0, 0, 1), (.getfield 2, 6, 3), (.baload, 0, 1), (.iconst 44, 0, 2), (.if_icmp .ne 89, 0, 3)] else if pc = 85 then [(.iconst 1, 0, 1), (.goto 90, 0, 3)] else if pc = 89 then [(.iconst 0, 0, 1)] else if pc = 90 then [(.istore 4, 0, 2), (.aload 0, 0, 1), (.dup, 0, 1), (.getfield 2, 6, 3), (.iload 5, 0, 2), (.ifCond .ne 106, 0, 3)] else if pc = 102 then [(.iconst 0, 0, 1), (.goto 107, 0, 3)] else if pc = 106 then [(.iconst 1, 0, 1)] else if pc = 107 then [(.iadd, 0, 1), (.putfield 2, 6, 3), (.aload 0, 0, 1), (.getfield 28, 6, 3), (.iload 5, 0, 2), (.iload 4, 0, 2), (.ifCond .eq 129, 0, 3)] else if pc = 122 then [(.aload 0, 0, 1), (.invokevirtual 105, 1, 3)] else if pc = 126 then [(.goto 130, 0, 3)] else if pc = 129 then [(.iconst (-1), 0, 1)] else if pc = 130 then [(.iastore, 0, 1), (.aload 0, 0, 1), (.getfield 28, 6, 3), (.iload 5, 0, 2), (.iaload, 0, 1), (.ifCond .lt 145, 0, 3)] else if pc = 141 then [(.iconst 1, 0, 1), (.goto 146, 0, 3)] else if pc = 145 then [(.iconst 0, 0, 1)] else if pc = 146 then [(.istore 4, 0, 2), (.iinc 5 1, 0, 3), (.goto 44, 0, 3)] else if pc = 154 then [(.iload 4, 0, 2), (.ifCond .eq 188, 0, 3)] else if pc = 159 then [(.aload 0, 0, 1), (.getfield 2, 6, 3), (.aload 0, 0, 1), (.getfield 0, 6, 3), (.if_icmp .ge 188, 0, 3)] else if pc = 170 then [(.aload 0, 0, 1), (.getfield 1, 6, 3), (.aload 0, 0, 1), (.getfield 2, 6, 3), (.baload, 0, 1), (.iconst 59, 0, 2), (.if_icmp .ne 188, 0, 3)] else if pc = 184 then [(.iconst 1, 0, 1), (.goto 189, 0, 3)] else if pc = 188 then [(.iconst 0, 0, 1)] else if pc = 189 then [(.istore 4, 0, 2), (.aload 0, 0, 1), (.dup, 0, 1), (.getfield 2, 6, 3), (.iconst 1, 0, 1), (.iadd, 0, 1), (.putfield 2, 6, 3), (.iload 4, 0, 2), (.ifCond .eq 219, 0, 3)] else if pc = 206 then [(.aload 0, 0, 1), (.iload 2, 0, 1), (.iload 1, 0, 1), (.invokevirtual 108, 3, 3)] else if pc = 212 then [(.ifCond .eq 219, 0, 3)] else if pc = 215 then [(.iconst 1, 0, 1), (.goto 220, 0, 3)] else if pc = 219 then [(.iconst 0, 0, 1)] else if pc = 220 then [(.ireturn, 0, 1)] else []
def sp107 (pc : Nat) : Bool := [29, 44, 126, 212].contains pc
theorem BT107 : bt107 0 = [(.aload 0, 0, 1), (.getfield 2, 6, 3), (.istore 1, 0, 1), (.aload 0, 0, 1), (.getfield 1, 6, 3), (.aload 0, 0, 1), (.getfield 2, 6, 3), (.baload, 0, 1), (.istore 2, 0, 1), (.aload 0, 0, 1), (.dup, 0, 1), (.getfield 2, 6, 3), (.iconst 1, 0, 1), (.iadd, 0, 1), (.putfield 2, 6, 3), (.iload 2, 0, 1), (.invokestatic 106, 1, 3)] ∧ bt107 29 = [(.istore 3, 0, 1), (.iload 3, 0, 1), (.ifCond .le 38, 0, 3)] ∧ bt107 34 = [(.iconst 1, 0, 1), (.goto 39, 0, 3)] ∧ bt107 38 = [(.iconst 0, 0, 1)] ∧ bt107 39 = [(.istore 4, 0, 2), (.iconst 0, 0, 1), (.istore 5, 0, 2)] ∧ bt107 44 = [(.iload 5, 0, 2), (.iload 3, 0, 1), (.if_icmp .ge 154, 0, 3)] ∧ bt107 50 = [(.iload 4, 0, 2), (.ifCond .eq 154, 0, 3)] ∧ bt107 55 = [(.iload 5, 0, 2), (.ifCond .eq 85, 0, 3)] ∧ bt107 60 = [(.aload 0, 0, 1), (.getfield 2, 6, 3), (.aload 0, 0, 1), (.getfield 0, 6, 3), (.if_icmp .ge 89, 0, 3)] ∧ bt107 71 = [(.aload 0, 0, 1), (.getfield 1, 6, 3), (.aload 0, 0, 1), (.getfield 2, 6, 3), (.baload, 0, 1), (.iconst 44, 0, 2), (.if_icmp .ne 89, 0, 3)] ∧ bt107 85 = [(.iconst 1, 0, 1), (.goto 90, 0, 3)] ∧ bt107 89 = [(.iconst 0, 0, 1)] ∧ bt107 90 = [(.istore 4, 0, 2), (.aload 0, 0, 1), (.dup, 0, 1), (.getfield 2, 6, 3), (.iload 5, 0, 2), (.ifCond .ne 106, 0, 3)] ∧ bt107 102 = [(.iconst 0, 0, 1), (.goto 107, 0, 3)] ∧ bt107 106 = [(.iconst 1, 0, 1)] ∧ bt107 107 = [(.iadd, 0, 1), (.putfield 2, 6, 3), (.aload 0, 0, 1), (.getfield 28, 6, 3), (.iload 5, 0, 2), (.iload 4, 0, 2), (.ifCond .eq 129, 0, 3)] ∧ bt107 122 = [(.aload 0, 0, 1), (.invokevirtual 105, 1, 3)] ∧ bt107 126 = [(.goto 130, 0, 3)] ∧ bt107 129 = [(.iconst (-1), 0, 1)] ∧ bt107 130 = [(.iastore, 0, 1), (.aload 0, 0, 1), (.getfield 28, 6, 3), (.iload 5, 0, 2), (.iaload, 0, 1), (.ifCond .lt 145, 0, 3)] ∧ bt107 141 = [(.iconst 1, 0, 1), (.goto 146, 0, 3)] ∧ bt107 145 = [(.iconst 0, 0, 1)] ∧ bt107 146 = [(.istore 4, 0, 2), (.iinc 5 1, 0, 3), (.goto 44, 0, 3)] ∧ bt107 154 = [(.iload 4, 0, 2), (.ifCond .eq 188, 0, 3)] ∧ bt107 159 = [(.aload 0, 0, 1), (.getfield 2, 6, 3), (.aload 0, 0, 1), (.getfield 0, 6, 3), (.if_icmp .ge 188, 0, 3)] ∧ bt107 170 = [(.aload 0, 0, 1), (.getfield 1, 6, 3), (.aload 0, 0, 1), (.getfield 2, 6, 3), (.baload, 0, 1), (.iconst 59, 0, 2), (.if_icmp .ne 188, 0, 3)] ∧ bt107 184 = [(.iconst 1, 0, 1), (.goto 189, 0, 3)] ∧ bt107 188 = [(.iconst 0, 0, 1)] ∧ bt107 189 = [(.istore 4, 0, 2), (.aload 0, 0, 1), (.dup, 0, 1), (.getfield 2, 6, 3), (.iconst 1, 0, 1), (.iadd, 0, 1), (.putfield 2, 6, 3), (.iload 4, 0, 2), (.ifCond .eq 219, 0, 3)] ∧ bt107 206 = [(.aload 0, 0, 1), (.iload 2, 0, 1), (.iload 1, 0, 1), (.invokevirtual 108, 3, 3)] ∧ bt107 212 = [(.ifCond .eq 219, 0, 3)] ∧ bt107 215 = [(.iconst 1, 0, 1), (.goto 220, 0, 3)] ∧ bt107 219 = [(.iconst 0, 0, 1)] ∧ bt107 220 = [(.ireturn, 0, 1)] ∧ True := ⟨rfl, rfl, rfl, rfl, rfl, rfl, rfl, rfl, rfl, rfl, rfl, rfl, rfl, rfl, rfl, rfl, rfl, rfl, rfl, rfl, rfl, rfl, rfl, rfl, rfl, rfl, rfl, rfl, rfl, rfl, rfl, rfl, rfl, rfl, trivial⟩
theorem SP107 : sp107 0 = false ∧ sp107 29 = true ∧ sp107 34 = false ∧ sp107 38 = false ∧ sp107 39 = false ∧ sp107 44 = true ∧ sp107 50 = false ∧ sp107 55 = false ∧ sp107 60 = false ∧ sp107 71 = false ∧ sp107 85 = false ∧ sp107 89 = false ∧ sp107 90 = false ∧ sp107 102 = false ∧ sp107 106 = false ∧ sp107 107 = false ∧ sp107 122 = false ∧ sp107 126 = true ∧ sp107 129 = false ∧ sp107 130 = false ∧ sp107 141 = false ∧ sp107 145 = false ∧ sp107 146 = false ∧ sp107 154 = false ∧ sp107 159 = false ∧ sp107 170 = false ∧ sp107 184 = false ∧ sp107 188 = false ∧ sp107 189 = false ∧ sp107 206 = false ∧ sp107 212 = true ∧ sp107 215 = false ∧ sp107 219 = false ∧ sp107 220 = false ∧ True := ⟨rfl, rfl, rfl, rfl, rfl, rfl, rfl, rfl, rfl, rfl, rfl, rfl, rfl, rfl, rfl, rfl, rfl, rfl, rfl, rfl, rfl, rfl, rfl, rfl, rfl, rfl, rfl, rfl, rfl, rfl, rfl, rfl, rfl, rfl, trivial⟩
set_option maxRecDepth 100000 in
theorem bk107 : ∀ pc, blk 107 pc (bt107 pc) = true := fun pc => blk_if (by decide +kernel) (blk_if (by decide +kernel) (blk_if (by decide +kernel) (blk_if (by decide +kernel) (blk_if (by decide +kernel) (blk_if (by decide +kernel) (blk_if (by decide +kernel) (blk_if (by decide +kernel) (blk_if (by decide +kernel) (blk_if (by decide +kernel) (blk_if (by decide +kernel) (blk_if (by decide +kernel) (blk_if (by decide +kernel) (blk_if (by decide +kernel) (blk_if (by decide +kernel) (blk_if (by decide +kernel) (blk_if (by decide +kernel) (blk_if (by decide +kernel) (blk_if (by decide +kernel) (blk_if (by decide +kernel) (blk_if (by decide +kernel) (blk_if (by decide +kernel) (blk_if (by decide +kernel) (blk_if (by decide +kernel) (blk_if (by decide +kernel) (blk_if (by decide +kernel) (blk_if (by decide +kernel) (blk_if (by decide +kernel) (blk_if (by decide +kernel) (blk_if (by decide +kernel) (blk_if (by decide +kernel) (blk_if (by decide +kernel) (blk_if (by decide +kernel) (blk_if (by decide +kernel) (rfl))))))))))))))))))))))))))))))))))
theorem go107 {d mc ms : Nat} {sh : List SC} {M : MM} {Post : PP} {a0 : Nat} (h : ∀ S : Nat → KK, Clo (Run d) 107 none mc ms (Rtn 107 mc ms Post) S → S 0 [some (vR a0), none, none, none, none, none] [] (sh, 0, 0) M) : Run (d + 1) 107 [vR a0] sh M mc ms Post := ⟨Nat.le_of_ble_eq_true rfl, h⟩
theorem rt107 {v : Int} {sh : List SC} {M : MM} {Post : PP} (hv : v = 0 ∨ v = 1) (h : Post (some (Sum.inl v)) sh M) : Rtn 107 0 0 Post (some (Sum.inl v)) (sh, 0, 0) M := ⟨Nat.le_refl _, Nat.le_refl _, hv, h⟩
/-! 108 OwnSundayModel.isGood -/
def bt108 (pc : Nat) : BL := if pc = 0 then [(.iload 1, 0, 1), (.iconst 119, 0, 2), (.if_icmp .ne 74, 0, 3)] else if pc = 6 then [(.aload 0, 0, 1), (.getfield 3, 6, 3), (.iconst 2, 0, 1), (.aload 0, 0, 1), (.getfield 28, 6, 3), (.iconst 0, 0, 1), (.iaload, 0, 1), (.iastore, 0, 1), (.aload 0, 0, 1), (.getfield 3, 6, 3), (.iconst 3, 0, 1), (.aload 0, 0, 1), (.getfield 28, 6, 3), (.iconst 1, 0, 1), (.iaload, 0, 1), (.iastore, 0, 1), (.aload 0, 0, 1), (.getfield 28, 6, 3), (.iconst 0, 0, 1), (.iaload, 0, 1), (.i2l, 0, 1), (.ldc2_w 0, 2, 3), (.ldc2_w 0, 12, 3), (.invokestatic 102, 3, 3)] else if pc = 46 then [(.ifCond .eq 72, 0, 3)] else if pc = 49 then [(.aload 0, 0, 1), (.getfield 28, 6, 3), (.iconst 1, 0, 1), (.iaload, 0, 1), (.i2l, 0, 1), (.ldc2_w 0, 2, 3), (.ldc2_w 0, 12, 3), (.invokestatic 102, 3, 3)] else if pc = 65 then [(.ifCond .eq 72, 0, 3)] else if pc = 68 then [(.iconst 1, 0, 1), (.goto 73, 0, 3)] else if pc = 72 then [(.iconst 0, 0, 1)] else if pc = 73 then [(.ireturn, 0, 1)] else if pc = 74 then [(.iload 1, 0, 1), (.iconst 104, 0, 2), (.if_icmp .ne 203, 0, 3)] else if pc = 80 then [(.aload 0, 0, 1), (.getfield 28, 6, 3), (.iconst 0, 0, 1), (.iaload, 0, 1), (.i2l, 0, 1), (.ldc2_w 0, 0, 1), (.ldc2_w 0, 1, 1), (.invokestatic 102, 3, 3)] else if pc = 92 then [(.ifCond .eq 140, 0, 3)] else if pc = 95 then [(.aload 0, 0, 1), (.getfield 28, 6, 3), (.iconst 2, 0, 1), (.iaload, 0, 1), (.i2l, 0, 1), (.ldc2_w 0, 0, 1), (.ldc2_w 0, 31, 3), (.invokestatic 102, 3, 3)] else if pc = 109 then [(.ifCond .eq 140, 0, 3)] else if pc = 112 then [(.aload 0, 0, 1), (.getfield 28, 6, 3), (.iconst 3, 0, 1), (.iaload, 0, 1), (.i2l, 0, 1), (.ldc2_w 0, 0, 1), (.ldc2_w 0, 3, 3), (.invokestatic 102, 3, 3)] else if pc = 126 then [(.ifCond .eq 140, 0, 3)] else if pc = 129 then [(.aload 0, 0, 1), (.getfield 4, 6, 3), (.iconst 1, 0, 1), (.iaload, 0, 1), (.iconst 10, 0, 2), (.if_icmp .ne 142, 0, 3)] else if pc = 140 then [(.iconst 0, 0, 1), (.ireturn, 0, 1)] else if pc = 142 then [(.iconst 0, 0, 1), (.istore 3, 0, 1)] else if pc = 144 then [(.iload 3, 0, 1), (.iconst 4, 0, 1), (.if_icmp .ge 179, 0, 3)] else if pc = 149 then [(.aload 0, 0, 1), (.getfield 7, 6, 3), (.iconst 40, 0, 2), (.iconst 4, 0, 1), (.aload 0, 0, 1), (.getfield 4, 6, 3), (.iconst 1, 0, 1), (.iaload, 0, 1), (.imul, 0, 1), (.iadd, 0, 1), (.iload 3, 0, 1), (.iadd, 0, 1), (.aload 0, 0, 1), (.getfield 28, 6, 3), (.iload 3, 0, 1), (.iaload, 0, 1), (.iastore, 0, 1), (.iinc 3 1, 0, 3), (.goto 144, 0, 3)] else if pc = 179 then [(.aload 0, 0, 1), (.getfield 8, 6, 3), (.aload 0, 0, 1), (.getfield 4, 6, 3), (.iconst 1, 0, 1), (.iaload, 0, 1), (.iload 2, 0, 1), (.iastore, 0, 1), (.aload 0, 0, 1), (.getfield 4, 6, 3), (.iconst 1, 0, 1), (.dup2, 0, 1), (.iaload, 0, 1), (.iconst 1, 0, 1), (.iadd, 0, 1), (.iastore, 0, 1), (.iconst 1, 0, 1), (.ireturn, 0, 1)] else if pc = 203 then [(.iload 1, 0, 1), (.iconst 109, 0, 2), (.if_icmp .ne 322, 0, 3)] else if pc = 209 then [(.aload 0, 0, 1), (.getfield 28, 6, 3), (.iconst 0, 0, 1), (.iaload, 0, 1), (.i2l, 0, 1), (.ldc2_w 0, 0, 1), (.ldc2_w 0, 4, 3), (.invokestatic 102, 3, 3)] else if pc = 223 then [(.ifCond .eq 271, 0, 3)] else if pc = 226 then [(.aload 0, 0, 1), (.getfield 28, 6, 3), (.iconst 1, 0, 1), (.iaload, 0, 1), (.i2l, 0, 1), (.ldc2_w 0, 1, 1), (.ldc2_w 0, 9, 3), (.invokestatic 102, 3, 3)] else if pc = 240 then [(.ifCond .eq 271, 0, 3)] else if pc = 243 then [(.aload 0, 0, 1), (.getfield 28, 6, 3), (.iconst 2, 0, 1), (.iaload, 0, 1), (.i2l, 0, 1), (.ldc2_w 0, 1, 1), (.ldc2_w 0, 9, 3), (.invokestatic 102, 3, 3)] else if pc = 257 then [(.ifCond .eq 271, 0, 3)] else if pc = 260 then [(.aload 0, 0, 1), (.getfield 5, 6, 3), (.iconst 1, 0, 1), (.iaload, 0, 1), (.iconst 6, 0, 2), (.if_icmp .ne 273, 0, 3)] else if pc = 271 then [(.iconst 0, 0, 1), (.ireturn, 0, 1)] else if pc = 273 then [(.iconst 0, 0, 1), (.istore 3, 0, 1)] else if pc = 275 then [(.iload 3, 0, 1), (.iconst 3, 0, 1), (.if_icmp .ge 310, 0, 3)] else if pc = 280 then [(.aload 0, 0, 1), (.getfield 9, 6, 3), (.iconst 18, 0, 2), (.iconst 3, 0, 1), (.aload 0, 0, 1), (.getfield 5, 6, 3), (.iconst 1, 0, 1), (.iaload, 0, 1), (.imul, 0, 1), (.iadd, 0, 1), (.iload 3, 0, 1), (.iadd, 0, 1), (.aload 0, 0, 1), (.getfield 28, 6, 3), (.iload 3, 0, 1), (.iaload, 0, 1), (.iastore, 0, 1), (.iinc 3 1, 0, 3), (.goto 275, 0, 3)] else if pc = 310 then [(.aload 0, 0, 1), (.getfield 5, 6, 3), (.iconst 1, 0, 1), (.dup2, 0, 1), (.iaload, 0, 1), (.iconst 1, 0, 1), (.iadd, 0, 1), (.iastore, 0, 1), (.iconst 1, 0, 1), (.ireturn, 0, 1)] else if pc = 322 then [(.aload 0, 0, 1), (.getfield 28, 6, 3), (.iconst 0, 0, 1), (.iaload, 0, 1), (.i2l, 0, 1), (.ldc2_w 0, 0, 1), (.aload 0, 0, 1), (.getfield 4, 6, 3), (.iconst 1, 0, 1), (.iaload, 0, 1), (.iconst 1, 0, 1), (.isub, 0, 1), (.i2l, 0, 1), (.invokestatic 102, 3, 3)] else if pc = 342 then [(.ifCond .ne 347, 0, 3)] else if pc = 345 then [(.iconst 0, 0, 1), (.ireturn, 0, 1)] else if pc = 347 then [(.iload 1, 0, 1), (.iconst 99, 0, 2), (.if_icmp .ne 367, 0, 3)] else if pc = 353 then [(.aload 0, 0, 1), (.getfield 6, 6, 3), (.iconst 1, 0, 1), (.aload 0, 0, 1), (.getfield 28, 6, 3), (.iconst 0, 0, 1), (.iaload, 0, 1), (.iastore, 0, 1), (.iconst 1, 0, 1), (.ireturn, 0, 1)] else if pc = 367 then [(.iconst 0, 0, 1), (.istore 3, 0, 1), (.iconst 1, 0, 1), (.istore 4, 0, 2), (.iconst 0, 0, 1), (.istore 5, 0, 2)] else if pc = 375 then [(.iload 5, 0, 2), (.iconst 10, 0, 2), (.if_icmp .ge 445, 0, 3)] else if pc = 382 then [(.iload 3, 0, 1), (.aload 0, 0, 1), (.getfield 10, 6, 3), (.iconst 10, 0, 2), (.iload 5, 0, 2), (.iadd, 0, 1), (.baload, 0, 1), (.ifCond .eq 400, 0, 3)] else if pc = 396 then [(.iconst 1, 0, 1), (.goto 401, 0, 3)] else if pc = 400 then [(.iconst 0, 0, 1)] else if pc = 401 then [(.iadd, 0, 1), (.istore 3, 0, 1), (.iload 4, 0, 2), (.ifCond .eq 436, 0, 3)] else if pc = 408 then [(.aload 0, 0, 1), (.getfield 10, 6, 3), (.iconst 10, 0, 2), (.iload 5, 0, 2), (.iadd, 0, 1), (.baload, 0, 1), (.ifCond .eq 432, 0, 3)] else if pc = 421 then [(.iload 5, 0, 2), (.aload 0, 0, 1), (.getfield 28, 6, 3), (.iconst 0, 0, 1), (.iaload, 0, 1), (.if_icmp .ge 436, 0, 3)] else if pc = 432 then [(.iconst 1, 0, 1), (.goto 437, 0, 3)] else if pc = 436 then [(.iconst 0, 0, 1)] else if pc = 437 then [(.istore 4, 0, 2), (.iinc 5 1, 0, 3), (.goto 375, 0, 3)] else if pc = 445 then [(.aload 0, 0, 1), (.getfield 10, 6, 3), (.iconst 10, 0, 2), (.aload 0, 0, 1), (.getfield 28, 6, 3), (.iconst 0, 0, 1), (.iaload, 0, 1), (.iadd, 0, 1), (.iconst 1, 0, 1), (.bastore, 0, 1), (.iload 4, 0, 2), (.ifCond .eq 474, 0, 3)] else if pc = 465 then [(.iload 3, 0, 1), (.iconst 3, 0, 1), (.if_icmp .ge 474, 0, 3)] else if pc = 470 then [(.iconst 1, 0, 1), (.goto 475, 0, 3)] else if pc = 474 then [(.iconst 0, 0, 1)] else if pc = 475 then [(.ireturn, 0, 1)] else []
def sp108 (pc : Nat) : Bool := [46, 65, 92, 109, 126, 144, 223, 240, 257, 275, 342, 375].contains pc
theorem BT108 : bt108 0 = [(.iload 1, 0, 1), (.iconst 119, 0, 2), (.if_icmp .ne 74, 0, 3)] ∧ bt108 6 = [(.aload 0, 0, 1), (.getfield 3, 6, 3), (.iconst 2, 0, 1), (.aload 0, 0, 1), (.getfield 28, 6, 3), (.iconst 0, 0, 1), (.iaload, 0, 1), (.iastore, 0, 1), (.aload 0, 0, 1), (.getfield 3, 6, 3), (.iconst 3, 0, 1), (.aload 0, 0, 1), (.getfield 28, 6, 3), (.iconst 1, 0, 1), (.iaload, 0, 1), (.iastore, 0, 1), (.aload 0, 0, 1), (.getfield 28, 6, 3), (.iconst 0, 0, 1), (.iaload, 0, 1), (.i2l, 0, 1), (.ldc2_w 0, 2, 3), (.ldc2_w 0, 12, 3), (.invokestatic 102, 3, 3)] ∧ bt108 46 = [(.ifCond .eq 72, 0, 3)] ∧ bt108 49 = [(.aload 0, 0, 1), (.getfield 28, 6, 3), (.iconst 1, 0, 1), (.iaload, 0, 1), (.i2l, 0, 1), (.ldc2_w 0, 2, 3), (.ldc2_w 0, 12, 3), (.invokestatic 102, 3, 3)] ∧ bt108 65 = [(.ifCond .eq 72, 0, 3)] ∧ bt108 68 = [(.iconst 1, 0, 1), (.goto 73, 0, 3)] ∧ bt108 72 = [(.iconst 0, 0, 1)] ∧ bt108 73 = [(.ireturn, 0, 1)] ∧ bt108 74 = [(.iload 1, 0, 1), (.iconst 104, 0, 2), (.if_icmp .ne 203, 0, 3)] ∧ bt108 80 = [(.aload 0, 0, 1), (.getfield 28, 6, 3), (.iconst 0, 0, 1), (.iaload, 0, 1), (.i2l, 0, 1), (.ldc2_w 0, 0, 1), (.ldc2_w 0, 1, 1), (.invokestatic 102, 3, 3)] ∧ bt108 92 = [(.ifCond .eq 140, 0, 3)] ∧ bt108 95 = [(.aload 0, 0, 1), (.getfield 28, 6, 3), (.iconst 2, 0, 1), (.iaload, 0, 1), (.i2l, 0, 1), (.ldc2_w 0, 0, 1), (.ldc2_w 0, 31, 3), (.invokestatic 102, 3, 3)] ∧ bt108 109 = [(.ifCond .eq 140, 0, 3)] ∧ bt108 112 = [(.aload 0, 0, 1), (.getfield 28, 6, 3), (.iconst 3, 0, 1), (.iaload, 0, 1), (.i2l, 0, 1), (.ldc2_w 0, 0, 1), (.ldc2_w 0, 3, 3), (.invokestatic 102, 3, 3)] ∧ bt108 126 = [(.ifCond .eq 140, 0, 3)] ∧ bt108 129 = [(.aload 0, 0, 1), (.getfield 4, 6, 3), (.iconst 1, 0, 1), (.iaload, 0, 1), (.iconst 10, 0, 2), (.if_icmp .ne 142, 0, 3)] ∧ bt108 140 = [(.iconst 0, 0, 1), (.ireturn, 0, 1)] ∧ bt108 142 = [(.iconst 0, 0, 1), (.istore 3, 0, 1)] ∧ bt108 144 = [(.iload 3, 0, 1), (.iconst 4, 0, 1), (.if_icmp .ge 179, 0, 3)] ∧ bt108 149 = [(.aload 0, 0, 1), (.getfield 7, 6, 3), (.iconst 40, 0, 2), (.iconst 4, 0, 1), (.aload 0, 0, 1), (.getfield 4, 6, 3), (.iconst 1, 0, 1), (.iaload, 0, 1), (.imul, 0, 1), (.iadd, 0, 1), (.iload 3, 0, 1), (.iadd, 0, 1), (.aload 0, 0, 1), (.getfield 28, 6, 3), (.iload 3, 0, 1), (.iaload, 0, 1), (.iastore, 0, 1), (.iinc 3 1, 0, 3), (.goto 144, 0, 3)] ∧ bt108 179 = [(.aload 0, 0, 1), (.getfield 8, 6, 3), (.aload 0, 0, 1), (.getfield 4, 6, 3), (.iconst 1, 0, 1), (.iaload, 0, 1), (.iload 2, 0, 1), (.iastore, 0, 1), (.aload 0, 0, 1), (.getfield 4, 6, 3), (.iconst 1, 0, 1), (.dup2, 0, 1), (.iaload, 0, 1), (.iconst 1, 0, 1), (.iadd, 0, 1), (.iastore, 0, 1), (.iconst 1, 0, 1), (.ireturn, 0, 1)] ∧ bt108 203 = [(.iload 1, 0, 1), (.iconst 109, 0, 2), (.if_icmp .ne 322, 0, 3)] ∧ bt108 209 = [(.aload 0, 0, 1), (.getfield 28, 6, 3), (.iconst 0, 0, 1), (.iaload, 0, 1), (.i2l, 0, 1), (.ldc2_w 0, 0, 1), (.ldc2_w 0, 4, 3), (.invokestatic 102, 3, 3)] ∧ bt108 223 = [(.ifCond .eq 271, 0, 3)] ∧ bt108 226 = [(.aload 0, 0, 1), (.getfield 28, 6, 3), (.iconst 1, 0, 1), (.iaload, 0, 1), (.i2l, 0, 1), (.ldc2_w 0, 1, 1), (.ldc2_w 0, 9, 3), (.invokestatic 102, 3, 3)] ∧ bt108 240 = [(.ifCond .eq 271, 0, 3)] ∧ bt108 243 = [(.aload 0, 0, 1), (.getfield 28, 6, 3), (.iconst 2, 0, 1), (.iaload, 0, 1), (.i2l, 0, 1), (.ldc2_w 0, 1, 1), (.ldc2_w 0, 9, 3), (.invokestatic 102, 3, 3)] ∧ bt108 257 = [(.ifCond .eq 271, 0, 3)] ∧ bt108 260 = [(.aload 0, 0, 1), (.getfield 5, 6, 3), (.iconst 1, 0, 1), (.iaload, 0, 1), (.iconst 6, 0, 2), (.if_icmp .ne 273, 0, 3)] ∧ bt108 271 = [(.iconst 0, 0, 1), (.ireturn, 0, 1)] ∧ bt108 273 = [(.iconst 0, 0, 1), (.istore 3, 0, 1)] ∧ bt108 275 = [(.iload 3, 0, 1), (.iconst 3, 0, 1), (.if_icmp .ge 310, 0, 3)] ∧ bt108 280 = [(.aload 0, 0, 1), (.getfield 9, 6, 3), (.iconst 18, 0, 2), (.iconst 3, 0, 1), (.aload 0, 0, 1), (.getfield 5, 6, 3), (.iconst 1, 0, 1), (.iaload, 0, 1), (.imul, 0, 1), (.iadd, 0, 1), (.iload 3, 0, 1), (.iadd, 0, 1), (.aload 0, 0, 1), (.getfield 28, 6, 3), (.iload 3, 0, 1), (.iaload, 0, 1), (.iastore, 0, 1), (.iinc 3 1, 0, 3), (.goto 275, 0, 3)] ∧ bt108 310 = [(.aload 0, 0, 1), (.getfield 5, 6, 3), (.iconst 1, 0, 1), (.dup2, 0, 1), (.iaload, 0, 1), (.iconst 1, 0, 1), (.iadd, 0, 1), (.iastore, 0, 1), (.iconst 1, 0, 1), (.ireturn, 0, 1)] ∧ bt108 322 = [(.aload 0, 0, 1), (.getfield 28, 6, 3), (.iconst 0, 0, 1), (.iaload, 0, 1), (.i2l, 0, 1), (.ldc2_w 0, 0, 1), (.aload 0, 0, 1), (.getfield 4, 6, 3), (.iconst 1, 0, 1), (.iaload, 0, 1), (.iconst 1, 0, 1), (.isub, 0, 1), (.i2l, 0, 1), (.invokestatic 102, 3, 3)] ∧ bt108 342 = [(.ifCond .ne 347, 0, 3)] ∧ bt108 345 = [(.iconst 0, 0, 1), (.ireturn, 0, 1)] ∧ bt108 347 = [(.iload 1, 0, 1), (.iconst 99, 0, 2), (.if_icmp .ne 367, 0, 3)] ∧ bt108 353 = [(.aload 0, 0, 1), (.getfield 6, 6, 3), (.iconst 1, 0, 1), (.aload 0, 0, 1), (.getfield 28, 6, 3), (.iconst 0, 0, 1), (.iaload, 0, 1), (.iastore, 0, 1), (.iconst 1, 0, 1), (.ireturn, 0, 1)] ∧ bt108 367 = [(.iconst 0, 0, 1), (.istore 3, 0, 1), (.iconst 1, 0, 1), (.istore 4, 0, 2), (.iconst 0, 0, 1), (.istore 5, 0, 2)] ∧ bt108 375 = [(.iload 5, 0, 2), (.iconst 10, 0, 2), (.if_icmp .ge 445, 0, 3)] ∧ bt108 382 = [(.iload 3, 0, 1), (.aload 0, 0, 1), (.getfield 10, 6, 3), (.iconst 10, 0, 2), (.iload 5, 0, 2), (.iadd, 0, 1), (.baload, 0, 1), (.ifCond .eq 400, 0, 3)] ∧ bt108 396 = [(.iconst 1, 0, 1), (.goto 401, 0, 3)] ∧ bt108 400 = [(.iconst 0, 0, 1)] ∧ bt108 401 = [(.iadd, 0, 1), (.istore 3, 0, 1), (.iload 4, 0, 2), (.ifCond .eq 436, 0, 3)] ∧ bt108 408 = [(.aload 0, 0, 1), (.getfield 10, 6, 3), (.iconst 10, 0, 2), (.iload 5, 0, 2), (.iadd, 0, 1), (.baload, 0, 1), (.ifCond .eq 432, 0, 3)] ∧ bt108 421 = [(.iload 5, 0, 2), (.aload 0, 0, 1), (.getfield 28, 6, 3), (.iconst 0, 0, 1), (.iaload, 0, 1), (.if_icmp .ge 436, 0, 3)] ∧ bt108 432 = [(.iconst 1, 0, 1), (.goto 437, 0, 3)] ∧ bt108 436 = [(.iconst 0, 0, 1)] ∧ bt108 437 = [(.istore 4, 0, 2), (.iinc 5 1, 0, 3), (.goto 375, 0, 3)] ∧ bt108 445 = [(.aload 0, 0, 1), (.getfield 10, 6, 3), (.iconst 10, 0, 2), (.aload 0, 0, 1), (.getfield 28, 6, 3), (.iconst 0, 0, 1), (.iaload, 0, 1), (.iadd, 0, 1), (.iconst 1, 0, 1), (.bastore, 0, 1), (.iload 4, 0, 2), (.ifCond .eq 474, 0, 3)] ∧ bt108 465 = [(.iload 3, 0, 1), (.iconst 3, 0, 1), (.if_icmp .ge 474, 0, 3)] ∧ bt108 470 = [(.iconst 1, 0, 1), (.goto 475, 0, 3)] ∧ bt108 474 = [(.iconst 0, 0, 1)] ∧ bt108 475 = [(.ireturn, 0, 1)] ∧ True := ⟨rfl, rfl, rfl, rfl, rfl, rfl, rfl, rfl, rfl, rfl, rfl, rfl, rfl, rfl, rfl, rfl, rfl, rfl, rfl, rfl, rfl, rfl, rfl, rfl, rfl, rfl, rfl, rfl, rfl, rfl, rfl, rfl, rfl, rfl, rfl, rfl, rfl, rfl, rfl, rfl, rfl, rfl, rfl, rfl, rfl, rfl, rfl, rfl, rfl, rfl, rfl, rfl, rfl, rfl, rfl, trivial⟩
theorem SP108 : sp108 0 = false ∧ sp108 6 = false ∧ sp108 46 = true ∧ sp108 49 = false ∧ sp108 65 = true ∧ sp108 68 = false ∧ sp108 72 = false ∧ sp108 73 = false ∧ sp108 74 = false ∧ sp108 80 = false ∧ sp108 92 = true ∧ sp108 95 = false ∧ sp108 109 = true ∧ sp108 112 = false ∧ sp108 126 = true ∧ sp108 129 = false ∧ sp108 140 = false ∧ sp108 142 = false ∧ sp108 144 = true ∧ sp108 149 = false ∧ sp108 179 = false ∧ sp108 203 = false ∧ sp108 209 = false ∧ sp108 223 = true ∧ sp108 226 = false ∧ sp108 240 = true ∧ sp108 243 = false ∧ sp108 257 = true ∧ sp108 260 = false ∧ sp108 271 = false ∧ sp108 273 = false ∧ sp108 275 = true ∧ sp108 280 = false ∧ sp108 310 = false ∧ sp108 322 = false ∧ sp108 342 = true ∧ sp108 345 = false ∧ sp108 347 = false ∧ sp108 353 = false ∧ sp108 367 = false ∧ sp108 375 = true ∧ sp108 382 = false ∧ sp108 396 = false ∧ sp108 400 = false ∧ sp108 401 = false ∧ sp108 408 = false ∧ sp108 421 = false ∧ sp108 432 = false ∧ sp108 436 = false ∧ sp108 437 = false ∧ sp108 445 = false ∧ sp108 465 = false ∧ sp108 470 = false ∧ sp108 474 = false ∧ sp108 475 = false ∧ True := ⟨rfl, rfl, rfl, rfl, rfl, rfl, rfl, rfl, rfl, rfl, rfl, rfl, rfl, rfl, rfl, rfl, rfl, rfl, rfl, rfl, rfl, rfl, rfl, rfl, rfl, rfl, rfl, rfl, rfl, rfl, rfl, rfl, rfl, rfl, rfl, rfl, rfl, rfl, rfl, rfl, rfl, rfl, rfl, rfl, rfl, rfl, rfl, rfl, rfl, rfl, rfl, rfl, rfl, rfl, rfl, trivial⟩
set_option maxRecDepth 100000 in
theorem bk108 : ∀ pc, blk 108 pc (bt108 pc) = true := fun pc => blk_if (by decide +kernel) (blk_if (by decide +kernel) (blk_if (by decide +kernel) (blk_if (by decide +kernel) (blk_if (by decide +kernel) (blk_if (by decide +kernel) (blk_if (by decide +kernel) (blk_if (by decide +kernel) (blk_if (by decide +kernel) (blk_if (by decide +kernel) (blk_if (by decide +kernel) (blk_if (by decide +kernel) (blk_if (by decide +kernel) (blk_if (by decide +kernel) (blk_if (by decide +kernel) (blk_if (by decide +kernel) (blk_if (by decide +kernel) (blk_if (by decide +kernel) (blk_if (by decide +kernel) (blk_if (by decide +kernel) (blk_if (by decide +kernel) (blk_if (by decide +kernel) (blk_if (by decide +kernel) (blk_if (by decide +kernel) (blk_if (by decide +kernel) (blk_if (by decide +kernel) (blk_if (by decide +kernel) (blk_if (by decide +kernel) (blk_if (by decide +kernel) (blk_if (by decide +kernel) (blk_if (by decide +kernel) (blk_if (by decide +kernel) (blk_if (by decide +kernel) (blk_if (by decide +kernel) (blk_if (by decide +kernel) (blk_if (by decide +kernel) (blk_if (by decide +kernel) (blk_if (by decide +kernel) (blk_if (by decide +kernel) (blk_if (by decide +kernel) (blk_if (by decide +kernel) (blk_if (by decide +kernel) (blk_if (by decide +kernel) (blk_if (by decide +kernel) (blk_if (by decide +kernel) (blk_if (by decide +kernel) (blk_if (by decide +kernel) (blk_if (by decide +kernel) (blk_if (by decide +kernel) (blk_if (by decide +kernel) (blk_if (by decide +kernel) (blk_if (by decide +kernel) (blk_if (by decide +kernel) (blk_if (by decide +kernel) (blk_if (by decide +kernel) (rfl)))))))))))))))))))))))))))))))))))))))))))))))))))))))
theorem go108 {d mc ms : Nat} {sh : List SC} {M : MM} {Post : PP} {a0 : Nat} {a1 : Int} {a2 : Int} (h : ∀ S : Nat → KK, Clo (Run d) 108 none mc ms (Rtn 108 mc ms Post) S → S 0 [some (vR a0), some (vI a1), some (vI a2), none, none, none] [] (sh, 0, 0) M) : Run (d + 1) 108 [vR a0, vI a1, vI a2] sh M mc ms Post := ⟨Nat.le_of_ble_eq_true rfl, h⟩
theorem rt108 {v : Int} {sh : List SC} {M : MM} {Post : PP} (hv : v = 0 ∨ v = 1) (h : Post (some (Sum.inl v)) sh M) : Rtn 108 0 0 Post (some (Sum.inl v)) (sh, 0, 0) M := ⟨Nat.le_refl _, Nat.le_refl _, hv, h⟩
/-! 109 OwnSundayModel.begins -/
def bt109 (pc : Nat) : BL := if pc = 0 then [(.aload 0, 0, 1), (.getfield 3, 6, 3), (.iconst 2, 0, 1), (.iconst 7, 0, 2), (.iastore, 0, 1), (.aload 0, 0, 1), (.getfield 3, 6, 3), (.iconst 3, 0, 1), (.iconst 9, 0, 2), (.iastore, 0, 1), (.aload 0, 0, 1), (.getfield 4, 6, 3), (.iconst 1, 0, 1), (.iconst 0, 0, 1), (.iastore, 0, 1), (.aload 0, 0, 1), (.getfield 5, 6, 3), (.iconst 1, 0, 1), (.iconst 0, 0, 1), (.iastore, 0, 1), (.aload 0, 0, 1), (.getfield 6, 6, 3), (.iconst 1, 0, 1), (.iconst 0, 0, 1), (.iastore, 0, 1), (.iconst 0, 0, 1), (.istore 1, 0, 1)] else if pc = 39 then [(.iload 1, 0, 1), (.iconst 10, 0, 2), (.if_icmp .ge 61, 0, 3)] else if pc = 45 then [(.aload 0, 0, 1), (.getfield 10, 6, 3), (.iconst 10, 0, 2), (.iload 1, 0, 1), (.iadd, 0, 1), (.iconst 0, 0, 1), (.bastore, 0, 1), (.iinc 1 1, 0, 3), (.goto 39, 0, 3)] else if pc = 61 then [(.return_, 0, 1)] else []
def sp109 (pc : Nat) : Bool := [39].contains pc
theorem BT109 : bt109 0 = [(.aload 0, 0, 1), (.getfield 3, 6, 3), (.iconst 2, 0, 1), (.iconst 7, 0, 2), (.iastore, 0, 1), (.aload 0, 0, 1), (.getfield 3, 6, 3), (.iconst 3, 0, 1), (.iconst 9, 0, 2), (.iastore, 0, 1), (.aload 0, 0, 1), (.getfield 4, 6, 3), (.iconst 1, 0, 1), (.iconst 0, 0, 1), (.iastore, 0, 1), (.aload 0, 0, 1), (.getfield 5, 6, 3), (.iconst 1, 0, 1), (.iconst 0, 0, 1), (.iastore, 0, 1), (.aload 0, 0, 1), (.getfield 6, 6, 3), (.iconst 1, 0, 1), (.iconst 0, 0, 1), (.iastore, 0, 1), (.iconst 0, 0, 1), (.istore 1, 0, 1)] ∧ bt109 39 = [(.iload 1, 0, 1), (.iconst 10, 0, 2), (.if_icmp .ge 61, 0, 3)] ∧ bt109 45 = [(.aload 0, 0, 1), (.getfield 10, 6, 3), (.iconst 10, 0, 2), (.iload 1, 0, 1), (.iadd, 0, 1), (.iconst 0, 0, 1), (.bastore, 0, 1), (.iinc 1 1, 0, 3), (.goto 39, 0, 3)] ∧ bt109 61 = [(.return_, 0, 1)] ∧ True := ⟨rfl, rfl, rfl, rfl, trivial⟩
theorem SP109 : sp109 0 = false ∧ sp109 39 = true ∧ sp109 45 = false ∧ sp109 61 = false ∧ True := ⟨rfl, rfl, rfl, rfl, trivial⟩
set_option maxRecDepth 100000 in
theorem bk109 : ∀ pc, blk 109 pc (bt109 pc) = true := fun pc => blk_if (by decide +kernel) (blk_if (by decide +kernel) (blk_if (by decide +kernel) (blk_if (by decide +kernel) (rfl))))
theorem go109 {d mc ms : Nat} {sh : List SC} {M : MM} {Post : PP} {a0 : Nat} (h : ∀ S : Nat → KK, Clo (Run d) 109 none mc ms (Rtn 109 mc ms Post) S → S 0 [some (vR a0), none] [] (sh, 0, 0) M) : Run (d + 1) 109 [vR a0] sh M mc ms Post := ⟨Nat.le_of_ble_eq_true rfl, h⟩
theorem rt109 {mc ms : Nat} {Z : ZZ} {M : MM} {Post : PP} (h1 : Z.2.1 ≤ mc) (h2 : Z.2.2 ≤ ms) (h : Post none Z.1 M) : Rtn 109 mc ms Post none Z M := ⟨h1, h2, trivial, h⟩
/-! 110 OwnSundayModel.takes -/
def bt110 (pc : Nat) : BL := if pc = 0 then [(.aload 0, 0, 1), (.getfield 3, 6, 3), (.iconst 0, 0, 1), (.aload 0, 0, 1), (.getfield 3, 6, 3), (.iconst 2, 0, 1), (.iaload, 0, 1), (.iastore, 0, 1), (.aload 0, 0, 1), (.getfield 3, 6, 3), (.iconst 1, 0, 1), (.aload 0, 0, 1), (.getfield 3, 6, 3), (.iconst 3, 0, 1), (.iaload, 0, 1), (.iastore, 0, 1), (.aload 0, 0, 1), (.getfield 4, 6, 3), (.iconst 0, 0, 1), (.aload 0, 0, 1), (.getfield 4, 6, 3), (.iconst 1, 0, 1), (.iaload, 0, 1), (.iastore, 0, 1), (.aload 0, 0, 1), (.getfield 5, 6, 3), (.iconst 0, 0, 1), (.aload 0, 0, 1), (.getfield 5, 6, 3), (.iconst 1, 0, 1), (.iaload, 0, 1), (.iastore, 0, 1), (.aload 0, 0, 1), (.getfield 6, 6, 3), (.iconst 0, 0, 1), (.aload 0, 0, 1), (.getfield 6, 6, 3), (.iconst 1, 0, 1), (.iaload, 0, 1), (.iastore, 0, 1), (.iconst 0, 0, 1), (.istore 1, 0, 1)] else if pc = 62 then [(.iload 1, 0, 1), (.iconst 40, 0, 2), (.if_icmp .ge 131, 0, 3)] else if pc = 68 then [(.aload 0, 0, 1), (.getfield 7, 6, 3), (.iload 1, 0, 1), (.aload 0, 0, 1), (.getfield 7, 6, 3), (.iconst 40, 0, 2), (.iload 1, 0, 1), (.iadd, 0, 1), (.iaload, 0, 1), (.iastore, 0, 1), (.iload 1, 0, 1), (.iconst 18, 0, 2), (.if_icmp .ge 104, 0, 3)] else if pc = 89 then [(.aload 0, 0, 1), (.getfield 9, 6, 3), (.iload 1, 0, 1), (.aload 0, 0, 1), (.getfield 9, 6, 3), (.iconst 18, 0, 2), (.iload 1, 0, 1), (.iadd, 0, 1), (.iaload, 0, 1), (.iastore, 0, 1)] else if pc = 104 then [(.iload 1, 0, 1), (.iconst 10, 0, 2), (.if_icmp .ge 125, 0, 3)] else if pc = 110 then [(.aload 0, 0, 1), (.getfield 10, 6, 3), (.iload 1, 0, 1), (.aload 0, 0, 1), (.getfield 10, 6, 3), (.iconst 10, 0, 2), (.iload 1, 0, 1), (.iadd, 0, 1), (.baload, 0, 1), (.bastore, 0, 1)] else if pc = 125 then [(.iinc 1 1, 0, 3), (.goto 62, 0, 3)] else if pc = 131 then [(.aload 0, 0, 1), (.iconst 0, 0, 1), (.putfield 11, 6, 3), (.aload 0, 0, 1), (.iconst 0, 0, 1), (.putfield 15, 6, 3), (.return_, 0, 1)] else []
def sp110 (pc : Nat) : Bool := [62].contains pc
theorem BT110 : bt110 0 = [(.aload 0, 0, 1), (.getfield 3, 6, 3), (.iconst 0, 0, 1), (.aload 0, 0, 1), (.getfield 3, 6, 3), (.iconst 2, 0, 1), (.iaload, 0, 1), (.iastore, 0, 1), (.aload 0, 0, 1), (.getfield 3, 6, 3), (.iconst 1, 0, 1), (.aload 0, 0, 1), (.getfield 3, 6, 3), (.iconst 3, 0, 1), (.iaload, 0, 1), (.iastore, 0, 1), (.aload 0, 0, 1), (.getfield 4, 6, 3), (.iconst 0, 0, 1), (.aload 0, 0, 1), (.getfield 4, 6, 3), (.iconst 1, 0, 1), (.iaload, 0, 1), (.iastore, 0, 1), (.aload 0, 0, 1), (.getfield 5, 6, 3), (.iconst 0, 0, 1), (.aload 0, 0, 1), (.getfield 5, 6, 3), (.iconst 1, 0, 1), (.iaload, 0, 1), (.iastore, 0, 1), (.aload 0, 0, 1), (.getfield 6, 6, 3), (.iconst 0, 0, 1), (.aload 0, 0, 1), (.getfield 6, 6, 3), (.iconst 1, 0, 1), (.iaload, 0, 1), (.iastore, 0, 1), (.iconst 0, 0, 1), (.istore 1, 0, 1)] ∧ bt110 62 = [(.iload 1, 0, 1), (.iconst 40, 0, 2), (.if_icmp .ge 131, 0, 3)] ∧ bt110 68 = [(.aload 0, 0, 1), (.getfield 7, 6, 3), (.iload 1, 0, 1), (.aload 0, 0, 1), (.getfield 7, 6, 3), (.iconst 40, 0, 2), (.iload 1, 0, 1), (.iadd, 0, 1), (.iaload, 0, 1), (.iastore, 0, 1), (.iload 1, 0, 1), (.iconst 18, 0, 2), (.if_icmp .ge 104, 0, 3)] ∧ bt110 89 = [(.aload 0, 0, 1), (.getfield 9, 6, 3), (.iload 1, 0, 1), (.aload 0, 0, 1), (.getfield 9, 6, 3), (.iconst 18, 0, 2), (.iload 1, 0, 1), (.iadd, 0, 1), (.iaload, 0, 1), (.iastore, 0, 1)] ∧ bt110 104 = [(.iload 1, 0, 1), (.iconst 10, 0, 2), (.if_icmp .ge 125, 0, 3)] ∧ bt110 110 = [(.aload 0, 0, 1), (.getfield 10, 6, 3), (.iload 1, 0, 1), (.aload 0, 0, 1), (.getfield 10, 6, 3), (.iconst 10, 0, 2), (.iload 1, 0, 1), (.iadd, 0, 1), (.baload, 0, 1), (.bastore, 0, 1)] ∧ bt110 125 = [(.iinc 1 1, 0, 3), (.goto 62, 0, 3)] ∧ bt110 131 = [(.aload 0, 0, 1), (.iconst 0, 0, 1), (.putfield 11, 6, 3), (.aload 0, 0, 1), (.iconst 0, 0, 1), (.putfield 15, 6, 3), (.return_, 0, 1)] ∧ True := ⟨rfl, rfl, rfl, rfl, rfl, rfl, rfl, rfl, trivial⟩
theorem SP110 : sp110 0 = false ∧ sp110 62 = true ∧ sp110 68 = false ∧ sp110 89 = false ∧ sp110 104 = false ∧ sp110 110 = false ∧ sp110 125 = false ∧ sp110 131 = false ∧ True := ⟨rfl, rfl, rfl, rfl, rfl, rfl, rfl, rfl, trivial⟩
set_option maxRecDepth 100000 in
theorem bk110 : ∀ pc, blk 110 pc (bt110 pc) = true := fun pc => blk_if (by decide +kernel) (blk_if (by decide +kernel) (blk_if (by decide +kernel) (blk_if (by decide +kernel) (blk_if (by decide +kernel) (blk_if (by decide +kernel) (blk_if (by decide +kernel) (blk_if (by decide +kernel) (rfl))))))))
theorem go110 {d mc ms : Nat} {sh : List SC} {M : MM} {Post : PP} {a0 : Nat} (h : ∀ S : Nat → KK, Clo (Run d) 110 none mc ms (Rtn 110 mc ms Post) S → S 0 [some (vR a0), none] [] (sh, 0, 0) M) : Run (d + 1) 110 [vR a0] sh M mc ms Post := ⟨Nat.le_of_ble_eq_true rfl, h⟩
theorem rt110 {mc ms : Nat} {Z : ZZ} {M : MM} {Post : PP} (h1 : Z.2.1 ≤ mc) (h2 : Z.2.2 ≤ ms) (h : Post none Z.1 M) : Rtn 110 mc ms Post none Z M := ⟨h1, h2, trivial, h⟩
/-! 111 OwnSundayModel.fault -/
def bt111 (pc : Nat) : BL := if pc = 0 then [(.aload 0, 0, 1), (.iconst 0, 0, 1), (.putfield 2, 6, 3), (.aload 0, 0, 1), (.invokevirtual 109, 1, 3)] else if pc = 9 then [(.aload 0, 0, 1), (.getfield 2, 6, 3), (.aload 0, 0, 1), (.getfield 0, 6, 3), (.if_icmp .ge 37, 0, 3)] else if pc = 20 then [(.aload 0, 0, 1), (.getfield 2, 6, 3), (.istore 1, 0, 1), (.aload 0, 0, 1), (.invokevirtual 107, 1, 3)] else if pc = 29 then [(.ifCond .ne 34, 0, 3)] else if pc = 32 then [(.iload 1, 0, 1), (.ireturn, 0, 1)] else if pc = 34 then [(.goto 9, 0, 3)] else if pc = 37 then [(.iconst 0, 0, 1), (.istore 1, 0, 1)] else if pc = 39 then [(.iload 1, 0, 1), (.aload 0, 0, 1), (.getfield 4, 6, 3), (.iconst 1, 0, 1), (.iaload, 0, 1), (.if_icmp .ge 98, 0, 3)] else if pc = 49 then [(.aload 0, 0, 1), (.getfield 7, 6, 3), (.iconst 40, 0, 2), (.iconst 4, 0, 1), (.iload 1, 0, 1), (.imul, 0, 1), (.iadd, 0, 1), (.iconst 1, 0, 1), (.iadd, 0, 1), (.iaload, 0, 1), (.aload 0, 0, 1), (.getfield 3, 6, 3), (.iconst 2, 0, 1), (.aload 0, 0, 1), (.getfield 7, 6, 3), (.iconst 40, 0, 2), (.iconst 4, 0, 1), (.iload 1, 0, 1), (.imul, 0, 1), (.iadd, 0, 1), (.iconst 0, 0, 1), (.iadd, 0, 1), (.iaload, 0, 1), (.iadd, 0, 1), (.iaload, 0, 1), (.if_icmp .lt 92, 0, 3)] else if pc = 85 then [(.aload 0, 0, 1), (.getfield 8, 6, 3), (.iload 1, 0, 1), (.iaload, 0, 1), (.ireturn, 0, 1)] else if pc = 92 then [(.iinc 1 1, 0, 3), (.goto 39, 0, 3)] else if pc = 98 then [(.iconst (-4), 0, 2), (.ireturn, 0, 1)] else []
def sp111 (pc : Nat) : Bool := [9, 29, 39].contains pc
theorem BT111 : bt111 0 = [(.aload 0, 0, 1), (.iconst 0, 0, 1), (.putfield 2, 6, 3), (.aload 0, 0, 1), (.invokevirtual 109, 1, 3)] ∧ bt111 9 = [(.aload 0, 0, 1), (.getfield 2, 6, 3), (.aload 0, 0, 1), (.getfield 0, 6, 3), (.if_icmp .ge 37, 0, 3)] ∧ bt111 20 = [(.aload 0, 0, 1), (.getfield 2, 6, 3), (.istore 1, 0, 1), (.aload 0, 0, 1), (.invokevirtual 107, 1, 3)] ∧ bt111 29 = [(.ifCond .ne 34, 0, 3)] ∧ bt111 32 = [(.iload 1, 0, 1), (.ireturn, 0, 1)] ∧ bt111 34 = [(.goto 9, 0, 3)] ∧ bt111 37 = [(.iconst 0, 0, 1), (.istore 1, 0, 1)] ∧ bt111 39 = [(.iload 1, 0, 1), (.aload 0, 0, 1), (.getfield 4, 6, 3), (.iconst 1, 0, 1), (.iaload, 0, 1), (.if_icmp .ge 98, 0, 3)] ∧ bt111 49 = [(.aload 0, 0, 1), (.getfield 7, 6, 3), (.iconst 40, 0, 2), (.iconst 4, 0, 1), (.iload 1, 0, 1), (.imul, 0, 1), (.iadd, 0, 1), (.iconst 1, 0, 1), (.iadd, 0, 1), (.iaload, 0, 1), (.aload 0, 0, 1), (.getfield 3, 6, 3), (.iconst 2, 0, 1), (.aload 0, 0, 1), (.getfield 7, 6, 3), (.iconst 40, 0, 2), (.iconst 4, 0, 1), (.iload 1, 0, 1), (.imul, 0, 1), (.iadd, 0, 1), (.iconst 0, 0, 1), (.iadd, 0, 1), (.iaload, 0, 1), (.iadd, 0, 1), (.iaload, 0, 1), (.if_icmp .lt 92, 0, 3)] ∧ bt111 85 = [(.aload 0, 0, 1), (.getfield 8, 6, 3), (.iload 1, 0, 1), (.iaload, 0, 1), (.ireturn, 0, 1)] ∧ bt111 92 = [(.iinc 1 1, 0, 3), (.goto 39, 0, 3)] ∧ bt111 98 = [(.iconst (-4), 0, 2), (.ireturn, 0, 1)] ∧ True := ⟨rfl, rfl, rfl, rfl, rfl, rfl, rfl, rfl, rfl, rfl, rfl, rfl, trivial⟩
theorem SP111 : sp111 0 = false ∧ sp111 9 = true ∧ sp111 20 = false ∧ sp111 29 = true ∧ sp111 32 = false ∧ sp111 34 = false ∧ sp111 37 = false ∧ sp111 39 = true ∧ sp111 49 = false ∧ sp111 85 = false ∧ sp111 92 = false ∧ sp111 98 = false ∧ True := ⟨rfl, rfl, rfl, rfl, rfl, rfl, rfl, rfl, rfl, rfl, rfl, rfl, trivial⟩
set_option maxRecDepth 100000 in
theorem bk111 : ∀ pc, blk 111 pc (bt111 pc) = true := fun pc => blk_if (by decide +kernel) (blk_if (by decide +kernel) (blk_if (by decide +kernel) (blk_if (by decide +kernel) (blk_if (by decide +kernel) (blk_if (by decide +kernel) (blk_if (by decide +kernel) (blk_if (by decide +kernel) (blk_if (by decide +kernel) (blk_if (by decide +kernel) (blk_if (by decide +kernel) (blk_if (by decide +kernel) (rfl))))))))))))
theorem go111 {d mc ms : Nat} {sh : List SC} {M : MM} {Post : PP} {a0 : Nat} (h : ∀ S : Nat → KK, Clo (Run d) 111 none mc ms (Rtn 111 mc ms Post) S → S 0 [some (vR a0), none] [] (sh, 0, 0) M) : Run (d + 1) 111 [vR a0] sh M mc ms Post := ⟨Nat.le_of_ble_eq_true rfl, h⟩
theorem rt111 {v : Int} {sh : List SC} {M : MM} {Post : PP} (h : Post (some (Sum.inl v)) sh M) : Rtn 111 0 0 Post (some (Sum.inl v)) (sh, 0, 0) M := ⟨Nat.le_refl _, Nat.le_refl _, trivial, h⟩
/-! 112 OwnSundayModel.lay -/
def bt112 (pc : Nat) : BL := if pc = 0 then [(.aload 0, 0, 1), (.invokevirtual 111, 1, 3)] else if pc = 4 then [(.iconst (-4), 0, 2), (.if_icmp .ne 18, 0, 3)] else if pc = 9 then [(.aload 0, 0, 1), (.getfield 4, 6, 3), (.iconst 1, 0, 1), (.iaload, 0, 1), (.ifCond .ne 21, 0, 3)] else if pc = 18 then [(.iconst (-2), 0, 2), (.ireturn, 0, 1)] else if pc = 21 then [(.aload 0, 0, 1), (.invokevirtual 110, 1, 3)] else if pc = 25 then [(.aload 0, 0, 1), (.getfield 4, 6, 3), (.iconst 0, 0, 1), (.iaload, 0, 1), (.ireturn, 0, 1)] else []
def sp112 (pc : Nat) : Bool := [4, 25].contains pc
theorem BT112 : bt112 0 = [(.aload 0, 0, 1), (.invokevirtual 111, 1, 3)] ∧ bt112 4 = [(.iconst (-4), 0, 2), (.if_icmp .ne 18, 0, 3)] ∧ bt112 9 = [(.aload 0, 0, 1), (.getfield 4, 6, 3), (.iconst 1, 0, 1), (.iaload, 0, 1), (.ifCond .ne 21, 0, 3)] ∧ bt112 18 = [(.iconst (-2), 0, 2), (.ireturn, 0, 1)] ∧ bt112 21 = [(.aload 0, 0, 1), (.invokevirtual 110, 1, 3)] ∧ bt112 25 = [(.aload 0, 0, 1), (.getfield 4, 6, 3), (.iconst 0, 0, 1), (.iaload, 0, 1), (.ireturn, 0, 1)] ∧ True := ⟨rfl, rfl, rfl, rfl, rfl, rfl, trivial⟩
theorem SP112 : sp112 0 = false ∧ sp112 4 = true ∧ sp112 9 = false ∧ sp112 18 = false ∧ sp112 21 = false ∧ sp112 25 = true ∧ True := ⟨rfl, rfl, rfl, rfl, rfl, rfl, trivial⟩
set_option maxRecDepth 100000 in
theorem bk112 : ∀ pc, blk 112 pc (bt112 pc) = true := fun pc => blk_if (by decide +kernel) (blk_if (by decide +kernel) (blk_if (by decide +kernel) (blk_if (by decide +kernel) (blk_if (by decide +kernel) (blk_if (by decide +kernel) (rfl))))))
theorem go112 {d mc ms : Nat} {sh : List SC} {M : MM} {Post : PP} {a0 : Nat} (h : ∀ S : Nat → KK, Clo (Run d) 112 none mc ms (Rtn 112 mc ms Post) S → S 0 [some (vR a0)] [] (sh, 0, 0) M) : Run (d + 1) 112 [vR a0] sh M mc ms Post := ⟨Nat.le_of_ble_eq_true rfl, h⟩
theorem rt112 {v : Int} {sh : List SC} {M : MM} {Post : PP} (h : Post (some (Sum.inl v)) sh M) : Rtn 112 0 0 Post (some (Sum.inl v)) (sh, 0, 0) M := ⟨Nat.le_refl _, Nat.le_refl _, trivial, h⟩
/-! 113 OwnSundayModel.isHouse -/
def bt113 (pc : Nat) : BL := if pc = 0 then [(.iload 1, 0, 1), (.i2l, 0, 1), (.ldc2_w 0, 0, 1), (.aload 0, 0, 1), (.getfield 4, 6, 3), (.iconst 0, 0, 1), (.iaload, 0, 1), (.iconst 1, 0, 1), (.isub, 0, 1), (.i2l, 0, 1), (.invokestatic 102, 3, 3)] else if pc = 15 then [(.ireturn, 0, 1)] else []
def sp113 (pc : Nat) : Bool := [15].contains pc
theorem BT113 : bt113 0 = [(.iload 1, 0, 1), (.i2l, 0, 1), (.ldc2_w 0, 0, 1), (.aload 0, 0, 1), (.getfield 4, 6, 3), (.iconst 0, 0, 1), (.iaload, 0, 1), (.iconst 1, 0, 1), (.isub, 0, 1), (.i2l, 0, 1), (.invokestatic 102, 3, 3)] ∧ bt113 15 = [(.ireturn, 0, 1)] ∧ True := ⟨rfl, rfl, trivial⟩
theorem SP113 : sp113 0 = false ∧ sp113 15 = true ∧ True := ⟨rfl, rfl, trivial⟩
set_option maxRecDepth 100000 in
theorem bk113 : ∀ pc, blk 113 pc (bt113 pc) = true := fun pc => blk_if (by decide +kernel) (blk_if (by decide +kernel) (rfl))
theorem go113 {d mc ms : Nat} {sh : List SC} {M : MM} {Post : PP} {a0 : Nat} {a1 : Int} (h : ∀ S : Nat → KK, Clo (Run d) 113 none mc ms (Rtn 113 mc ms Post) S → S 0 [some (vR a0), some (vI a1)] [] (sh, 0, 0) M) : Run (d + 1) 113 [vR a0, vI a1] sh M mc ms Post := ⟨Nat.le_of_ble_eq_true rfl, h⟩
theorem rt113 {v : Int} {sh : List SC} {M : MM} {Post : PP} (hv : v = 0 ∨ v = 1) (h : Post (some (Sum.inl v)) sh M) : Rtn 113 0 0 Post (some (Sum.inl v)) (sh, 0, 0) M := ⟨Nat.le_refl _, Nat.le_refl _, hv, h⟩
/-! 114 OwnSundayModel.isWork -/
def bt114 (pc : Nat) : BL := if pc = 0 then [(.iload 1, 0, 1), (.i2l, 0, 1), (.ldc2_w 0, 0, 1), (.aload 0, 0, 1), (.getfield 5, 6, 3), (.iconst 0, 0, 1), (.iaload, 0, 1), (.iconst 1, 0, 1), (.isub, 0, 1), (.i2l, 0, 1), (.invokestatic 102, 3, 3)] else if pc = 15 then [(.ireturn, 0, 1)] else []
def sp114 (pc : Nat) : Bool := [15].contains pc
theorem BT114 : bt114 0 = [(.iload 1, 0, 1), (.i2l, 0, 1), (.ldc2_w 0, 0, 1), (.aload 0, 0, 1), (.getfield 5, 6, 3), (.iconst 0, 0, 1), (.iaload, 0, 1), (.iconst 1, 0, 1), (.isub, 0, 1), (.i2l, 0, 1), (.invokestatic 102, 3, 3)] ∧ bt114 15 = [(.ireturn, 0, 1)] ∧ True := ⟨rfl, rfl, trivial⟩
theorem SP114 : sp114 0 = false ∧ sp114 15 = true ∧ True := ⟨rfl, rfl, trivial⟩
set_option maxRecDepth 100000 in
theorem bk114 : ∀ pc, blk 114 pc (bt114 pc) = true := fun pc => blk_if (by decide +kernel) (blk_if (by decide +kernel) (rfl))
theorem go114 {d mc ms : Nat} {sh : List SC} {M : MM} {Post : PP} {a0 : Nat} {a1 : Int} (h : ∀ S : Nat → KK, Clo (Run d) 114 none mc ms (Rtn 114 mc ms Post) S → S 0 [some (vR a0), some (vI a1)] [] (sh, 0, 0) M) : Run (d + 1) 114 [vR a0, vI a1] sh M mc ms Post := ⟨Nat.le_of_ble_eq_true rfl, h⟩
theorem rt114 {v : Int} {sh : List SC} {M : MM} {Post : PP} (hv : v = 0 ∨ v = 1) (h : Post (some (Sum.inl v)) sh M) : Rtn 114 0 0 Post (some (Sum.inl v)) (sh, 0, 0) M := ⟨Nat.le_refl _, Nat.le_refl _, hv, h⟩
/-! 115 OwnSundayModel.isDay -/
def bt115 (pc : Nat) : BL := if pc = 0 then [(.lload 0, 0, 1), (.ldc2_w 0, 0, 1), (.ldc2_w 0, 1000000000000000, 3), (.invokestatic 102, 3, 3)] else if pc = 8 then [(.ireturn, 0, 1)] else []
def sp115 (pc : Nat) : Bool := [8].contains pc
theorem BT115 : bt115 0 = [(.lload 0, 0, 1), (.ldc2_w 0, 0, 1), (.ldc2_w 0, 1000000000000000, 3), (.invokestatic 102, 3, 3)] ∧ bt115 8 = [(.ireturn, 0, 1)] ∧ True := ⟨rfl, rfl, trivial⟩
theorem SP115 : sp115 0 = false ∧ sp115 8 = true ∧ True := ⟨rfl, rfl, trivial⟩
set_option maxRecDepth 100000 in
theorem bk115 : ∀ pc, blk 115 pc (bt115 pc) = true := fun pc => blk_if (by decide +kernel) (blk_if (by decide +kernel) (rfl))
theorem go115 {d mc ms : Nat} {sh : List SC} {M : MM} {Post : PP} {a0 : Int} (h : ∀ S : Nat → KK, Clo (Run d) 115 none mc ms (Rtn 115 mc ms Post) S → S 0 [some (vL a0), none] [] (sh, 0, 0) M) : Run (d + 1) 115 [vL a0] sh M mc ms Post := ⟨Nat.le_of_ble_eq_true rfl, h⟩
theorem rt115 {v : Int} {sh : List SC} {M : MM} {Post : PP} (hv : v = 0 ∨ v = 1) (h : Post (some (Sum.inl v)) sh M) : Rtn 115 0 0 Post (some (Sum.inl v)) (sh, 0, 0) M := ⟨Nat.le_refl _, Nat.le_refl _, hv, h⟩
/-! 116 OwnSundayModel.house -/
def bt116 (pc : Nat) : BL := if pc = 0 then [(.aload 0, 0, 1), (.iload 1, 0, 1), (.invokevirtual 113, 2, 3)] else if pc = 5 then [(.ifCond .eq 20, 0, 3)] else if pc = 8 then [(.iload 2, 0, 1), (.i2l, 0, 1), (.ldc2_w 0, 0, 1), (.ldc2_w 0, 4, 3), (.invokestatic 102, 3, 3)] else if pc = 17 then [(.ifCond .ne 24, 0, 3)] else if pc = 20 then [(.iconst (-1), 0, 1), (.goto 56, 0, 3)] else if pc = 24 then [(.iload 2, 0, 1), (.iconst 4, 0, 1), (.if_icmp .ge 42, 0, 3)] else if pc = 29 then [(.aload 0, 0, 1), (.getfield 7, 6, 3), (.iconst 4, 0, 1), (.iload 1, 0, 1), (.imul, 0, 1), (.iload 2, 0, 1), (.iadd, 0, 1), (.iaload, 0, 1), (.goto 56, 0, 3)] else if pc = 42 then [(.aload 0, 0, 1), (.getfield 10, 6, 3), (.iload 1, 0, 1), (.baload, 0, 1), (.ifCond .eq 55, 0, 3)] else if pc = 51 then [(.iconst 1, 0, 1), (.goto 56, 0, 3)] else if pc = 55 then [(.iconst 0, 0, 1)] else if pc = 56 then [(.ireturn, 0, 1)] else []
def sp116 (pc : Nat) : Bool := [5, 17].contains pc
theorem BT116 : bt116 0 = [(.aload 0, 0, 1), (.iload 1, 0, 1), (.invokevirtual 113, 2, 3)] ∧ bt116 5 = [(.ifCond .eq 20, 0, 3)] ∧ bt116 8 = [(.iload 2, 0, 1), (.i2l, 0, 1), (.ldc2_w 0, 0, 1), (.ldc2_w 0, 4, 3), (.invokestatic 102, 3, 3)] ∧ bt116 17 = [(.ifCond .ne 24, 0, 3)] ∧ bt116 20 = [(.iconst (-1), 0, 1), (.goto 56, 0, 3)] ∧ bt116 24 = [(.iload 2, 0, 1), (.iconst 4, 0, 1), (.if_icmp .ge 42, 0, 3)] ∧ bt116 29 = [(.aload 0, 0, 1), (.getfield 7, 6, 3), (.iconst 4, 0, 1), (.iload 1, 0, 1), (.imul, 0, 1), (.iload 2, 0, 1), (.iadd, 0, 1), (.iaload, 0, 1), (.goto 56, 0, 3)] ∧ bt116 42 = [(.aload 0, 0, 1), (.getfield 10, 6, 3), (.iload 1, 0, 1), (.baload, 0, 1), (.ifCond .eq 55, 0, 3)] ∧ bt116 51 = [(.iconst 1, 0, 1), (.goto 56, 0, 3)] ∧ bt116 55 = [(.iconst 0, 0, 1)] ∧ bt116 56 = [(.ireturn, 0, 1)] ∧ True := ⟨rfl, rfl, rfl, rfl, rfl, rfl, rfl, rfl, rfl, rfl, rfl, trivial⟩
theorem SP116 : sp116 0 = false ∧ sp116 5 = true ∧ sp116 8 = false ∧ sp116 17 = true ∧ sp116 20 = false ∧ sp116 24 = false ∧ sp116 29 = false ∧ sp116 42 = false ∧ sp116 51 = false ∧ sp116 55 = false ∧ sp116 56 = false ∧ True := ⟨rfl, rfl, rfl, rfl, rfl, rfl, rfl, rfl, rfl, rfl, rfl, trivial⟩
set_option maxRecDepth 100000 in
theorem bk116 : ∀ pc, blk 116 pc (bt116 pc) = true := fun pc => blk_if (by decide +kernel) (blk_if (by decide +kernel) (blk_if (by decide +kernel) (blk_if (by decide +kernel) (blk_if (by decide +kernel) (blk_if (by decide +kernel) (blk_if (by decide +kernel) (blk_if (by decide +kernel) (blk_if (by decide +kernel) (blk_if (by decide +kernel) (blk_if (by decide +kernel) (rfl)))))))))))
theorem go116 {d mc ms : Nat} {sh : List SC} {M : MM} {Post : PP} {a0 : Nat} {a1 : Int} {a2 : Int} (h : ∀ S : Nat → KK, Clo (Run d) 116 none mc ms (Rtn 116 mc ms Post) S → S 0 [some (vR a0), some (vI a1), some (vI a2)] [] (sh, 0, 0) M) : Run (d + 1) 116 [vR a0, vI a1, vI a2] sh M mc ms Post := ⟨Nat.le_of_ble_eq_true rfl, h⟩
theorem rt116 {v : Int} {sh : List SC} {M : MM} {Post : PP} (h : Post (some (Sum.inl v)) sh M) : Rtn 116 0 0 Post (some (Sum.inl v)) (sh, 0, 0) M := ⟨Nat.le_refl _, Nat.le_refl _, trivial, h⟩
/-! 117 OwnSundayModel.weekOf -/
def bt117 (pc : Nat) : BL := if pc = 0 then [(.aload 0, 0, 1), (.getfield 3, 6, 3), (.aload 0, 0, 1), (.getfield 7, 6, 3), (.iconst 4, 0, 1), (.iload 1, 0, 1), (.imul, 0, 1), (.iconst 0, 0, 1), (.iadd, 0, 1), (.iaload, 0, 1), (.iaload, 0, 1), (.ireturn, 0, 1)] else []
def sp117 (pc : Nat) : Bool := [].contains pc
theorem BT117 : bt117 0 = [(.aload 0, 0, 1), (.getfield 3, 6, 3), (.aload 0, 0, 1), (.getfield 7, 6, 3), (.iconst 4, 0, 1), (.iload 1, 0, 1), (.imul, 0, 1), (.iconst 0, 0, 1), (.iadd, 0, 1), (.iaload, 0, 1), (.iaload, 0, 1), (.ireturn, 0, 1)] ∧ True := ⟨rfl, trivial⟩
theorem SP117 : sp117 0 = false ∧ True := ⟨rfl, trivial⟩
set_option maxRecDepth 100000 in
theorem bk117 : ∀ pc, blk 117 pc (bt117 pc) = true := fun pc => blk_if (by decide +kernel) (rfl)
theorem go117 {d mc ms : Nat} {sh : List SC} {M : MM} {Post : PP} {a0 : Nat} {a1 : Int} (h : ∀ S : Nat → KK, Clo (Run d) 117 none mc ms (Rtn 117 mc ms Post) S → S 0 [some (vR a0), some (vI a1)] [] (sh, 0, 0) M) : Run (d + 1) 117 [vR a0, vI a1] sh M mc ms Post := ⟨Nat.le_of_ble_eq_true rfl, h⟩
theorem rt117 {v : Int} {sh : List SC} {M : MM} {Post : PP} (h : Post (some (Sum.inl v)) sh M) : Rtn 117 0 0 Post (some (Sum.inl v)) (sh, 0, 0) M := ⟨Nat.le_refl _, Nat.le_refl _, trivial, h⟩
/-! 118 OwnSundayModel.isUp -/
def bt118 (pc : Nat) : BL := if pc = 0 then [(.lload 2, 0, 1), (.aload 0, 0, 1), (.iload 1, 0, 1), (.invokevirtual 117, 2, 3)] else if pc = 6 then [(.i2l, 0, 1), (.lrem, 0, 1), (.aload 0, 0, 1), (.getfield 7, 6, 3), (.iconst 4, 0, 1), (.iload 1, 0, 1), (.imul, 0, 1), (.iconst 1, 0, 1), (.iadd, 0, 1), (.iaload, 0, 1), (.i2l, 0, 1), (.lcmp, 0, 1), (.ifCond .eq 27, 0, 3)] else if pc = 23 then [(.iconst 1, 0, 1), (.goto 28, 0, 3)] else if pc = 27 then [(.iconst 0, 0, 1)] else if pc = 28 then [(.ireturn, 0, 1)] else []
def sp118 (pc : Nat) : Bool := [6].contains pc
theorem BT118 : bt118 0 = [(.lload 2, 0, 1), (.aload 0, 0, 1), (.iload 1, 0, 1), (.invokevirtual 117, 2, 3)] ∧ bt118 6 = [(.i2l, 0, 1), (.lrem, 0, 1), (.aload 0, 0, 1), (.getfield 7, 6, 3), (.iconst 4, 0, 1), (.iload 1, 0, 1), (.imul, 0, 1), (.iconst 1, 0, 1), (.iadd, 0, 1), (.iaload, 0, 1), (.i2l, 0, 1), (.lcmp, 0, 1), (.ifCond .eq 27, 0, 3)] ∧ bt118 23 = [(.iconst 1, 0, 1), (.goto 28, 0, 3)] ∧ bt118 27 = [(.iconst 0, 0, 1)] ∧ bt118 28 = [(.ireturn, 0, 1)] ∧ True := ⟨rfl, rfl, rfl, rfl, rfl, trivial⟩
theorem SP118 : sp118 0 = false ∧ sp118 6 = true ∧ sp118 23 = false ∧ sp118 27 = false ∧ sp118 28 = false ∧ True := ⟨rfl, rfl, rfl, rfl, rfl, trivial⟩
set_option maxRecDepth 100000 in
theorem bk118 : ∀ pc, blk 118 pc (bt118 pc) = true := fun pc => blk_if (by decide +kernel) (blk_if (by decide +kernel) (blk_if (by decide +kernel) (blk_if (by decide +kernel) (blk_if (by decide +kernel) (rfl)))))
theorem go118 {d mc ms : Nat} {sh : List SC} {M : MM} {Post : PP} {a0 : Nat} {a1 : Int} {a2 : Int} (h : ∀ S : Nat → KK, Clo (Run d) 118 none mc ms (Rtn 118 mc ms Post) S → S 0 [some (vR a0), some (vI a1), some (vL a2), none] [] (sh, 0, 0) M) : Run (d + 1) 118 [vR a0, vI a1, vL a2] sh M mc ms Post := ⟨Nat.le_of_ble_eq_true rfl, h⟩
theorem rt118 {v : Int} {sh : List SC} {M : MM} {Post : PP} (hv : v = 0 ∨ v = 1) (h : Post (some (Sum.inl v)) sh M) : Rtn 118 0 0 Post (some (Sum.inl v)) (sh, 0, 0) M := ⟨Nat.le_refl _, Nat.le_refl _, hv, h⟩
/-! 119 OwnSundayModel.period -/
def bt119 (pc : Nat) : BL := if pc = 0 then [(.aload 0, 0, 1), (.getfield 3, 6, 3), (.iconst 0, 0, 1), (.iaload, 0, 1), (.istore 1, 0, 1)] else if pc = 7 then [(.iload 1, 0, 1), (.aload 0, 0, 1), (.getfield 3, 6, 3), (.iconst 1, 0, 1), (.iaload, 0, 1), (.irem, 0, 1), (.ifCond .eq 30, 0, 3)] else if pc = 18 then [(.iload 1, 0, 1), (.aload 0, 0, 1), (.getfield 3, 6, 3), (.iconst 0, 0, 1), (.iaload, 0, 1), (.iadd, 0, 1), (.istore 1, 0, 1), (.goto 7, 0, 3)] else if pc = 30 then [(.iload 1, 0, 1), (.ireturn, 0, 1)] else []
def sp119 (pc : Nat) : Bool := [7].contains pc
theorem BT119 : bt119 0 = [(.aload 0, 0, 1), (.getfield 3, 6, 3), (.iconst 0, 0, 1), (.iaload, 0, 1), (.istore 1, 0, 1)] ∧ bt119 7 = [(.iload 1, 0, 1), (.aload 0, 0, 1), (.getfield 3, 6, 3), (.iconst 1, 0, 1), (.iaload, 0, 1), (.irem, 0, 1), (.ifCond .eq 30, 0, 3)] ∧ bt119 18 = [(.iload 1, 0, 1), (.aload 0, 0, 1), (.getfield 3, 6, 3), (.iconst 0, 0, 1), (.iaload, 0, 1), (.iadd, 0, 1), (.istore 1, 0, 1), (.goto 7, 0, 3)] ∧ bt119 30 = [(.iload 1, 0, 1), (.ireturn, 0, 1)] ∧ True := ⟨rfl, rfl, rfl, rfl, trivial⟩
theorem SP119 : sp119 0 = false ∧ sp119 7 = true ∧ sp119 18 = false ∧ sp119 30 = false ∧ True := ⟨rfl, rfl, rfl, rfl, trivial⟩
set_option maxRecDepth 100000 in
theorem bk119 : ∀ pc, blk 119 pc (bt119 pc) = true := fun pc => blk_if (by decide +kernel) (blk_if (by decide +kernel) (blk_if (by decide +kernel) (blk_if (by decide +kernel) (rfl))))
theorem go119 {d mc ms : Nat} {sh : List SC} {M : MM} {Post : PP} {a0 : Nat} (h : ∀ S : Nat → KK, Clo (Run d) 119 none mc ms (Rtn 119 mc ms Post) S → S 0 [some (vR a0), none] [] (sh, 0, 0) M) : Run (d + 1) 119 [vR a0] sh M mc ms Post := ⟨Nat.le_of_ble_eq_true rfl, h⟩
theorem rt119 {v : Int} {sh : List SC} {M : MM} {Post : PP} (h : Post (some (Sum.inl v)) sh M) : Rtn 119 0 0 Post (some (Sum.inl v)) (sh, 0, 0) M := ⟨Nat.le_refl _, Nat.le_refl _, trivial, h⟩
/-! 120 OwnSundayModel.upOn -/
def bt120 (pc : Nat) : BL := if pc = 0 then [(.iconst 0, 0, 1), (.istore 3, 0, 1), (.iconst 0, 0, 1), (.istore 4, 0, 2)] else if pc = 5 then [(.iload 4, 0, 2), (.aload 0, 0, 1), (.getfield 4, 6, 3), (.iconst 0, 0, 1), (.iaload, 0, 1), (.if_icmp .ge 43, 0, 3)] else if pc = 16 then [(.iload 3, 0, 1), (.aload 0, 0, 1), (.iload 4, 0, 2), (.lload 1, 0, 1), (.invokevirtual 118, 3, 3)] else if pc = 24 then [(.ifCond .eq 34, 0, 3)] else if pc = 27 then [(.iconst 1, 0, 1), (.iload 4, 0, 2), (.ishl, 0, 1), (.goto 35, 0, 3)] else if pc = 34 then [(.iconst 0, 0, 1)] else if pc = 35 then [(.ior, 0, 1), (.istore 3, 0, 1), (.iinc 4 1, 0, 3), (.goto 5, 0, 3)] else if pc = 43 then [(.iload 3, 0, 1), (.ireturn, 0, 1)] else []
def sp120 (pc : Nat) : Bool := [5, 24].contains pc
theorem BT120 : bt120 0 = [(.iconst 0, 0, 1), (.istore 3, 0, 1), (.iconst 0, 0, 1), (.istore 4, 0, 2)] ∧ bt120 5 = [(.iload 4, 0, 2), (.aload 0, 0, 1), (.getfield 4, 6, 3), (.iconst 0, 0, 1), (.iaload, 0, 1), (.if_icmp .ge 43, 0, 3)] ∧ bt120 16 = [(.iload 3, 0, 1), (.aload 0, 0, 1), (.iload 4, 0, 2), (.lload 1, 0, 1), (.invokevirtual 118, 3, 3)] ∧ bt120 24 = [(.ifCond .eq 34, 0, 3)] ∧ bt120 27 = [(.iconst 1, 0, 1), (.iload 4, 0, 2), (.ishl, 0, 1), (.goto 35, 0, 3)] ∧ bt120 34 = [(.iconst 0, 0, 1)] ∧ bt120 35 = [(.ior, 0, 1), (.istore 3, 0, 1), (.iinc 4 1, 0, 3), (.goto 5, 0, 3)] ∧ bt120 43 = [(.iload 3, 0, 1), (.ireturn, 0, 1)] ∧ True := ⟨rfl, rfl, rfl, rfl, rfl, rfl, rfl, rfl, trivial⟩
theorem SP120 : sp120 0 = false ∧ sp120 5 = true ∧ sp120 16 = false ∧ sp120 24 = true ∧ sp120 27 = false ∧ sp120 34 = false ∧ sp120 35 = false ∧ sp120 43 = false ∧ True := ⟨rfl, rfl, rfl, rfl, rfl, rfl, rfl, rfl, trivial⟩
set_option maxRecDepth 100000 in
theorem bk120 : ∀ pc, blk 120 pc (bt120 pc) = true := fun pc => blk_if (by decide +kernel) (blk_if (by decide +kernel) (blk_if (by decide +kernel) (blk_if (by decide +kernel) (blk_if (by decide +kernel) (blk_if (by decide +kernel) (blk_if (by decide +kernel) (blk_if (by decide +kernel) (rfl))))))))
theorem go120 {d mc ms : Nat} {sh : List SC} {M : MM} {Post : PP} {a0 : Nat} {a1 : Int} (h : ∀ S : Nat → KK, Clo (Run d) 120 none mc ms (Rtn 120 mc ms Post) S → S 0 [some (vR a0), some (vL a1), none, none, none] [] (sh, 0, 0) M) : Run (d + 1) 120 [vR a0, vL a1] sh M mc ms Post := ⟨Nat.le_of_ble_eq_true rfl, h⟩
theorem rt120 {v : Int} {sh : List SC} {M : MM} {Post : PP} (h : Post (some (Sum.inl v)) sh M) : Rtn 120 0 0 Post (some (Sum.inl v)) (sh, 0, 0) M := ⟨Nat.le_refl _, Nat.le_refl _, trivial, h⟩
/-! 121 OwnSundayModel.bits -/
def bt121 (pc : Nat) : BL := if pc = 0 then [(.iconst 0, 0, 1), (.istore 1, 0, 1), (.iconst 0, 0, 1), (.istore 2, 0, 1)] else if pc = 4 then [(.iload 2, 0, 1), (.iconst 10, 0, 2), (.if_icmp .ge 24, 0, 3)] else if pc = 10 then [(.iload 1, 0, 1), (.iload 0, 0, 1), (.iload 2, 0, 1), (.ishr, 0, 1), (.iconst 1, 0, 1), (.iand, 0, 1), (.iadd, 0, 1), (.istore 1, 0, 1), (.iinc 2 1, 0, 3), (.goto 4, 0, 3)] else if pc = 24 then [(.iload 1, 0, 1), (.ireturn, 0, 1)] else []
def sp121 (pc : Nat) : Bool := [4].contains pc
theorem BT121 : bt121 0 = [(.iconst 0, 0, 1), (.istore 1, 0, 1), (.iconst 0, 0, 1), (.istore 2, 0, 1)] ∧ bt121 4 = [(.iload 2, 0, 1), (.iconst 10, 0, 2), (.if_icmp .ge 24, 0, 3)] ∧ bt121 10 = [(.iload 1, 0, 1), (.iload 0, 0, 1), (.iload 2, 0, 1), (.ishr, 0, 1), (.iconst 1, 0, 1), (.iand, 0, 1), (.iadd, 0, 1), (.istore 1, 0, 1), (.iinc 2 1, 0, 3), (.goto 4, 0, 3)] ∧ bt121 24 = [(.iload 1, 0, 1), (.ireturn, 0, 1)] ∧ True := ⟨rfl, rfl, rfl, rfl, trivial⟩
theorem SP121 : sp121 0 = false ∧ sp121 4 = true ∧ sp121 10 = false ∧ sp121 24 = false ∧ True := ⟨rfl, rfl, rfl, rfl, trivial⟩
set_option maxRecDepth 100000 in
theorem bk121 : ∀ pc, blk 121 pc (bt121 pc) = true := fun pc => blk_if (by decide +kernel) (blk_if (by decide +kernel) (blk_if (by decide +kernel) (blk_if (by decide +kernel) (rfl))))
theorem go121 {d mc ms : Nat} {sh : List SC} {M : MM} {Post : PP} {a0 : Int} (h : ∀ S : Nat → KK, Clo (Run d) 121 none mc ms (Rtn 121 mc ms Post) S → S 0 [some (vI a0), none, none] [] (sh, 0, 0) M) : Run (d + 1) 121 [vI a0] sh M mc ms Post := ⟨Nat.le_of_ble_eq_true rfl, h⟩
theorem rt121 {v : Int} {sh : List SC} {M : MM} {Post : PP} (h : Post (some (Sum.inl v)) sh M) : Rtn 121 0 0 Post (some (Sum.inl v)) (sh, 0, 0) M := ⟨Nat.le_refl _, Nat.le_refl _, trivial, h⟩
/-! 122 OwnSundayModel.handsOn -/
def bt122 (pc : Nat) : BL := if pc = 0 then [(.iconst 0, 0, 1), (.istore 4, 0, 2), (.iconst 0, 0, 1), (.istore 5, 0, 2)] else if pc = 6 then [(.iload 5, 0, 2), (.aload 0, 0, 1), (.getfield 4, 6, 3), (.iconst 0, 0, 1), (.iaload, 0, 1), (.if_icmp .ge 62, 0, 3)] else if pc = 17 then [(.iload 4, 0, 2), (.aload 0, 0, 1), (.getfield 7, 6, 3), (.iconst 4, 0, 1), (.iload 5, 0, 2), (.imul, 0, 1), (.iconst 2, 0, 1), (.iadd, 0, 1), (.iaload, 0, 1), (.iload 1, 0, 1), (.ishr, 0, 1), (.iconst 1, 0, 1), (.iand, 0, 1), (.iconst 1, 0, 1), (.if_icmp .ne 52, 0, 3)] else if pc = 38 then [(.aload 0, 0, 1), (.iload 5, 0, 2), (.lload 2, 0, 1), (.invokevirtual 118, 3, 3)] else if pc = 45 then [(.ifCond .eq 52, 0, 3)] else if pc = 48 then [(.iconst 1, 0, 1), (.goto 53, 0, 3)] else if pc = 52 then [(.iconst 0, 0, 1)] else if pc = 53 then [(.iadd, 0, 1), (.istore 4, 0, 2), (.iinc 5 1, 0, 3), (.goto 6, 0, 3)] else if pc = 62 then [(.iload 4, 0, 2), (.ireturn, 0, 1)] else []
def sp122 (pc : Nat) : Bool := [6, 45].contains pc
theorem BT122 : bt122 0 = [(.iconst 0, 0, 1), (.istore 4, 0, 2), (.iconst 0, 0, 1), (.istore 5, 0, 2)] ∧ bt122 6 = [(.iload 5, 0, 2), (.aload 0, 0, 1), (.getfield 4, 6, 3), (.iconst 0, 0, 1), (.iaload, 0, 1), (.if_icmp .ge 62, 0, 3)] ∧ bt122 17 = [(.iload 4, 0, 2), (.aload 0, 0, 1), (.getfield 7, 6, 3), (.iconst 4, 0, 1), (.iload 5, 0, 2), (.imul, 0, 1), (.iconst 2, 0, 1), (.iadd, 0, 1), (.iaload, 0, 1), (.iload 1, 0, 1), (.ishr, 0, 1), (.iconst 1, 0, 1), (.iand, 0, 1), (.iconst 1, 0, 1), (.if_icmp .ne 52, 0, 3)] ∧ bt122 38 = [(.aload 0, 0, 1), (.iload 5, 0, 2), (.lload 2, 0, 1), (.invokevirtual 118, 3, 3)] ∧ bt122 45 = [(.ifCond .eq 52, 0, 3)] ∧ bt122 48 = [(.iconst 1, 0, 1), (.goto 53, 0, 3)] ∧ bt122 52 = [(.iconst 0, 0, 1)] ∧ bt122 53 = [(.iadd, 0, 1), (.istore 4, 0, 2), (.iinc 5 1, 0, 3), (.goto 6, 0, 3)] ∧ bt122 62 = [(.iload 4, 0, 2), (.ireturn, 0, 1)] ∧ True := ⟨rfl, rfl, rfl, rfl, rfl, rfl, rfl, rfl, rfl, trivial⟩
theorem SP122 : sp122 0 = false ∧ sp122 6 = true ∧ sp122 17 = false ∧ sp122 38 = false ∧ sp122 45 = true ∧ sp122 48 = false ∧ sp122 52 = false ∧ sp122 53 = false ∧ sp122 62 = false ∧ True := ⟨rfl, rfl, rfl, rfl, rfl, rfl, rfl, rfl, rfl, trivial⟩
set_option maxRecDepth 100000 in
theorem bk122 : ∀ pc, blk 122 pc (bt122 pc) = true := fun pc => blk_if (by decide +kernel) (blk_if (by decide +kernel) (blk_if (by decide +kernel) (blk_if (by decide +kernel) (blk_if (by decide +kernel) (blk_if (by decide +kernel) (blk_if (by decide +kernel) (blk_if (by decide +kernel) (blk_if (by decide +kernel) (rfl)))))))))
theorem go122 {d mc ms : Nat} {sh : List SC} {M : MM} {Post : PP} {a0 : Nat} {a1 : Int} {a2 : Int} (h : ∀ S : Nat → KK, Clo (Run d) 122 none mc ms (Rtn 122 mc ms Post) S → S 0 [some (vR a0), some (vI a1), some (vL a2), none, none, none] [] (sh, 0, 0) M) : Run (d + 1) 122 [vR a0, vI a1, vL a2] sh M mc ms Post := ⟨Nat.le_of_ble_eq_true rfl, h⟩
theorem rt122 {v : Int} {sh : List SC} {M : MM} {Post : PP} (h : Post (some (Sum.inl v)) sh M) : Rtn 122 0 0 Post (some (Sum.inl v)) (sh, 0, 0) M := ⟨Nat.le_refl _, Nat.le_refl _, trivial, h⟩
/-! 123 OwnSundayModel.up -/
def bt123 (pc : Nat) : BL := if pc = 0 then [(.lload 1, 0, 1), (.invokestatic 115, 1, 3)] else if pc = 4 then [(.ifCond .eq 15, 0, 3)] else if pc = 7 then [(.aload 0, 0, 1), (.lload 1, 0, 1), (.invokevirtual 120, 2, 3)] else if pc = 12 then [(.goto 16, 0, 3)] else if pc = 15 then [(.iconst (-1), 0, 1)] else if pc = 16 then [(.ireturn, 0, 1)] else []
def sp123 (pc : Nat) : Bool := [4, 12].contains pc
theorem BT123 : bt123 0 = [(.lload 1, 0, 1), (.invokestatic 115, 1, 3)] ∧ bt123 4 = [(.ifCond .eq 15, 0, 3)] ∧ bt123 7 = [(.aload 0, 0, 1), (.lload 1, 0, 1), (.invokevirtual 120, 2, 3)] ∧ bt123 12 = [(.goto 16, 0, 3)] ∧ bt123 15 = [(.iconst (-1), 0, 1)] ∧ bt123 16 = [(.ireturn, 0, 1)] ∧ True := ⟨rfl, rfl, rfl, rfl, rfl, rfl, trivial⟩
theorem SP123 : sp123 0 = false ∧ sp123 4 = true ∧ sp123 7 = false ∧ sp123 12 = true ∧ sp123 15 = false ∧ sp123 16 = false ∧ True := ⟨rfl, rfl, rfl, rfl, rfl, rfl, trivial⟩
set_option maxRecDepth 100000 in
theorem bk123 : ∀ pc, blk 123 pc (bt123 pc) = true := fun pc => blk_if (by decide +kernel) (blk_if (by decide +kernel) (blk_if (by decide +kernel) (blk_if (by decide +kernel) (blk_if (by decide +kernel) (blk_if (by decide +kernel) (rfl))))))
theorem go123 {d mc ms : Nat} {sh : List SC} {M : MM} {Post : PP} {a0 : Nat} {a1 : Int} (h : ∀ S : Nat → KK, Clo (Run d) 123 none mc ms (Rtn 123 mc ms Post) S → S 0 [some (vR a0), some (vL a1), none] [] (sh, 0, 0) M) : Run (d + 1) 123 [vR a0, vL a1] sh M mc ms Post := ⟨Nat.le_of_ble_eq_true rfl, h⟩
theorem rt123 {v : Int} {sh : List SC} {M : MM} {Post : PP} (h : Post (some (Sum.inl v)) sh M) : Rtn 123 0 0 Post (some (Sum.inl v)) (sh, 0, 0) M := ⟨Nat.le_refl _, Nat.le_refl _, trivial, h⟩
/-! 124 OwnSundayModel.hands -/
def bt124 (pc : Nat) : BL := if pc = 0 then [(.iload 1, 0, 1), (.i2l, 0, 1), (.ldc2_w 0, 0, 1), (.ldc2_w 0, 4, 3), (.invokestatic 102, 3, 3)] else if pc = 9 then [(.ifCond .eq 28, 0, 3)] else if pc = 12 then [(.lload 2, 0, 1), (.invokestatic 115, 1, 3)] else if pc = 16 then [(.ifCond .eq 28, 0, 3)] else if pc = 19 then [(.aload 0, 0, 1), (.iload 1, 0, 1), (.lload 2, 0, 1), (.invokevirtual 122, 3, 3)] else if pc = 25 then [(.goto 29, 0, 3)] else if pc = 28 then [(.iconst (-1), 0, 1)] else if pc = 29 then [(.ireturn, 0, 1)] else []
def sp124 (pc : Nat) : Bool := [9, 16, 25].contains pc
theorem BT124 : bt124 0 = [(.iload 1, 0, 1), (.i2l, 0, 1), (.ldc2_w 0, 0, 1), (.ldc2_w 0, 4, 3), (.invokestatic 102, 3, 3)] ∧ bt124 9 = [(.ifCond .eq 28, 0, 3)] ∧ bt124 12 = [(.lload 2, 0, 1), (.invokestatic 115, 1, 3)] ∧ bt124 16 = [(.ifCond .eq 28, 0, 3)] ∧ bt124 19 = [(.aload 0, 0, 1), (.iload 1, 0, 1), (.lload 2, 0, 1), (.invokevirtual 122, 3, 3)] ∧ bt124 25 = [(.goto 29, 0, 3)] ∧ bt124 28 = [(.iconst (-1), 0, 1)] ∧ bt124 29 = [(.ireturn, 0, 1)] ∧ True := ⟨rfl, rfl, rfl, rfl, rfl, rfl, rfl, rfl, trivial⟩
theorem SP124 : sp124 0 = false ∧ sp124 9 = true ∧ sp124 12 = false ∧ sp124 16 = true ∧ sp124 19 = false ∧ sp124 25 = true ∧ sp124 28 = false ∧ sp124 29 = false ∧ True := ⟨rfl, rfl, rfl, rfl, rfl, rfl, rfl, rfl, trivial⟩
set_option maxRecDepth 100000 in
theorem bk124 : ∀ pc, blk 124 pc (bt124 pc) = true := fun pc => blk_if (by decide +kernel) (blk_if (by decide +kernel) (blk_if (by decide +kernel) (blk_if (by decide +kernel) (blk_if (by decide +kernel) (blk_if (by decide +kernel) (blk_if (by decide +kernel) (blk_if (by decide +kernel) (rfl))))))))
theorem go124 {d mc ms : Nat} {sh : List SC} {M : MM} {Post : PP} {a0 : Nat} {a1 : Int} {a2 : Int} (h : ∀ S : Nat → KK, Clo (Run d) 124 none mc ms (Rtn 124 mc ms Post) S → S 0 [some (vR a0), some (vI a1), some (vL a2), none] [] (sh, 0, 0) M) : Run (d + 1) 124 [vR a0, vI a1, vL a2] sh M mc ms Post := ⟨Nat.le_of_ble_eq_true rfl, h⟩
theorem rt124 {v : Int} {sh : List SC} {M : MM} {Post : PP} (h : Post (some (Sum.inl v)) sh M) : Rtn 124 0 0 Post (some (Sum.inl v)) (sh, 0, 0) M := ⟨Nat.le_refl _, Nat.le_refl _, trivial, h⟩
/-! 125 OwnSundayModel.isShort -/
def bt125 (pc : Nat) : BL := if pc = 0 then [(.aload 0, 0, 1), (.aload 0, 0, 1), (.getfield 9, 6, 3), (.iconst 3, 0, 1), (.iload 1, 0, 1), (.imul, 0, 1), (.iaload, 0, 1), (.lload 2, 0, 1), (.invokevirtual 122, 3, 3)] else if pc = 13 then [(.aload 0, 0, 1), (.getfield 9, 6, 3), (.iconst 3, 0, 1), (.iload 1, 0, 1), (.imul, 0, 1), (.iconst 1, 0, 1), (.iadd, 0, 1), (.iaload, 0, 1), (.if_icmp .ge 30, 0, 3)] else if pc = 26 then [(.iconst 1, 0, 1), (.goto 31, 0, 3)] else if pc = 30 then [(.iconst 0, 0, 1)] else if pc = 31 then [(.ireturn, 0, 1)] else []
def sp125 (pc : Nat) : Bool := [13].contains pc
theorem BT125 : bt125 0 = [(.aload 0, 0, 1), (.aload 0, 0, 1), (.getfield 9, 6, 3), (.iconst 3, 0, 1), (.iload 1, 0, 1), (.imul, 0, 1), (.iaload, 0, 1), (.lload 2, 0, 1), (.invokevirtual 122, 3, 3)] ∧ bt125 13 = [(.aload 0, 0, 1), (.getfield 9, 6, 3), (.iconst 3, 0, 1), (.iload 1, 0, 1), (.imul, 0, 1), (.iconst 1, 0, 1), (.iadd, 0, 1), (.iaload, 0, 1), (.if_icmp .ge 30, 0, 3)] ∧ bt125 26 = [(.iconst 1, 0, 1), (.goto 31, 0, 3)] ∧ bt125 30 = [(.iconst 0, 0, 1)] ∧ bt125 31 = [(.ireturn, 0, 1)] ∧ True := ⟨rfl, rfl, rfl, rfl, rfl, trivial⟩
theorem SP125 : sp125 0 = false ∧ sp125 13 = true ∧ sp125 26 = false ∧ sp125 30 = false ∧ sp125 31 = false ∧ True := ⟨rfl, rfl, rfl, rfl, rfl, trivial⟩
set_option maxRecDepth 100000 in
theorem bk125 : ∀ pc, blk 125 pc (bt125 pc) = true := fun pc => blk_if (by decide +kernel) (blk_if (by decide +kernel) (blk_if (by decide +kernel) (blk_if (by decide +kernel) (blk_if (by decide +kernel) (rfl)))))
theorem go125 {d mc ms : Nat} {sh : List SC} {M : MM} {Post : PP} {a0 : Nat} {a1 : Int} {a2 : Int} (h : ∀ S : Nat → KK, Clo (Run d) 125 none mc ms (Rtn 125 mc ms Post) S → S 0 [some (vR a0), some (vI a1), some (vL a2), none] [] (sh, 0, 0) M) : Run (d + 1) 125 [vR a0, vI a1, vL a2] sh M mc ms Post := ⟨Nat.le_of_ble_eq_true rfl, h⟩
theorem rt125 {v : Int} {sh : List SC} {M : MM} {Post : PP} (hv : v = 0 ∨ v = 1) (h : Post (some (Sum.inl v)) sh M) : Rtn 125 0 0 Post (some (Sum.inl v)) (sh, 0, 0) M := ⟨Nat.le_refl _, Nat.le_refl _, hv, h⟩
/-! 126 OwnSundayModel.shortOn -/
def bt126 (pc : Nat) : BL := if pc = 0 then [(.iconst 0, 0, 1), (.istore 3, 0, 1)] else if pc = 2 then [(.iload 3, 0, 1), (.aload 0, 0, 1), (.getfield 5, 6, 3), (.iconst 0, 0, 1), (.iaload, 0, 1), (.if_icmp .ge 29, 0, 3)] else if pc = 12 then [(.aload 0, 0, 1), (.iload 3, 0, 1), (.lload 1, 0, 1), (.invokevirtual 125, 3, 3)] else if pc = 18 then [(.ifCond .eq 23, 0, 3)] else if pc = 21 then [(.iload 3, 0, 1), (.ireturn, 0, 1)] else if pc = 23 then [(.iinc 3 1, 0, 3), (.goto 2, 0, 3)] else if pc = 29 then [(.iconst (-1), 0, 1), (.ireturn, 0, 1)] else []
def sp126 (pc : Nat) : Bool := [2, 18].contains pc
theorem BT126 : bt126 0 = [(.iconst 0, 0, 1), (.istore 3, 0, 1)] ∧ bt126 2 = [(.iload 3, 0, 1), (.aload 0, 0, 1), (.getfield 5, 6, 3), (.iconst 0, 0, 1), (.iaload, 0, 1), (.if_icmp .ge 29, 0, 3)] ∧ bt126 12 = [(.aload 0, 0, 1), (.iload 3, 0, 1), (.lload 1, 0, 1), (.invokevirtual 125, 3, 3)] ∧ bt126 18 = [(.ifCond .eq 23, 0, 3)] ∧ bt126 21 = [(.iload 3, 0, 1), (.ireturn, 0, 1)] ∧ bt126 23 = [(.iinc 3 1, 0, 3), (.goto 2, 0, 3)] ∧ bt126 29 = [(.iconst (-1), 0, 1), (.ireturn, 0, 1)] ∧ True := ⟨rfl, rfl, rfl, rfl, rfl, rfl, rfl, trivial⟩
theorem SP126 : sp126 0 = false ∧ sp126 2 = true ∧ sp126 12 = false ∧ sp126 18 = true ∧ sp126 21 = false ∧ sp126 23 = false ∧ sp126 29 = false ∧ True := ⟨rfl, rfl, rfl, rfl, rfl, rfl, rfl, trivial⟩
set_option maxRecDepth 100000 in
theorem bk126 : ∀ pc, blk 126 pc (bt126 pc) = true := fun pc => blk_if (by decide +kernel) (blk_if (by decide +kernel) (blk_if (by decide +kernel) (blk_if (by decide +kernel) (blk_if (by decide +kernel) (blk_if (by decide +kernel) (blk_if (by decide +kernel) (rfl)))))))
theorem go126 {d mc ms : Nat} {sh : List SC} {M : MM} {Post : PP} {a0 : Nat} {a1 : Int} (h : ∀ S : Nat → KK, Clo (Run d) 126 none mc ms (Rtn 126 mc ms Post) S → S 0 [some (vR a0), some (vL a1), none, none] [] (sh, 0, 0) M) : Run (d + 1) 126 [vR a0, vL a1] sh M mc ms Post := ⟨Nat.le_of_ble_eq_true rfl, h⟩
theorem rt126 {v : Int} {sh : List SC} {M : MM} {Post : PP} (h : Post (some (Sum.inl v)) sh M) : Rtn 126 0 0 Post (some (Sum.inl v)) (sh, 0, 0) M := ⟨Nat.le_refl _, Nat.le_refl _, trivial, h⟩
/-! 127 OwnSundayModel.judge -/
def bt127 (pc : Nat) : BL := if pc = 0 then [(.lload 1, 0, 1), (.invokestatic 115, 1, 3)] else if pc = 4 then [(.ifCond .eq 17, 0, 3)] else if pc = 7 then [(.iload 3, 0, 1), (.i2l, 0, 1), (.ldc2_w 0, 0, 1), (.ldc2_w 0, 1, 1), (.invokestatic 102, 3, 3)] else if pc = 14 then [(.ifCond .ne 21, 0, 3)] else if pc = 17 then [(.ldc2_w 0, (-1), 3), (.lreturn, 0, 1)] else if pc = 21 then [(.lload 1, 0, 1), (.lstore 4, 0, 2)] else if pc = 24 then [(.lload 4, 0, 2), (.lload 1, 0, 1), (.ldc2_w 0, 1000, 3), (.ladd, 0, 1), (.lcmp, 0, 1), (.ifCond .ge 70, 0, 3)] else if pc = 35 then [(.aload 0, 0, 1), (.lload 4, 0, 2), (.invokevirtual 126, 2, 3)] else if pc = 41 then [(.istore 6, 0, 2), (.iload 6, 0, 2), (.ifCond .lt 61, 0, 3)] else if pc = 48 then [(.iload 3, 0, 1), (.ifCond .ne 57, 0, 3)] else if pc = 52 then [(.lload 4, 0, 2), (.goto 60, 0, 3)] else if pc = 57 then [(.iload 6, 0, 2), (.i2l, 0, 1)] else if pc = 60 then [(.lreturn, 0, 1)] else if pc = 61 then [(.lload 4, 0, 2), (.ldc2_w 0, 1, 1), (.ladd, 0, 1), (.lstore 4, 0, 2), (.goto 24, 0, 3)] else if pc = 70 then [(.ldc2_w 0, (-4), 3), (.lreturn, 0, 1)] else []
def sp127 (pc : Nat) : Bool := [4, 14, 24, 41].contains pc
theorem BT127 : bt127 0 = [(.lload 1, 0, 1), (.invokestatic 115, 1, 3)] ∧ bt127 4 = [(.ifCond .eq 17, 0, 3)] ∧ bt127 7 = [(.iload 3, 0, 1), (.i2l, 0, 1), (.ldc2_w 0, 0, 1), (.ldc2_w 0, 1, 1), (.invokestatic 102, 3, 3)] ∧ bt127 14 = [(.ifCond .ne 21, 0, 3)] ∧ bt127 17 = [(.ldc2_w 0, (-1), 3), (.lreturn, 0, 1)] ∧ bt127 21 = [(.lload 1, 0, 1), (.lstore 4, 0, 2)] ∧ bt127 24 = [(.lload 4, 0, 2), (.lload 1, 0, 1), (.ldc2_w 0, 1000, 3), (.ladd, 0, 1), (.lcmp, 0, 1), (.ifCond .ge 70, 0, 3)] ∧ bt127 35 = [(.aload 0, 0, 1), (.lload 4, 0, 2), (.invokevirtual 126, 2, 3)] ∧ bt127 41 = [(.istore 6, 0, 2), (.iload 6, 0, 2), (.ifCond .lt 61, 0, 3)] ∧ bt127 48 = [(.iload 3, 0, 1), (.ifCond .ne 57, 0, 3)] ∧ bt127 52 = [(.lload 4, 0, 2), (.goto 60, 0, 3)] ∧ bt127 57 = [(.iload 6, 0, 2), (.i2l, 0, 1)] ∧ bt127 60 = [(.lreturn, 0, 1)] ∧ bt127 61 = [(.lload 4, 0, 2), (.ldc2_w 0, 1, 1), (.ladd, 0, 1), (.lstore 4, 0, 2), (.goto 24, 0, 3)] ∧ bt127 70 = [(.ldc2_w 0, (-4), 3), (.lreturn, 0, 1)] ∧ True := ⟨rfl, rfl, rfl, rfl, rfl, rfl, rfl, rfl, rfl, rfl, rfl, rfl, rfl, rfl, rfl, trivial⟩
theorem SP127 : sp127 0 = false ∧ sp127 4 = true ∧ sp127 7 = false ∧ sp127 14 = true ∧ sp127 17 = false ∧ sp127 21 = false ∧ sp127 24 = true ∧ sp127 35 = false ∧ sp127 41 = true ∧ sp127 48 = false ∧ sp127 52 = false ∧ sp127 57 = false ∧ sp127 60 = false ∧ sp127 61 = false ∧ sp127 70 = false ∧ True := ⟨rfl, rfl, rfl, rfl, rfl, rfl, rfl, rfl, rfl, rfl, rfl, rfl, rfl, rfl, rfl, trivial⟩
set_option maxRecDepth 100000 in
theorem bk127 : ∀ pc, blk 127 pc (bt127 pc) = true := fun pc => blk_if (by decide +kernel) (blk_if (by decide +kernel) (blk_if (by decide +kernel) (blk_if (by decide +kernel) (blk_if (by decide +kernel) (blk_if (by decide +kernel) (blk_if (by decide +kernel) (blk_if (by decide +kernel) (blk_if (by decide +kernel) (blk_if (by decide +kernel) (blk_if (by decide +kernel) (blk_if (by decide +kernel) (blk_if (by decide +kernel) (blk_if (by decide +kernel) (blk_if (by decide +kernel) (rfl)))))))))))))))
theorem go127 {d mc ms : Nat} {sh : List SC} {M : MM} {Post : PP} {a0 : Nat} {a1 : Int} {a2 : Int} (h : ∀ S : Nat → KK, Clo (Run d) 127 none mc ms (Rtn 127 mc ms Post) S → S 0 [some (vR a0), some (vL a1), none, some (vI a2), none, none, none] [] (sh, 0, 0) M) : Run (d + 1) 127 [vR a0, vL a1, vI a2] sh M mc ms Post := ⟨Nat.le_of_ble_eq_true rfl, h⟩
theorem rt127 {v : Int} {sh : List SC} {M : MM} {Post : PP} (h : Post (some (Sum.inr (Sum.inl v))) sh M) : Rtn 127 0 0 Post (some (Sum.inr (Sum.inl v))) (sh, 0, 0) M := ⟨Nat.le_refl _, Nat.le_refl _, trivial, h⟩
/-! 128 OwnSundayModel.still -/
def bt128 (pc : Nat) : BL := if pc = 0 then [(.aload 0, 0, 1), (.iload 1, 0, 1), (.invokevirtual 114, 2, 3)] else if pc = 5 then [(.ifCond .ne 10, 0, 3)] else if pc = 8 then [(.iconst (-1), 0, 1), (.ireturn, 0, 1)] else if pc = 10 then [(.iconst 0, 0, 1), (.istore 2, 0, 1), (.iconst 0, 0, 1), (.istore 3, 0, 1), (.iconst 0, 0, 1), (.istore 4, 0, 2)] else if pc = 17 then [(.iload 4, 0, 2), (.iconst 2, 0, 1), (.aload 0, 0, 1), (.invokevirtual 119, 1, 3)] else if pc = 24 then [(.imul, 0, 1), (.if_icmp .ge 84, 0, 3)] else if pc = 28 then [(.aload 0, 0, 1), (.iload 1, 0, 1), (.iload 4, 0, 2), (.i2l, 0, 1), (.invokevirtual 125, 3, 3)] else if pc = 36 then [(.ifCond .eq 45, 0, 3)] else if pc = 39 then [(.iload 3, 0, 1), (.iconst 1, 0, 1), (.iadd, 0, 1), (.goto 46, 0, 3)] else if pc = 45 then [(.iconst 0, 0, 1)] else if pc = 46 then [(.istore 3, 0, 1), (.iload 2, 0, 1), (.iload 4, 0, 2), (.aload 0, 0, 1), (.invokevirtual 119, 1, 3)] else if pc = 54 then [(.if_icmp .lt 75, 0, 3)] else if pc = 57 then [(.iload 3, 0, 1), (.aload 0, 0, 1), (.getfield 9, 6, 3), (.iconst 3, 0, 1), (.iload 1, 0, 1), (.imul, 0, 1), (.iconst 2, 0, 1), (.iadd, 0, 1), (.iaload, 0, 1), (.if_icmp .lt 75, 0, 3)] else if pc = 71 then [(.iconst 1, 0, 1), (.goto 76, 0, 3)] else if pc = 75 then [(.iconst 0, 0, 1)] else if pc = 76 then [(.iadd, 0, 1), (.istore 2, 0, 1), (.iinc 4 1, 0, 3), (.goto 17, 0, 3)] else if pc = 84 then [(.iload 2, 0, 1), (.ireturn, 0, 1)] else []
def sp128 (pc : Nat) : Bool := [5, 17, 24, 36, 54].contains pc
theorem BT128 : bt128 0 = [(.aload 0, 0, 1), (.iload 1, 0, 1), (.invokevirtual 114, 2, 3)] ∧ bt128 5 = [(.ifCond .ne 10, 0, 3)] ∧ bt128 8 = [(.iconst (-1), 0, 1), (.ireturn, 0, 1)] ∧ bt128 10 = [(.iconst 0, 0, 1), (.istore 2, 0, 1), (.iconst 0, 0, 1), (.istore 3, 0, 1), (.iconst 0, 0, 1), (.istore 4, 0, 2)] ∧ bt128 17 = [(.iload 4, 0, 2), (.iconst 2, 0, 1), (.aload 0, 0, 1), (.invokevirtual 119, 1, 3)] ∧ bt128 24 = [(.imul, 0, 1), (.if_icmp .ge 84, 0, 3)] ∧ bt128 28 = [(.aload 0, 0, 1), (.iload 1, 0, 1), (.iload 4, 0, 2), (.i2l, 0, 1), (.invokevirtual 125, 3, 3)] ∧ bt128 36 = [(.ifCond .eq 45, 0, 3)] ∧ bt128 39 = [(.iload 3, 0, 1), (.iconst 1, 0, 1), (.iadd, 0, 1), (.goto 46, 0, 3)] ∧ bt128 45 = [(.iconst 0, 0, 1)] ∧ bt128 46 = [(.istore 3, 0, 1), (.iload 2, 0, 1), (.iload 4, 0, 2), (.aload 0, 0, 1), (.invokevirtual 119, 1, 3)] ∧ bt128 54 = [(.if_icmp .lt 75, 0, 3)] ∧ bt128 57 = [(.iload 3, 0, 1), (.aload 0, 0, 1), (.getfield 9, 6, 3), (.iconst 3, 0, 1), (.iload 1, 0, 1), (.imul, 0, 1), (.iconst 2, 0, 1), (.iadd, 0, 1), (.iaload, 0, 1), (.if_icmp .lt 75, 0, 3)] ∧ bt128 71 = [(.iconst 1, 0, 1), (.goto 76, 0, 3)] ∧ bt128 75 = [(.iconst 0, 0, 1)] ∧ bt128 76 = [(.iadd, 0, 1), (.istore 2, 0, 1), (.iinc 4 1, 0, 3), (.goto 17, 0, 3)] ∧ bt128 84 = [(.iload 2, 0, 1), (.ireturn, 0, 1)] ∧ True := ⟨rfl, rfl, rfl, rfl, rfl, rfl, rfl, rfl, rfl, rfl, rfl, rfl, rfl, rfl, rfl, rfl, rfl, trivial⟩
theorem SP128 : sp128 0 = false ∧ sp128 5 = true ∧ sp128 8 = false ∧ sp128 10 = false ∧ sp128 17 = true ∧ sp128 24 = true ∧ sp128 28 = false ∧ sp128 36 = true ∧ sp128 39 = false ∧ sp128 45 = false ∧ sp128 46 = false ∧ sp128 54 = true ∧ sp128 57 = false ∧ sp128 71 = false ∧ sp128 75 = false ∧ sp128 76 = false ∧ sp128 84 = false ∧ True := ⟨rfl, rfl, rfl, rfl, rfl, rfl, rfl, rfl, rfl, rfl, rfl, rfl, rfl, rfl, rfl, rfl, rfl, trivial⟩
set_option maxRecDepth 100000 in
theorem bk128 : ∀ pc, blk 128 pc (bt128 pc) = true := fun pc => blk_if (by decide +kernel) (blk_if (by decide +kernel) (blk_if (by decide +kernel) (blk_if (by decide +kernel) (blk_if (by decide +kernel) (blk_if (by decide +kernel) (blk_if (by decide +kernel) (blk_if (by decide +kernel) (blk_if (by decide +kernel) (blk_if (by decide +kernel) (blk_if (by decide +kernel) (blk_if (by decide +kernel) (blk_if (by decide +kernel) (blk_if (by decide +kernel) (blk_if (by decide +kernel) (blk_if (by decide +kernel) (blk_if (by decide +kernel) (rfl)))))))))))))))))
theorem go128 {d mc ms : Nat} {sh : List SC} {M : MM} {Post : PP} {a0 : Nat} {a1 : Int} (h : ∀ S : Nat → KK, Clo (Run d) 128 none mc ms (Rtn 128 mc ms Post) S → S 0 [some (vR a0), some (vI a1), none, none, none] [] (sh, 0, 0) M) : Run (d + 1) 128 [vR a0, vI a1] sh M mc ms Post := ⟨Nat.le_of_ble_eq_true rfl, h⟩
theorem rt128 {v : Int} {sh : List SC} {M : MM} {Post : PP} (h : Post (some (Sum.inl v)) sh M) : Rtn 128 0 0 Post (some (Sum.inl v)) (sh, 0, 0) M := ⟨Nat.le_refl _, Nat.le_refl _, trivial, h⟩
/-! 129 OwnSundayModel.isSet -/
def bt129 (pc : Nat) : BL := if pc = 0 then [(.iload 1, 0, 1), (.i2l, 0, 1), (.ldc2_w 0, 1, 1), (.iconst 1, 0, 1), (.aload 0, 0, 1), (.getfield 4, 6, 3), (.iconst 0, 0, 1), (.iaload, 0, 1), (.ishl, 0, 1), (.iconst 1, 0, 1), (.isub, 0, 1), (.i2l, 0, 1), (.invokestatic 102, 3, 3)] else if pc = 17 then [(.ireturn, 0, 1)] else []
def sp129 (pc : Nat) : Bool := [17].contains pc
theorem BT129 : bt129 0 = [(.iload 1, 0, 1), (.i2l, 0, 1), (.ldc2_w 0, 1, 1), (.iconst 1, 0, 1), (.aload 0, 0, 1), (.getfield 4, 6, 3), (.iconst 0, 0, 1), (.iaload, 0, 1), (.ishl, 0, 1), (.iconst 1, 0, 1), (.isub, 0, 1), (.i2l, 0, 1), (.invokestatic 102, 3, 3)] ∧ bt129 17 = [(.ireturn, 0, 1)] ∧ True := ⟨rfl, rfl, trivial⟩
theorem SP129 : sp129 0 = false ∧ sp129 17 = true ∧ True := ⟨rfl, rfl, trivial⟩
set_option maxRecDepth 100000 in
theorem bk129 : ∀ pc, blk 129 pc (bt129 pc) = true := fun pc => blk_if (by decide +kernel) (blk_if (by decide +kernel) (rfl))
theorem go129 {d mc ms : Nat} {sh : List SC} {M : MM} {Post : PP} {a0 : Nat} {a1 : Int} (h : ∀ S : Nat → KK, Clo (Run d) 129 none mc ms (Rtn 129 mc ms Post) S → S 0 [some (vR a0), some (vI a1)] [] (sh, 0, 0) M) : Run (d + 1) 129 [vR a0, vI a1] sh M mc ms Post := ⟨Nat.le_of_ble_eq_true rfl, h⟩
theorem rt129 {v : Int} {sh : List SC} {M : MM} {Post : PP} (hv : v = 0 ∨ v = 1) (h : Post (some (Sum.inl v)) sh M) : Rtn 129 0 0 Post (some (Sum.inl v)) (sh, 0, 0) M := ⟨Nat.le_refl _, Nat.le_refl _, hv, h⟩
/-! 130 OwnSundayModel.areUp -/
def bt130 (pc : Nat) : BL := if pc = 0 then [(.iload 1, 0, 1), (.aload 0, 0, 1), (.lload 2, 0, 1), (.invokevirtual 120, 2, 3)] else if pc = 6 then [(.iconst (-1), 0, 1), (.ixor, 0, 1), (.iand, 0, 1), (.ifCond .ne 16, 0, 3)] else if pc = 12 then [(.iconst 1, 0, 1), (.goto 17, 0, 3)] else if pc = 16 then [(.iconst 0, 0, 1)] else if pc = 17 then [(.ireturn, 0, 1)] else []
def sp130 (pc : Nat) : Bool := [6].contains pc
theorem BT130 : bt130 0 = [(.iload 1, 0, 1), (.aload 0, 0, 1), (.lload 2, 0, 1), (.invokevirtual 120, 2, 3)] ∧ bt130 6 = [(.iconst (-1), 0, 1), (.ixor, 0, 1), (.iand, 0, 1), (.ifCond .ne 16, 0, 3)] ∧ bt130 12 = [(.iconst 1, 0, 1), (.goto 17, 0, 3)] ∧ bt130 16 = [(.iconst 0, 0, 1)] ∧ bt130 17 = [(.ireturn, 0, 1)] ∧ True := ⟨rfl, rfl, rfl, rfl, rfl, trivial⟩
theorem SP130 : sp130 0 = false ∧ sp130 6 = true ∧ sp130 12 = false ∧ sp130 16 = false ∧ sp130 17 = false ∧ True := ⟨rfl, rfl, rfl, rfl, rfl, trivial⟩
set_option maxRecDepth 100000 in
theorem bk130 : ∀ pc, blk 130 pc (bt130 pc) = true := fun pc => blk_if (by decide +kernel) (blk_if (by decide +kernel) (blk_if (by decide +kernel) (blk_if (by decide +kernel) (blk_if (by decide +kernel) (rfl)))))
theorem go130 {d mc ms : Nat} {sh : List SC} {M : MM} {Post : PP} {a0 : Nat} {a1 : Int} {a2 : Int} (h : ∀ S : Nat → KK, Clo (Run d) 130 none mc ms (Rtn 130 mc ms Post) S → S 0 [some (vR a0), some (vI a1), some (vL a2), none] [] (sh, 0, 0) M) : Run (d + 1) 130 [vR a0, vI a1, vL a2] sh M mc ms Post := ⟨Nat.le_of_ble_eq_true rfl, h⟩
theorem rt130 {v : Int} {sh : List SC} {M : MM} {Post : PP} (hv : v = 0 ∨ v = 1) (h : Post (some (Sum.inl v)) sh M) : Rtn 130 0 0 Post (some (Sum.inl v)) (sh, 0, 0) M := ⟨Nat.le_refl _, Nat.le_refl _, hv, h⟩
/-! 131 OwnSundayModel.together -/
def bt131 (pc : Nat) : BL := if pc = 0 then [(.aload 0, 0, 1), (.iload 1, 0, 1), (.invokevirtual 129, 2, 3)] else if pc = 5 then [(.ifCond .eq 15, 0, 3)] else if pc = 8 then [(.lload 2, 0, 1), (.invokestatic 115, 1, 3)] else if pc = 12 then [(.ifCond .ne 19, 0, 3)] else if pc = 15 then [(.ldc2_w 0, (-1), 3), (.lreturn, 0, 1)] else if pc = 19 then [(.lload 2, 0, 1), (.lstore 4, 0, 2)] else if pc = 22 then [(.lload 4, 0, 2), (.lload 2, 0, 1), (.aload 0, 0, 1), (.invokevirtual 119, 1, 3)] else if pc = 29 then [(.i2l, 0, 1), (.ladd, 0, 1), (.lcmp, 0, 1), (.ifCond .ge 57, 0, 3)] else if pc = 35 then [(.aload 0, 0, 1), (.iload 1, 0, 1), (.lload 4, 0, 2), (.invokevirtual 130, 3, 3)] else if pc = 42 then [(.ifCond .eq 48, 0, 3)] else if pc = 45 then [(.lload 4, 0, 2), (.lreturn, 0, 1)] else if pc = 48 then [(.lload 4, 0, 2), (.ldc2_w 0, 1, 1), (.ladd, 0, 1), (.lstore 4, 0, 2), (.goto 22, 0, 3)] else if pc = 57 then [(.ldc2_w 0, (-4), 3), (.lreturn, 0, 1)] else []
def sp131 (pc : Nat) : Bool := [5, 12, 22, 29, 42].contains pc
theorem BT131 : bt131 0 = [(.aload 0, 0, 1), (.iload 1, 0, 1), (.invokevirtual 129, 2, 3)] ∧ bt131 5 = [(.ifCond .eq 15, 0, 3)] ∧ bt131 8 = [(.lload 2, 0, 1), (.invokestatic 115, 1, 3)] ∧ bt131 12 = [(.ifCond .ne 19, 0, 3)] ∧ bt131 15 = [(.ldc2_w 0, (-1), 3), (.lreturn, 0, 1)] ∧ bt131 19 = [(.lload 2, 0, 1), (.lstore 4, 0, 2)] ∧ bt131 22 = [(.lload 4, 0, 2), (.lload 2, 0, 1), (.aload 0, 0, 1), (.invokevirtual 119, 1, 3)] ∧ bt131 29 = [(.i2l, 0, 1), (.ladd, 0, 1), (.lcmp, 0, 1), (.ifCond .ge 57, 0, 3)] ∧ bt131 35 = [(.aload 0, 0, 1), (.iload 1, 0, 1), (.lload 4, 0, 2), (.invokevirtual 130, 3, 3)] ∧ bt131 42 = [(.ifCond .eq 48, 0, 3)] ∧ bt131 45 = [(.lload 4, 0, 2), (.lreturn, 0, 1)] ∧ bt131 48 = [(.lload 4, 0, 2), (.ldc2_w 0, 1, 1), (.ladd, 0, 1), (.lstore 4, 0, 2), (.goto 22, 0, 3)] ∧ bt131 57 = [(.ldc2_w 0, (-4), 3), (.lreturn, 0, 1)] ∧ True := ⟨rfl, rfl, rfl, rfl, rfl, rfl, rfl, rfl, rfl, rfl, rfl, rfl, rfl, trivial⟩
theorem SP131 : sp131 0 = false ∧ sp131 5 = true ∧ sp131 8 = false ∧ sp131 12 = true ∧ sp131 15 = false ∧ sp131 19 = false ∧ sp131 22 = true ∧ sp131 29 = true ∧ sp131 35 = false ∧ sp131 42 = true ∧ sp131 45 = false ∧ sp131 48 = false ∧ sp131 57 = false ∧ True := ⟨rfl, rfl, rfl, rfl, rfl, rfl, rfl, rfl, rfl, rfl, rfl, rfl, rfl, trivial⟩
set_option maxRecDepth 100000 in
theorem bk131 : ∀ pc, blk 131 pc (bt131 pc) = true := fun pc => blk_if (by decide +kernel) (blk_if (by decide +kernel) (blk_if (by decide +kernel) (blk_if (by decide +kernel) (blk_if (by decide +kernel) (blk_if (by decide +kernel) (blk_if (by decide +kernel) (blk_if (by decide +kernel) (blk_if (by decide +kernel) (blk_if (by decide +kernel) (blk_if (by decide +kernel) (blk_if (by decide +kernel) (blk_if (by decide +kernel) (rfl)))))))))))))
theorem go131 {d mc ms : Nat} {sh : List SC} {M : MM} {Post : PP} {a0 : Nat} {a1 : Int} {a2 : Int} (h : ∀ S : Nat → KK, Clo (Run d) 131 none mc ms (Rtn 131 mc ms Post) S → S 0 [some (vR a0), some (vI a1), some (vL a2), none, none, none] [] (sh, 0, 0) M) : Run (d + 1) 131 [vR a0, vI a1, vL a2] sh M mc ms Post := ⟨Nat.le_of_ble_eq_true rfl, h⟩
theorem rt131 {v : Int} {sh : List SC} {M : MM} {Post : PP} (h : Post (some (Sum.inr (Sum.inl v))) sh M) : Rtn 131 0 0 Post (some (Sum.inr (Sum.inl v))) (sh, 0, 0) M := ⟨Nat.le_refl _, Nat.le_refl _, trivial, h⟩
/-! 132 OwnSundayModel.often -/
def bt132 (pc : Nat) : BL := if pc = 0 then [(.aload 0, 0, 1), (.iload 1, 0, 1), (.invokevirtual 129, 2, 3)] else if pc = 5 then [(.ifCond .eq 27, 0, 3)] else if pc = 8 then [(.lload 2, 0, 1), (.invokestatic 115, 1, 3)] else if pc = 12 then [(.ifCond .eq 27, 0, 3)] else if pc = 15 then [(.lload 4, 0, 2), (.ldc2_w 0, 0, 1), (.ldc2_w 0, 1000000000000, 3), (.invokestatic 102, 3, 3)] else if pc = 24 then [(.ifCond .ne 31, 0, 3)] else if pc = 27 then [(.ldc2_w 0, (-1), 3), (.lreturn, 0, 1)] else if pc = 31 then [(.lload 4, 0, 2), (.aload 0, 0, 1), (.invokevirtual 119, 1, 3)] else if pc = 37 then [(.i2l, 0, 1), (.ldiv, 0, 1), (.lstore 6, 0, 2), (.lload 4, 0, 2), (.aload 0, 0, 1), (.invokevirtual 119, 1, 3)] else if pc = 47 then [(.i2l, 0, 1), (.lrem, 0, 1), (.lstore 8, 0, 2), (.ldc2_w 0, 0, 1), (.lstore 10, 0, 2), (.iconst 0, 0, 1), (.istore 12, 0, 2)] else if pc = 57 then [(.iload 12, 0, 2), (.aload 0, 0, 1), (.invokevirtual 119, 1, 3)] else if pc = 63 then [(.if_icmp .ge 124, 0, 3)] else if pc = 66 then [(.aload 0, 0, 1), (.iload 1, 0, 1), (.lload 2, 0, 1), (.iload 12, 0, 2), (.i2l, 0, 1), (.ladd, 0, 1), (.invokevirtual 130, 3, 3)] else if pc = 76 then [(.istore 13, 0, 2), (.lload 10, 0, 2), (.iload 13, 0, 2), (.ifCond .eq 90, 0, 3)] else if pc = 85 then [(.lload 6, 0, 2), (.goto 91, 0, 3)] else if pc = 90 then [(.ldc2_w 0, 0, 1)] else if pc = 91 then [(.ladd, 0, 1), (.lstore 10, 0, 2), (.lload 10, 0, 2), (.iload 13, 0, 2), (.ifCond .eq 114, 0, 3)] else if pc = 101 then [(.iload 12, 0, 2), (.i2l, 0, 1), (.lload 8, 0, 2), (.lcmp, 0, 1), (.ifCond .ge 114, 0, 3)] else if pc = 110 then [(.ldc2_w 0, 1, 1), (.goto 115, 0, 3)] else if pc = 114 then [(.ldc2_w 0, 0, 1)] else if pc = 115 then [(.ladd, 0, 1), (.lstore 10, 0, 2), (.iinc 12 1, 0, 3), (.goto 57, 0, 3)] else if pc = 124 then [(.lload 10, 0, 2), (.lreturn, 0, 1)] else []
def sp132 (pc : Nat) : Bool := [5, 12, 24, 37, 47, 57, 63, 76].contains pc
theorem BT132 : bt132 0 = [(.aload 0, 0, 1), (.iload 1, 0, 1), (.invokevirtual 129, 2, 3)] ∧ bt132 5 = [(.ifCond .eq 27, 0, 3)] ∧ bt132 8 = [(.lload 2, 0, 1), (.invokestatic 115, 1, 3)] ∧ bt132 12 = [(.ifCond .eq 27, 0, 3)] ∧ bt132 15 = [(.lload 4, 0, 2), (.ldc2_w 0, 0, 1), (.ldc2_w 0, 1000000000000, 3), (.invokestatic 102, 3, 3)] ∧ bt132 24 = [(.ifCond .ne 31, 0, 3)] ∧ bt132 27 = [(.ldc2_w 0, (-1), 3), (.lreturn, 0, 1)] ∧ bt132 31 = [(.lload 4, 0, 2), (.aload 0, 0, 1), (.invokevirtual 119, 1, 3)] ∧ bt132 37 = [(.i2l, 0, 1), (.ldiv, 0, 1), (.lstore 6, 0, 2), (.lload 4, 0, 2), (.aload 0, 0, 1), (.invokevirtual 119, 1, 3)] ∧ bt132 47 = [(.i2l, 0, 1), (.lrem, 0, 1), (.lstore 8, 0, 2), (.ldc2_w 0, 0, 1), (.lstore 10, 0, 2), (.iconst 0, 0, 1), (.istore 12, 0, 2)] ∧ bt132 57 = [(.iload 12, 0, 2), (.aload 0, 0, 1), (.invokevirtual 119, 1, 3)] ∧ bt132 63 = [(.if_icmp .ge 124, 0, 3)] ∧ bt132 66 = [(.aload 0, 0, 1), (.iload 1, 0, 1), (.lload 2, 0, 1), (.iload 12, 0, 2), (.i2l, 0, 1), (.ladd, 0, 1), (.invokevirtual 130, 3, 3)] ∧ bt132 76 = [(.istore 13, 0, 2), (.lload 10, 0, 2), (.iload 13, 0, 2), (.ifCond .eq 90, 0, 3)] ∧ bt132 85 = [(.lload 6, 0, 2), (.goto 91, 0, 3)] ∧ bt132 90 = [(.ldc2_w 0, 0, 1)] ∧ bt132 91 = [(.ladd, 0, 1), (.lstore 10, 0, 2), (.lload 10, 0, 2), (.iload 13, 0, 2), (.ifCond .eq 114, 0, 3)] ∧ bt132 101 = [(.iload 12, 0, 2), (.i2l, 0, 1), (.lload 8, 0, 2), (.lcmp, 0, 1), (.ifCond .ge 114, 0, 3)] ∧ bt132 110 = [(.ldc2_w 0, 1, 1), (.goto 115, 0, 3)] ∧ bt132 114 = [(.ldc2_w 0, 0, 1)] ∧ bt132 115 = [(.ladd, 0, 1), (.lstore 10, 0, 2), (.iinc 12 1, 0, 3), (.goto 57, 0, 3)] ∧ bt132 124 = [(.lload 10, 0, 2), (.lreturn, 0, 1)] ∧ True := ⟨rfl, rfl, rfl, rfl, rfl, rfl, rfl, rfl, rfl, rfl, rfl, rfl, rfl, rfl, rfl, rfl, rfl, rfl, rfl, rfl, rfl, rfl, trivial⟩
theorem SP132 : sp132 0 = false ∧ sp132 5 = true ∧ sp132 8 = false ∧ sp132 12 = true ∧ sp132 15 = false ∧ sp132 24 = true ∧ sp132 27 = false ∧ sp132 31 = false ∧ sp132 37 = true ∧ sp132 47 = true ∧ sp132 57 = true ∧ sp132 63 = true ∧ sp132 66 = false ∧ sp132 76 = true ∧ sp132 85 = false ∧ sp132 90 = false ∧ sp132 91 = false ∧ sp132 101 = false ∧ sp132 110 = false ∧ sp132 114 = false ∧ sp132 115 = false ∧ sp132 124 = false ∧ True := ⟨rfl, rfl, rfl, rfl, rfl, rfl, rfl, rfl, rfl, rfl, rfl, rfl, rfl, rfl, rfl, rfl, rfl, rfl, rfl, rfl, rfl, rfl, trivial⟩
set_option maxRecDepth 100000 in
theorem bk132 : ∀ pc, blk 132 pc (bt132 pc) = true := fun pc => blk_if (by decide +kernel) (blk_if (by decide +kernel) (blk_if (by decide +kernel) (blk_if (by decide +kernel) (blk_if (by decide +kernel) (blk_if (by decide +kernel) (blk_if (by decide +kernel) (blk_if (by decide +kernel) (blk_if (by decide +kernel) (blk_if (by decide +kernel) (blk_if (by decide +kernel) (blk_if (by decide +kernel) (blk_if (by decide +kernel) (blk_if (by decide +kernel) (blk_if (by decide +kernel) (blk_if (by decide +kernel) (blk_if (by decide +kernel) (blk_if (by decide +kernel) (blk_if (by decide +kernel) (blk_if (by decide +kernel) (blk_if (by decide +kernel) (blk_if (by decide +kernel) (rfl))))))))))))))))))))))
theorem go132 {d mc ms : Nat} {sh : List SC} {M : MM} {Post : PP} {a0 : Nat} {a1 : Int} {a2 : Int} {a3 : Int} (h : ∀ S : Nat → KK, Clo (Run d) 132 none mc ms (Rtn 132 mc ms Post) S → S 0 [some (vR a0), some (vI a1), some (vL a2), none, some (vL a3), none, none, none, none, none, none, none, none, none] [] (sh, 0, 0) M) : Run (d + 1) 132 [vR a0, vI a1, vL a2, vL a3] sh M mc ms Post := ⟨Nat.le_of_ble_eq_true rfl, h⟩
theorem rt132 {v : Int} {sh : List SC} {M : MM} {Post : PP} (h : Post (some (Sum.inr (Sum.inl v))) sh M) : Rtn 132 0 0 Post (some (Sum.inr (Sum.inl v))) (sh, 0, 0) M := ⟨Nat.le_refl _, Nat.le_refl _, trivial, h⟩
/-! 133 OwnSundayModel.longest -/
def bt133 (pc : Nat) : BL := if pc = 0 then [(.aload 0, 0, 1), (.iload 1, 0, 1), (.invokevirtual 129, 2, 3)] else if pc = 5 then [(.ifCond .ne 10, 0, 3)] else if pc = 8 then [(.iconst (-1), 0, 1), (.ireturn, 0, 1)] else if pc = 10 then [(.iconst 0, 0, 1), (.istore 2, 0, 1), (.iconst 0, 0, 1), (.istore 3, 0, 1), (.iconst 0, 0, 1), (.istore 4, 0, 2), (.iconst 0, 0, 1), (.istore 5, 0, 2)] else if pc = 20 then [(.iload 5, 0, 2), (.iconst 2, 0, 1), (.aload 0, 0, 1), (.invokevirtual 119, 1, 3)] else if pc = 27 then [(.imul, 0, 1), (.if_icmp .ge 88, 0, 3)] else if pc = 31 then [(.aload 0, 0, 1), (.iload 1, 0, 1), (.iload 5, 0, 2), (.i2l, 0, 1), (.invokevirtual 130, 3, 3)] else if pc = 39 then [(.istore 6, 0, 2), (.iload 4, 0, 2), (.ifCond .ne 51, 0, 3)] else if pc = 46 then [(.iload 6, 0, 2), (.ifCond .eq 55, 0, 3)] else if pc = 51 then [(.iconst 1, 0, 1), (.goto 56, 0, 3)] else if pc = 55 then [(.iconst 0, 0, 1)] else if pc = 56 then [(.istore 4, 0, 2), (.iload 6, 0, 2), (.ifCond .eq 67, 0, 3)] else if pc = 63 then [(.iconst 0, 0, 1), (.goto 70, 0, 3)] else if pc = 67 then [(.iload 3, 0, 1), (.iconst 1, 0, 1), (.iadd, 0, 1)] else if pc = 70 then [(.istore 3, 0, 1), (.iload 3, 0, 1), (.iload 2, 0, 1), (.if_icmp .le 80, 0, 3)] else if pc = 76 then [(.iload 3, 0, 1), (.goto 81, 0, 3)] else if pc = 80 then [(.iload 2, 0, 1)] else if pc = 81 then [(.istore 2, 0, 1), (.iinc 5 1, 0, 3), (.goto 20, 0, 3)] else if pc = 88 then [(.iload 4, 0, 2), (.ifCond .eq 97, 0, 3)] else if pc = 93 then [(.iload 2, 0, 1), (.goto 99, 0, 3)] else if pc = 97 then [(.iconst (-4), 0, 2)] else if pc = 99 then [(.ireturn, 0, 1)] else []
def sp133 (pc : Nat) : Bool := [5, 20, 27, 39].contains pc
theorem BT133 : bt133 0 = [(.aload 0, 0, 1), (.iload 1, 0, 1), (.invokevirtual 129, 2, 3)] ∧ bt133 5 = [(.ifCond .ne 10, 0, 3)] ∧ bt133 8 = [(.iconst (-1), 0, 1), (.ireturn, 0, 1)] ∧ bt133 10 = [(.iconst 0, 0, 1), (.istore 2, 0, 1), (.iconst 0, 0, 1), (.istore 3, 0, 1), (.iconst 0, 0, 1), (.istore 4, 0, 2), (.iconst 0, 0, 1), (.istore 5, 0, 2)] ∧ bt133 20 = [(.iload 5, 0, 2), (.iconst 2, 0, 1), (.aload 0, 0, 1), (.invokevirtual 119, 1, 3)] ∧ bt133 27 = [(.imul, 0, 1), (.if_icmp .ge 88, 0, 3)] ∧ bt133 31 = [(.aload 0, 0, 1), (.iload 1, 0, 1), (.iload 5, 0, 2), (.i2l, 0, 1), (.invokevirtual 130, 3, 3)] ∧ bt133 39 = [(.istore 6, 0, 2), (.iload 4, 0, 2), (.ifCond .ne 51, 0, 3)] ∧ bt133 46 = [(.iload 6, 0, 2), (.ifCond .eq 55, 0, 3)] ∧ bt133 51 = [(.iconst 1, 0, 1), (.goto 56, 0, 3)] ∧ bt133 55 = [(.iconst 0, 0, 1)] ∧ bt133 56 = [(.istore 4, 0, 2), (.iload 6, 0, 2), (.ifCond .eq 67, 0, 3)] ∧ bt133 63 = [(.iconst 0, 0, 1), (.goto 70, 0, 3)] ∧ bt133 67 = [(.iload 3, 0, 1), (.iconst 1, 0, 1), (.iadd, 0, 1)] ∧ bt133 70 = [(.istore 3, 0, 1), (.iload 3, 0, 1), (.iload 2, 0, 1), (.if_icmp .le 80, 0, 3)] ∧ bt133 76 = [(.iload 3, 0, 1), (.goto 81, 0, 3)] ∧ bt133 80 = [(.iload 2, 0, 1)] ∧ bt133 81 = [(.istore 2, 0, 1), (.iinc 5 1, 0, 3), (.goto 20, 0, 3)] ∧ bt133 88 = [(.iload 4, 0, 2), (.ifCond .eq 97, 0, 3)] ∧ bt133 93 = [(.iload 2, 0, 1), (.goto 99, 0, 3)] ∧ bt133 97 = [(.iconst (-4), 0, 2)] ∧ bt133 99 = [(.ireturn, 0, 1)] ∧ True := ⟨rfl, rfl, rfl, rfl, rfl, rfl, rfl, rfl, rfl, rfl, rfl, rfl, rfl, rfl, rfl, rfl, rfl, rfl, rfl, rfl, rfl, rfl, trivial⟩
theorem SP133 : sp133 0 = false ∧ sp133 5 = true ∧ sp133 8 = false ∧ sp133 10 = false ∧ sp133 20 = true ∧ sp133 27 = true ∧ sp133 31 = false ∧ sp133 39 = true ∧ sp133 46 = false ∧ sp133 51 = false ∧ sp133 55 = false ∧ sp133 56 = false ∧ sp133 63 = false ∧ sp133 67 = false ∧ sp133 70 = false ∧ sp133 76 = false ∧ sp133 80 = false ∧ sp133 81 = false ∧ sp133 88 = false ∧ sp133 93 = false ∧ sp133 97 = false ∧ sp133 99 = false ∧ True := ⟨rfl, rfl, rfl, rfl, rfl, rfl, rfl, rfl, rfl, rfl, rfl, rfl, rfl, rfl, rfl, rfl, rfl, rfl, rfl, rfl, rfl, rfl, trivial⟩
set_option maxRecDepth 100000 in
theorem bk133 : ∀ pc, blk 133 pc (bt133 pc) = true := fun pc => blk_if (by decide +kernel) (blk_if (by decide +kernel) (blk_if (by decide +kernel) (blk_if (by decide +kernel) (blk_if (by decide +kernel) (blk_if (by decide +kernel) (blk_if (by decide +kernel) (blk_if (by decide +kernel) (blk_if (by decide +kernel) (blk_if (by decide +kernel) (blk_if (by decide +kernel) (blk_if (by decide +kernel) (blk_if (by decide +kernel) (blk_if (by decide +kernel) (blk_if (by decide +kernel) (blk_if (by decide +kernel) (blk_if (by decide +kernel) (blk_if (by decide +kernel) (blk_if (by decide +kernel) (blk_if (by decide +kernel) (blk_if (by decide +kernel) (blk_if (by decide +kernel) (rfl))))))))))))))))))))))
theorem go133 {d mc ms : Nat} {sh : List SC} {M : MM} {Post : PP} {a0 : Nat} {a1 : Int} (h : ∀ S : Nat → KK, Clo (Run d) 133 none mc ms (Rtn 133 mc ms Post) S → S 0 [some (vR a0), some (vI a1), none, none, none, none, none] [] (sh, 0, 0) M) : Run (d + 1) 133 [vR a0, vI a1] sh M mc ms Post := ⟨Nat.le_of_ble_eq_true rfl, h⟩
theorem rt133 {v : Int} {sh : List SC} {M : MM} {Post : PP} (h : Post (some (Sum.inl v)) sh M) : Rtn 133 0 0 Post (some (Sum.inl v)) (sh, 0, 0) M := ⟨Nat.le_refl _, Nat.le_refl _, trivial, h⟩
/-! 134 OwnSundayModel.street -/
def bt134 (pc : Nat) : BL := if pc = 0 then [(.iload 1, 0, 1), (.i2l, 0, 1), (.ldc2_w 0, 0, 1), (.ldc2_w 0, 3, 3), (.invokestatic 102, 3, 3)] else if pc = 9 then [(.ifCond .eq 19, 0, 3)] else if pc = 12 then [(.lload 2, 0, 1), (.invokestatic 115, 1, 3)] else if pc = 16 then [(.ifCond .ne 23, 0, 3)] else if pc = 19 then [(.ldc2_w 0, (-1), 3), (.lreturn, 0, 1)] else if pc = 23 then [(.iconst 0, 0, 1), (.istore 4, 0, 2), (.iconst 0, 0, 1), (.istore 5, 0, 2)] else if pc = 29 then [(.iload 5, 0, 2), (.aload 0, 0, 1), (.getfield 4, 6, 3), (.iconst 0, 0, 1), (.iaload, 0, 1), (.if_icmp .ge 74, 0, 3)] else if pc = 40 then [(.iload 4, 0, 2), (.aload 0, 0, 1), (.getfield 7, 6, 3), (.iconst 4, 0, 1), (.iload 5, 0, 2), (.imul, 0, 1), (.iconst 3, 0, 1), (.iadd, 0, 1), (.iaload, 0, 1), (.iload 1, 0, 1), (.if_icmp .ne 64, 0, 3)] else if pc = 57 then [(.iconst 1, 0, 1), (.iload 5, 0, 2), (.ishl, 0, 1), (.goto 65, 0, 3)] else if pc = 64 then [(.iconst 0, 0, 1)] else if pc = 65 then [(.ior, 0, 1), (.istore 4, 0, 2), (.iinc 5 1, 0, 3), (.goto 29, 0, 3)] else if pc = 74 then [(.lload 2, 0, 1), (.lstore 5, 0, 2)] else if pc = 77 then [(.lload 5, 0, 2), (.lload 2, 0, 1), (.aload 0, 0, 1), (.invokevirtual 119, 1, 3)] else if pc = 84 then [(.i2l, 0, 1), (.ladd, 0, 1), (.lcmp, 0, 1), (.ifCond .ge 119, 0, 3)] else if pc = 90 then [(.iload 4, 0, 2), (.ifCond .le 119, 0, 3)] else if pc = 95 then [(.iload 4, 0, 2), (.aload 0, 0, 1), (.lload 5, 0, 2), (.invokevirtual 120, 2, 3)] else if pc = 103 then [(.iand, 0, 1), (.ifCond .ne 110, 0, 3)] else if pc = 107 then [(.lload 5, 0, 2), (.lreturn, 0, 1)] else if pc = 110 then [(.lload 5, 0, 2), (.ldc2_w 0, 1, 1), (.ladd, 0, 1), (.lstore 5, 0, 2), (.goto 77, 0, 3)] else if pc = 119 then [(.ldc2_w 0, (-4), 3), (.lreturn, 0, 1)] else []
def sp134 (pc : Nat) : Bool := [9, 16, 29, 77, 84, 103].contains pc
theorem BT134 : bt134 0 = [(.iload 1, 0, 1), (.i2l, 0, 1), (.ldc2_w 0, 0, 1), (.ldc2_w 0, 3, 3), (.invokestatic 102, 3, 3)] ∧ bt134 9 = [(.ifCond .eq 19, 0, 3)] ∧ bt134 12 = [(.lload 2, 0, 1), (.invokestatic 115, 1, 3)] ∧ bt134 16 = [(.ifCond .ne 23, 0, 3)] ∧ bt134 19 = [(.ldc2_w 0, (-1), 3), (.lreturn, 0, 1)] ∧ bt134 23 = [(.iconst 0, 0, 1), (.istore 4, 0, 2), (.iconst 0, 0, 1), (.istore 5, 0, 2)] ∧ bt134 29 = [(.iload 5, 0, 2), (.aload 0, 0, 1), (.getfield 4, 6, 3), (.iconst 0, 0, 1), (.iaload, 0, 1), (.if_icmp .ge 74, 0, 3)] ∧ bt134 40 = [(.iload 4, 0, 2), (.aload 0, 0, 1), (.getfield 7, 6, 3), (.iconst 4, 0, 1), (.iload 5, 0, 2), (.imul, 0, 1), (.iconst 3, 0, 1), (.iadd, 0, 1), (.iaload, 0, 1), (.iload 1, 0, 1), (.if_icmp .ne 64, 0, 3)] ∧ bt134 57 = [(.iconst 1, 0, 1), (.iload 5, 0, 2), (.ishl, 0, 1), (.goto 65, 0, 3)] ∧ bt134 64 = [(.iconst 0, 0, 1)] ∧ bt134 65 = [(.ior, 0, 1), (.istore 4, 0, 2), (.iinc 5 1, 0, 3), (.goto 29, 0, 3)] ∧ bt134 74 = [(.lload 2, 0, 1), (.lstore 5, 0, 2)] ∧ bt134 77 = [(.lload 5, 0, 2), (.lload 2, 0, 1), (.aload 0, 0, 1), (.invokevirtual 119, 1, 3)] ∧ bt134 84 = [(.i2l, 0, 1), (.ladd, 0, 1), (.lcmp, 0, 1), (.ifCond .ge 119, 0, 3)] ∧ bt134 90 = [(.iload 4, 0, 2), (.ifCond .le 119, 0, 3)] ∧ bt134 95 = [(.iload 4, 0, 2), (.aload 0, 0, 1), (.lload 5, 0, 2), (.invokevirtual 120, 2, 3)] ∧ bt134 103 = [(.iand, 0, 1), (.ifCond .ne 110, 0, 3)] ∧ bt134 107 = [(.lload 5, 0, 2), (.lreturn, 0, 1)] ∧ bt134 110 = [(.lload 5, 0, 2), (.ldc2_w 0, 1, 1), (.ladd, 0, 1), (.lstore 5, 0, 2), (.goto 77, 0, 3)] ∧ bt134 119 = [(.ldc2_w 0, (-4), 3), (.lreturn, 0, 1)] ∧ True := ⟨rfl, rfl, rfl, rfl, rfl, rfl, rfl, rfl, rfl, rfl, rfl, rfl, rfl, rfl, rfl, rfl, rfl, rfl, rfl, rfl, trivial⟩
theorem SP134 : sp134 0 = false ∧ sp134 9 = true ∧ sp134 12 = false ∧ sp134 16 = true ∧ sp134 19 = false ∧ sp134 23 = false ∧ sp134 29 = true ∧ sp134 40 = false ∧ sp134 57 = false ∧ sp134 64 = false ∧ sp134 65 = false ∧ sp134 74 = false ∧ sp134 77 = true ∧ sp134 84 = true ∧ sp134 90 = false ∧ sp134 95 = false ∧ sp134 103 = true ∧ sp134 107 = false ∧ sp134 110 = false ∧ sp134 119 = false ∧ True := ⟨rfl, rfl, rfl, rfl, rfl, rfl, rfl, rfl, rfl, rfl, rfl, rfl, rfl, rfl, rfl, rfl, rfl, rfl, rfl, rfl, trivial⟩
set_option maxRecDepth 100000 in
theorem bk134 : ∀ pc, blk 134 pc (bt134 pc) = true := fun pc => blk_if (by decide +kernel) (blk_if (by decide +kernel) (blk_if (by decide +kernel) (blk_if (by decide +kernel) (blk_if (by decide +kernel) (blk_if (by decide +kernel) (blk_if (by decide +kernel) (blk_if (by decide +kernel) (blk_if (by decide +kernel) (blk_if (by decide +kernel) (blk_if (by decide +kernel) (blk_if (by decide +kernel) (blk_if (by decide +kernel) (blk_if (by decide +kernel) (blk_if (by decide +kernel) (blk_if (by decide +kernel) (blk_if (by decide +kernel) (blk_if (by decide +kernel) (blk_if (by decide +kernel) (blk_if (by decide +kernel) (rfl))))))))))))))))))))
theorem go134 {d mc ms : Nat} {sh : List SC} {M : MM} {Post : PP} {a0 : Nat} {a1 : Int} {a2 : Int} (h : ∀ S : Nat → KK, Clo (Run d) 134 none mc ms (Rtn 134 mc ms Post) S → S 0 [some (vR a0), some (vI a1), some (vL a2), none, none, none, none] [] (sh, 0, 0) M) : Run (d + 1) 134 [vR a0, vI a1, vL a2] sh M mc ms Post := ⟨Nat.le_of_ble_eq_true rfl, h⟩
theorem rt134 {v : Int} {sh : List SC} {M : MM} {Post : PP} (h : Post (some (Sum.inr (Sum.inl v))) sh M) : Rtn 134 0 0 Post (some (Sum.inr (Sum.inl v))) (sh, 0, 0) M := ⟨Nat.le_refl _, Nat.le_refl _, trivial, h⟩
/-! 135 OwnSundayModel.mostRest -/
def bt135 (pc : Nat) : BL := if pc = 0 then [(.iconst (-1), 0, 1), (.istore 1, 0, 1), (.iconst 0, 0, 1), (.istore 2, 0, 1)] else if pc = 4 then [(.iload 2, 0, 1), (.aload 0, 0, 1), (.invokevirtual 119, 1, 3)] else if pc = 9 then [(.if_icmp .ge 63, 0, 3)] else if pc = 12 then [(.aload 0, 0, 1), (.getfield 4, 6, 3), (.iconst 0, 0, 1), (.iaload, 0, 1), (.aload 0, 0, 1), (.iload 2, 0, 1), (.i2l, 0, 1), (.invokevirtual 120, 2, 3)] else if pc = 24 then [(.invokestatic 121, 1, 3)] else if pc = 27 then [(.isub, 0, 1), (.istore 3, 0, 1), (.aload 0, 0, 1), (.iload 3, 0, 1), (.iload 1, 0, 1), (.if_icmp .le 39, 0, 3)] else if pc = 35 then [(.iload 2, 0, 1), (.goto 43, 0, 3)] else if pc = 39 then [(.aload 0, 0, 1), (.getfield 29, 6, 3)] else if pc = 43 then [(.putfield 29, 6, 3), (.iload 3, 0, 1), (.iload 1, 0, 1), (.if_icmp .le 55, 0, 3)] else if pc = 51 then [(.iload 3, 0, 1), (.goto 56, 0, 3)] else if pc = 55 then [(.iload 1, 0, 1)] else if pc = 56 then [(.istore 1, 0, 1), (.iinc 2 1, 0, 3), (.goto 4, 0, 3)] else if pc = 63 then [(.iload 1, 0, 1), (.ireturn, 0, 1)] else []
def sp135 (pc : Nat) : Bool := [4, 9, 24, 27].contains pc
theorem BT135 : bt135 0 = [(.iconst (-1), 0, 1), (.istore 1, 0, 1), (.iconst 0, 0, 1), (.istore 2, 0, 1)] ∧ bt135 4 = [(.iload 2, 0, 1), (.aload 0, 0, 1), (.invokevirtual 119, 1, 3)] ∧ bt135 9 = [(.if_icmp .ge 63, 0, 3)] ∧ bt135 12 = [(.aload 0, 0, 1), (.getfield 4, 6, 3), (.iconst 0, 0, 1), (.iaload, 0, 1), (.aload 0, 0, 1), (.iload 2, 0, 1), (.i2l, 0, 1), (.invokevirtual 120, 2, 3)] ∧ bt135 24 = [(.invokestatic 121, 1, 3)] ∧ bt135 27 = [(.isub, 0, 1), (.istore 3, 0, 1), (.aload 0, 0, 1), (.iload 3, 0, 1), (.iload 1, 0, 1), (.if_icmp .le 39, 0, 3)] ∧ bt135 35 = [(.iload 2, 0, 1), (.goto 43, 0, 3)] ∧ bt135 39 = [(.aload 0, 0, 1), (.getfield 29, 6, 3)] ∧ bt135 43 = [(.putfield 29, 6, 3), (.iload 3, 0, 1), (.iload 1, 0, 1), (.if_icmp .le 55, 0, 3)] ∧ bt135 51 = [(.iload 3, 0, 1), (.goto 56, 0, 3)] ∧ bt135 55 = [(.iload 1, 0, 1)] ∧ bt135 56 = [(.istore 1, 0, 1), (.iinc 2 1, 0, 3), (.goto 4, 0, 3)] ∧ bt135 63 = [(.iload 1, 0, 1), (.ireturn, 0, 1)] ∧ True := ⟨rfl, rfl, rfl, rfl, rfl, rfl, rfl, rfl, rfl, rfl, rfl, rfl, rfl, trivial⟩
theorem SP135 : sp135 0 = false ∧ sp135 4 = true ∧ sp135 9 = true ∧ sp135 12 = false ∧ sp135 24 = true ∧ sp135 27 = true ∧ sp135 35 = false ∧ sp135 39 = false ∧ sp135 43 = false ∧ sp135 51 = false ∧ sp135 55 = false ∧ sp135 56 = false ∧ sp135 63 = false ∧ True := ⟨rfl, rfl, rfl, rfl, rfl, rfl, rfl, rfl, rfl, rfl, rfl, rfl, rfl, trivial⟩
set_option maxRecDepth 100000 in
theorem bk135 : ∀ pc, blk 135 pc (bt135 pc) = true := fun pc => blk_if (by decide +kernel) (blk_if (by decide +kernel) (blk_if (by decide +kernel) (blk_if (by decide +kernel) (blk_if (by decide +kernel) (blk_if (by decide +kernel) (blk_if (by decide +kernel) (blk_if (by decide +kernel) (blk_if (by decide +kernel) (blk_if (by decide +kernel) (blk_if (by decide +kernel) (blk_if (by decide +kernel) (blk_if (by decide +kernel) (rfl)))))))))))))
theorem go135 {d mc ms : Nat} {sh : List SC} {M : MM} {Post : PP} {a0 : Nat} (h : ∀ S : Nat → KK, Clo (Run d) 135 none mc ms (Rtn 135 mc ms Post) S → S 0 [some (vR a0), none, none, none] [] (sh, 0, 0) M) : Run (d + 1) 135 [vR a0] sh M mc ms Post := ⟨Nat.le_of_ble_eq_true rfl, h⟩
theorem rt135 {v : Int} {sh : List SC} {M : MM} {Post : PP} (h : Post (some (Sum.inl v)) sh M) : Rtn 135 0 0 Post (some (Sum.inl v)) (sh, 0, 0) M := ⟨Nat.le_refl _, Nat.le_refl _, trivial, h⟩
/-! 136 OwnSundayModel.same -/
def bt136 (pc : Nat) : BL := if pc = 0 then [(.iload 1, 0, 1), (.i2l, 0, 1), (.ldc2_w 0, 0, 1), (.ldc2_w 0, 1, 1), (.invokestatic 102, 3, 3)] else if pc = 7 then [(.ifCond .ne 12, 0, 3)] else if pc = 10 then [(.iconst (-1), 0, 1), (.ireturn, 0, 1)] else if pc = 12 then [(.aload 0, 0, 1), (.invokevirtual 135, 1, 3)] else if pc = 16 then [(.istore 2, 0, 1), (.iload 1, 0, 1), (.ifCond .ne 25, 0, 3)] else if pc = 21 then [(.iload 2, 0, 1), (.goto 29, 0, 3)] else if pc = 25 then [(.aload 0, 0, 1), (.getfield 29, 6, 3)] else if pc = 29 then [(.ireturn, 0, 1)] else []
def sp136 (pc : Nat) : Bool := [7, 16].contains pc
theorem BT136 : bt136 0 = [(.iload 1, 0, 1), (.i2l, 0, 1), (.ldc2_w 0, 0, 1), (.ldc2_w 0, 1, 1), (.invokestatic 102, 3, 3)] ∧ bt136 7 = [(.ifCond .ne 12, 0, 3)] ∧ bt136 10 = [(.iconst (-1), 0, 1), (.ireturn, 0, 1)] ∧ bt136 12 = [(.aload 0, 0, 1), (.invokevirtual 135, 1, 3)] ∧ bt136 16 = [(.istore 2, 0, 1), (.iload 1, 0, 1), (.ifCond .ne 25, 0, 3)] ∧ bt136 21 = [(.iload 2, 0, 1), (.goto 29, 0, 3)] ∧ bt136 25 = [(.aload 0, 0, 1), (.getfield 29, 6, 3)] ∧ bt136 29 = [(.ireturn, 0, 1)] ∧ True := ⟨rfl, rfl, rfl, rfl, rfl, rfl, rfl, rfl, trivial⟩
theorem SP136 : sp136 0 = false ∧ sp136 7 = true ∧ sp136 10 = false ∧ sp136 12 = false ∧ sp136 16 = true ∧ sp136 21 = false ∧ sp136 25 = false ∧ sp136 29 = false ∧ True := ⟨rfl, rfl, rfl, rfl, rfl, rfl, rfl, rfl, trivial⟩
set_option maxRecDepth 100000 in
theorem bk136 : ∀ pc, blk 136 pc (bt136 pc) = true := fun pc => blk_if (by decide +kernel) (blk_if (by decide +kernel) (blk_if (by decide +kernel) (blk_if (by decide +kernel) (blk_if (by decide +kernel) (blk_if (by decide +kernel) (blk_if (by decide +kernel) (blk_if (by decide +kernel) (rfl))))))))
theorem go136 {d mc ms : Nat} {sh : List SC} {M : MM} {Post : PP} {a0 : Nat} {a1 : Int} (h : ∀ S : Nat → KK, Clo (Run d) 136 none mc ms (Rtn 136 mc ms Post) S → S 0 [some (vR a0), some (vI a1), none] [] (sh, 0, 0) M) : Run (d + 1) 136 [vR a0, vI a1] sh M mc ms Post := ⟨Nat.le_of_ble_eq_true rfl, h⟩
theorem rt136 {v : Int} {sh : List SC} {M : MM} {Post : PP} (h : Post (some (Sum.inl v)) sh M) : Rtn 136 0 0 Post (some (Sum.inl v)) (sh, 0, 0) M := ⟨Nat.le_refl _, Nat.le_refl _, trivial, h⟩
/-! 137 OwnSundayModel.harvest -/
def bt137 (pc : Nat) : BL := if pc = 0 then [(.iload 1, 0, 1), (.i2l, 0, 1), (.ldc2_w 0, 0, 1), (.ldc2_w 0, 4, 3), (.invokestatic 102, 3, 3)] else if pc = 9 then [(.ifCond .eq 31, 0, 3)] else if pc = 12 then [(.lload 2, 0, 1), (.invokestatic 115, 1, 3)] else if pc = 16 then [(.ifCond .eq 31, 0, 3)] else if pc = 19 then [(.lload 4, 0, 2), (.ldc2_w 0, 1, 1), (.ldc2_w 0, 1000000000000, 3), (.invokestatic 102, 3, 3)] else if pc = 28 then [(.ifCond .ne 35, 0, 3)] else if pc = 31 then [(.ldc2_w 0, (-1), 3), (.lreturn, 0, 1)] else if pc = 35 then [(.ldc2_w 0, 0, 1), (.lstore 6, 0, 2), (.iconst 0, 0, 1), (.istore 8, 0, 2)] else if pc = 41 then [(.iload 8, 0, 2), (.aload 0, 0, 1), (.invokevirtual 119, 1, 3)] else if pc = 47 then [(.if_icmp .ge 72, 0, 3)] else if pc = 50 then [(.lload 6, 0, 2), (.aload 0, 0, 1), (.iload 1, 0, 1), (.lload 2, 0, 1), (.iload 8, 0, 2), (.i2l, 0, 1), (.ladd, 0, 1), (.invokevirtual 122, 3, 3)] else if pc = 62 then [(.i2l, 0, 1), (.ladd, 0, 1), (.lstore 6, 0, 2), (.iinc 8 1, 0, 3), (.goto 41, 0, 3)] else if pc = 72 then [(.lload 6, 0, 2), (.ldc2_w 0, 0, 1), (.lcmp, 0, 1), (.ifCond .ne 83, 0, 3)] else if pc = 79 then [(.ldc2_w 0, (-4), 3), (.lreturn, 0, 1)] else if pc = 83 then [(.lload 4, 0, 2), (.ldc2_w 0, 1, 1), (.lsub, 0, 1), (.lload 6, 0, 2), (.ldiv, 0, 1), (.aload 0, 0, 1), (.invokevirtual 119, 1, 3)] else if pc = 94 then [(.i2l, 0, 1), (.lmul, 0, 1), (.lstore 8, 0, 2), (.lload 4, 0, 2), (.lload 4, 0, 2), (.ldc2_w 0, 1, 1), (.lsub, 0, 1), (.lload 6, 0, 2), (.ldiv, 0, 1), (.lload 6, 0, 2), (.lmul, 0, 1), (.lsub, 0, 1), (.lstore 10, 0, 2)] else if pc = 113 then [(.lload 10, 0, 2), (.ldc2_w 0, 0, 1), (.lcmp, 0, 1), (.ifCond .le 144, 0, 3)] else if pc = 120 then [(.lload 10, 0, 2), (.aload 0, 0, 1), (.iload 1, 0, 1), (.lload 2, 0, 1), (.lload 8, 0, 2), (.ladd, 0, 1), (.invokevirtual 122, 3, 3)] else if pc = 131 then [(.i2l, 0, 1), (.lsub, 0, 1), (.lstore 10, 0, 2), (.lload 8, 0, 2), (.ldc2_w 0, 1, 1), (.ladd, 0, 1), (.lstore 8, 0, 2), (.goto 113, 0, 3)] else if pc = 144 then [(.lload 8, 0, 2), (.lreturn, 0, 1)] else []
def sp137 (pc : Nat) : Bool := [9, 16, 28, 41, 47, 62, 94, 113, 131].contains pc
theorem BT137 : bt137 0 = [(.iload 1, 0, 1), (.i2l, 0, 1), (.ldc2_w 0, 0, 1), (.ldc2_w 0, 4, 3), (.invokestatic 102, 3, 3)] ∧ bt137 9 = [(.ifCond .eq 31, 0, 3)] ∧ bt137 12 = [(.lload 2, 0, 1), (.invokestatic 115, 1, 3)] ∧ bt137 16 = [(.ifCond .eq 31, 0, 3)] ∧ bt137 19 = [(.lload 4, 0, 2), (.ldc2_w 0, 1, 1), (.ldc2_w 0, 1000000000000, 3), (.invokestatic 102, 3, 3)] ∧ bt137 28 = [(.ifCond .ne 35, 0, 3)] ∧ bt137 31 = [(.ldc2_w 0, (-1), 3), (.lreturn, 0, 1)] ∧ bt137 35 = [(.ldc2_w 0, 0, 1), (.lstore 6, 0, 2), (.iconst 0, 0, 1), (.istore 8, 0, 2)] ∧ bt137 41 = [(.iload 8, 0, 2), (.aload 0, 0, 1), (.invokevirtual 119, 1, 3)] ∧ bt137 47 = [(.if_icmp .ge 72, 0, 3)] ∧ bt137 50 = [(.lload 6, 0, 2), (.aload 0, 0, 1), (.iload 1, 0, 1), (.lload 2, 0, 1), (.iload 8, 0, 2), (.i2l, 0, 1), (.ladd, 0, 1), (.invokevirtual 122, 3, 3)] ∧ bt137 62 = [(.i2l, 0, 1), (.ladd, 0, 1), (.lstore 6, 0, 2), (.iinc 8 1, 0, 3), (.goto 41, 0, 3)] ∧ bt137 72 = [(.lload 6, 0, 2), (.ldc2_w 0, 0, 1), (.lcmp, 0, 1), (.ifCond .ne 83, 0, 3)] ∧ bt137 79 = [(.ldc2_w 0, (-4), 3), (.lreturn, 0, 1)] ∧ bt137 83 = [(.lload 4, 0, 2), (.ldc2_w 0, 1, 1), (.lsub, 0, 1), (.lload 6, 0, 2), (.ldiv, 0, 1), (.aload 0, 0, 1), (.invokevirtual 119, 1, 3)] ∧ bt137 94 = [(.i2l, 0, 1), (.lmul, 0, 1), (.lstore 8, 0, 2), (.lload 4, 0, 2), (.lload 4, 0, 2), (.ldc2_w 0, 1, 1), (.lsub, 0, 1), (.lload 6, 0, 2), (.ldiv, 0, 1), (.lload 6, 0, 2), (.lmul, 0, 1), (.lsub, 0, 1), (.lstore 10, 0, 2)] ∧ bt137 113 = [(.lload 10, 0, 2), (.ldc2_w 0, 0, 1), (.lcmp, 0, 1), (.ifCond .le 144, 0, 3)] ∧ bt137 120 = [(.lload 10, 0, 2), (.aload 0, 0, 1), (.iload 1, 0, 1), (.lload 2, 0, 1), (.lload 8, 0, 2), (.ladd, 0, 1), (.invokevirtual 122, 3, 3)] ∧ bt137 131 = [(.i2l, 0, 1), (.lsub, 0, 1), (.lstore 10, 0, 2), (.lload 8, 0, 2), (.ldc2_w 0, 1, 1), (.ladd, 0, 1), (.lstore 8, 0, 2), (.goto 113, 0, 3)] ∧ bt137 144 = [(.lload 8, 0, 2), (.lreturn, 0, 1)] ∧ True := ⟨rfl, rfl, rfl, rfl, rfl, rfl, rfl, rfl, rfl, rfl, rfl, rfl, rfl, rfl, rfl, rfl, rfl, rfl, rfl, rfl, trivial⟩
theorem SP137 : sp137 0 = false ∧ sp137 9 = true ∧ sp137 12 = false ∧ sp137 16 = true ∧ sp137 19 = false ∧ sp137 28 = true ∧ sp137 31 = false ∧ sp137 35 = false ∧ sp137 41 = true ∧ sp137 47 = true ∧ sp137 50 = false ∧ sp137 62 = true ∧ sp137 72 = false ∧ sp137 79 = false ∧ sp137 83 = false ∧ sp137 94 = true ∧ sp137 113 = true ∧ sp137 120 = false ∧ sp137 131 = true ∧ sp137 144 = false ∧ True := ⟨rfl, rfl, rfl, rfl, rfl, rfl, rfl, rfl, rfl, rfl, rfl, rfl, rfl, rfl, rfl, rfl, rfl, rfl, rfl, rfl, trivial⟩
set_option maxRecDepth 100000 in
theorem bk137 : ∀ pc, blk 137 pc (bt137 pc) = true := fun pc => blk_if (by decide +kernel) (blk_if (by decide +kernel) (blk_if (by decide +kernel) (blk_if (by decide +kernel) (blk_if (by decide +kernel) (blk_if (by decide +kernel) (blk_if (by decide +kernel) (blk_if (by decide +kernel) (blk_if (by decide +kernel) (blk_if (by decide +kernel) (blk_if (by decide +kernel) (blk_if (by decide +kernel) (blk_if (by decide +kernel) (blk_if (by decide +kernel) (blk_if (by decide +kernel) (blk_if (by decide +kernel) (blk_if (by decide +kernel) (blk_if (by decide +kernel) (blk_if (by decide +kernel) (blk_if (by decide +kernel) (rfl))))))))))))))))))))
theorem go137 {d mc ms : Nat} {sh : List SC} {M : MM} {Post : PP} {a0 : Nat} {a1 : Int} {a2 : Int} {a3 : Int} (h : ∀ S : Nat → KK, Clo (Run d) 137 none mc ms (Rtn 137 mc ms Post) S → S 0 [some (vR a0), some (vI a1), some (vL a2), none, some (vL a3), none, none, none, none, none, none, none] [] (sh, 0, 0) M) : Run (d + 1) 137 [vR a0, vI a1, vL a2, vL a3] sh M mc ms Post := ⟨Nat.le_of_ble_eq_true rfl, h⟩
theorem rt137 {v : Int} {sh : List SC} {M : MM} {Post : PP} (h : Post (some (Sum.inr (Sum.inl v))) sh M) : Rtn 137 0 0 Post (some (Sum.inr (Sum.inl v))) (sh, 0, 0) M := ⟨Nat.le_refl _, Nat.le_refl _, trivial, h⟩
/-! 138 OwnSundayModel.isAll -/
def bt138 (pc : Nat) : BL := if pc = 0 then [(.iconst 1, 0, 1), (.istore 1, 0, 1), (.iconst 0, 0, 1), (.istore 2, 0, 1)] else if pc = 4 then [(.iload 2, 0, 1), (.aload 0, 0, 1), (.invokevirtual 119, 1, 3)] else if pc = 9 then [(.if_icmp .ge 37, 0, 3)] else if pc = 12 then [(.iload 1, 0, 1), (.ifCond .eq 37, 0, 3)] else if pc = 16 then [(.aload 0, 0, 1), (.iload 2, 0, 1), (.i2l, 0, 1), (.invokevirtual 126, 2, 3)] else if pc = 22 then [(.ifCond .ge 29, 0, 3)] else if pc = 25 then [(.iconst 1, 0, 1), (.goto 30, 0, 3)] else if pc = 29 then [(.iconst 0, 0, 1)] else if pc = 30 then [(.istore 1, 0, 1), (.iinc 2 1, 0, 3), (.goto 4, 0, 3)] else if pc = 37 then [(.iload 1, 0, 1), (.ireturn, 0, 1)] else []
def sp138 (pc : Nat) : Bool := [4, 9, 22].contains pc
theorem BT138 : bt138 0 = [(.iconst 1, 0, 1), (.istore 1, 0, 1), (.iconst 0, 0, 1), (.istore 2, 0, 1)] ∧ bt138 4 = [(.iload 2, 0, 1), (.aload 0, 0, 1), (.invokevirtual 119, 1, 3)] ∧ bt138 9 = [(.if_icmp .ge 37, 0, 3)] ∧ bt138 12 = [(.iload 1, 0, 1), (.ifCond .eq 37, 0, 3)] ∧ bt138 16 = [(.aload 0, 0, 1), (.iload 2, 0, 1), (.i2l, 0, 1), (.invokevirtual 126, 2, 3)] ∧ bt138 22 = [(.ifCond .ge 29, 0, 3)] ∧ bt138 25 = [(.iconst 1, 0, 1), (.goto 30, 0, 3)] ∧ bt138 29 = [(.iconst 0, 0, 1)] ∧ bt138 30 = [(.istore 1, 0, 1), (.iinc 2 1, 0, 3), (.goto 4, 0, 3)] ∧ bt138 37 = [(.iload 1, 0, 1), (.ireturn, 0, 1)] ∧ True := ⟨rfl, rfl, rfl, rfl, rfl, rfl, rfl, rfl, rfl, rfl, trivial⟩
theorem SP138 : sp138 0 = false ∧ sp138 4 = true ∧ sp138 9 = true ∧ sp138 12 = false ∧ sp138 16 = false ∧ sp138 22 = true ∧ sp138 25 = false ∧ sp138 29 = false ∧ sp138 30 = false ∧ sp138 37 = false ∧ True := ⟨rfl, rfl, rfl, rfl, rfl, rfl, rfl, rfl, rfl, rfl, trivial⟩
set_option maxRecDepth 100000 in
theorem bk138 : ∀ pc, blk 138 pc (bt138 pc) = true := fun pc => blk_if (by decide +kernel) (blk_if (by decide +kernel) (blk_if (by decide +kernel) (blk_if (by decide +kernel) (blk_if (by decide +kernel) (blk_if (by decide +kernel) (blk_if (by decide +kernel) (blk_if (by decide +kernel) (blk_if (by decide +kernel) (blk_if (by decide +kernel) (rfl))))))))))
theorem go138 {d mc ms : Nat} {sh : List SC} {M : MM} {Post : PP} {a0 : Nat} (h : ∀ S : Nat → KK, Clo (Run d) 138 none mc ms (Rtn 138 mc ms Post) S → S 0 [some (vR a0), none, none] [] (sh, 0, 0) M) : Run (d + 1) 138 [vR a0] sh M mc ms Post := ⟨Nat.le_of_ble_eq_true rfl, h⟩
theorem rt138 {v : Int} {sh : List SC} {M : MM} {Post : PP} (hv : v = 0 ∨ v = 1) (h : Post (some (Sum.inl v)) sh M) : Rtn 138 0 0 Post (some (Sum.inl v)) (sh, 0, 0) M := ⟨Nat.le_refl _, Nat.le_refl _, hv, h⟩
/-! 139 OwnSundayModel.fitsSeen -/
def bt139 (pc : Nat) : BL := if pc = 0 then [(.iconst 1, 0, 1), (.istore 1, 0, 1), (.iconst 0, 0, 1), (.istore 2, 0, 1)] else if pc = 4 then [(.iload 2, 0, 1), (.aload 0, 0, 1), (.getfield 11, 6, 3), (.if_icmp .ge 53, 0, 3)] else if pc = 12 then [(.iload 1, 0, 1), (.ifCond .eq 53, 0, 3)] else if pc = 16 then [(.aload 0, 0, 1), (.aload 0, 0, 1), (.getfield 13, 6, 3), (.iload 2, 0, 1), (.iaload, 0, 1), (.aload 0, 0, 1), (.getfield 12, 6, 3), (.iload 2, 0, 1), (.laload, 0, 1), (.invokevirtual 125, 3, 3)] else if pc = 32 then [(.aload 0, 0, 1), (.getfield 14, 6, 3), (.iload 2, 0, 1), (.baload, 0, 1), (.if_icmp .eq 45, 0, 3)] else if pc = 41 then [(.iconst 1, 0, 1), (.goto 46, 0, 3)] else if pc = 45 then [(.iconst 0, 0, 1)] else if pc = 46 then [(.istore 1, 0, 1), (.iinc 2 1, 0, 3), (.goto 4, 0, 3)] else if pc = 53 then [(.iload 1, 0, 1), (.ireturn, 0, 1)] else []
def sp139 (pc : Nat) : Bool := [4, 32].contains pc
theorem BT139 : bt139 0 = [(.iconst 1, 0, 1), (.istore 1, 0, 1), (.iconst 0, 0, 1), (.istore 2, 0, 1)] ∧ bt139 4 = [(.iload 2, 0, 1), (.aload 0, 0, 1), (.getfield 11, 6, 3), (.if_icmp .ge 53, 0, 3)] ∧ bt139 12 = [(.iload 1, 0, 1), (.ifCond .eq 53, 0, 3)] ∧ bt139 16 = [(.aload 0, 0, 1), (.aload 0, 0, 1), (.getfield 13, 6, 3), (.iload 2, 0, 1), (.iaload, 0, 1), (.aload 0, 0, 1), (.getfield 12, 6, 3), (.iload 2, 0, 1), (.laload, 0, 1), (.invokevirtual 125, 3, 3)] ∧ bt139 32 = [(.aload 0, 0, 1), (.getfield 14, 6, 3), (.iload 2, 0, 1), (.baload, 0, 1), (.if_icmp .eq 45, 0, 3)] ∧ bt139 41 = [(.iconst 1, 0, 1), (.goto 46, 0, 3)] ∧ bt139 45 = [(.iconst 0, 0, 1)] ∧ bt139 46 = [(.istore 1, 0, 1), (.iinc 2 1, 0, 3), (.goto 4, 0, 3)] ∧ bt139 53 = [(.iload 1, 0, 1), (.ireturn, 0, 1)] ∧ True := ⟨rfl, rfl, rfl, rfl, rfl, rfl, rfl, rfl, rfl, trivial⟩
theorem SP139 : sp139 0 = false ∧ sp139 4 = true ∧ sp139 12 = false ∧ sp139 16 = false ∧ sp139 32 = true ∧ sp139 41 = false ∧ sp139 45 = false ∧ sp139 46 = false ∧ sp139 53 = false ∧ True := ⟨rfl, rfl, rfl, rfl, rfl, rfl, rfl, rfl, rfl, trivial⟩
set_option maxRecDepth 100000 in
theorem bk139 : ∀ pc, blk 139 pc (bt139 pc) = true := fun pc => blk_if (by decide +kernel) (blk_if (by decide +kernel) (blk_if (by decide +kernel) (blk_if (by decide +kernel) (blk_if (by decide +kernel) (blk_if (by decide +kernel) (blk_if (by decide +kernel) (blk_if (by decide +kernel) (blk_if (by decide +kernel) (rfl)))))))))
theorem go139 {d mc ms : Nat} {sh : List SC} {M : MM} {Post : PP} {a0 : Nat} (h : ∀ S : Nat → KK, Clo (Run d) 139 none mc ms (Rtn 139 mc ms Post) S → S 0 [some (vR a0), none, none] [] (sh, 0, 0) M) : Run (d + 1) 139 [vR a0] sh M mc ms Post := ⟨Nat.le_of_ble_eq_true rfl, h⟩
theorem rt139 {v : Int} {sh : List SC} {M : MM} {Post : PP} (hv : v = 0 ∨ v = 1) (h : Post (some (Sum.inl v)) sh M) : Rtn 139 0 0 Post (some (Sum.inl v)) (sh, 0, 0) M := ⟨Nat.le_refl _, Nat.le_refl _, hv, h⟩
/-! 140 OwnSundayModel.settles -/
def bt140 (pc : Nat) : BL := if pc = 0 then [(.aload 0, 0, 1), (.iconst 0, 0, 1), (.putfield 25, 6, 3), (.aload 0, 0, 1), (.iconst 100, 0, 2), (.putfield 26, 6, 3), (.iconst 1, 0, 1), (.istore 2, 0, 1), (.iconst 0, 0, 1), (.istore 3, 0, 1)] else if pc = 15 then [(.iload 3, 0, 1), (.aload 0, 0, 1), (.getfield 4, 6, 3), (.iconst 0, 0, 1), (.iaload, 0, 1), (.if_icmp .ge 75, 0, 3)] else if pc = 25 then [(.aload 0, 0, 1), (.getfield 22, 6, 3), (.iload 3, 0, 1), (.aload 0, 0, 1), (.getfield 7, 6, 3), (.iconst 4, 0, 1), (.iload 3, 0, 1), (.imul, 0, 1), (.iconst 1, 0, 1), (.iadd, 0, 1), (.iaload, 0, 1), (.iastore, 0, 1), (.aload 0, 0, 1), (.getfield 24, 6, 3), (.iload 3, 0, 1), (.iconst 0, 0, 1), (.iastore, 0, 1), (.iload 2, 0, 1), (.aload 0, 0, 1), (.getfield 10, 6, 3), (.iload 3, 0, 1), (.baload, 0, 1), (.ifCond .eq 66, 0, 3)] else if pc = 58 then [(.aload 0, 0, 1), (.iload 3, 0, 1), (.invokevirtual 117, 2, 3)] else if pc = 63 then [(.goto 67, 0, 3)] else if pc = 66 then [(.iconst 1, 0, 1)] else if pc = 67 then [(.imul, 0, 1), (.istore 2, 0, 1), (.iinc 3 1, 0, 3), (.goto 15, 0, 3)] else if pc = 75 then [(.iconst 0, 0, 1), (.istore 3, 0, 1)] else if pc = 77 then [(.iload 3, 0, 1), (.iload 2, 0, 1), (.if_icmp .ge 179, 0, 3)] else if pc = 82 then [(.iload 3, 0, 1), (.istore 4, 0, 2), (.aload 0, 0, 1), (.getfield 4, 6, 3), (.iconst 0, 0, 1), (.iaload, 0, 1), (.iconst 1, 0, 1), (.isub, 0, 1), (.istore 5, 0, 2)] else if pc = 95 then [(.iload 5, 0, 2), (.ifCond .lt 147, 0, 3)] else if pc = 100 then [(.aload 0, 0, 1), (.getfield 10, 6, 3), (.iload 5, 0, 2), (.baload, 0, 1), (.ifCond .eq 141, 0, 3)] else if pc = 110 then [(.aload 0, 0, 1), (.getfield 7, 6, 3), (.iconst 4, 0, 1), (.iload 5, 0, 2), (.imul, 0, 1), (.iconst 1, 0, 1), (.iadd, 0, 1), (.iload 4, 0, 2), (.aload 0, 0, 1), (.iload 5, 0, 2), (.invokevirtual 117, 2, 3)] else if pc = 128 then [(.irem, 0, 1), (.iastore, 0, 1), (.iload 4, 0, 2), (.aload 0, 0, 1), (.iload 5, 0, 2), (.invokevirtual 117, 2, 3)] else if pc = 138 then [(.idiv, 0, 1), (.istore 4, 0, 2)] else if pc = 141 then [(.iinc 5 (-1), 0, 3), (.goto 95, 0, 3)] else if pc = 147 then [(.iload 1, 0, 1), (.ifCond .eq 161, 0, 3)] else if pc = 151 then [(.aload 0, 0, 1), (.invokevirtual 139, 1, 3)] else if pc = 155 then [(.ifCond .eq 173, 0, 3)] else if pc = 158 then [(.goto 168, 0, 3)] else if pc = 161 then [(.aload 0, 0, 1), (.invokevirtual 138, 1, 3)] else if pc = 165 then [(.ifCond .eq 173, 0, 3)] else if pc = 168 then [(.aload 0, 0, 1), (.iload 1, 0, 1), (.invokevirtual 141, 2, 3)] else if pc = 173 then [(.iinc 3 1, 0, 3), (.goto 77, 0, 3)] else if pc = 179 then [(.iconst 0, 0, 1), (.istore 3, 0, 1)] else if pc = 181 then [(.iload 3, 0, 1), (.aload 0, 0, 1), (.getfield 4, 6, 3), (.iconst 0, 0, 1), (.iaload, 0, 1), (.if_icmp .ge 213, 0, 3)] else if pc = 191 then [(.aload 0, 0, 1), (.getfield 7, 6, 3), (.iconst 4, 0, 1), (.iload 3, 0, 1), (.imul, 0, 1), (.iconst 1, 0, 1), (.iadd, 0, 1), (.aload 0, 0, 1), (.getfield 22, 6, 3), (.iload 3, 0, 1), (.iaload, 0, 1), (.iastore, 0, 1), (.iinc 3 1, 0, 3), (.goto 181, 0, 3)] else if pc = 213 then [(.return_, 0, 1)] else []
def sp140 (pc : Nat) : Bool := [15, 63, 77, 95, 128, 138, 155, 165, 173, 181].contains pc
theorem BT140 : bt140 0 = [(.aload 0, 0, 1), (.iconst 0, 0, 1), (.putfield 25, 6, 3), (.aload 0, 0, 1), (.iconst 100, 0, 2), (.putfield 26, 6, 3), (.iconst 1, 0, 1), (.istore 2, 0, 1), (.iconst 0, 0, 1), (.istore 3, 0, 1)] ∧ bt140 15 = [(.iload 3, 0, 1), (.aload 0, 0, 1), (.getfield 4, 6, 3), (.iconst 0, 0, 1), (.iaload, 0, 1), (.if_icmp .ge 75, 0, 3)] ∧ bt140 25 = [(.aload 0, 0, 1), (.getfield 22, 6, 3), (.iload 3, 0, 1), (.aload 0, 0, 1), (.getfield 7, 6, 3), (.iconst 4, 0, 1), (.iload 3, 0, 1), (.imul, 0, 1), (.iconst 1, 0, 1), (.iadd, 0, 1), (.iaload, 0, 1), (.iastore, 0, 1), (.aload 0, 0, 1), (.getfield 24, 6, 3), (.iload 3, 0, 1), (.iconst 0, 0, 1), (.iastore, 0, 1), (.iload 2, 0, 1), (.aload 0, 0, 1), (.getfield 10, 6, 3), (.iload 3, 0, 1), (.baload, 0, 1), (.ifCond .eq 66, 0, 3)] ∧ bt140 58 = [(.aload 0, 0, 1), (.iload 3, 0, 1), (.invokevirtual 117, 2, 3)] ∧ bt140 63 = [(.goto 67, 0, 3)] ∧ bt140 66 = [(.iconst 1, 0, 1)] ∧ bt140 67 = [(.imul, 0, 1), (.istore 2, 0, 1), (.iinc 3 1, 0, 3), (.goto 15, 0, 3)] ∧ bt140 75 = [(.iconst 0, 0, 1), (.istore 3, 0, 1)] ∧ bt140 77 = [(.iload 3, 0, 1), (.iload 2, 0, 1), (.if_icmp .ge 179, 0, 3)] ∧ bt140 82 = [(.iload 3, 0, 1), (.istore 4, 0, 2), (.aload 0, 0, 1), (.getfield 4, 6, 3), (.iconst 0, 0, 1), (.iaload, 0, 1), (.iconst 1, 0, 1), (.isub, 0, 1), (.istore 5, 0, 2)] ∧ bt140 95 = [(.iload 5, 0, 2), (.ifCond .lt 147, 0, 3)] ∧ bt140 100 = [(.aload 0, 0, 1), (.getfield 10, 6, 3), (.iload 5, 0, 2), (.baload, 0, 1), (.ifCond .eq 141, 0, 3)] ∧ bt140 110 = [(.aload 0, 0, 1), (.getfield 7, 6, 3), (.iconst 4, 0, 1), (.iload 5, 0, 2), (.imul, 0, 1), (.iconst 1, 0, 1), (.iadd, 0, 1), (.iload 4, 0, 2), (.aload 0, 0, 1), (.iload 5, 0, 2), (.invokevirtual 117, 2, 3)] ∧ bt140 128 = [(.irem, 0, 1), (.iastore, 0, 1), (.iload 4, 0, 2), (.aload 0, 0, 1), (.iload 5, 0, 2), (.invokevirtual 117, 2, 3)] ∧ bt140 138 = [(.idiv, 0, 1), (.istore 4, 0, 2)] ∧ bt140 141 = [(.iinc 5 (-1), 0, 3), (.goto 95, 0, 3)] ∧ bt140 147 = [(.iload 1, 0, 1), (.ifCond .eq 161, 0, 3)] ∧ bt140 151 = [(.aload 0, 0, 1), (.invokevirtual 139, 1, 3)] ∧ bt140 155 = [(.ifCond .eq 173, 0, 3)] ∧ bt140 158 = [(.goto 168, 0, 3)] ∧ bt140 161 = [(.aload 0, 0, 1), (.invokevirtual 138, 1, 3)] ∧ bt140 165 = [(.ifCond .eq 173, 0, 3)] ∧ bt140 168 = [(.aload 0, 0, 1), (.iload 1, 0, 1), (.invokevirtual 141, 2, 3)] ∧ bt140 173 = [(.iinc 3 1, 0, 3), (.goto 77, 0, 3)] ∧ bt140 179 = [(.iconst 0, 0, 1), (.istore 3, 0, 1)] ∧ bt140 181 = [(.iload 3, 0, 1), (.aload 0, 0, 1), (.getfield 4, 6, 3), (.iconst 0, 0, 1), (.iaload, 0, 1), (.if_icmp .ge 213, 0, 3)] ∧ bt140 191 = [(.aload 0, 0, 1), (.getfield 7, 6, 3), (.iconst 4, 0, 1), (.iload 3, 0, 1), (.imul, 0, 1), (.iconst 1, 0, 1), (.iadd, 0, 1), (.aload 0, 0, 1), (.getfield 22, 6, 3), (.iload 3, 0, 1), (.iaload, 0, 1), (.iastore, 0, 1), (.iinc 3 1, 0, 3), (.goto 181, 0, 3)] ∧ bt140 213 = [(.return_, 0, 1)] ∧ True := ⟨rfl, rfl, rfl, rfl, rfl, rfl, rfl, rfl, rfl, rfl, rfl, rfl, rfl, rfl, rfl, rfl, rfl, rfl, rfl, rfl, rfl, rfl, rfl, rfl, rfl, rfl, rfl, rfl, trivial⟩
theorem SP140 : sp140 0 = false ∧ sp140 15 = true ∧ sp140 25 = false ∧ sp140 58 = false ∧ sp140 63 = true ∧ sp140 66 = false ∧ sp140 67 = false ∧ sp140 75 = false ∧ sp140 77 = true ∧ sp140 82 = false ∧ sp140 95 = true ∧ sp140 100 = false ∧ sp140 110 = false ∧ sp140 128 = true ∧ sp140 138 = true ∧ sp140 141 = false ∧ sp140 147 = false ∧ sp140 151 = false ∧ sp140 155 = true ∧ sp140 158 = false ∧ sp140 161 = false ∧ sp140 165 = true ∧ sp140 168 = false ∧ sp140 173 = true ∧ sp140 179 = false ∧ sp140 181 = true ∧ sp140 191 = false ∧ sp140 213 = false ∧ True := ⟨rfl, rfl, rfl, rfl, rfl, rfl, rfl, rfl, rfl, rfl, rfl, rfl, rfl, rfl, rfl, rfl, rfl, rfl, rfl, rfl, rfl, rfl, rfl, rfl, rfl, rfl, rfl, rfl, trivial⟩
set_option maxRecDepth 100000 in
theorem bk140 : ∀ pc, blk 140 pc (bt140 pc) = true := fun pc => blk_if (by decide +kernel) (blk_if (by decide +kernel) (blk_if (by decide +kernel) (blk_if (by decide +kernel) (blk_if (by decide +kernel) (blk_if (by decide +kernel) (blk_if (by decide +kernel) (blk_if (by decide +kernel) (blk_if (by decide +kernel) (blk_if (by decide +kernel) (blk_if (by decide +kernel) (blk_if (by decide +kernel) (blk_if (by decide +kernel) (blk_if (by decide +kernel) (blk_if (by decide +kernel) (blk_if (by decide +kernel) (blk_if (by decide +kernel) (blk_if (by decide +kernel) (blk_if (by decide +kernel) (blk_if (by decide +kernel) (blk_if (by decide +kernel) (blk_if (by decide +kernel) (blk_if (by decide +kernel) (blk_if (by decide +kernel) (blk_if (by decide +kernel) (blk_if (by decide +kernel) (blk_if (by decide +kernel) (blk_if (by decide +kernel) (rfl))))))))))))))))))))))))))))
theorem go140 {d mc ms : Nat} {sh : List SC} {M : MM} {Post : PP} {a0 : Nat} {a1 : Int} (h : ∀ S : Nat → KK, Clo (Run d) 140 none mc ms (Rtn 140 mc ms Post) S → S 0 [some (vR a0), some (vI a1), none, none, none, none] [] (sh, 0, 0) M) : Run (d + 1) 140 [vR a0, vI a1] sh M mc ms Post := ⟨Nat.le_of_ble_eq_true rfl, h⟩
theorem rt140 {mc ms : Nat} {Z : ZZ} {M : MM} {Post : PP} (h1 : Z.2.1 ≤ mc) (h2 : Z.2.2 ≤ ms) (h : Post none Z.1 M) : Rtn 140 mc ms Post none Z M := ⟨h1, h2, trivial, h⟩
/-! 141 OwnSundayModel.counts -/
def bt141 (pc : Nat) : BL := if pc = 0 then [(.iload 1, 0, 1), (.ifCond .eq 8, 0, 3)] else if pc = 4 then [(.iconst 0, 0, 1), (.goto 12, 0, 3)] else if pc = 8 then [(.aload 0, 0, 1), (.invokevirtual 135, 1, 3)] else if pc = 12 then [(.istore 2, 0, 1), (.aload 0, 0, 1), (.getfield 25, 6, 3), (.ifCond .eq 28, 0, 3)] else if pc = 20 then [(.iload 2, 0, 1), (.aload 0, 0, 1), (.getfield 26, 6, 3), (.if_icmp .ge 32, 0, 3)] else if pc = 28 then [(.iconst 1, 0, 1), (.goto 33, 0, 3)] else if pc = 32 then [(.iconst 0, 0, 1)] else if pc = 33 then [(.istore 3, 0, 1), (.aload 0, 0, 1), (.dup, 0, 1), (.getfield 25, 6, 3), (.iconst 1, 0, 1), (.iadd, 0, 1), (.putfield 25, 6, 3), (.aload 0, 0, 1), (.iload 3, 0, 1), (.ifCond .eq 53, 0, 3)] else if pc = 49 then [(.iload 2, 0, 1), (.goto 57, 0, 3)] else if pc = 53 then [(.aload 0, 0, 1), (.getfield 26, 6, 3)] else if pc = 57 then [(.putfield 26, 6, 3), (.iconst 0, 0, 1), (.istore 4, 0, 2)] else if pc = 63 then [(.iload 4, 0, 2), (.aload 0, 0, 1), (.getfield 4, 6, 3), (.iconst 0, 0, 1), (.iaload, 0, 1), (.if_icmp .ge 135, 0, 3)] else if pc = 74 then [(.aload 0, 0, 1), (.getfield 23, 6, 3), (.iload 4, 0, 2), (.iload 3, 0, 1), (.ifCond .eq 98, 0, 3)] else if pc = 84 then [(.aload 0, 0, 1), (.getfield 7, 6, 3), (.iconst 4, 0, 1), (.iload 4, 0, 2), (.imul, 0, 1), (.iconst 1, 0, 1), (.iadd, 0, 1), (.iaload, 0, 1), (.goto 105, 0, 3)] else if pc = 98 then [(.aload 0, 0, 1), (.getfield 23, 6, 3), (.iload 4, 0, 2), (.iaload, 0, 1)] else if pc = 105 then [(.iastore, 0, 1), (.aload 0, 0, 1), (.getfield 24, 6, 3), (.iload 4, 0, 2), (.dup2, 0, 1), (.iaload, 0, 1), (.iconst 1, 0, 1), (.aload 0, 0, 1), (.getfield 7, 6, 3), (.iconst 4, 0, 1), (.iload 4, 0, 2), (.imul, 0, 1), (.iconst 1, 0, 1), (.iadd, 0, 1), (.iaload, 0, 1), (.ishl, 0, 1), (.ior, 0, 1), (.iastore, 0, 1), (.iinc 4 1, 0, 3), (.goto 63, 0, 3)] else if pc = 135 then [(.return_, 0, 1)] else []
def sp141 (pc : Nat) : Bool := [12, 63].contains pc
theorem BT141 : bt141 0 = [(.iload 1, 0, 1), (.ifCond .eq 8, 0, 3)] ∧ bt141 4 = [(.iconst 0, 0, 1), (.goto 12, 0, 3)] ∧ bt141 8 = [(.aload 0, 0, 1), (.invokevirtual 135, 1, 3)] ∧ bt141 12 = [(.istore 2, 0, 1), (.aload 0, 0, 1), (.getfield 25, 6, 3), (.ifCond .eq 28, 0, 3)] ∧ bt141 20 = [(.iload 2, 0, 1), (.aload 0, 0, 1), (.getfield 26, 6, 3), (.if_icmp .ge 32, 0, 3)] ∧ bt141 28 = [(.iconst 1, 0, 1), (.goto 33, 0, 3)] ∧ bt141 32 = [(.iconst 0, 0, 1)] ∧ bt141 33 = [(.istore 3, 0, 1), (.aload 0, 0, 1), (.dup, 0, 1), (.getfield 25, 6, 3), (.iconst 1, 0, 1), (.iadd, 0, 1), (.putfield 25, 6, 3), (.aload 0, 0, 1), (.iload 3, 0, 1), (.ifCond .eq 53, 0, 3)] ∧ bt141 49 = [(.iload 2, 0, 1), (.goto 57, 0, 3)] ∧ bt141 53 = [(.aload 0, 0, 1), (.getfield 26, 6, 3)] ∧ bt141 57 = [(.putfield 26, 6, 3), (.iconst 0, 0, 1), (.istore 4, 0, 2)] ∧ bt141 63 = [(.iload 4, 0, 2), (.aload 0, 0, 1), (.getfield 4, 6, 3), (.iconst 0, 0, 1), (.iaload, 0, 1), (.if_icmp .ge 135, 0, 3)] ∧ bt141 74 = [(.aload 0, 0, 1), (.getfield 23, 6, 3), (.iload 4, 0, 2), (.iload 3, 0, 1), (.ifCond .eq 98, 0, 3)] ∧ bt141 84 = [(.aload 0, 0, 1), (.getfield 7, 6, 3), (.iconst 4, 0, 1), (.iload 4, 0, 2), (.imul, 0, 1), (.iconst 1, 0, 1), (.iadd, 0, 1), (.iaload, 0, 1), (.goto 105, 0, 3)] ∧ bt141 98 = [(.aload 0, 0, 1), (.getfield 23, 6, 3), (.iload 4, 0, 2), (.iaload, 0, 1)] ∧ bt141 105 = [(.iastore, 0, 1), (.aload 0, 0, 1), (.getfield 24, 6, 3), (.iload 4, 0, 2), (.dup2, 0, 1), (.iaload, 0, 1), (.iconst 1, 0, 1), (.aload 0, 0, 1), (.getfield 7, 6, 3), (.iconst 4, 0, 1), (.iload 4, 0, 2), (.imul, 0, 1), (.iconst 1, 0, 1), (.iadd, 0, 1), (.iaload, 0, 1), (.ishl, 0, 1), (.ior, 0, 1), (.iastore, 0, 1), (.iinc 4 1, 0, 3), (.goto 63, 0, 3)] ∧ bt141 135 = [(.return_, 0, 1)] ∧ True := ⟨rfl, rfl, rfl, rfl, rfl, rfl, rfl, rfl, rfl, rfl, rfl, rfl, rfl, rfl, rfl, rfl, rfl, trivial⟩
theorem SP141 : sp141 0 = false ∧ sp141 4 = false ∧ sp141 8 = false ∧ sp141 12 = true ∧ sp141 20 = false ∧ sp141 28 = false ∧ sp141 32 = false ∧ sp141 33 = false ∧ sp141 49 = false ∧ sp141 53 = false ∧ sp141 57 = false ∧ sp141 63 = true ∧ sp141 74 = false ∧ sp141 84 = false ∧ sp141 98 = false ∧ sp141 105 = false ∧ sp141 135 = false ∧ True := ⟨rfl, rfl, rfl, rfl, rfl, rfl, rfl, rfl, rfl, rfl, rfl, rfl, rfl, rfl, rfl, rfl, rfl, trivial⟩
set_option maxRecDepth 100000 in
theorem bk141 : ∀ pc, blk 141 pc (bt141 pc) = true := fun pc => blk_if (by decide +kernel) (blk_if (by decide +kernel) (blk_if (by decide +kernel) (blk_if (by decide +kernel) (blk_if (by decide +kernel) (blk_if (by decide +kernel) (blk_if (by decide +kernel) (blk_if (by decide +kernel) (blk_if (by decide +kernel) (blk_if (by decide +kernel) (blk_if (by decide +kernel) (blk_if (by decide +kernel) (blk_if (by decide +kernel) (blk_if (by decide +kernel) (blk_if (by decide +kernel) (blk_if (by decide +kernel) (blk_if (by decide +kernel) (rfl)))))))))))))))))
theorem go141 {d mc ms : Nat} {sh : List SC} {M : MM} {Post : PP} {a0 : Nat} {a1 : Int} (h : ∀ S : Nat → KK, Clo (Run d) 141 none mc ms (Rtn 141 mc ms Post) S → S 0 [some (vR a0), some (vI a1), none, none, none] [] (sh, 0, 0) M) : Run (d + 1) 141 [vR a0, vI a1] sh M mc ms Post := ⟨Nat.le_of_ble_eq_true rfl, h⟩
theorem rt141 {mc ms : Nat} {Z : ZZ} {M : MM} {Post : PP} (h1 : Z.2.1 ≤ mc) (h2 : Z.2.2 ≤ ms) (h : Post none Z.1 M) : Rtn 141 mc ms Post none Z M := ⟨h1, h2, trivial, h⟩
/-! 142 OwnSundayModel.settled -/
def bt142 (pc : Nat) : BL := if pc = 0 then [(.iload 1, 0, 1), (.i2l, 0, 1), (.ldc2_w 0, (-2), 3), (.aload 0, 0, 1), (.getfield 4, 6, 3), (.iconst 0, 0, 1), (.iaload, 0, 1), (.iconst 1, 0, 1), (.isub, 0, 1), (.i2l, 0, 1), (.invokestatic 102, 3, 3)] else if pc = 17 then [(.ifCond .eq 33, 0, 3)] else if pc = 20 then [(.iload 1, 0, 1), (.ifCond .lt 35, 0, 3)] else if pc = 24 then [(.aload 0, 0, 1), (.getfield 10, 6, 3), (.iload 1, 0, 1), (.baload, 0, 1), (.ifCond .ne 35, 0, 3)] else if pc = 33 then [(.iconst (-1), 0, 1), (.ireturn, 0, 1)] else if pc = 35 then [(.aload 0, 0, 1), (.iconst 0, 0, 1), (.invokevirtual 140, 2, 3)] else if pc = 40 then [(.iload 1, 0, 1), (.iconst (-1), 0, 1), (.if_icmp .ne 52, 0, 3)] else if pc = 45 then [(.aload 0, 0, 1), (.getfield 25, 6, 3), (.goto 83, 0, 3)] else if pc = 52 then [(.aload 0, 0, 1), (.getfield 25, 6, 3), (.ifCond .ne 64, 0, 3)] else if pc = 59 then [(.iconst (-4), 0, 2), (.goto 83, 0, 3)] else if pc = 64 then [(.iload 1, 0, 1), (.iconst (-2), 0, 2), (.if_icmp .ne 77, 0, 3)] else if pc = 70 then [(.aload 0, 0, 1), (.getfield 26, 6, 3), (.goto 83, 0, 3)] else if pc = 77 then [(.aload 0, 0, 1), (.getfield 23, 6, 3), (.iload 1, 0, 1), (.iaload, 0, 1)] else if pc = 83 then [(.ireturn, 0, 1)] else []
def sp142 (pc : Nat) : Bool := [17, 40].contains pc
theorem BT142 : bt142 0 = [(.iload 1, 0, 1), (.i2l, 0, 1), (.ldc2_w 0, (-2), 3), (.aload 0, 0, 1), (.getfield 4, 6, 3), (.iconst 0, 0, 1), (.iaload, 0, 1), (.iconst 1, 0, 1), (.isub, 0, 1), (.i2l, 0, 1), (.invokestatic 102, 3, 3)] ∧ bt142 17 = [(.ifCond .eq 33, 0, 3)] ∧ bt142 20 = [(.iload 1, 0, 1), (.ifCond .lt 35, 0, 3)] ∧ bt142 24 = [(.aload 0, 0, 1), (.getfield 10, 6, 3), (.iload 1, 0, 1), (.baload, 0, 1), (.ifCond .ne 35, 0, 3)] ∧ bt142 33 = [(.iconst (-1), 0, 1), (.ireturn, 0, 1)] ∧ bt142 35 = [(.aload 0, 0, 1), (.iconst 0, 0, 1), (.invokevirtual 140, 2, 3)] ∧ bt142 40 = [(.iload 1, 0, 1), (.iconst (-1), 0, 1), (.if_icmp .ne 52, 0, 3)] ∧ bt142 45 = [(.aload 0, 0, 1), (.getfield 25, 6, 3), (.goto 83, 0, 3)] ∧ bt142 52 = [(.aload 0, 0, 1), (.getfield 25, 6, 3), (.ifCond .ne 64, 0, 3)] ∧ bt142 59 = [(.iconst (-4), 0, 2), (.goto 83, 0, 3)] ∧ bt142 64 = [(.iload 1, 0, 1), (.iconst (-2), 0, 2), (.if_icmp .ne 77, 0, 3)] ∧ bt142 70 = [(.aload 0, 0, 1), (.getfield 26, 6, 3), (.goto 83, 0, 3)] ∧ bt142 77 = [(.aload 0, 0, 1), (.getfield 23, 6, 3), (.iload 1, 0, 1), (.iaload, 0, 1)] ∧ bt142 83 = [(.ireturn, 0, 1)] ∧ True := ⟨rfl, rfl, rfl, rfl, rfl, rfl, rfl, rfl, rfl, rfl, rfl, rfl, rfl, rfl, trivial⟩
theorem SP142 : sp142 0 = false ∧ sp142 17 = true ∧ sp142 20 = false ∧ sp142 24 = false ∧ sp142 33 = false ∧ sp142 35 = false ∧ sp142 40 = true ∧ sp142 45 = false ∧ sp142 52 = false ∧ sp142 59 = false ∧ sp142 64 = false ∧ sp142 70 = false ∧ sp142 77 = false ∧ sp142 83 = false ∧ True := ⟨rfl, rfl, rfl, rfl, rfl, rfl, rfl, rfl, rfl, rfl, rfl, rfl, rfl, rfl, trivial⟩
set_option maxRecDepth 100000 in
theorem bk142 : ∀ pc, blk 142 pc (bt142 pc) = true := fun pc => blk_if (by decide +kernel) (blk_if (by decide +kernel) (blk_if (by decide +kernel) (blk_if (by decide +kernel) (blk_if (by decide +kernel) (blk_if (by decide +kernel) (blk_if (by decide +kernel) (blk_if (by decide +kernel) (blk_if (by decide +kernel) (blk_if (by decide +kernel) (blk_if (by decide +kernel) (blk_if (by decide +kernel) (blk_if (by decide +kernel) (blk_if (by decide +kernel) (rfl))))))))))))))
theorem go142 {d mc ms : Nat} {sh : List SC} {M : MM} {Post : PP} {a0 : Nat} {a1 : Int} (h : ∀ S : Nat → KK, Clo (Run d) 142 none mc ms (Rtn 142 mc ms Post) S → S 0 [some (vR a0), some (vI a1)] [] (sh, 0, 0) M) : Run (d + 1) 142 [vR a0, vI a1] sh M mc ms Post := ⟨Nat.le_of_ble_eq_true rfl, h⟩
theorem rt142 {v : Int} {sh : List SC} {M : MM} {Post : PP} (h : Post (some (Sum.inl v)) sh M) : Rtn 142 0 0 Post (some (Sum.inl v)) (sh, 0, 0) M := ⟨Nat.le_refl _, Nat.le_refl _, trivial, h⟩
/-! 143 OwnSundayModel.goesOn -/
def bt143 (pc : Nat) : BL := if pc = 0 then [(.iconst 1, 0, 1), (.istore 2, 0, 1), (.iconst 0, 0, 1), (.istore 3, 0, 1)] else if pc = 4 then [(.iload 3, 0, 1), (.aload 0, 0, 1), (.invokevirtual 119, 1, 3)] else if pc = 9 then [(.if_icmp .ge 38, 0, 3)] else if pc = 12 then [(.iload 2, 0, 1), (.ifCond .eq 38, 0, 3)] else if pc = 16 then [(.aload 0, 0, 1), (.iload 1, 0, 1), (.iload 3, 0, 1), (.i2l, 0, 1), (.invokevirtual 125, 3, 3)] else if pc = 23 then [(.ifCond .ne 30, 0, 3)] else if pc = 26 then [(.iconst 1, 0, 1), (.goto 31, 0, 3)] else if pc = 30 then [(.iconst 0, 0, 1)] else if pc = 31 then [(.istore 2, 0, 1), (.iinc 3 1, 0, 3), (.goto 4, 0, 3)] else if pc = 38 then [(.iload 2, 0, 1), (.ireturn, 0, 1)] else []
def sp143 (pc : Nat) : Bool := [4, 9, 23].contains pc
theorem BT143 : bt143 0 = [(.iconst 1, 0, 1), (.istore 2, 0, 1), (.iconst 0, 0, 1), (.istore 3, 0, 1)] ∧ bt143 4 = [(.iload 3, 0, 1), (.aload 0, 0, 1), (.invokevirtual 119, 1, 3)] ∧ bt143 9 = [(.if_icmp .ge 38, 0, 3)] ∧ bt143 12 = [(.iload 2, 0, 1), (.ifCond .eq 38, 0, 3)] ∧ bt143 16 = [(.aload 0, 0, 1), (.iload 1, 0, 1), (.iload 3, 0, 1), (.i2l, 0, 1), (.invokevirtual 125, 3, 3)] ∧ bt143 23 = [(.ifCond .ne 30, 0, 3)] ∧ bt143 26 = [(.iconst 1, 0, 1), (.goto 31, 0, 3)] ∧ bt143 30 = [(.iconst 0, 0, 1)] ∧ bt143 31 = [(.istore 2, 0, 1), (.iinc 3 1, 0, 3), (.goto 4, 0, 3)] ∧ bt143 38 = [(.iload 2, 0, 1), (.ireturn, 0, 1)] ∧ True := ⟨rfl, rfl, rfl, rfl, rfl, rfl, rfl, rfl, rfl, rfl, trivial⟩
theorem SP143 : sp143 0 = false ∧ sp143 4 = true ∧ sp143 9 = true ∧ sp143 12 = false ∧ sp143 16 = false ∧ sp143 23 = true ∧ sp143 26 = false ∧ sp143 30 = false ∧ sp143 31 = false ∧ sp143 38 = false ∧ True := ⟨rfl, rfl, rfl, rfl, rfl, rfl, rfl, rfl, rfl, rfl, trivial⟩
set_option maxRecDepth 100000 in
theorem bk143 : ∀ pc, blk 143 pc (bt143 pc) = true := fun pc => blk_if (by decide +kernel) (blk_if (by decide +kernel) (blk_if (by decide +kernel) (blk_if (by decide +kernel) (blk_if (by decide +kernel) (blk_if (by decide +kernel) (blk_if (by decide +kernel) (blk_if (by decide +kernel) (blk_if (by decide +kernel) (blk_if (by decide +kernel) (rfl))))))))))
theorem go143 {d mc ms : Nat} {sh : List SC} {M : MM} {Post : PP} {a0 : Nat} {a1 : Int} (h : ∀ S : Nat → KK, Clo (Run d) 143 none mc ms (Rtn 143 mc ms Post) S → S 0 [some (vR a0), some (vI a1), none, none] [] (sh, 0, 0) M) : Run (d + 1) 143 [vR a0, vI a1] sh M mc ms Post := ⟨Nat.le_of_ble_eq_true rfl, h⟩
theorem rt143 {v : Int} {sh : List SC} {M : MM} {Post : PP} (hv : v = 0 ∨ v = 1) (h : Post (some (Sum.inl v)) sh M) : Rtn 143 0 0 Post (some (Sum.inl v)) (sh, 0, 0) M := ⟨Nat.le_refl _, Nat.le_refl _, hv, h⟩
/-! 144 OwnSundayModel.changesOne -/
def bt144 (pc : Nat) : BL := if pc = 0 then [(.iload 2, 0, 1), (.istore 4, 0, 2)] else if pc = 3 then [(.iload 4, 0, 2), (.aload 0, 0, 1), (.getfield 4, 6, 3), (.iconst 0, 0, 1), (.iaload, 0, 1), (.if_icmp .ge 126, 0, 3)] else if pc = 14 then [(.aload 0, 0, 1), (.getfield 7, 6, 3), (.iconst 4, 0, 1), (.iload 4, 0, 2), (.imul, 0, 1), (.iconst 1, 0, 1), (.iadd, 0, 1), (.iaload, 0, 1), (.istore 5, 0, 2), (.iconst 0, 0, 1), (.istore 6, 0, 2)] else if pc = 30 then [(.iload 6, 0, 2), (.aload 0, 0, 1), (.iload 4, 0, 2), (.invokevirtual 117, 2, 3)] else if pc = 38 then [(.if_icmp .ge 120, 0, 3)] else if pc = 41 then [(.aload 0, 0, 1), (.getfield 7, 6, 3), (.iconst 4, 0, 1), (.iload 4, 0, 2), (.imul, 0, 1), (.iconst 1, 0, 1), (.iadd, 0, 1), (.iload 6, 0, 2), (.iastore, 0, 1), (.iload 6, 0, 2), (.iload 5, 0, 2), (.if_icmp .eq 73, 0, 3)] else if pc = 61 then [(.aload 0, 0, 1), (.iload 1, 0, 1), (.invokevirtual 143, 2, 3)] else if pc = 66 then [(.ifCond .eq 73, 0, 3)] else if pc = 69 then [(.iconst 1, 0, 1), (.goto 74, 0, 3)] else if pc = 73 then [(.iconst 0, 0, 1)] else if pc = 74 then [(.istore 7, 0, 2), (.aload 0, 0, 1), (.getfield 7, 6, 3), (.iconst 4, 0, 1), (.iload 4, 0, 2), (.imul, 0, 1), (.iconst 1, 0, 1), (.iadd, 0, 1), (.iload 5, 0, 2), (.iastore, 0, 1), (.iload 7, 0, 2), (.ifCond .eq 114, 0, 3)] else if pc = 94 then [(.aload 0, 0, 1), (.getfield 27, 6, 3), (.iload 3, 0, 1), (.iload 4, 0, 2), (.iastore, 0, 1), (.aload 0, 0, 1), (.getfield 27, 6, 3), (.iload 3, 0, 1), (.iconst 1, 0, 1), (.iadd, 0, 1), (.iload 6, 0, 2), (.iastore, 0, 1), (.iconst 1, 0, 1), (.ireturn, 0, 1)] else if pc = 114 then [(.iinc 6 1, 0, 3), (.goto 30, 0, 3)] else if pc = 120 then [(.iinc 4 1, 0, 3), (.goto 3, 0, 3)] else if pc = 126 then [(.iconst 0, 0, 1), (.ireturn, 0, 1)] else []
def sp144 (pc : Nat) : Bool := [3, 30, 38, 66].contains pc
theorem BT144 : bt144 0 = [(.iload 2, 0, 1), (.istore 4, 0, 2)] ∧ bt144 3 = [(.iload 4, 0, 2), (.aload 0, 0, 1), (.getfield 4, 6, 3), (.iconst 0, 0, 1), (.iaload, 0, 1), (.if_icmp .ge 126, 0, 3)] ∧ bt144 14 = [(.aload 0, 0, 1), (.getfield 7, 6, 3), (.iconst 4, 0, 1), (.iload 4, 0, 2), (.imul, 0, 1), (.iconst 1, 0, 1), (.iadd, 0, 1), (.iaload, 0, 1), (.istore 5, 0, 2), (.iconst 0, 0, 1), (.istore 6, 0, 2)] ∧ bt144 30 = [(.iload 6, 0, 2), (.aload 0, 0, 1), (.iload 4, 0, 2), (.invokevirtual 117, 2, 3)] ∧ bt144 38 = [(.if_icmp .ge 120, 0, 3)] ∧ bt144 41 = [(.aload 0, 0, 1), (.getfield 7, 6, 3), (.iconst 4, 0, 1), (.iload 4, 0, 2), (.imul, 0, 1), (.iconst 1, 0, 1), (.iadd, 0, 1), (.iload 6, 0, 2), (.iastore, 0, 1), (.iload 6, 0, 2), (.iload 5, 0, 2), (.if_icmp .eq 73, 0, 3)] ∧ bt144 61 = [(.aload 0, 0, 1), (.iload 1, 0, 1), (.invokevirtual 143, 2, 3)] ∧ bt144 66 = [(.ifCond .eq 73, 0, 3)] ∧ bt144 69 = [(.iconst 1, 0, 1), (.goto 74, 0, 3)] ∧ bt144 73 = [(.iconst 0, 0, 1)] ∧ bt144 74 = [(.istore 7, 0, 2), (.aload 0, 0, 1), (.getfield 7, 6, 3), (.iconst 4, 0, 1), (.iload 4, 0, 2), (.imul, 0, 1), (.iconst 1, 0, 1), (.iadd, 0, 1), (.iload 5, 0, 2), (.iastore, 0, 1), (.iload 7, 0, 2), (.ifCond .eq 114, 0, 3)] ∧ bt144 94 = [(.aload 0, 0, 1), (.getfield 27, 6, 3), (.iload 3, 0, 1), (.iload 4, 0, 2), (.iastore, 0, 1), (.aload 0, 0, 1), (.getfield 27, 6, 3), (.iload 3, 0, 1), (.iconst 1, 0, 1), (.iadd, 0, 1), (.iload 6, 0, 2), (.iastore, 0, 1), (.iconst 1, 0, 1), (.ireturn, 0, 1)] ∧ bt144 114 = [(.iinc 6 1, 0, 3), (.goto 30, 0, 3)] ∧ bt144 120 = [(.iinc 4 1, 0, 3), (.goto 3, 0, 3)] ∧ bt144 126 = [(.iconst 0, 0, 1), (.ireturn, 0, 1)] ∧ True := ⟨rfl, rfl, rfl, rfl, rfl, rfl, rfl, rfl, rfl, rfl, rfl, rfl, rfl, rfl, rfl, trivial⟩
theorem SP144 : sp144 0 = false ∧ sp144 3 = true ∧ sp144 14 = false ∧ sp144 30 = true ∧ sp144 38 = true ∧ sp144 41 = false ∧ sp144 61 = false ∧ sp144 66 = true ∧ sp144 69 = false ∧ sp144 73 = false ∧ sp144 74 = false ∧ sp144 94 = false ∧ sp144 114 = false ∧ sp144 120 = false ∧ sp144 126 = false ∧ True := ⟨rfl, rfl, rfl, rfl, rfl, rfl, rfl, rfl, rfl, rfl, rfl, rfl, rfl, rfl, rfl, trivial⟩
set_option maxRecDepth 100000 in
theorem bk144 : ∀ pc, blk 144 pc (bt144 pc) = true := fun pc => blk_if (by decide +kernel) (blk_if (by decide +kernel) (blk_if (by decide +kernel) (blk_if (by decide +kernel) (blk_if (by decide +kernel) (blk_if (by decide +kernel) (blk_if (by decide +kernel) (blk_if (by decide +kernel) (blk_if (by decide +kernel) (blk_if (by decide +kernel) (blk_if (by decide +kernel) (blk_if (by decide +kernel) (blk_if (by decide +kernel) (blk_if (by decide +kernel) (blk_if (by decide +kernel) (rfl)))))))))))))))
theorem go144 {d mc ms : Nat} {sh : List SC} {M : MM} {Post : PP} {a0 : Nat} {a1 : Int} {a2 : Int} {a3 : Int} (h : ∀ S : Nat → KK, Clo (Run d) 144 none mc ms (Rtn 144 mc ms Post) S → S 0 [some (vR a0), some (vI a1), some (vI a2), some (vI a3), none, none, none, none] [] (sh, 0, 0) M) : Run (d + 1) 144 [vR a0, vI a1, vI a2, vI a3] sh M mc ms Post := ⟨Nat.le_of_ble_eq_true rfl, h⟩
theorem rt144 {v : Int} {sh : List SC} {M : MM} {Post : PP} (hv : v = 0 ∨ v = 1) (h : Post (some (Sum.inl v)) sh M) : Rtn 144 0 0 Post (some (Sum.inl v)) (sh, 0, 0) M := ⟨Nat.le_refl _, Nat.le_refl _, hv, h⟩
/-! 145 OwnSundayModel.changesTwo -/
def bt145 (pc : Nat) : BL := if pc = 0 then [(.iconst 0, 0, 1), (.istore 2, 0, 1)] else if pc = 2 then [(.iload 2, 0, 1), (.aload 0, 0, 1), (.getfield 4, 6, 3), (.iconst 0, 0, 1), (.iaload, 0, 1), (.if_icmp .ge 118, 0, 3)] else if pc = 12 then [(.aload 0, 0, 1), (.getfield 7, 6, 3), (.iconst 4, 0, 1), (.iload 2, 0, 1), (.imul, 0, 1), (.iconst 1, 0, 1), (.iadd, 0, 1), (.iaload, 0, 1), (.istore 3, 0, 1), (.iconst 0, 0, 1), (.istore 4, 0, 2)] else if pc = 26 then [(.iload 4, 0, 2), (.aload 0, 0, 1), (.iload 2, 0, 1), (.invokevirtual 117, 2, 3)] else if pc = 33 then [(.if_icmp .ge 112, 0, 3)] else if pc = 36 then [(.aload 0, 0, 1), (.getfield 7, 6, 3), (.iconst 4, 0, 1), (.iload 2, 0, 1), (.imul, 0, 1), (.iconst 1, 0, 1), (.iadd, 0, 1), (.iload 4, 0, 2), (.iastore, 0, 1), (.iload 4, 0, 2), (.iload 3, 0, 1), (.if_icmp .eq 70, 0, 3)] else if pc = 54 then [(.aload 0, 0, 1), (.iload 1, 0, 1), (.iload 2, 0, 1), (.iconst 1, 0, 1), (.iadd, 0, 1), (.iconst 3, 0, 1), (.invokevirtual 144, 4, 3)] else if pc = 63 then [(.ifCond .eq 70, 0, 3)] else if pc = 66 then [(.iconst 1, 0, 1), (.goto 71, 0, 3)] else if pc = 70 then [(.iconst 0, 0, 1)] else if pc = 71 then [(.istore 5, 0, 2), (.aload 0, 0, 1), (.getfield 7, 6, 3), (.iconst 4, 0, 1), (.iload 2, 0, 1), (.imul, 0, 1), (.iconst 1, 0, 1), (.iadd, 0, 1), (.iload 3, 0, 1), (.iastore, 0, 1), (.iload 5, 0, 2), (.ifCond .eq 106, 0, 3)] else if pc = 89 then [(.aload 0, 0, 1), (.getfield 27, 6, 3), (.iconst 1, 0, 1), (.iload 2, 0, 1), (.iastore, 0, 1), (.aload 0, 0, 1), (.getfield 27, 6, 3), (.iconst 2, 0, 1), (.iload 4, 0, 2), (.iastore, 0, 1), (.iconst 1, 0, 1), (.ireturn, 0, 1)] else if pc = 106 then [(.iinc 4 1, 0, 3), (.goto 26, 0, 3)] else if pc = 112 then [(.iinc 2 1, 0, 3), (.goto 2, 0, 3)] else if pc = 118 then [(.iconst 0, 0, 1), (.ireturn, 0, 1)] else []
def sp145 (pc : Nat) : Bool := [2, 26, 33, 63].contains pc
theorem BT145 : bt145 0 = [(.iconst 0, 0, 1), (.istore 2, 0, 1)] ∧ bt145 2 = [(.iload 2, 0, 1), (.aload 0, 0, 1), (.getfield 4, 6, 3), (.iconst 0, 0, 1), (.iaload, 0, 1), (.if_icmp .ge 118, 0, 3)] ∧ bt145 12 = [(.aload 0, 0, 1), (.getfield 7, 6, 3), (.iconst 4, 0, 1), (.iload 2, 0, 1), (.imul, 0, 1), (.iconst 1, 0, 1), (.iadd, 0, 1), (.iaload, 0, 1), (.istore 3, 0, 1), (.iconst 0, 0, 1), (.istore 4, 0, 2)] ∧ bt145 26 = [(.iload 4, 0, 2), (.aload 0, 0, 1), (.iload 2, 0, 1), (.invokevirtual 117, 2, 3)] ∧ bt145 33 = [(.if_icmp .ge 112, 0, 3)] ∧ bt145 36 = [(.aload 0, 0, 1), (.getfield 7, 6, 3), (.iconst 4, 0, 1), (.iload 2, 0, 1), (.imul, 0, 1), (.iconst 1, 0, 1), (.iadd, 0, 1), (.iload 4, 0, 2), (.iastore, 0, 1), (.iload 4, 0, 2), (.iload 3, 0, 1), (.if_icmp .eq 70, 0, 3)] ∧ bt145 54 = [(.aload 0, 0, 1), (.iload 1, 0, 1), (.iload 2, 0, 1), (.iconst 1, 0, 1), (.iadd, 0, 1), (.iconst 3, 0, 1), (.invokevirtual 144, 4, 3)] ∧ bt145 63 = [(.ifCond .eq 70, 0, 3)] ∧ bt145 66 = [(.iconst 1, 0, 1), (.goto 71, 0, 3)] ∧ bt145 70 = [(.iconst 0, 0, 1)] ∧ bt145 71 = [(.istore 5, 0, 2), (.aload 0, 0, 1), (.getfield 7, 6, 3), (.iconst 4, 0, 1), (.iload 2, 0, 1), (.imul, 0, 1), (.iconst 1, 0, 1), (.iadd, 0, 1), (.iload 3, 0, 1), (.iastore, 0, 1), (.iload 5, 0, 2), (.ifCond .eq 106, 0, 3)] ∧ bt145 89 = [(.aload 0, 0, 1), (.getfield 27, 6, 3), (.iconst 1, 0, 1), (.iload 2, 0, 1), (.iastore, 0, 1), (.aload 0, 0, 1), (.getfield 27, 6, 3), (.iconst 2, 0, 1), (.iload 4, 0, 2), (.iastore, 0, 1), (.iconst 1, 0, 1), (.ireturn, 0, 1)] ∧ bt145 106 = [(.iinc 4 1, 0, 3), (.goto 26, 0, 3)] ∧ bt145 112 = [(.iinc 2 1, 0, 3), (.goto 2, 0, 3)] ∧ bt145 118 = [(.iconst 0, 0, 1), (.ireturn, 0, 1)] ∧ True := ⟨rfl, rfl, rfl, rfl, rfl, rfl, rfl, rfl, rfl, rfl, rfl, rfl, rfl, rfl, rfl, trivial⟩
theorem SP145 : sp145 0 = false ∧ sp145 2 = true ∧ sp145 12 = false ∧ sp145 26 = true ∧ sp145 33 = true ∧ sp145 36 = false ∧ sp145 54 = false ∧ sp145 63 = true ∧ sp145 66 = false ∧ sp145 70 = false ∧ sp145 71 = false ∧ sp145 89 = false ∧ sp145 106 = false ∧ sp145 112 = false ∧ sp145 118 = false ∧ True := ⟨rfl, rfl, rfl, rfl, rfl, rfl, rfl, rfl, rfl, rfl, rfl, rfl, rfl, rfl, rfl, trivial⟩
set_option maxRecDepth 100000 in
theorem bk145 : ∀ pc, blk 145 pc (bt145 pc) = true := fun pc => blk_if (by decide +kernel) (blk_if (by decide +kernel) (blk_if (by decide +kernel) (blk_if (by decide +kernel) (blk_if (by decide +kernel) (blk_if (by decide +kernel) (blk_if (by decide +kernel) (blk_if (by decide +kernel) (blk_if (by decide +kernel) (blk_if (by decide +kernel) (blk_if (by decide +kernel) (blk_if (by decide +kernel) (blk_if (by decide +kernel) (blk_if (by decide +kernel) (blk_if (by decide +kernel) (rfl)))))))))))))))
theorem go145 {d mc ms : Nat} {sh : List SC} {M : MM} {Post : PP} {a0 : Nat} {a1 : Int} (h : ∀ S : Nat → KK, Clo (Run d) 145 none mc ms (Rtn 145 mc ms Post) S → S 0 [some (vR a0), some (vI a1), none, none, none, none] [] (sh, 0, 0) M) : Run (d + 1) 145 [vR a0, vI a1] sh M mc ms Post := ⟨Nat.le_of_ble_eq_true rfl, h⟩
theorem rt145 {v : Int} {sh : List SC} {M : MM} {Post : PP} (hv : v = 0 ∨ v = 1) (h : Post (some (Sum.inl v)) sh M) : Rtn 145 0 0 Post (some (Sum.inl v)) (sh, 0, 0) M := ⟨Nat.le_refl _, Nat.le_refl _, hv, h⟩
/-! 146 OwnSundayModel.years -/
def bt146 (pc : Nat) : BL := if pc = 0 then [(.aload 0, 0, 1), (.iload 1, 0, 1), (.invokevirtual 114, 2, 3)] else if pc = 5 then [(.ifCond .eq 20, 0, 3)] else if pc = 8 then [(.iload 2, 0, 1), (.i2l, 0, 1), (.ldc2_w 0, 0, 1), (.ldc2_w 0, 4, 3), (.invokestatic 102, 3, 3)] else if pc = 17 then [(.ifCond .ne 22, 0, 3)] else if pc = 20 then [(.iconst (-1), 0, 1), (.ireturn, 0, 1)] else if pc = 22 then [(.iconst 0, 0, 1), (.istore 3, 0, 1)] else if pc = 24 then [(.iload 3, 0, 1), (.iconst 5, 0, 1), (.if_icmp .ge 43, 0, 3)] else if pc = 29 then [(.aload 0, 0, 1), (.getfield 27, 6, 3), (.iload 3, 0, 1), (.iconst (-4), 0, 2), (.iastore, 0, 1), (.iinc 3 1, 0, 3), (.goto 24, 0, 3)] else if pc = 43 then [(.aload 0, 0, 1), (.getfield 27, 6, 3), (.iconst 0, 0, 1), (.aload 0, 0, 1), (.iload 1, 0, 1), (.invokevirtual 143, 2, 3)] else if pc = 53 then [(.ifCond .eq 60, 0, 3)] else if pc = 56 then [(.iconst 0, 0, 1), (.goto 88, 0, 3)] else if pc = 60 then [(.aload 0, 0, 1), (.iload 1, 0, 1), (.iconst 0, 0, 1), (.iconst 1, 0, 1), (.invokevirtual 144, 4, 3)] else if pc = 67 then [(.ifCond .eq 74, 0, 3)] else if pc = 70 then [(.iconst 1, 0, 1), (.goto 88, 0, 3)] else if pc = 74 then [(.aload 0, 0, 1), (.iload 1, 0, 1), (.invokevirtual 145, 2, 3)] else if pc = 79 then [(.ifCond .eq 86, 0, 3)] else if pc = 82 then [(.iconst 2, 0, 1), (.goto 88, 0, 3)] else if pc = 86 then [(.iconst (-4), 0, 2)] else if pc = 88 then [(.iastore, 0, 1), (.aload 0, 0, 1), (.getfield 27, 6, 3), (.iload 2, 0, 1), (.iaload, 0, 1), (.ireturn, 0, 1)] else []
def sp146 (pc : Nat) : Bool := [5, 17, 24, 53, 67, 79].contains pc
theorem BT146 : bt146 0 = [(.aload 0, 0, 1), (.iload 1, 0, 1), (.invokevirtual 114, 2, 3)] ∧ bt146 5 = [(.ifCond .eq 20, 0, 3)] ∧ bt146 8 = [(.iload 2, 0, 1), (.i2l, 0, 1), (.ldc2_w 0, 0, 1), (.ldc2_w 0, 4, 3), (.invokestatic 102, 3, 3)] ∧ bt146 17 = [(.ifCond .ne 22, 0, 3)] ∧ bt146 20 = [(.iconst (-1), 0, 1), (.ireturn, 0, 1)] ∧ bt146 22 = [(.iconst 0, 0, 1), (.istore 3, 0, 1)] ∧ bt146 24 = [(.iload 3, 0, 1), (.iconst 5, 0, 1), (.if_icmp .ge 43, 0, 3)] ∧ bt146 29 = [(.aload 0, 0, 1), (.getfield 27, 6, 3), (.iload 3, 0, 1), (.iconst (-4), 0, 2), (.iastore, 0, 1), (.iinc 3 1, 0, 3), (.goto 24, 0, 3)] ∧ bt146 43 = [(.aload 0, 0, 1), (.getfield 27, 6, 3), (.iconst 0, 0, 1), (.aload 0, 0, 1), (.iload 1, 0, 1), (.invokevirtual 143, 2, 3)] ∧ bt146 53 = [(.ifCond .eq 60, 0, 3)] ∧ bt146 56 = [(.iconst 0, 0, 1), (.goto 88, 0, 3)] ∧ bt146 60 = [(.aload 0, 0, 1), (.iload 1, 0, 1), (.iconst 0, 0, 1), (.iconst 1, 0, 1), (.invokevirtual 144, 4, 3)] ∧ bt146 67 = [(.ifCond .eq 74, 0, 3)] ∧ bt146 70 = [(.iconst 1, 0, 1), (.goto 88, 0, 3)] ∧ bt146 74 = [(.aload 0, 0, 1), (.iload 1, 0, 1), (.invokevirtual 145, 2, 3)] ∧ bt146 79 = [(.ifCond .eq 86, 0, 3)] ∧ bt146 82 = [(.iconst 2, 0, 1), (.goto 88, 0, 3)] ∧ bt146 86 = [(.iconst (-4), 0, 2)] ∧ bt146 88 = [(.iastore, 0, 1), (.aload 0, 0, 1), (.getfield 27, 6, 3), (.iload 2, 0, 1), (.iaload, 0, 1), (.ireturn, 0, 1)] ∧ True := ⟨rfl, rfl, rfl, rfl, rfl, rfl, rfl, rfl, rfl, rfl, rfl, rfl, rfl, rfl, rfl, rfl, rfl, rfl, rfl, trivial⟩
theorem SP146 : sp146 0 = false ∧ sp146 5 = true ∧ sp146 8 = false ∧ sp146 17 = true ∧ sp146 20 = false ∧ sp146 22 = false ∧ sp146 24 = true ∧ sp146 29 = false ∧ sp146 43 = false ∧ sp146 53 = true ∧ sp146 56 = false ∧ sp146 60 = false ∧ sp146 67 = true ∧ sp146 70 = false ∧ sp146 74 = false ∧ sp146 79 = true ∧ sp146 82 = false ∧ sp146 86 = false ∧ sp146 88 = false ∧ True := ⟨rfl, rfl, rfl, rfl, rfl, rfl, rfl, rfl, rfl, rfl, rfl, rfl, rfl, rfl, rfl, rfl, rfl, rfl, rfl, trivial⟩
set_option maxRecDepth 100000 in
theorem bk146 : ∀ pc, blk 146 pc (bt146 pc) = true := fun pc => blk_if (by decide +kernel) (blk_if (by decide +kernel) (blk_if (by decide +kernel) (blk_if (by decide +kernel) (blk_if (by decide +kernel) (blk_if (by decide +kernel) (blk_if (by decide +kernel) (blk_if (by decide +kernel) (blk_if (by decide +kernel) (blk_if (by decide +kernel) (blk_if (by decide +kernel) (blk_if (by decide +kernel) (blk_if (by decide +kernel) (blk_if (by decide +kernel) (blk_if (by decide +kernel) (blk_if (by decide +kernel) (blk_if (by decide +kernel) (blk_if (by decide +kernel) (blk_if (by decide +kernel) (rfl)))))))))))))))))))
theorem go146 {d mc ms : Nat} {sh : List SC} {M : MM} {Post : PP} {a0 : Nat} {a1 : Int} {a2 : Int} (h : ∀ S : Nat → KK, Clo (Run d) 146 none mc ms (Rtn 146 mc ms Post) S → S 0 [some (vR a0), some (vI a1), some (vI a2), none] [] (sh, 0, 0) M) : Run (d + 1) 146 [vR a0, vI a1, vI a2] sh M mc ms Post := ⟨Nat.le_of_ble_eq_true rfl, h⟩
theorem rt146 {v : Int} {sh : List SC} {M : MM} {Post : PP} (h : Post (some (Sum.inl v)) sh M) : Rtn 146 0 0 Post (some (Sum.inl v)) (sh, 0, 0) M := ⟨Nat.le_refl _, Nat.le_refl _, trivial, h⟩
/-! 147 OwnSundayModel.days -/
def bt147 (pc : Nat) : BL := if pc = 0 then [(.aload 0, 0, 1), (.getfield 7, 6, 3), (.iconst 4, 0, 1), (.iload 2, 0, 1), (.imul, 0, 1), (.iconst 0, 0, 1), (.iadd, 0, 1), (.iaload, 0, 1), (.istore 3, 0, 1), (.aload 0, 0, 1), (.getfield 7, 6, 3), (.iconst 4, 0, 1), (.iload 2, 0, 1), (.imul, 0, 1), (.iconst 1, 0, 1), (.iadd, 0, 1), (.iaload, 0, 1), (.istore 4, 0, 2), (.aload 0, 0, 1), (.getfield 7, 6, 3), (.iconst 4, 0, 1), (.iload 2, 0, 1), (.imul, 0, 1), (.iconst 0, 0, 1), (.iadd, 0, 1), (.aload 0, 0, 1), (.getfield 7, 6, 3), (.iconst 4, 0, 1), (.iload 1, 0, 1), (.imul, 0, 1), (.iconst 0, 0, 1), (.iadd, 0, 1), (.iaload, 0, 1), (.iastore, 0, 1), (.aload 0, 0, 1), (.getfield 7, 6, 3), (.iconst 4, 0, 1), (.iload 2, 0, 1), (.imul, 0, 1), (.iconst 1, 0, 1), (.iadd, 0, 1), (.aload 0, 0, 1), (.getfield 7, 6, 3), (.iconst 4, 0, 1), (.iload 1, 0, 1), (.imul, 0, 1), (.iconst 1, 0, 1), (.iadd, 0, 1), (.iaload, 0, 1), (.iastore, 0, 1), (.iconst 0, 0, 1), (.istore 5, 0, 2), (.iconst 0, 0, 1), (.istore 6, 0, 2)] else if pc = 69 then [(.iload 6, 0, 2), (.aload 0, 0, 1), (.invokevirtual 119, 1, 3)] else if pc = 75 then [(.if_icmp .ge 104, 0, 3)] else if pc = 78 then [(.iload 5, 0, 2), (.aload 0, 0, 1), (.iload 6, 0, 2), (.i2l, 0, 1), (.invokevirtual 126, 2, 3)] else if pc = 87 then [(.ifCond .lt 94, 0, 3)] else if pc = 90 then [(.iconst 1, 0, 1), (.goto 95, 0, 3)] else if pc = 94 then [(.iconst 0, 0, 1)] else if pc = 95 then [(.iadd, 0, 1), (.istore 5, 0, 2), (.iinc 6 1, 0, 3), (.goto 69, 0, 3)] else if pc = 104 then [(.aload 0, 0, 1), (.getfield 7, 6, 3), (.iconst 4, 0, 1), (.iload 2, 0, 1), (.imul, 0, 1), (.iconst 0, 0, 1), (.iadd, 0, 1), (.iload 3, 0, 1), (.iastore, 0, 1), (.aload 0, 0, 1), (.getfield 7, 6, 3), (.iconst 4, 0, 1), (.iload 2, 0, 1), (.imul, 0, 1), (.iconst 1, 0, 1), (.iadd, 0, 1), (.iload 4, 0, 2), (.iastore, 0, 1), (.iload 5, 0, 2), (.ireturn, 0, 1)] else []
def sp147 (pc : Nat) : Bool := [69, 75, 87].contains pc
theorem BT147 : bt147 0 = [(.aload 0, 0, 1), (.getfield 7, 6, 3), (.iconst 4, 0, 1), (.iload 2, 0, 1), (.imul, 0, 1), (.iconst 0, 0, 1), (.iadd, 0, 1), (.iaload, 0, 1), (.istore 3, 0, 1), (.aload 0, 0, 1), (.getfield 7, 6, 3), (.iconst 4, 0, 1), (.iload 2, 0, 1), (.imul, 0, 1), (.iconst 1, 0, 1), (.iadd, 0, 1), (.iaload, 0, 1), (.istore 4, 0, 2), (.aload 0, 0, 1), (.getfield 7, 6, 3), (.iconst 4, 0, 1), (.iload 2, 0, 1), (.imul, 0, 1), (.iconst 0, 0, 1), (.iadd, 0, 1), (.aload 0, 0, 1), (.getfield 7, 6, 3), (.iconst 4, 0, 1), (.iload 1, 0, 1), (.imul, 0, 1), (.iconst 0, 0, 1), (.iadd, 0, 1), (.iaload, 0, 1), (.iastore, 0, 1), (.aload 0, 0, 1), (.getfield 7, 6, 3), (.iconst 4, 0, 1), (.iload 2, 0, 1), (.imul, 0, 1), (.iconst 1, 0, 1), (.iadd, 0, 1), (.aload 0, 0, 1), (.getfield 7, 6, 3), (.iconst 4, 0, 1), (.iload 1, 0, 1), (.imul, 0, 1), (.iconst 1, 0, 1), (.iadd, 0, 1), (.iaload, 0, 1), (.iastore, 0, 1), (.iconst 0, 0, 1), (.istore 5, 0, 2), (.iconst 0, 0, 1), (.istore 6, 0, 2)] ∧ bt147 69 = [(.iload 6, 0, 2), (.aload 0, 0, 1), (.invokevirtual 119, 1, 3)] ∧ bt147 75 = [(.if_icmp .ge 104, 0, 3)] ∧ bt147 78 = [(.iload 5, 0, 2), (.aload 0, 0, 1), (.iload 6, 0, 2), (.i2l, 0, 1), (.invokevirtual 126, 2, 3)] ∧ bt147 87 = [(.ifCond .lt 94, 0, 3)] ∧ bt147 90 = [(.iconst 1, 0, 1), (.goto 95, 0, 3)] ∧ bt147 94 = [(.iconst 0, 0, 1)] ∧ bt147 95 = [(.iadd, 0, 1), (.istore 5, 0, 2), (.iinc 6 1, 0, 3), (.goto 69, 0, 3)] ∧ bt147 104 = [(.aload 0, 0, 1), (.getfield 7, 6, 3), (.iconst 4, 0, 1), (.iload 2, 0, 1), (.imul, 0, 1), (.iconst 0, 0, 1), (.iadd, 0, 1), (.iload 3, 0, 1), (.iastore, 0, 1), (.aload 0, 0, 1), (.getfield 7, 6, 3), (.iconst 4, 0, 1), (.iload 2, 0, 1), (.imul, 0, 1), (.iconst 1, 0, 1), (.iadd, 0, 1), (.iload 4, 0, 2), (.iastore, 0, 1), (.iload 5, 0, 2), (.ireturn, 0, 1)] ∧ True := ⟨rfl, rfl, rfl, rfl, rfl, rfl, rfl, rfl, rfl, trivial⟩
theorem SP147 : sp147 0 = false ∧ sp147 69 = true ∧ sp147 75 = true ∧ sp147 78 = false ∧ sp147 87 = true ∧ sp147 90 = false ∧ sp147 94 = false ∧ sp147 95 = false ∧ sp147 104 = false ∧ True := ⟨rfl, rfl, rfl, rfl, rfl, rfl, rfl, rfl, rfl, trivial⟩
set_option maxRecDepth 100000 in
theorem bk147 : ∀ pc, blk 147 pc (bt147 pc) = true := fun pc => blk_if (by decide +kernel) (blk_if (by decide +kernel) (blk_if (by decide +kernel) (blk_if (by decide +kernel) (blk_if (by decide +kernel) (blk_if (by decide +kernel) (blk_if (by decide +kernel) (blk_if (by decide +kernel) (blk_if (by decide +kernel) (rfl)))))))))
theorem go147 {d mc ms : Nat} {sh : List SC} {M : MM} {Post : PP} {a0 : Nat} {a1 : Int} {a2 : Int} (h : ∀ S : Nat → KK, Clo (Run d) 147 none mc ms (Rtn 147 mc ms Post) S → S 0 [some (vR a0), some (vI a1), some (vI a2), none, none, none, none] [] (sh, 0, 0) M) : Run (d + 1) 147 [vR a0, vI a1, vI a2] sh M mc ms Post := ⟨Nat.le_of_ble_eq_true rfl, h⟩
theorem rt147 {v : Int} {sh : List SC} {M : MM} {Post : PP} (h : Post (some (Sum.inl v)) sh M) : Rtn 147 0 0 Post (some (Sum.inl v)) (sh, 0, 0) M := ⟨Nat.le_refl _, Nat.le_refl _, trivial, h⟩
/-! 148 OwnSundayModel.wedding -/
def bt148 (pc : Nat) : BL := if pc = 0 then [(.aload 0, 0, 1), (.iload 1, 0, 1), (.invokevirtual 113, 2, 3)] else if pc = 5 then [(.ifCond .eq 31, 0, 3)] else if pc = 8 then [(.aload 0, 0, 1), (.iload 2, 0, 1), (.invokevirtual 113, 2, 3)] else if pc = 13 then [(.ifCond .eq 31, 0, 3)] else if pc = 16 then [(.iload 1, 0, 1), (.iload 2, 0, 1), (.if_icmp .eq 31, 0, 3)] else if pc = 21 then [(.iload 3, 0, 1), (.i2l, 0, 1), (.ldc2_w 0, 0, 1), (.ldc2_w 0, 1, 1), (.invokestatic 102, 3, 3)] else if pc = 28 then [(.ifCond .ne 33, 0, 3)] else if pc = 31 then [(.iconst (-1), 0, 1), (.ireturn, 0, 1)] else if pc = 33 then [(.aload 0, 0, 1), (.iload 1, 0, 1), (.iload 2, 0, 1), (.invokevirtual 147, 3, 3)] else if pc = 39 then [(.istore 4, 0, 2), (.aload 0, 0, 1), (.iload 2, 0, 1), (.iload 1, 0, 1), (.invokevirtual 147, 3, 3)] else if pc = 47 then [(.istore 5, 0, 2), (.iload 3, 0, 1), (.ifCond .ne 70, 0, 3)] else if pc = 53 then [(.iload 4, 0, 2), (.iload 5, 0, 2), (.if_icmp .ge 65, 0, 3)] else if pc = 60 then [(.iload 4, 0, 2), (.goto 82, 0, 3)] else if pc = 65 then [(.iload 5, 0, 2), (.goto 82, 0, 3)] else if pc = 70 then [(.iload 5, 0, 2), (.iload 4, 0, 2), (.if_icmp .ge 81, 0, 3)] else if pc = 77 then [(.iconst 1, 0, 1), (.goto 82, 0, 3)] else if pc = 81 then [(.iconst 0, 0, 1)] else if pc = 82 then [(.ireturn, 0, 1)] else []
def sp148 (pc : Nat) : Bool := [5, 13, 28, 39, 47].contains pc
theorem BT148 : bt148 0 = [(.aload 0, 0, 1), (.iload 1, 0, 1), (.invokevirtual 113, 2, 3)] ∧ bt148 5 = [(.ifCond .eq 31, 0, 3)] ∧ bt148 8 = [(.aload 0, 0, 1), (.iload 2, 0, 1), (.invokevirtual 113, 2, 3)] ∧ bt148 13 = [(.ifCond .eq 31, 0, 3)] ∧ bt148 16 = [(.iload 1, 0, 1), (.iload 2, 0, 1), (.if_icmp .eq 31, 0, 3)] ∧ bt148 21 = [(.iload 3, 0, 1), (.i2l, 0, 1), (.ldc2_w 0, 0, 1), (.ldc2_w 0, 1, 1), (.invokestatic 102, 3, 3)] ∧ bt148 28 = [(.ifCond .ne 33, 0, 3)] ∧ bt148 31 = [(.iconst (-1), 0, 1), (.ireturn, 0, 1)] ∧ bt148 33 = [(.aload 0, 0, 1), (.iload 1, 0, 1), (.iload 2, 0, 1), (.invokevirtual 147, 3, 3)] ∧ bt148 39 = [(.istore 4, 0, 2), (.aload 0, 0, 1), (.iload 2, 0, 1), (.iload 1, 0, 1), (.invokevirtual 147, 3, 3)] ∧ bt148 47 = [(.istore 5, 0, 2), (.iload 3, 0, 1), (.ifCond .ne 70, 0, 3)] ∧ bt148 53 = [(.iload 4, 0, 2), (.iload 5, 0, 2), (.if_icmp .ge 65, 0, 3)] ∧ bt148 60 = [(.iload 4, 0, 2), (.goto 82, 0, 3)] ∧ bt148 65 = [(.iload 5, 0, 2), (.goto 82, 0, 3)] ∧ bt148 70 = [(.iload 5, 0, 2), (.iload 4, 0, 2), (.if_icmp .ge 81, 0, 3)] ∧ bt148 77 = [(.iconst 1, 0, 1), (.goto 82, 0, 3)] ∧ bt148 81 = [(.iconst 0, 0, 1)] ∧ bt148 82 = [(.ireturn, 0, 1)] ∧ True := ⟨rfl, rfl, rfl, rfl, rfl, rfl, rfl, rfl, rfl, rfl, rfl, rfl, rfl, rfl, rfl, rfl, rfl, rfl, trivial⟩
theorem SP148 : sp148 0 = false ∧ sp148 5 = true ∧ sp148 8 = false ∧ sp148 13 = true ∧ sp148 16 = false ∧ sp148 21 = false ∧ sp148 28 = true ∧ sp148 31 = false ∧ sp148 33 = false ∧ sp148 39 = true ∧ sp148 47 = true ∧ sp148 53 = false ∧ sp148 60 = false ∧ sp148 65 = false ∧ sp148 70 = false ∧ sp148 77 = false ∧ sp148 81 = false ∧ sp148 82 = false ∧ True := ⟨rfl, rfl, rfl, rfl, rfl, rfl, rfl, rfl, rfl, rfl, rfl, rfl, rfl, rfl, rfl, rfl, rfl, rfl, trivial⟩
set_option maxRecDepth 100000 in
theorem bk148 : ∀ pc, blk 148 pc (bt148 pc) = true := fun pc => blk_if (by decide +kernel) (blk_if (by decide +kernel) (blk_if (by decide +kernel) (blk_if (by decide +kernel) (blk_if (by decide +kernel) (blk_if (by decide +kernel) (blk_if (by decide +kernel) (blk_if (by decide +kernel) (blk_if (by decide +kernel) (blk_if (by decide +kernel) (blk_if (by decide +kernel) (blk_if (by decide +kernel) (blk_if (by decide +kernel) (blk_if (by decide +kernel) (blk_if (by decide +kernel) (blk_if (by decide +kernel) (blk_if (by decide +kernel) (blk_if (by decide +kernel) (rfl))))))))))))))))))
theorem go148 {d mc ms : Nat} {sh : List SC} {M : MM} {Post : PP} {a0 : Nat} {a1 : Int} {a2 : Int} {a3 : Int} (h : ∀ S : Nat → KK, Clo (Run d) 148 none mc ms (Rtn 148 mc ms Post) S → S 0 [some (vR a0), some (vI a1), some (vI a2), some (vI a3), none, none] [] (sh, 0, 0) M) : Run (d + 1) 148 [vR a0, vI a1, vI a2, vI a3] sh M mc ms Post := ⟨Nat.le_of_ble_eq_true rfl, h⟩
theorem rt148 {v : Int} {sh : List SC} {M : MM} {Post : PP} (h : Post (some (Sum.inl v)) sh M) : Rtn 148 0 0 Post (some (Sum.inl v)) (sh, 0, 0) M := ⟨Nat.le_refl _, Nat.le_refl _, trivial, h⟩
/-! 149 OwnSundayModel.seen -/
def bt149 (pc : Nat) : BL := if pc = 0 then [(.lload 1, 0, 1), (.invokestatic 115, 1, 3)] else if pc = 4 then [(.ifCond .eq 15, 0, 3)] else if pc = 7 then [(.aload 0, 0, 1), (.iload 3, 0, 1), (.invokevirtual 114, 2, 3)] else if pc = 12 then [(.ifCond .ne 17, 0, 3)] else if pc = 15 then [(.iconst (-1), 0, 1), (.ireturn, 0, 1)] else if pc = 17 then [(.aload 0, 0, 1), (.getfield 11, 6, 3), (.iconst 20, 0, 2), (.if_icmp .ne 29, 0, 3)] else if pc = 26 then [(.iconst (-3), 0, 2), (.ireturn, 0, 1)] else if pc = 29 then [(.aload 0, 0, 1), (.getfield 12, 6, 3), (.aload 0, 0, 1), (.getfield 11, 6, 3), (.lload 1, 0, 1), (.lastore, 0, 1), (.aload 0, 0, 1), (.getfield 13, 6, 3), (.aload 0, 0, 1), (.getfield 11, 6, 3), (.iload 3, 0, 1), (.iastore, 0, 1), (.aload 0, 0, 1), (.getfield 14, 6, 3), (.aload 0, 0, 1), (.getfield 11, 6, 3), (.iload 4, 0, 2), (.bastore, 0, 1), (.aload 0, 0, 1), (.dup, 0, 1), (.getfield 11, 6, 3), (.iconst 1, 0, 1), (.iadd, 0, 1), (.putfield 11, 6, 3), (.aload 0, 0, 1), (.getfield 11, 6, 3), (.ireturn, 0, 1)] else []
def sp149 (pc : Nat) : Bool := [4, 12].contains pc
theorem BT149 : bt149 0 = [(.lload 1, 0, 1), (.invokestatic 115, 1, 3)] ∧ bt149 4 = [(.ifCond .eq 15, 0, 3)] ∧ bt149 7 = [(.aload 0, 0, 1), (.iload 3, 0, 1), (.invokevirtual 114, 2, 3)] ∧ bt149 12 = [(.ifCond .ne 17, 0, 3)] ∧ bt149 15 = [(.iconst (-1), 0, 1), (.ireturn, 0, 1)] ∧ bt149 17 = [(.aload 0, 0, 1), (.getfield 11, 6, 3), (.iconst 20, 0, 2), (.if_icmp .ne 29, 0, 3)] ∧ bt149 26 = [(.iconst (-3), 0, 2), (.ireturn, 0, 1)] ∧ bt149 29 = [(.aload 0, 0, 1), (.getfield 12, 6, 3), (.aload 0, 0, 1), (.getfield 11, 6, 3), (.lload 1, 0, 1), (.lastore, 0, 1), (.aload 0, 0, 1), (.getfield 13, 6, 3), (.aload 0, 0, 1), (.getfield 11, 6, 3), (.iload 3, 0, 1), (.iastore, 0, 1), (.aload 0, 0, 1), (.getfield 14, 6, 3), (.aload 0, 0, 1), (.getfield 11, 6, 3), (.iload 4, 0, 2), (.bastore, 0, 1), (.aload 0, 0, 1), (.dup, 0, 1), (.getfield 11, 6, 3), (.iconst 1, 0, 1), (.iadd, 0, 1), (.putfield 11, 6, 3), (.aload 0, 0, 1), (.getfield 11, 6, 3), (.ireturn, 0, 1)] ∧ True := ⟨rfl, rfl, rfl, rfl, rfl, rfl, rfl, rfl, trivial⟩
theorem SP149 : sp149 0 = false ∧ sp149 4 = true ∧ sp149 7 = false ∧ sp149 12 = true ∧ sp149 15 = false ∧ sp149 17 = false ∧ sp149 26 = false ∧ sp149 29 = false ∧ True := ⟨rfl, rfl, rfl, rfl, rfl, rfl, rfl, rfl, trivial⟩
set_option maxRecDepth 100000 in
theorem bk149 : ∀ pc, blk 149 pc (bt149 pc) = true := fun pc => blk_if (by decide +kernel) (blk_if (by decide +kernel) (blk_if (by decide +kernel) (blk_if (by decide +kernel) (blk_if (by decide +kernel) (blk_if (by decide +kernel) (blk_if (by decide +kernel) (blk_if (by decide +kernel) (rfl))))))))
theorem go149 {d mc ms : Nat} {sh : List SC} {M : MM} {Post : PP} {a0 : Nat} {a1 : Int} {a2 : Int} {a3 : Int} (h : ∀ S : Nat → KK, Clo (Run d) 149 none mc ms (Rtn 149 mc ms Post) S → S 0 [some (vR a0), some (vL a1), none, some (vI a2), some (vI a3)] [] (sh, 0, 0) M) : Run (d + 1) 149 [vR a0, vL a1, vI a2, vI a3] sh M mc ms Post := ⟨Nat.le_of_ble_eq_true rfl, h⟩
theorem rt149 {v : Int} {sh : List SC} {M : MM} {Post : PP} (h : Post (some (Sum.inl v)) sh M) : Rtn 149 0 0 Post (some (Sum.inl v)) (sh, 0, 0) M := ⟨Nat.le_refl _, Nat.le_refl _, trivial, h⟩
/-! 150 OwnSundayModel.forget -/
def bt150 (pc : Nat) : BL := if pc = 0 then [(.aload 0, 0, 1), (.getfield 11, 6, 3), (.istore 1, 0, 1), (.aload 0, 0, 1), (.iconst 0, 0, 1), (.putfield 11, 6, 3), (.iload 1, 0, 1), (.ireturn, 0, 1)] else []
def sp150 (pc : Nat) : Bool := [].contains pc
theorem BT150 : bt150 0 = [(.aload 0, 0, 1), (.getfield 11, 6, 3), (.istore 1, 0, 1), (.aload 0, 0, 1), (.iconst 0, 0, 1), (.putfield 11, 6, 3), (.iload 1, 0, 1), (.ireturn, 0, 1)] ∧ True := ⟨rfl, trivial⟩
theorem SP150 : sp150 0 = false ∧ True := ⟨rfl, trivial⟩
set_option maxRecDepth 100000 in
theorem bk150 : ∀ pc, blk 150 pc (bt150 pc) = true := fun pc => blk_if (by decide +kernel) (rfl)
theorem go150 {d mc ms : Nat} {sh : List SC} {M : MM} {Post : PP} {a0 : Nat} (h : ∀ S : Nat → KK, Clo (Run d) 150 none mc ms (Rtn 150 mc ms Post) S → S 0 [some (vR a0), none] [] (sh, 0, 0) M) : Run (d + 1) 150 [vR a0] sh M mc ms Post := ⟨Nat.le_of_ble_eq_true rfl, h⟩
theorem rt150 {v : Int} {sh : List SC} {M : MM} {Post : PP} (h : Post (some (Sum.inl v)) sh M) : Rtn 150 0 0 Post (some (Sum.inl v)) (sh, 0, 0) M := ⟨Nat.le_refl _, Nat.le_refl _, trivial, h⟩
/-! 151 OwnSundayModel.fits -/
def bt151 (pc : Nat) : BL := if pc = 0 then [(.iload 1, 0, 1), (.i2l, 0, 1), (.ldc2_w 0, (-1), 3), (.aload 0, 0, 1), (.getfield 4, 6, 3), (.iconst 0, 0, 1), (.iaload, 0, 1), (.iconst 1, 0, 1), (.isub, 0, 1), (.i2l, 0, 1), (.invokestatic 102, 3, 3)] else if pc = 17 then [(.ifCond .eq 33, 0, 3)] else if pc = 20 then [(.iload 1, 0, 1), (.ifCond .lt 35, 0, 3)] else if pc = 24 then [(.aload 0, 0, 1), (.getfield 10, 6, 3), (.iload 1, 0, 1), (.baload, 0, 1), (.ifCond .ne 35, 0, 3)] else if pc = 33 then [(.iconst (-1), 0, 1), (.ireturn, 0, 1)] else if pc = 35 then [(.aload 0, 0, 1), (.iconst 1, 0, 1), (.invokevirtual 140, 2, 3)] else if pc = 40 then [(.iload 1, 0, 1), (.ifCond .ge 51, 0, 3)] else if pc = 44 then [(.aload 0, 0, 1), (.getfield 25, 6, 3), (.goto 82, 0, 3)] else if pc = 51 then [(.aload 0, 0, 1), (.getfield 25, 6, 3), (.ifCond .ne 63, 0, 3)] else if pc = 58 then [(.iconst (-4), 0, 2), (.goto 82, 0, 3)] else if pc = 63 then [(.iload 2, 0, 1), (.ifCond .eq 76, 0, 3)] else if pc = 67 then [(.aload 0, 0, 1), (.getfield 24, 6, 3), (.iload 1, 0, 1), (.iaload, 0, 1), (.goto 82, 0, 3)] else if pc = 76 then [(.aload 0, 0, 1), (.getfield 23, 6, 3), (.iload 1, 0, 1), (.iaload, 0, 1)] else if pc = 82 then [(.ireturn, 0, 1)] else []
def sp151 (pc : Nat) : Bool := [17, 40].contains pc
theorem BT151 : bt151 0 = [(.iload 1, 0, 1), (.i2l, 0, 1), (.ldc2_w 0, (-1), 3), (.aload 0, 0, 1), (.getfield 4, 6, 3), (.iconst 0, 0, 1), (.iaload, 0, 1), (.iconst 1, 0, 1), (.isub, 0, 1), (.i2l, 0, 1), (.invokestatic 102, 3, 3)] ∧ bt151 17 = [(.ifCond .eq 33, 0, 3)] ∧ bt151 20 = [(.iload 1, 0, 1), (.ifCond .lt 35, 0, 3)] ∧ bt151 24 = [(.aload 0, 0, 1), (.getfield 10, 6, 3), (.iload 1, 0, 1), (.baload, 0, 1), (.ifCond .ne 35, 0, 3)] ∧ bt151 33 = [(.iconst (-1), 0, 1), (.ireturn, 0, 1)] ∧ bt151 35 = [(.aload 0, 0, 1), (.iconst 1, 0, 1), (.invokevirtual 140, 2, 3)] ∧ bt151 40 = [(.iload 1, 0, 1), (.ifCond .ge 51, 0, 3)] ∧ bt151 44 = [(.aload 0, 0, 1), (.getfield 25, 6, 3), (.goto 82, 0, 3)] ∧ bt151 51 = [(.aload 0, 0, 1), (.getfield 25, 6, 3), (.ifCond .ne 63, 0, 3)] ∧ bt151 58 = [(.iconst (-4), 0, 2), (.goto 82, 0, 3)] ∧ bt151 63 = [(.iload 2, 0, 1), (.ifCond .eq 76, 0, 3)] ∧ bt151 67 = [(.aload 0, 0, 1), (.getfield 24, 6, 3), (.iload 1, 0, 1), (.iaload, 0, 1), (.goto 82, 0, 3)] ∧ bt151 76 = [(.aload 0, 0, 1), (.getfield 23, 6, 3), (.iload 1, 0, 1), (.iaload, 0, 1)] ∧ bt151 82 = [(.ireturn, 0, 1)] ∧ True := ⟨rfl, rfl, rfl, rfl, rfl, rfl, rfl, rfl, rfl, rfl, rfl, rfl, rfl, rfl, trivial⟩
theorem SP151 : sp151 0 = false ∧ sp151 17 = true ∧ sp151 20 = false ∧ sp151 24 = false ∧ sp151 33 = false ∧ sp151 35 = false ∧ sp151 40 = true ∧ sp151 44 = false ∧ sp151 51 = false ∧ sp151 58 = false ∧ sp151 63 = false ∧ sp151 67 = false ∧ sp151 76 = false ∧ sp151 82 = false ∧ True := ⟨rfl, rfl, rfl, rfl, rfl, rfl, rfl, rfl, rfl, rfl, rfl, rfl, rfl, rfl, trivial⟩
set_option maxRecDepth 100000 in
theorem bk151 : ∀ pc, blk 151 pc (bt151 pc) = true := fun pc => blk_if (by decide +kernel) (blk_if (by decide +kernel) (blk_if (by decide +kernel) (blk_if (by decide +kernel) (blk_if (by decide +kernel) (blk_if (by decide +kernel) (blk_if (by decide +kernel) (blk_if (by decide +kernel) (blk_if (by decide +kernel) (blk_if (by decide +kernel) (blk_if (by decide +kernel) (blk_if (by decide +kernel) (blk_if (by decide +kernel) (blk_if (by decide +kernel) (rfl))))))))))))))
theorem go151 {d mc ms : Nat} {sh : List SC} {M : MM} {Post : PP} {a0 : Nat} {a1 : Int} {a2 : Int} (h : ∀ S : Nat → KK, Clo (Run d) 151 none mc ms (Rtn 151 mc ms Post) S → S 0 [some (vR a0), some (vI a1), some (vI a2)] [] (sh, 0, 0) M) : Run (d + 1) 151 [vR a0, vI a1, vI a2] sh M mc ms Post := ⟨Nat.le_of_ble_eq_true rfl, h⟩
theorem rt151 {v : Int} {sh : List SC} {M : MM} {Post : PP} (h : Post (some (Sum.inl v)) sh M) : Rtn 151 0 0 Post (some (Sum.inl v)) (sh, 0, 0) M := ⟨Nat.le_refl _, Nat.le_refl _, trivial, h⟩
/-! 152 OwnSundayModel.fireDay -/
def bt152 (pc : Nat) : BL := if pc = 0 then [(.ldc2_w 0, 7919, 3), (.iload 0, 0, 1), (.i2l, 0, 1), (.lmul, 0, 1), (.ldc2_w 0, 1, 1), (.ladd, 0, 1), (.lstore 4, 0, 2), (.lload 2, 0, 1), (.lload 4, 0, 2), (.lload 4, 0, 2), (.lmul, 0, 1), (.ldc2_w 0, 65521, 3), (.lrem, 0, 1), (.iload 1, 0, 1), (.i2l, 0, 1), (.lrem, 0, 1), (.ladd, 0, 1), (.lreturn, 0, 1)] else []
def sp152 (pc : Nat) : Bool := [].contains pc
theorem BT152 : bt152 0 = [(.ldc2_w 0, 7919, 3), (.iload 0, 0, 1), (.i2l, 0, 1), (.lmul, 0, 1), (.ldc2_w 0, 1, 1), (.ladd, 0, 1), (.lstore 4, 0, 2), (.lload 2, 0, 1), (.lload 4, 0, 2), (.lload 4, 0, 2), (.lmul, 0, 1), (.ldc2_w 0, 65521, 3), (.lrem, 0, 1), (.iload 1, 0, 1), (.i2l, 0, 1), (.lrem, 0, 1), (.ladd, 0, 1), (.lreturn, 0, 1)] ∧ True := ⟨rfl, trivial⟩
theorem SP152 : sp152 0 = false ∧ True := ⟨rfl, trivial⟩
set_option maxRecDepth 100000 in
theorem bk152 : ∀ pc, blk 152 pc (bt152 pc) = true := fun pc => blk_if (by decide +kernel) (rfl)
theorem go152 {d mc ms : Nat} {sh : List SC} {M : MM} {Post : PP} {a0 : Int} {a1 : Int} {a2 : Int} (h : ∀ S : Nat → KK, Clo (Run d) 152 none mc ms (Rtn 152 mc ms Post) S → S 0 [some (vI a0), some (vI a1), some (vL a2), none, none, none] [] (sh, 0, 0) M) : Run (d + 1) 152 [vI a0, vI a1, vL a2] sh M mc ms Post := ⟨Nat.le_of_ble_eq_true rfl, h⟩
theorem rt152 {v : Int} {sh : List SC} {M : MM} {Post : PP} (h : Post (some (Sum.inr (Sum.inl v))) sh M) : Rtn 152 0 0 Post (some (Sum.inr (Sum.inl v))) (sh, 0, 0) M := ⟨Nat.le_refl _, Nat.le_refl _, trivial, h⟩
/-! 153 OwnSundayModel.fire -/
def bt153 (pc : Nat) : BL := if pc = 0 then [(.iload 1, 0, 1), (.i2l, 0, 1), (.ldc2_w 0, 0, 1), (.ldc2_w 0, 9999, 3), (.invokestatic 102, 3, 3)] else if pc = 9 then [(.ifCond .eq 44, 0, 3)] else if pc = 12 then [(.iload 2, 0, 1), (.i2l, 0, 1), (.ldc2_w 0, 1, 1), (.ldc2_w 0, 999, 3), (.invokestatic 102, 3, 3)] else if pc = 21 then [(.ifCond .eq 44, 0, 3)] else if pc = 24 then [(.lload 3, 0, 1), (.invokestatic 115, 1, 3)] else if pc = 28 then [(.ifCond .eq 44, 0, 3)] else if pc = 31 then [(.iload 5, 0, 2), (.i2l, 0, 1), (.ldc2_w 0, 0, 1), (.ldc2_w 0, 2, 3), (.invokestatic 102, 3, 3)] else if pc = 41 then [(.ifCond .ne 46, 0, 3)] else if pc = 44 then [(.iconst (-1), 0, 1), (.ireturn, 0, 1)] else if pc = 46 then [(.iload 5, 0, 2), (.iconst 1, 0, 1), (.if_icmp .ne 66, 0, 3)] else if pc = 52 then [(.aload 0, 0, 1), (.iload 1, 0, 1), (.iload 2, 0, 1), (.lload 3, 0, 1), (.invokestatic 152, 3, 3)] else if pc = 59 then [(.invokevirtual 120, 2, 3)] else if pc = 62 then [(.invokestatic 121, 1, 3)] else if pc = 65 then [(.ireturn, 0, 1)] else if pc = 66 then [(.iconst 0, 0, 1), (.istore 6, 0, 2), (.iconst 0, 0, 1), (.istore 7, 0, 2)] else if pc = 72 then [(.iload 7, 0, 2), (.iload 5, 0, 2), (.ifCond .ne 83, 0, 3)] else if pc = 79 then [(.iconst 1, 0, 1), (.goto 85, 0, 3)] else if pc = 83 then [(.iconst 100, 0, 2)] else if pc = 85 then [(.if_icmp .ge 130, 0, 3)] else if pc = 88 then [(.iload 6, 0, 2), (.aload 0, 0, 1), (.aload 0, 0, 1), (.getfield 6, 6, 3), (.iconst 0, 0, 1), (.iaload, 0, 1), (.iload 1, 0, 1), (.iload 7, 0, 2), (.iadd, 0, 1), (.iconst 10000, 0, 3), (.irem, 0, 1), (.iload 2, 0, 1), (.lload 3, 0, 1), (.invokestatic 152, 3, 3)] else if pc = 110 then [(.invokevirtual 118, 3, 3)] else if pc = 113 then [(.ifCond .eq 120, 0, 3)] else if pc = 116 then [(.iconst 0, 0, 1), (.goto 121, 0, 3)] else if pc = 120 then [(.iconst 1, 0, 1)] else if pc = 121 then [(.iadd, 0, 1), (.istore 6, 0, 2), (.iinc 7 1, 0, 3), (.goto 72, 0, 3)] else if pc = 130 then [(.iload 6, 0, 2), (.ireturn, 0, 1)] else []
def sp153 (pc : Nat) : Bool := [9, 21, 28, 41, 59, 62, 65, 72, 110, 113].contains pc
theorem BT153 : bt153 0 = [(.iload 1, 0, 1), (.i2l, 0, 1), (.ldc2_w 0, 0, 1), (.ldc2_w 0, 9999, 3), (.invokestatic 102, 3, 3)] ∧ bt153 9 = [(.ifCond .eq 44, 0, 3)] ∧ bt153 12 = [(.iload 2, 0, 1), (.i2l, 0, 1), (.ldc2_w 0, 1, 1), (.ldc2_w 0, 999, 3), (.invokestatic 102, 3, 3)] ∧ bt153 21 = [(.ifCond .eq 44, 0, 3)] ∧ bt153 24 = [(.lload 3, 0, 1), (.invokestatic 115, 1, 3)] ∧ bt153 28 = [(.ifCond .eq 44, 0, 3)] ∧ bt153 31 = [(.iload 5, 0, 2), (.i2l, 0, 1), (.ldc2_w 0, 0, 1), (.ldc2_w 0, 2, 3), (.invokestatic 102, 3, 3)] ∧ bt153 41 = [(.ifCond .ne 46, 0, 3)] ∧ bt153 44 = [(.iconst (-1), 0, 1), (.ireturn, 0, 1)] ∧ bt153 46 = [(.iload 5, 0, 2), (.iconst 1, 0, 1), (.if_icmp .ne 66, 0, 3)] ∧ bt153 52 = [(.aload 0, 0, 1), (.iload 1, 0, 1), (.iload 2, 0, 1), (.lload 3, 0, 1), (.invokestatic 152, 3, 3)] ∧ bt153 59 = [(.invokevirtual 120, 2, 3)] ∧ bt153 62 = [(.invokestatic 121, 1, 3)] ∧ bt153 65 = [(.ireturn, 0, 1)] ∧ bt153 66 = [(.iconst 0, 0, 1), (.istore 6, 0, 2), (.iconst 0, 0, 1), (.istore 7, 0, 2)] ∧ bt153 72 = [(.iload 7, 0, 2), (.iload 5, 0, 2), (.ifCond .ne 83, 0, 3)] ∧ bt153 79 = [(.iconst 1, 0, 1), (.goto 85, 0, 3)] ∧ bt153 83 = [(.iconst 100, 0, 2)] ∧ bt153 85 = [(.if_icmp .ge 130, 0, 3)] ∧ bt153 88 = [(.iload 6, 0, 2), (.aload 0, 0, 1), (.aload 0, 0, 1), (.getfield 6, 6, 3), (.iconst 0, 0, 1), (.iaload, 0, 1), (.iload 1, 0, 1), (.iload 7, 0, 2), (.iadd, 0, 1), (.iconst 10000, 0, 3), (.irem, 0, 1), (.iload 2, 0, 1), (.lload 3, 0, 1), (.invokestatic 152, 3, 3)] ∧ bt153 110 = [(.invokevirtual 118, 3, 3)] ∧ bt153 113 = [(.ifCond .eq 120, 0, 3)] ∧ bt153 116 = [(.iconst 0, 0, 1), (.goto 121, 0, 3)] ∧ bt153 120 = [(.iconst 1, 0, 1)] ∧ bt153 121 = [(.iadd, 0, 1), (.istore 6, 0, 2), (.iinc 7 1, 0, 3), (.goto 72, 0, 3)] ∧ bt153 130 = [(.iload 6, 0, 2), (.ireturn, 0, 1)] ∧ True := ⟨rfl, rfl, rfl, rfl, rfl, rfl, rfl, rfl, rfl, rfl, rfl, rfl, rfl, rfl, rfl, rfl, rfl, rfl, rfl, rfl, rfl, rfl, rfl, rfl, rfl, rfl, trivial⟩
theorem SP153 : sp153 0 = false ∧ sp153 9 = true ∧ sp153 12 = false ∧ sp153 21 = true ∧ sp153 24 = false ∧ sp153 28 = true ∧ sp153 31 = false ∧ sp153 41 = true ∧ sp153 44 = false ∧ sp153 46 = false ∧ sp153 52 = false ∧ sp153 59 = true ∧ sp153 62 = true ∧ sp153 65 = true ∧ sp153 66 = false ∧ sp153 72 = true ∧ sp153 79 = false ∧ sp153 83 = false ∧ sp153 85 = false ∧ sp153 88 = false ∧ sp153 110 = true ∧ sp153 113 = true ∧ sp153 116 = false ∧ sp153 120 = false ∧ sp153 121 = false ∧ sp153 130 = false ∧ True := ⟨rfl, rfl, rfl, rfl, rfl, rfl, rfl, rfl, rfl, rfl, rfl, rfl, rfl, rfl, rfl, rfl, rfl, rfl, rfl, rfl, rfl, rfl, rfl, rfl, rfl, rfl, trivial⟩
set_option maxRecDepth 100000 in
theorem bk153 : ∀ pc, blk 153 pc (bt153 pc) = true := fun pc => blk_if (by decide +kernel) (blk_if (by decide +kernel) (blk_if (by decide +kernel) (blk_if (by decide +kernel) (blk_if (by decide +kernel) (blk_if (by decide +kernel) (blk_if (by decide +kernel) (blk_if (by decide +kernel) (blk_if (by decide +kernel) (blk_if (by decide +kernel) (blk_if (by decide +kernel) (blk_if (by decide +kernel) (blk_if (by decide +kernel) (blk_if (by decide +kernel) (blk_if (by decide +kernel) (blk_if (by decide +kernel) (blk_if (by decide +kernel) (blk_if (by decide +kernel) (blk_if (by decide +kernel) (blk_if (by decide +kernel) (blk_if (by decide +kernel) (blk_if (by decide +kernel) (blk_if (by decide +kernel) (blk_if (by decide +kernel) (blk_if (by decide +kernel) (blk_if (by decide +kernel) (rfl))))))))))))))))))))))))))
theorem go153 {d mc ms : Nat} {sh : List SC} {M : MM} {Post : PP} {a0 : Nat} {a1 : Int} {a2 : Int} {a3 : Int} {a4 : Int} (h : ∀ S : Nat → KK, Clo (Run d) 153 none mc ms (Rtn 153 mc ms Post) S → S 0 [some (vR a0), some (vI a1), some (vI a2), some (vL a3), none, some (vI a4), none, none] [] (sh, 0, 0) M) : Run (d + 1) 153 [vR a0, vI a1, vI a2, vL a3, vI a4] sh M mc ms Post := ⟨Nat.le_of_ble_eq_true rfl, h⟩
theorem rt153 {v : Int} {sh : List SC} {M : MM} {Post : PP} (h : Post (some (Sum.inl v)) sh M) : Rtn 153 0 0 Post (some (Sum.inl v)) (sh, 0, 0) M := ⟨Nat.le_refl _, Nat.le_refl _, trivial, h⟩
/-! 154 OwnSundayModel.change -/
def bt154 (pc : Nat) : BL := if pc = 0 then [(.aload 0, 0, 1), (.iload 1, 0, 1), (.invokevirtual 113, 2, 3)] else if pc = 5 then [(.ifCond .eq 25, 0, 3)] else if pc = 8 then [(.iload 2, 0, 1), (.i2l, 0, 1), (.ldc2_w 0, 0, 1), (.aload 0, 0, 1), (.iload 1, 0, 1), (.invokevirtual 117, 2, 3)] else if pc = 16 then [(.iconst 1, 0, 1), (.isub, 0, 1), (.i2l, 0, 1), (.invokestatic 102, 3, 3)] else if pc = 22 then [(.ifCond .ne 27, 0, 3)] else if pc = 25 then [(.iconst (-1), 0, 1), (.ireturn, 0, 1)] else if pc = 27 then [(.aload 0, 0, 1), (.getfield 7, 6, 3), (.iconst 4, 0, 1), (.iload 1, 0, 1), (.imul, 0, 1), (.iconst 1, 0, 1), (.iadd, 0, 1), (.iaload, 0, 1), (.istore 3, 0, 1), (.aload 0, 0, 1), (.getfield 7, 6, 3), (.iconst 4, 0, 1), (.iload 1, 0, 1), (.imul, 0, 1), (.iconst 1, 0, 1), (.iadd, 0, 1), (.iload 2, 0, 1), (.iastore, 0, 1), (.iload 3, 0, 1), (.ireturn, 0, 1)] else []
def sp154 (pc : Nat) : Bool := [5, 16, 22].contains pc
theorem BT154 : bt154 0 = [(.aload 0, 0, 1), (.iload 1, 0, 1), (.invokevirtual 113, 2, 3)] ∧ bt154 5 = [(.ifCond .eq 25, 0, 3)] ∧ bt154 8 = [(.iload 2, 0, 1), (.i2l, 0, 1), (.ldc2_w 0, 0, 1), (.aload 0, 0, 1), (.iload 1, 0, 1), (.invokevirtual 117, 2, 3)] ∧ bt154 16 = [(.iconst 1, 0, 1), (.isub, 0, 1), (.i2l, 0, 1), (.invokestatic 102, 3, 3)] ∧ bt154 22 = [(.ifCond .ne 27, 0, 3)] ∧ bt154 25 = [(.iconst (-1), 0, 1), (.ireturn, 0, 1)] ∧ bt154 27 = [(.aload 0, 0, 1), (.getfield 7, 6, 3), (.iconst 4, 0, 1), (.iload 1, 0, 1), (.imul, 0, 1), (.iconst 1, 0, 1), (.iadd, 0, 1), (.iaload, 0, 1), (.istore 3, 0, 1), (.aload 0, 0, 1), (.getfield 7, 6, 3), (.iconst 4, 0, 1), (.iload 1, 0, 1), (.imul, 0, 1), (.iconst 1, 0, 1), (.iadd, 0, 1), (.iload 2, 0, 1), (.iastore, 0, 1), (.iload 3, 0, 1), (.ireturn, 0, 1)] ∧ True := ⟨rfl, rfl, rfl, rfl, rfl, rfl, rfl, trivial⟩
theorem SP154 : sp154 0 = false ∧ sp154 5 = true ∧ sp154 8 = false ∧ sp154 16 = true ∧ sp154 22 = true ∧ sp154 25 = false ∧ sp154 27 = false ∧ True := ⟨rfl, rfl, rfl, rfl, rfl, rfl, rfl, trivial⟩
set_option maxRecDepth 100000 in
theorem bk154 : ∀ pc, blk 154 pc (bt154 pc) = true := fun pc => blk_if (by decide +kernel) (blk_if (by decide +kernel) (blk_if (by decide +kernel) (blk_if (by decide +kernel) (blk_if (by decide +kernel) (blk_if (by decide +kernel) (blk_if (by decide +kernel) (rfl)))))))
theorem go154 {d mc ms : Nat} {sh : List SC} {M : MM} {Post : PP} {a0 : Nat} {a1 : Int} {a2 : Int} (h : ∀ S : Nat → KK, Clo (Run d) 154 none mc ms (Rtn 154 mc ms Post) S → S 0 [some (vR a0), some (vI a1), some (vI a2), none] [] (sh, 0, 0) M) : Run (d + 1) 154 [vR a0, vI a1, vI a2] sh M mc ms Post := ⟨Nat.le_of_ble_eq_true rfl, h⟩
theorem rt154 {v : Int} {sh : List SC} {M : MM} {Post : PP} (h : Post (some (Sum.inl v)) sh M) : Rtn 154 0 0 Post (some (Sum.inl v)) (sh, 0, 0) M := ⟨Nat.le_refl _, Nat.le_refl _, trivial, h⟩
/-! 155 OwnSundayModel.wed -/
def bt155 (pc : Nat) : BL := if pc = 0 then [(.aload 0, 0, 1), (.iload 1, 0, 1), (.invokevirtual 113, 2, 3)] else if pc = 5 then [(.ifCond .eq 21, 0, 3)] else if pc = 8 then [(.aload 0, 0, 1), (.iload 2, 0, 1), (.invokevirtual 113, 2, 3)] else if pc = 13 then [(.ifCond .eq 21, 0, 3)] else if pc = 16 then [(.iload 1, 0, 1), (.iload 2, 0, 1), (.if_icmp .ne 23, 0, 3)] else if pc = 21 then [(.iconst (-1), 0, 1), (.ireturn, 0, 1)] else if pc = 23 then [(.aload 0, 0, 1), (.getfield 7, 6, 3), (.iconst 4, 0, 1), (.iload 2, 0, 1), (.imul, 0, 1), (.iconst 1, 0, 1), (.iadd, 0, 1), (.iaload, 0, 1), (.istore 3, 0, 1), (.aload 0, 0, 1), (.getfield 7, 6, 3), (.iconst 4, 0, 1), (.iload 2, 0, 1), (.imul, 0, 1), (.iconst 0, 0, 1), (.iadd, 0, 1), (.aload 0, 0, 1), (.getfield 7, 6, 3), (.iconst 4, 0, 1), (.iload 1, 0, 1), (.imul, 0, 1), (.iconst 0, 0, 1), (.iadd, 0, 1), (.iaload, 0, 1), (.iastore, 0, 1), (.aload 0, 0, 1), (.getfield 7, 6, 3), (.iconst 4, 0, 1), (.iload 2, 0, 1), (.imul, 0, 1), (.iconst 1, 0, 1), (.iadd, 0, 1), (.aload 0, 0, 1), (.getfield 7, 6, 3), (.iconst 4, 0, 1), (.iload 1, 0, 1), (.imul, 0, 1), (.iconst 1, 0, 1), (.iadd, 0, 1), (.iaload, 0, 1), (.iastore, 0, 1), (.iload 3, 0, 1), (.ireturn, 0, 1)] else []
def sp155 (pc : Nat) : Bool := [5, 13].contains pc
theorem BT155 : bt155 0 = [(.aload 0, 0, 1), (.iload 1, 0, 1), (.invokevirtual 113, 2, 3)] ∧ bt155 5 = [(.ifCond .eq 21, 0, 3)] ∧ bt155 8 = [(.aload 0, 0, 1), (.iload 2, 0, 1), (.invokevirtual 113, 2, 3)] ∧ bt155 13 = [(.ifCond .eq 21, 0, 3)] ∧ bt155 16 = [(.iload 1, 0, 1), (.iload 2, 0, 1), (.if_icmp .ne 23, 0, 3)] ∧ bt155 21 = [(.iconst (-1), 0, 1), (.ireturn, 0, 1)] ∧ bt155 23 = [(.aload 0, 0, 1), (.getfield 7, 6, 3), (.iconst 4, 0, 1), (.iload 2, 0, 1), (.imul, 0, 1), (.iconst 1, 0, 1), (.iadd, 0, 1), (.iaload, 0, 1), (.istore 3, 0, 1), (.aload 0, 0, 1), (.getfield 7, 6, 3), (.iconst 4, 0, 1), (.iload 2, 0, 1), (.imul, 0, 1), (.iconst 0, 0, 1), (.iadd, 0, 1), (.aload 0, 0, 1), (.getfield 7, 6, 3), (.iconst 4, 0, 1), (.iload 1, 0, 1), (.imul, 0, 1), (.iconst 0, 0, 1), (.iadd, 0, 1), (.iaload, 0, 1), (.iastore, 0, 1), (.aload 0, 0, 1), (.getfield 7, 6, 3), (.iconst 4, 0, 1), (.iload 2, 0, 1), (.imul, 0, 1), (.iconst 1, 0, 1), (.iadd, 0, 1), (.aload 0, 0, 1), (.getfield 7, 6, 3), (.iconst 4, 0, 1), (.iload 1, 0, 1), (.imul, 0, 1), (.iconst 1, 0, 1), (.iadd, 0, 1), (.iaload, 0, 1), (.iastore, 0, 1), (.iload 3, 0, 1), (.ireturn, 0, 1)] ∧ True := ⟨rfl, rfl, rfl, rfl, rfl, rfl, rfl, trivial⟩
theorem SP155 : sp155 0 = false ∧ sp155 5 = true ∧ sp155 8 = false ∧ sp155 13 = true ∧ sp155 16 = false ∧ sp155 21 = false ∧ sp155 23 = false ∧ True := ⟨rfl, rfl, rfl, rfl, rfl, rfl, rfl, trivial⟩
set_option maxRecDepth 100000 in
theorem bk155 : ∀ pc, blk 155 pc (bt155 pc) = true := fun pc => blk_if (by decide +kernel) (blk_if (by decide +kernel) (blk_if (by decide +kernel) (blk_if (by decide +kernel) (blk_if (by decide +kernel) (blk_if (by decide +kernel) (blk_if (by decide +kernel) (rfl)))))))
theorem go155 {d mc ms : Nat} {sh : List SC} {M : MM} {Post : PP} {a0 : Nat} {a1 : Int} {a2 : Int} (h : ∀ S : Nat → KK, Clo (Run d) 155 none mc ms (Rtn 155 mc ms Post) S → S 0 [some (vR a0), some (vI a1), some (vI a2), none] [] (sh, 0, 0) M) : Run (d + 1) 155 [vR a0, vI a1, vI a2] sh M mc ms Post := ⟨Nat.le_of_ble_eq_true rfl, h⟩
theorem rt155 {v : Int} {sh : List SC} {M : MM} {Post : PP} (h : Post (some (Sum.inl v)) sh M) : Rtn 155 0 0 Post (some (Sum.inl v)) (sh, 0, 0) M := ⟨Nat.le_refl _, Nat.le_refl _, trivial, h⟩
/-! 156 OwnSundayModel.newMany -/
def bt156 (pc : Nat) : BL := if pc = 0 then [(.iconst 0, 0, 1), (.istore 1, 0, 1), (.iconst 0, 0, 1), (.istore 2, 0, 1)] else if pc = 4 then [(.iload 2, 0, 1), (.aload 0, 0, 1), (.getfield 4, 6, 3), (.iconst 0, 0, 1), (.iaload, 0, 1), (.if_icmp .ge 37, 0, 3)] else if pc = 14 then [(.iload 1, 0, 1), (.aload 0, 0, 1), (.getfield 10, 6, 3), (.iload 2, 0, 1), (.baload, 0, 1), (.ifCond .eq 28, 0, 3)] else if pc = 24 then [(.iconst 1, 0, 1), (.goto 29, 0, 3)] else if pc = 28 then [(.iconst 0, 0, 1)] else if pc = 29 then [(.iadd, 0, 1), (.istore 1, 0, 1), (.iinc 2 1, 0, 3), (.goto 4, 0, 3)] else if pc = 37 then [(.iload 1, 0, 1), (.ireturn, 0, 1)] else []
def sp156 (pc : Nat) : Bool := [4].contains pc
theorem BT156 : bt156 0 = [(.iconst 0, 0, 1), (.istore 1, 0, 1), (.iconst 0, 0, 1), (.istore 2, 0, 1)] ∧ bt156 4 = [(.iload 2, 0, 1), (.aload 0, 0, 1), (.getfield 4, 6, 3), (.iconst 0, 0, 1), (.iaload, 0, 1), (.if_icmp .ge 37, 0, 3)] ∧ bt156 14 = [(.iload 1, 0, 1), (.aload 0, 0, 1), (.getfield 10, 6, 3), (.iload 2, 0, 1), (.baload, 0, 1), (.ifCond .eq 28, 0, 3)] ∧ bt156 24 = [(.iconst 1, 0, 1), (.goto 29, 0, 3)] ∧ bt156 28 = [(.iconst 0, 0, 1)] ∧ bt156 29 = [(.iadd, 0, 1), (.istore 1, 0, 1), (.iinc 2 1, 0, 3), (.goto 4, 0, 3)] ∧ bt156 37 = [(.iload 1, 0, 1), (.ireturn, 0, 1)] ∧ True := ⟨rfl, rfl, rfl, rfl, rfl, rfl, rfl, trivial⟩
theorem SP156 : sp156 0 = false ∧ sp156 4 = true ∧ sp156 14 = false ∧ sp156 24 = false ∧ sp156 28 = false ∧ sp156 29 = false ∧ sp156 37 = false ∧ True := ⟨rfl, rfl, rfl, rfl, rfl, rfl, rfl, trivial⟩
set_option maxRecDepth 100000 in
theorem bk156 : ∀ pc, blk 156 pc (bt156 pc) = true := fun pc => blk_if (by decide +kernel) (blk_if (by decide +kernel) (blk_if (by decide +kernel) (blk_if (by decide +kernel) (blk_if (by decide +kernel) (blk_if (by decide +kernel) (blk_if (by decide +kernel) (rfl)))))))
theorem go156 {d mc ms : Nat} {sh : List SC} {M : MM} {Post : PP} {a0 : Nat} (h : ∀ S : Nat → KK, Clo (Run d) 156 none mc ms (Rtn 156 mc ms Post) S → S 0 [some (vR a0), none, none] [] (sh, 0, 0) M) : Run (d + 1) 156 [vR a0] sh M mc ms Post := ⟨Nat.le_of_ble_eq_true rfl, h⟩
theorem rt156 {v : Int} {sh : List SC} {M : MM} {Post : PP} (h : Post (some (Sum.inl v)) sh M) : Rtn 156 0 0 Post (some (Sum.inl v)) (sh, 0, 0) M := ⟨Nat.le_refl _, Nat.le_refl _, trivial, h⟩
/-! 157 OwnSundayModel.settle -/
def bt157 (pc : Nat) : BL := if pc = 0 then [(.aload 0, 0, 1), (.invokevirtual 156, 1, 3)] else if pc = 4 then [(.istore 1, 0, 1), (.aload 0, 0, 1), (.iconst 0, 0, 1), (.invokevirtual 140, 2, 3)] else if pc = 10 then [(.iload 1, 0, 1), (.ifCond .eq 21, 0, 3)] else if pc = 14 then [(.aload 0, 0, 1), (.getfield 25, 6, 3), (.ifCond .ne 24, 0, 3)] else if pc = 21 then [(.iconst (-2), 0, 2), (.ireturn, 0, 1)] else if pc = 24 then [(.iconst 0, 0, 1), (.istore 2, 0, 1)] else if pc = 26 then [(.iload 2, 0, 1), (.aload 0, 0, 1), (.getfield 4, 6, 3), (.iconst 0, 0, 1), (.iaload, 0, 1), (.if_icmp .ge 87, 0, 3)] else if pc = 36 then [(.aload 0, 0, 1), (.getfield 7, 6, 3), (.iconst 4, 0, 1), (.iload 2, 0, 1), (.imul, 0, 1), (.iconst 1, 0, 1), (.iadd, 0, 1), (.aload 0, 0, 1), (.getfield 10, 6, 3), (.iload 2, 0, 1), (.baload, 0, 1), (.ifCond .eq 63, 0, 3)] else if pc = 54 then [(.aload 0, 0, 1), (.getfield 23, 6, 3), (.iload 2, 0, 1), (.iaload, 0, 1), (.goto 73, 0, 3)] else if pc = 63 then [(.aload 0, 0, 1), (.getfield 7, 6, 3), (.iconst 4, 0, 1), (.iload 2, 0, 1), (.imul, 0, 1), (.iconst 1, 0, 1), (.iadd, 0, 1), (.iaload, 0, 1)] else if pc = 73 then [(.iastore, 0, 1), (.aload 0, 0, 1), (.getfield 10, 6, 3), (.iload 2, 0, 1), (.iconst 0, 0, 1), (.bastore, 0, 1), (.iinc 2 1, 0, 3), (.goto 26, 0, 3)] else if pc = 87 then [(.iload 1, 0, 1), (.ireturn, 0, 1)] else []
def sp157 (pc : Nat) : Bool := [4, 10, 26].contains pc
theorem BT157 : bt157 0 = [(.aload 0, 0, 1), (.invokevirtual 156, 1, 3)] ∧ bt157 4 = [(.istore 1, 0, 1), (.aload 0, 0, 1), (.iconst 0, 0, 1), (.invokevirtual 140, 2, 3)] ∧ bt157 10 = [(.iload 1, 0, 1), (.ifCond .eq 21, 0, 3)] ∧ bt157 14 = [(.aload 0, 0, 1), (.getfield 25, 6, 3), (.ifCond .ne 24, 0, 3)] ∧ bt157 21 = [(.iconst (-2), 0, 2), (.ireturn, 0, 1)] ∧ bt157 24 = [(.iconst 0, 0, 1), (.istore 2, 0, 1)] ∧ bt157 26 = [(.iload 2, 0, 1), (.aload 0, 0, 1), (.getfield 4, 6, 3), (.iconst 0, 0, 1), (.iaload, 0, 1), (.if_icmp .ge 87, 0, 3)] ∧ bt157 36 = [(.aload 0, 0, 1), (.getfield 7, 6, 3), (.iconst 4, 0, 1), (.iload 2, 0, 1), (.imul, 0, 1), (.iconst 1, 0, 1), (.iadd, 0, 1), (.aload 0, 0, 1), (.getfield 10, 6, 3), (.iload 2, 0, 1), (.baload, 0, 1), (.ifCond .eq 63, 0, 3)] ∧ bt157 54 = [(.aload 0, 0, 1), (.getfield 23, 6, 3), (.iload 2, 0, 1), (.iaload, 0, 1), (.goto 73, 0, 3)] ∧ bt157 63 = [(.aload 0, 0, 1), (.getfield 7, 6, 3), (.iconst 4, 0, 1), (.iload 2, 0, 1), (.imul, 0, 1), (.iconst 1, 0, 1), (.iadd, 0, 1), (.iaload, 0, 1)] ∧ bt157 73 = [(.iastore, 0, 1), (.aload 0, 0, 1), (.getfield 10, 6, 3), (.iload 2, 0, 1), (.iconst 0, 0, 1), (.bastore, 0, 1), (.iinc 2 1, 0, 3), (.goto 26, 0, 3)] ∧ bt157 87 = [(.iload 1, 0, 1), (.ireturn, 0, 1)] ∧ True := ⟨rfl, rfl, rfl, rfl, rfl, rfl, rfl, rfl, rfl, rfl, rfl, rfl, trivial⟩
theorem SP157 : sp157 0 = false ∧ sp157 4 = true ∧ sp157 10 = true ∧ sp157 14 = false ∧ sp157 21 = false ∧ sp157 24 = false ∧ sp157 26 = true ∧ sp157 36 = false ∧ sp157 54 = false ∧ sp157 63 = false ∧ sp157 73 = false ∧ sp157 87 = false ∧ True := ⟨rfl, rfl, rfl, rfl, rfl, rfl, rfl, rfl, rfl, rfl, rfl, rfl, trivial⟩
set_option maxRecDepth 100000 in
theorem bk157 : ∀ pc, blk 157 pc (bt157 pc) = true := fun pc => blk_if (by decide +kernel) (blk_if (by decide +kernel) (blk_if (by decide +kernel) (blk_if (by decide +kernel) (blk_if (by decide +kernel) (blk_if (by decide +kernel) (blk_if (by decide +kernel) (blk_if (by decide +kernel) (blk_if (by decide +kernel) (blk_if (by decide +kernel) (blk_if (by decide +kernel) (blk_if (by decide +kernel) (rfl))))))))))))
theorem go157 {d mc ms : Nat} {sh : List SC} {M : MM} {Post : PP} {a0 : Nat} (h : ∀ S : Nat → KK, Clo (Run d) 157 none mc ms (Rtn 157 mc ms Post) S → S 0 [some (vR a0), none, none] [] (sh, 0, 0) M) : Run (d + 1) 157 [vR a0] sh M mc ms Post := ⟨Nat.le_of_ble_eq_true rfl, h⟩
theorem rt157 {v : Int} {sh : List SC} {M : MM} {Post : PP} (h : Post (some (Sum.inl v)) sh M) : Rtn 157 0 0 Post (some (Sum.inl v)) (sh, 0, 0) M := ⟨Nat.le_refl _, Nat.le_refl _, trivial, h⟩
/-! 158 OwnSundayModel.keep -/
def bt158 (pc : Nat) : BL := if pc = 0 then [(.aload 0, 0, 1), (.getfield 15, 6, 3), (.iconst 2, 0, 1), (.if_icmp .ne 11, 0, 3)] else if pc = 8 then [(.iconst (-3), 0, 2), (.ireturn, 0, 1)] else if pc = 11 then [(.iconst 0, 0, 1), (.istore 1, 0, 1)] else if pc = 13 then [(.iload 1, 0, 1), (.iconst 10, 0, 2), (.if_icmp .ge 99, 0, 3)] else if pc = 19 then [(.aload 0, 0, 1), (.getfield 16, 6, 3), (.iconst 20, 0, 2), (.aload 0, 0, 1), (.getfield 15, 6, 3), (.imul, 0, 1), (.iconst 2, 0, 1), (.iload 1, 0, 1), (.imul, 0, 1), (.iadd, 0, 1), (.aload 0, 0, 1), (.getfield 7, 6, 3), (.iconst 4, 0, 1), (.iload 1, 0, 1), (.imul, 0, 1), (.iconst 0, 0, 1), (.iadd, 0, 1), (.iaload, 0, 1), (.iastore, 0, 1), (.aload 0, 0, 1), (.getfield 16, 6, 3), (.iconst 20, 0, 2), (.aload 0, 0, 1), (.getfield 15, 6, 3), (.imul, 0, 1), (.iconst 2, 0, 1), (.iload 1, 0, 1), (.imul, 0, 1), (.iadd, 0, 1), (.iconst 1, 0, 1), (.iadd, 0, 1), (.aload 0, 0, 1), (.getfield 7, 6, 3), (.iconst 4, 0, 1), (.iload 1, 0, 1), (.imul, 0, 1), (.iconst 1, 0, 1), (.iadd, 0, 1), (.iaload, 0, 1), (.iastore, 0, 1), (.aload 0, 0, 1), (.getfield 17, 6, 3), (.iconst 10, 0, 2), (.aload 0, 0, 1), (.getfield 15, 6, 3), (.imul, 0, 1), (.iload 1, 0, 1), (.iadd, 0, 1), (.aload 0, 0, 1), (.getfield 10, 6, 3), (.iload 1, 0, 1), (.baload, 0, 1), (.bastore, 0, 1), (.iinc 1 1, 0, 3), (.goto 13, 0, 3)] else if pc = 99 then [(.aload 0, 0, 1), (.getfield 18, 6, 3), (.aload 0, 0, 1), (.getfield 15, 6, 3), (.aload 0, 0, 1), (.getfield 11, 6, 3), (.iastore, 0, 1), (.iconst 0, 0, 1), (.istore 1, 0, 1)] else if pc = 114 then [(.iload 1, 0, 1), (.iconst 20, 0, 2), (.if_icmp .ge 186, 0, 3)] else if pc = 120 then [(.aload 0, 0, 1), (.getfield 19, 6, 3), (.iconst 20, 0, 2), (.aload 0, 0, 1), (.getfield 15, 6, 3), (.imul, 0, 1), (.iload 1, 0, 1), (.iadd, 0, 1), (.aload 0, 0, 1), (.getfield 12, 6, 3), (.iload 1, 0, 1), (.laload, 0, 1), (.lastore, 0, 1), (.aload 0, 0, 1), (.getfield 20, 6, 3), (.iconst 20, 0, 2), (.aload 0, 0, 1), (.getfield 15, 6, 3), (.imul, 0, 1), (.iload 1, 0, 1), (.iadd, 0, 1), (.aload 0, 0, 1), (.getfield 13, 6, 3), (.iload 1, 0, 1), (.iaload, 0, 1), (.iastore, 0, 1), (.aload 0, 0, 1), (.getfield 21, 6, 3), (.iconst 20, 0, 2), (.aload 0, 0, 1), (.getfield 15, 6, 3), (.imul, 0, 1), (.iload 1, 0, 1), (.iadd, 0, 1), (.aload 0, 0, 1), (.getfield 14, 6, 3), (.iload 1, 0, 1), (.baload, 0, 1), (.bastore, 0, 1), (.iinc 1 1, 0, 3), (.goto 114, 0, 3)] else if pc = 186 then [(.aload 0, 0, 1), (.dup, 0, 1), (.getfield 15, 6, 3), (.iconst 1, 0, 1), (.iadd, 0, 1), (.putfield 15, 6, 3), (.aload 0, 0, 1), (.getfield 15, 6, 3), (.ireturn, 0, 1)] else []
def sp158 (pc : Nat) : Bool := [13, 114].contains pc
theorem BT158 : bt158 0 = [(.aload 0, 0, 1), (.getfield 15, 6, 3), (.iconst 2, 0, 1), (.if_icmp .ne 11, 0, 3)] ∧ bt158 8 = [(.iconst (-3), 0, 2), (.ireturn, 0, 1)] ∧ bt158 11 = [(.iconst 0, 0, 1), (.istore 1, 0, 1)] ∧ bt158 13 = [(.iload 1, 0, 1), (.iconst 10, 0, 2), (.if_icmp .ge 99, 0, 3)] ∧ bt158 19 = [(.aload 0, 0, 1), (.getfield 16, 6, 3), (.iconst 20, 0, 2), (.aload 0, 0, 1), (.getfield 15, 6, 3), (.imul, 0, 1), (.iconst 2, 0, 1), (.iload 1, 0, 1), (.imul, 0, 1), (.iadd, 0, 1), (.aload 0, 0, 1), (.getfield 7, 6, 3), (.iconst 4, 0, 1), (.iload 1, 0, 1), (.imul, 0, 1), (.iconst 0, 0, 1), (.iadd, 0, 1), (.iaload, 0, 1), (.iastore, 0, 1), (.aload 0, 0, 1), (.getfield 16, 6, 3), (.iconst 20, 0, 2), (.aload 0, 0, 1), (.getfield 15, 6, 3), (.imul, 0, 1), (.iconst 2, 0, 1), (.iload 1, 0, 1), (.imul, 0, 1), (.iadd, 0, 1), (.iconst 1, 0, 1), (.iadd, 0, 1), (.aload 0, 0, 1), (.getfield 7, 6, 3), (.iconst 4, 0, 1), (.iload 1, 0, 1), (.imul, 0, 1), (.iconst 1, 0, 1), (.iadd, 0, 1), (.iaload, 0, 1), (.iastore, 0, 1), (.aload 0, 0, 1), (.getfield 17, 6, 3), (.iconst 10, 0, 2), (.aload 0, 0, 1), (.getfield 15, 6, 3), (.imul, 0, 1), (.iload 1, 0, 1), (.iadd, 0, 1), (.aload 0, 0, 1), (.getfield 10, 6, 3), (.iload 1, 0, 1), (.baload, 0, 1), (.bastore, 0, 1), (.iinc 1 1, 0, 3), (.goto 13, 0, 3)] ∧ bt158 99 = [(.aload 0, 0, 1), (.getfield 18, 6, 3), (.aload 0, 0, 1), (.getfield 15, 6, 3), (.aload 0, 0, 1), (.getfield 11, 6, 3), (.iastore, 0, 1), (.iconst 0, 0, 1), (.istore 1, 0, 1)] ∧ bt158 114 = [(.iload 1, 0, 1), (.iconst 20, 0, 2), (.if_icmp .ge 186, 0, 3)] ∧ bt158 120 = [(.aload 0, 0, 1), (.getfield 19, 6, 3), (.iconst 20, 0, 2), (.aload 0, 0, 1), (.getfield 15, 6, 3), (.imul, 0, 1), (.iload 1, 0, 1), (.iadd, 0, 1), (.aload 0, 0, 1), (.getfield 12, 6, 3), (.iload 1, 0, 1), (.laload, 0, 1), (.lastore, 0, 1), (.aload 0, 0, 1), (.getfield 20, 6, 3), (.iconst 20, 0, 2), (.aload 0, 0, 1), (.getfield 15, 6, 3), (.imul, 0, 1), (.iload 1, 0, 1), (.iadd, 0, 1), (.aload 0, 0, 1), (.getfield 13, 6, 3), (.iload 1, 0, 1), (.iaload, 0, 1), (.iastore, 0, 1), (.aload 0, 0, 1), (.getfield 21, 6, 3), (.iconst 20, 0, 2), (.aload 0, 0, 1), (.getfield 15, 6, 3), (.imul, 0, 1), (.iload 1, 0, 1), (.iadd, 0, 1), (.aload 0, 0, 1), (.getfield 14, 6, 3), (.iload 1, 0, 1), (.baload, 0, 1), (.bastore, 0, 1), (.iinc 1 1, 0, 3), (.goto 114, 0, 3)] ∧ bt158 186 = [(.aload 0, 0, 1), (.dup, 0, 1), (.getfield 15, 6, 3), (.iconst 1, 0, 1), (.iadd, 0, 1), (.putfield 15, 6, 3), (.aload 0, 0, 1), (.getfield 15, 6, 3), (.ireturn, 0, 1)] ∧ True := ⟨rfl, rfl, rfl, rfl, rfl, rfl, rfl, rfl, rfl, trivial⟩
theorem SP158 : sp158 0 = false ∧ sp158 8 = false ∧ sp158 11 = false ∧ sp158 13 = true ∧ sp158 19 = false ∧ sp158 99 = false ∧ sp158 114 = true ∧ sp158 120 = false ∧ sp158 186 = false ∧ True := ⟨rfl, rfl, rfl, rfl, rfl, rfl, rfl, rfl, rfl, trivial⟩
set_option maxRecDepth 100000 in
theorem bk158 : ∀ pc, blk 158 pc (bt158 pc) = true := fun pc => blk_if (by decide +kernel) (blk_if (by decide +kernel) (blk_if (by decide +kernel) (blk_if (by decide +kernel) (blk_if (by decide +kernel) (blk_if (by decide +kernel) (blk_if (by decide +kernel) (blk_if (by decide +kernel) (blk_if (by decide +kernel) (rfl)))))))))
theorem go158 {d mc ms : Nat} {sh : List SC} {M : MM} {Post : PP} {a0 : Nat} (h : ∀ S : Nat → KK, Clo (Run d) 158 none mc ms (Rtn 158 mc ms Post) S → S 0 [some (vR a0), none] [] (sh, 0, 0) M) : Run (d + 1) 158 [vR a0] sh M mc ms Post := ⟨Nat.le_of_ble_eq_true rfl, h⟩
theorem rt158 {v : Int} {sh : List SC} {M : MM} {Post : PP} (h : Post (some (Sum.inl v)) sh M) : Rtn 158 0 0 Post (some (Sum.inl v)) (sh, 0, 0) M := ⟨Nat.le_refl _, Nat.le_refl _, trivial, h⟩
/-! 159 OwnSundayModel.back -/
def bt159 (pc : Nat) : BL := if pc = 0 then [(.aload 0, 0, 1), (.getfield 15, 6, 3), (.ifCond .ne 10, 0, 3)] else if pc = 7 then [(.iconst (-2), 0, 2), (.ireturn, 0, 1)] else if pc = 10 then [(.aload 0, 0, 1), (.dup, 0, 1), (.getfield 15, 6, 3), (.iconst 1, 0, 1), (.isub, 0, 1), (.putfield 15, 6, 3), (.iconst 0, 0, 1), (.istore 1, 0, 1)] else if pc = 22 then [(.iload 1, 0, 1), (.iconst 10, 0, 2), (.if_icmp .ge 108, 0, 3)] else if pc = 28 then [(.aload 0, 0, 1), (.getfield 7, 6, 3), (.iconst 4, 0, 1), (.iload 1, 0, 1), (.imul, 0, 1), (.iconst 0, 0, 1), (.iadd, 0, 1), (.aload 0, 0, 1), (.getfield 16, 6, 3), (.iconst 20, 0, 2), (.aload 0, 0, 1), (.getfield 15, 6, 3), (.imul, 0, 1), (.iconst 2, 0, 1), (.iload 1, 0, 1), (.imul, 0, 1), (.iadd, 0, 1), (.iaload, 0, 1), (.iastore, 0, 1), (.aload 0, 0, 1), (.getfield 7, 6, 3), (.iconst 4, 0, 1), (.iload 1, 0, 1), (.imul, 0, 1), (.iconst 1, 0, 1), (.iadd, 0, 1), (.aload 0, 0, 1), (.getfield 16, 6, 3), (.iconst 20, 0, 2), (.aload 0, 0, 1), (.getfield 15, 6, 3), (.imul, 0, 1), (.iconst 2, 0, 1), (.iload 1, 0, 1), (.imul, 0, 1), (.iadd, 0, 1), (.iconst 1, 0, 1), (.iadd, 0, 1), (.iaload, 0, 1), (.iastore, 0, 1), (.aload 0, 0, 1), (.getfield 10, 6, 3), (.iload 1, 0, 1), (.aload 0, 0, 1), (.getfield 17, 6, 3), (.iconst 10, 0, 2), (.aload 0, 0, 1), (.getfield 15, 6, 3), (.imul, 0, 1), (.iload 1, 0, 1), (.iadd, 0, 1), (.baload, 0, 1), (.bastore, 0, 1), (.iinc 1 1, 0, 3), (.goto 22, 0, 3)] else if pc = 108 then [(.aload 0, 0, 1), (.aload 0, 0, 1), (.getfield 18, 6, 3), (.aload 0, 0, 1), (.getfield 15, 6, 3), (.iaload, 0, 1), (.putfield 11, 6, 3), (.iconst 0, 0, 1), (.istore 1, 0, 1)] else if pc = 123 then [(.iload 1, 0, 1), (.iconst 20, 0, 2), (.if_icmp .ge 195, 0, 3)] else if pc = 129 then [(.aload 0, 0, 1), (.getfield 12, 6, 3), (.iload 1, 0, 1), (.aload 0, 0, 1), (.getfield 19, 6, 3), (.iconst 20, 0, 2), (.aload 0, 0, 1), (.getfield 15, 6, 3), (.imul, 0, 1), (.iload 1, 0, 1), (.iadd, 0, 1), (.laload, 0, 1), (.lastore, 0, 1), (.aload 0, 0, 1), (.getfield 13, 6, 3), (.iload 1, 0, 1), (.aload 0, 0, 1), (.getfield 20, 6, 3), (.iconst 20, 0, 2), (.aload 0, 0, 1), (.getfield 15, 6, 3), (.imul, 0, 1), (.iload 1, 0, 1), (.iadd, 0, 1), (.iaload, 0, 1), (.iastore, 0, 1), (.aload 0, 0, 1), (.getfield 14, 6, 3), (.iload 1, 0, 1), (.aload 0, 0, 1), (.getfield 21, 6, 3), (.iconst 20, 0, 2), (.aload 0, 0, 1), (.getfield 15, 6, 3), (.imul, 0, 1), (.iload 1, 0, 1), (.iadd, 0, 1), (.baload, 0, 1), (.bastore, 0, 1), (.iinc 1 1, 0, 3), (.goto 123, 0, 3)] else if pc = 195 then [(.aload 0, 0, 1), (.getfield 15, 6, 3), (.ireturn, 0, 1)] else []
def sp159 (pc : Nat) : Bool := [22, 123].contains pc
theorem BT159 : bt159 0 = [(.aload 0, 0, 1), (.getfield 15, 6, 3), (.ifCond .ne 10, 0, 3)] ∧ bt159 7 = [(.iconst (-2), 0, 2), (.ireturn, 0, 1)] ∧ bt159 10 = [(.aload 0, 0, 1), (.dup, 0, 1), (.getfield 15, 6, 3), (.iconst 1, 0, 1), (.isub, 0, 1), (.putfield 15, 6, 3), (.iconst 0, 0, 1), (.istore 1, 0, 1)] ∧ bt159 22 = [(.iload 1, 0, 1), (.iconst 10, 0, 2), (.if_icmp .ge 108, 0, 3)] ∧ bt159 28 = [(.aload 0, 0, 1), (.getfield 7, 6, 3), (.iconst 4, 0, 1), (.iload 1, 0, 1), (.imul, 0, 1), (.iconst 0, 0, 1), (.iadd, 0, 1), (.aload 0, 0, 1), (.getfield 16, 6, 3), (.iconst 20, 0, 2), (.aload 0, 0, 1), (.getfield 15, 6, 3), (.imul, 0, 1), (.iconst 2, 0, 1), (.iload 1, 0, 1), (.imul, 0, 1), (.iadd, 0, 1), (.iaload, 0, 1), (.iastore, 0, 1), (.aload 0, 0, 1), (.getfield 7, 6, 3), (.iconst 4, 0, 1), (.iload 1, 0, 1), (.imul, 0, 1), (.iconst 1, 0, 1), (.iadd, 0, 1), (.aload 0, 0, 1), (.getfield 16, 6, 3), (.iconst 20, 0, 2), (.aload 0, 0, 1), (.getfield 15, 6, 3), (.imul, 0, 1), (.iconst 2, 0, 1), (.iload 1, 0, 1), (.imul, 0, 1), (.iadd, 0, 1), (.iconst 1, 0, 1), (.iadd, 0, 1), (.iaload, 0, 1), (.iastore, 0, 1), (.aload 0, 0, 1), (.getfield 10, 6, 3), (.iload 1, 0, 1), (.aload 0, 0, 1), (.getfield 17, 6, 3), (.iconst 10, 0, 2), (.aload 0, 0, 1), (.getfield 15, 6, 3), (.imul, 0, 1), (.iload 1, 0, 1), (.iadd, 0, 1), (.baload, 0, 1), (.bastore, 0, 1), (.iinc 1 1, 0, 3), (.goto 22, 0, 3)] ∧ bt159 108 = [(.aload 0, 0, 1), (.aload 0, 0, 1), (.getfield 18, 6, 3), (.aload 0, 0, 1), (.getfield 15, 6, 3), (.iaload, 0, 1), (.putfield 11, 6, 3), (.iconst 0, 0, 1), (.istore 1, 0, 1)] ∧ bt159 123 = [(.iload 1, 0, 1), (.iconst 20, 0, 2), (.if_icmp .ge 195, 0, 3)] ∧ bt159 129 = [(.aload 0, 0, 1), (.getfield 12, 6, 3), (.iload 1, 0, 1), (.aload 0, 0, 1), (.getfield 19, 6, 3), (.iconst 20, 0, 2), (.aload 0, 0, 1), (.getfield 15, 6, 3), (.imul, 0, 1), (.iload 1, 0, 1), (.iadd, 0, 1), (.laload, 0, 1), (.lastore, 0, 1), (.aload 0, 0, 1), (.getfield 13, 6, 3), (.iload 1, 0, 1), (.aload 0, 0, 1), (.getfield 20, 6, 3), (.iconst 20, 0, 2), (.aload 0, 0, 1), (.getfield 15, 6, 3), (.imul, 0, 1), (.iload 1, 0, 1), (.iadd, 0, 1), (.iaload, 0, 1), (.iastore, 0, 1), (.aload 0, 0, 1), (.getfield 14, 6, 3), (.iload 1, 0, 1), (.aload 0, 0, 1), (.getfield 21, 6, 3), (.iconst 20, 0, 2), (.aload 0, 0, 1), (.getfield 15, 6, 3), (.imul, 0, 1), (.iload 1, 0, 1), (.iadd, 0, 1), (.baload, 0, 1), (.bastore, 0, 1), (.iinc 1 1, 0, 3), (.goto 123, 0, 3)] ∧ bt159 195 = [(.aload 0, 0, 1), (.getfield 15, 6, 3), (.ireturn, 0, 1)] ∧ True := ⟨rfl, rfl, rfl, rfl, rfl, rfl, rfl, rfl, rfl, trivial⟩
theorem SP159 : sp159 0 = false ∧ sp159 7 = false ∧ sp159 10 = false ∧ sp159 22 = true ∧ sp159 28 = false ∧ sp159 108 = false ∧ sp159 123 = true ∧ sp159 129 = false ∧ sp159 195 = false ∧ True := ⟨rfl, rfl, rfl, rfl, rfl, rfl, rfl, rfl, rfl, trivial⟩
set_option maxRecDepth 100000 in
theorem bk159 : ∀ pc, blk 159 pc (bt159 pc) = true := fun pc => blk_if (by decide +kernel) (blk_if (by decide +kernel) (blk_if (by decide +kernel) (blk_if (by decide +kernel) (blk_if (by decide +kernel) (blk_if (by decide +kernel) (blk_if (by decide +kernel) (blk_if (by decide +kernel) (blk_if (by decide +kernel) (rfl)))))))))
theorem go159 {d mc ms : Nat} {sh : List SC} {M : MM} {Post : PP} {a0 : Nat} (h : ∀ S : Nat → KK, Clo (Run d) 159 none mc ms (Rtn 159 mc ms Post) S → S 0 [some (vR a0), none] [] (sh, 0, 0) M) : Run (d + 1) 159 [vR a0] sh M mc ms Post := ⟨Nat.le_of_ble_eq_true rfl, h⟩
theorem rt159 {v : Int} {sh : List SC} {M : MM} {Post : PP} (h : Post (some (Sum.inl v)) sh M) : Rtn 159 0 0 Post (some (Sum.inl v)) (sh, 0, 0) M := ⟨Nat.le_refl _, Nat.le_refl _, trivial, h⟩
/-! 160 OwnSundayModel.count -/
def bt160 (pc : Nat) : BL := if pc = 0 then [(.iload 1, 0, 1), (.tableswitch 83 0 6 #[44, 51, 58, 63, 68, 73, 78], 0, 43)] else if pc = 44 then [(.aload 0, 0, 1), (.getfield 4, 6, 3), (.iconst 0, 0, 1), (.iaload, 0, 1), (.ireturn, 0, 1)] else if pc = 51 then [(.aload 0, 0, 1), (.getfield 5, 6, 3), (.iconst 0, 0, 1), (.iaload, 0, 1), (.ireturn, 0, 1)] else if pc = 58 then [(.aload 0, 0, 1), (.getfield 0, 6, 3), (.ireturn, 0, 1)] else if pc = 63 then [(.aload 0, 0, 1), (.invokevirtual 156, 1, 3)] else if pc = 67 then [(.ireturn, 0, 1)] else if pc = 68 then [(.aload 0, 0, 1), (.getfield 11, 6, 3), (.ireturn, 0, 1)] else if pc = 73 then [(.aload 0, 0, 1), (.getfield 15, 6, 3), (.ireturn, 0, 1)] else if pc = 78 then [(.aload 0, 0, 1), (.invokevirtual 119, 1, 3)] else if pc = 82 then [(.ireturn, 0, 1)] else if pc = 83 then [(.iconst (-1), 0, 1), (.ireturn, 0, 1)] else []
def sp160 (pc : Nat) : Bool := [67, 82].contains pc
theorem BT160 : bt160 0 = [(.iload 1, 0, 1), (.tableswitch 83 0 6 #[44, 51, 58, 63, 68, 73, 78], 0, 43)] ∧ bt160 44 = [(.aload 0, 0, 1), (.getfield 4, 6, 3), (.iconst 0, 0, 1), (.iaload, 0, 1), (.ireturn, 0, 1)] ∧ bt160 51 = [(.aload 0, 0, 1), (.getfield 5, 6, 3), (.iconst 0, 0, 1), (.iaload, 0, 1), (.ireturn, 0, 1)] ∧ bt160 58 = [(.aload 0, 0, 1), (.getfield 0, 6, 3), (.ireturn, 0, 1)] ∧ bt160 63 = [(.aload 0, 0, 1), (.invokevirtual 156, 1, 3)] ∧ bt160 67 = [(.ireturn, 0, 1)] ∧ bt160 68 = [(.aload 0, 0, 1), (.getfield 11, 6, 3), (.ireturn, 0, 1)] ∧ bt160 73 = [(.aload 0, 0, 1), (.getfield 15, 6, 3), (.ireturn, 0, 1)] ∧ bt160 78 = [(.aload 0, 0, 1), (.invokevirtual 119, 1, 3)] ∧ bt160 82 = [(.ireturn, 0, 1)] ∧ bt160 83 = [(.iconst (-1), 0, 1), (.ireturn, 0, 1)] ∧ True := ⟨rfl, rfl, rfl, rfl, rfl, rfl, rfl, rfl, rfl, rfl, rfl, trivial⟩
theorem SP160 : sp160 0 = false ∧ sp160 44 = false ∧ sp160 51 = false ∧ sp160 58 = false ∧ sp160 63 = false ∧ sp160 67 = true ∧ sp160 68 = false ∧ sp160 73 = false ∧ sp160 78 = false ∧ sp160 82 = true ∧ sp160 83 = false ∧ True := ⟨rfl, rfl, rfl, rfl, rfl, rfl, rfl, rfl, rfl, rfl, rfl, trivial⟩
set_option maxRecDepth 100000 in
theorem bk160 : ∀ pc, blk 160 pc (bt160 pc) = true := fun pc => blk_if (by decide +kernel) (blk_if (by decide +kernel) (blk_if (by decide +kernel) (blk_if (by decide +kernel) (blk_if (by decide +kernel) (blk_if (by decide +kernel) (blk_if (by decide +kernel) (blk_if (by decide +kernel) (blk_if (by decide +kernel) (blk_if (by decide +kernel) (blk_if (by decide +kernel) (rfl)))))))))))
theorem go160 {d mc ms : Nat} {sh : List SC} {M : MM} {Post : PP} {a0 : Nat} {a1 : Int} (h : ∀ S : Nat → KK, Clo (Run d) 160 none mc ms (Rtn 160 mc ms Post) S → S 0 [some (vR a0), some (vI a1)] [] (sh, 0, 0) M) : Run (d + 1) 160 [vR a0, vI a1] sh M mc ms Post := ⟨Nat.le_of_ble_eq_true rfl, h⟩
theorem rt160 {v : Int} {sh : List SC} {M : MM} {Post : PP} (h : Post (some (Sum.inl v)) sh M) : Rtn 160 0 0 Post (some (Sum.inl v)) (sh, 0, 0) M := ⟨Nat.le_refl _, Nat.le_refl _, trivial, h⟩
/-! 161 java/lang/Integer.bitCount -/
def bt161 (pc : Nat) : BL := if pc = 0 then [(.iload 0, 0, 1), (.iload 0, 0, 1), (.iconst 1, 0, 1), (.iushr, 0, 1), (.iconst 1431655765, 0, 3), (.iand, 0, 1), (.isub, 0, 1), (.istore 0, 0, 1), (.iload 0, 0, 1), (.iconst 858993459, 0, 3), (.iand, 0, 1), (.iload 0, 0, 1), (.iconst 2, 0, 1), (.iushr, 0, 1), (.iconst 858993459, 0, 3), (.iand, 0, 1), (.iadd, 0, 1), (.istore 0, 0, 1), (.iload 0, 0, 1), (.iload 0, 0, 1), (.iconst 4, 0, 1), (.iushr, 0, 1), (.iadd, 0, 1), (.iconst 252645135, 0, 3), (.iand, 0, 1), (.istore 0, 0, 1), (.iload 0, 0, 1), (.iload 0, 0, 1), (.iconst 8, 0, 2), (.iushr, 0, 1), (.iadd, 0, 1), (.istore 0, 0, 1), (.iload 0, 0, 1), (.iload 0, 0, 1), (.iconst 16, 0, 2), (.iushr, 0, 1), (.iadd, 0, 1), (.istore 0, 0, 1), (.iload 0, 0, 1), (.iconst 63, 0, 2), (.iand, 0, 1), (.ireturn, 0, 1)] else []
def sp161 (pc : Nat) : Bool := [].contains pc
theorem BT161 : bt161 0 = [(.iload 0, 0, 1), (.iload 0, 0, 1), (.iconst 1, 0, 1), (.iushr, 0, 1), (.iconst 1431655765, 0, 3), (.iand, 0, 1), (.isub, 0, 1), (.istore 0, 0, 1), (.iload 0, 0, 1), (.iconst 858993459, 0, 3), (.iand, 0, 1), (.iload 0, 0, 1), (.iconst 2, 0, 1), (.iushr, 0, 1), (.iconst 858993459, 0, 3), (.iand, 0, 1), (.iadd, 0, 1), (.istore 0, 0, 1), (.iload 0, 0, 1), (.iload 0, 0, 1), (.iconst 4, 0, 1), (.iushr, 0, 1), (.iadd, 0, 1), (.iconst 252645135, 0, 3), (.iand, 0, 1), (.istore 0, 0, 1), (.iload 0, 0, 1), (.iload 0, 0, 1), (.iconst 8, 0, 2), (.iushr, 0, 1), (.iadd, 0, 1), (.istore 0, 0, 1), (.iload 0, 0, 1), (.iload 0, 0, 1), (.iconst 16, 0, 2), (.iushr, 0, 1), (.iadd, 0, 1), (.istore 0, 0, 1), (.iload 0, 0, 1), (.iconst 63, 0, 2), (.iand, 0, 1), (.ireturn, 0, 1)] ∧ True := ⟨rfl, trivial⟩
theorem SP161 : sp161 0 = false ∧ True := ⟨rfl, trivial⟩
set_option maxRecDepth 100000 in
theorem bk161 : ∀ pc, blk 161 pc (bt161 pc) = true := fun pc => blk_if (by decide +kernel) (rfl)
theorem go161 {d mc ms : Nat} {sh : List SC} {M : MM} {Post : PP} {a0 : Int} (h : ∀ S : Nat → KK, Clo (Run d) 161 none mc ms (Rtn 161 mc ms Post) S → S 0 [some (vI a0)] [] (sh, 0, 0) M) : Run (d + 1) 161 [vI a0] sh M mc ms Post := ⟨Nat.le_of_ble_eq_true rfl, h⟩
theorem rt161 {v : Int} {sh : List SC} {M : MM} {Post : PP} (h : Post (some (Sum.inl v)) sh M) : Rtn 161 0 0 Post (some (Sum.inl v)) (sh, 0, 0) M := ⟨Nat.le_refl _, Nat.le_refl _, trivial, h⟩
/-! 162 java/util/Arrays.fill -/
def bt162 (pc : Nat) : BL := if pc = 0 then [(.iconst 0, 0, 1), (.istore 2, 0, 1), (.aload 0, 0, 1), (.arraylength, 0, 1), (.istore 3, 0, 1)] else if pc = 5 then [(.iload 2, 0, 1), (.iload 3, 0, 1), (.if_icmp .ge 20, 0, 3)] else if pc = 10 then [(.aload 0, 0, 1), (.iload 2, 0, 1), (.iload 1, 0, 1), (.iastore, 0, 1), (.iinc 2 1, 0, 3), (.goto 5, 0, 3)] else if pc = 20 then [(.return_, 0, 1)] else []
def sp162 (pc : Nat) : Bool := [5].contains pc
theorem BT162 : bt162 0 = [(.iconst 0, 0, 1), (.istore 2, 0, 1), (.aload 0, 0, 1), (.arraylength, 0, 1), (.istore 3, 0, 1)] ∧ bt162 5 = [(.iload 2, 0, 1), (.iload 3, 0, 1), (.if_icmp .ge 20, 0, 3)] ∧ bt162 10 = [(.aload 0, 0, 1), (.iload 2, 0, 1), (.iload 1, 0, 1), (.iastore, 0, 1), (.iinc 2 1, 0, 3), (.goto 5, 0, 3)] ∧ bt162 20 = [(.return_, 0, 1)] ∧ True := ⟨rfl, rfl, rfl, rfl, trivial⟩
theorem SP162 : sp162 0 = false ∧ sp162 5 = true ∧ sp162 10 = false ∧ sp162 20 = false ∧ True := ⟨rfl, rfl, rfl, rfl, trivial⟩
set_option maxRecDepth 100000 in
theorem bk162 : ∀ pc, blk 162 pc (bt162 pc) = true := fun pc => blk_if (by decide +kernel) (blk_if (by decide +kernel) (blk_if (by decide +kernel) (blk_if (by decide +kernel) (rfl))))
theorem go162 {d mc ms : Nat} {sh : List SC} {M : MM} {Post : PP} {a0 : Nat} {a1 : Int} (h : ∀ S : Nat → KK, Clo (Run d) 162 none mc ms (Rtn 162 mc ms Post) S → S 0 [some (vR a0), some (vI a1), none, none] [] (sh, 0, 0) M) : Run (d + 1) 162 [vR a0, vI a1] sh M mc ms Post := ⟨Nat.le_of_ble_eq_true rfl, h⟩
theorem rt162 {mc ms : Nat} {Z : ZZ} {M : MM} {Post : PP} (h1 : Z.2.1 ≤ mc) (h2 : Z.2.2 ≤ ms) (h : Post none Z.1 M) : Rtn 162 mc ms Post none Z M := ⟨h1, h2, trivial, h⟩
end
section
/-! contracts in the small machine, over the heap behind both constructors -/
def oQ (d y : Nat) (a : List AV) (M : MM) (Q : Option AV → MM → Prop) : Prop := Run d y a sh0 M 0 0 (fun r sh M' => sh = sh0 ∧ Q r M')
def oI (d y : Nat) (a : List AV) (M : MM) (v : Int) : Prop := oQ d y a M (fun r M' => r = some (Sum.inl v) ∧ M' = M)
def oL (d y : Nat) (a : List AV) (M : MM) (v : Int) : Prop := oQ d y a M (fun r M' => r = some (Sum.inr (Sum.inl v)) ∧ M' = M)
def oV (d y : Nat) (a : List AV) (M M' : MM) : Prop := oQ d y a M (fun r M'' => r = none ∧ M'' = M')
section CALLS
variable {d d' y n f pc : Nat} {args st rest : List AV} {ls : AL} {M M' : MM} {v : Int} {S : Nat → KK} {Rt : RR} {bt : Nat → BL} {sp : Nat → Bool} {Q : Option AV → MM → Prop}
theorem kQ (hc : oQ d' y args M Q) (hd : d' ≤ d) (hargs : (st.take n).reverse = args) (hrest : st.drop n = rest) (hn : n ≤ st.length) (hcat : cats rest ≤ 8) (hsp : sp pc = true) (hk : ∀ r M', Q r M' → S pc ls (r.toList ++ rest) (sh0, 0, 0) M') :
    wpc (Run d) 0 0 y n (wpl (Run d) none 0 0 (fun t => cond (sp t) (S t) (wpx (Run d) none 0 0 S Rt bt sp f t)) Rt [] pc) ls st (sh0, 0, 0) M := by
  subst hargs
  subst hrest
  refine ⟨hn, hcat, 0, 0, Nat.le_refl _, Nat.le_refl _, Run.mono d' d hd hc (fun r sh M' h => ?_)⟩
  obtain ⟨rfl, h⟩ := h
  refine ⟨Or.inl rfl, ?_⟩
  show cond (sp pc) (S pc) _ ls _ _ _
  rw [hsp]
  exact hk r M' h
theorem kI (hc : oI d' y args M v) (hd : d' ≤ d) (hargs : (st.take n).reverse = args) (hrest : st.drop n = rest) (hn : n ≤ st.length) (hcat : cats rest ≤ 8) (hsp : sp pc = true) (hk : S pc ls (Sum.inl v :: rest) (sh0, 0, 0) M) :
    wpc (Run d) 0 0 y n (wpl (Run d) none 0 0 (fun t => cond (sp t) (S t) (wpx (Run d) none 0 0 S Rt bt sp f t)) Rt [] pc) ls st (sh0, 0, 0) M :=
  kQ hc hd hargs hrest hn hcat hsp (fun r M' h => by obtain ⟨rfl, rfl⟩ := h; exact hk)
theorem kL (hc : oL d' y args M v) (hd : d' ≤ d) (hargs : (st.take n).reverse = args) (hrest : st.drop n = rest) (hn : n ≤ st.length) (hcat : cats rest ≤ 8) (hsp : sp pc = true) (hk : S pc ls (Sum.inr (Sum.inl v) :: rest) (sh0, 0, 0) M) :
    wpc (Run d) 0 0 y n (wpl (Run d) none 0 0 (fun t => cond (sp t) (S t) (wpx (Run d) none 0 0 S Rt bt sp f t)) Rt [] pc) ls st (sh0, 0, 0) M :=
  kQ hc hd hargs hrest hn hcat hsp (fun r M' h => by obtain ⟨rfl, rfl⟩ := h; exact hk)
theorem kV (hc : oV d' y args M M') (hd : d' ≤ d) (hargs : (st.take n).reverse = args) (hrest : st.drop n = rest) (hn : n ≤ st.length) (hcat : cats rest ≤ 8) (hsp : sp pc = true) (hk : S pc ls rest (sh0, 0, 0) M') :
    wpc (Run d) 0 0 y n (wpl (Run d) none 0 0 (fun t => cond (sp t) (S t) (wpx (Run d) none 0 0 S Rt bt sp f t)) Rt [] pc) ls st (sh0, 0, 0) M :=
  kQ hc hd hargs hrest hn hcat hsp (fun r M' h => by obtain ⟨rfl, rfl⟩ := h; exact hk)
end CALLS
theorem rcv_ok {st : List AV} {n y r ci : Nat} (h1 : st[n]? = some (vR r)) (h2 : (mz_T[y]?).map (fun e => e.2.2.2.2.2.1) = some ci) (h3 : cls sh0 r = some ci) : rcv sh0 st n y := by
  unfold rcv
  rw [h1]
  cases hq : mz_T[y]? with
  | none => rw [hq] at h2; cases h2
  | some e => rw [hq] at h2; cases h2; exact h3
set_option maxRecDepth 100000 in
theorem own1 : (mz_T[1]?).map (fun e => e.2.2.2.2.2.1) = some 0 := rfl
set_option maxRecDepth 100000 in
theorem own2 : (mz_T[2]?).map (fun e => e.2.2.2.2.2.1) = some 0 := rfl
set_option maxRecDepth 100000 in
theorem own3 : (mz_T[3]?).map (fun e => e.2.2.2.2.2.1) = some 0 := rfl
set_option maxRecDepth 100000 in
theorem own4 : (mz_T[4]?).map (fun e => e.2.2.2.2.2.1) = some 0 := rfl
set_option maxRecDepth 100000 in
theorem own5 : (mz_T[5]?).map (fun e => e.2.2.2.2.2.1) = some 0 := rfl
set_option maxRecDepth 100000 in
theorem own6 : (mz_T[6]?).map (fun e => e.2.2.2.2.2.1) = some 0 := rfl
set_option maxRecDepth 100000 in
theorem own8 : (mz_T[8]?).map (fun e => e.2.2.2.2.2.1) = some 1 := rfl
set_option maxRecDepth 100000 in
theorem own9 : (mz_T[9]?).map (fun e => e.2.2.2.2.2.1) = some 1 := rfl
set_option maxRecDepth 100000 in
theorem own12 : (mz_T[12]?).map (fun e => e.2.2.2.2.2.1) = some 1 := rfl
set_option maxRecDepth 100000 in
theorem own13 : (mz_T[13]?).map (fun e => e.2.2.2.2.2.1) = some 1 := rfl
set_option maxRecDepth 100000 in
theorem own15 : (mz_T[15]?).map (fun e => e.2.2.2.2.2.1) = some 1 := rfl
set_option maxRecDepth 100000 in
theorem own16 : (mz_T[16]?).map (fun e => e.2.2.2.2.2.1) = some 1 := rfl
set_option maxRecDepth 100000 in
theorem own17 : (mz_T[17]?).map (fun e => e.2.2.2.2.2.1) = some 1 := rfl
set_option maxRecDepth 100000 in
theorem own18 : (mz_T[18]?).map (fun e => e.2.2.2.2.2.1) = some 1 := rfl
set_option maxRecDepth 100000 in
theorem own19 : (mz_T[19]?).map (fun e => e.2.2.2.2.2.1) = some 1 := rfl
set_option maxRecDepth 100000 in
theorem own21 : (mz_T[21]?).map (fun e => e.2.2.2.2.2.1) = some 2 := rfl
set_option maxRecDepth 100000 in
theorem own22 : (mz_T[22]?).map (fun e => e.2.2.2.2.2.1) = some 2 := rfl
set_option maxRecDepth 100000 in
theorem own23 : (mz_T[23]?).map (fun e => e.2.2.2.2.2.1) = some 2 := rfl
set_option maxRecDepth 100000 in
theorem own24 : (mz_T[24]?).map (fun e => e.2.2.2.2.2.1) = some 2 := rfl
set_option maxRecDepth 100000 in
theorem own25 : (mz_T[25]?).map (fun e => e.2.2.2.2.2.1) = some 2 := rfl
set_option maxRecDepth 100000 in
theorem own26 : (mz_T[26]?).map (fun e => e.2.2.2.2.2.1) = some 2 := rfl
set_option maxRecDepth 100000 in
theorem own28 : (mz_T[28]?).map (fun e => e.2.2.2.2.2.1) = some 3 := rfl
set_option maxRecDepth 100000 in
theorem own29 : (mz_T[29]?).map (fun e => e.2.2.2.2.2.1) = some 3 := rfl
set_option maxRecDepth 100000 in
theorem own30 : (mz_T[30]?).map (fun e => e.2.2.2.2.2.1) = some 3 := rfl
set_option maxRecDepth 100000 in
theorem own31 : (mz_T[31]?).map (fun e => e.2.2.2.2.2.1) = some 3 := rfl
set_option maxRecDepth 100000 in
theorem own32 : (mz_T[32]?).map (fun e => e.2.2.2.2.2.1) = some 3 := rfl
set_option maxRecDepth 100000 in
theorem own33 : (mz_T[33]?).map (fun e => e.2.2.2.2.2.1) = some 3 := rfl
set_option maxRecDepth 100000 in
theorem own35 : (mz_T[35]?).map (fun e => e.2.2.2.2.2.1) = some 4 := rfl
set_option maxRecDepth 100000 in
theorem own36 : (mz_T[36]?).map (fun e => e.2.2.2.2.2.1) = some 4 := rfl
set_option maxRecDepth 100000 in
theorem own37 : (mz_T[37]?).map (fun e => e.2.2.2.2.2.1) = some 4 := rfl
set_option maxRecDepth 100000 in
theorem own38 : (mz_T[38]?).map (fun e => e.2.2.2.2.2.1) = some 4 := rfl
set_option maxRecDepth 100000 in
theorem own39 : (mz_T[39]?).map (fun e => e.2.2.2.2.2.1) = some 4 := rfl
set_option maxRecDepth 100000 in
theorem own40 : (mz_T[40]?).map (fun e => e.2.2.2.2.2.1) = some 4 := rfl
set_option maxRecDepth 100000 in
theorem own41 : (mz_T[41]?).map (fun e => e.2.2.2.2.2.1) = some 4 := rfl
set_option maxRecDepth 100000 in
theorem own42 : (mz_T[42]?).map (fun e => e.2.2.2.2.2.1) = some 4 := rfl
set_option maxRecDepth 100000 in
theorem own44 : (mz_T[44]?).map (fun e => e.2.2.2.2.2.1) = some 5 := rfl
set_option maxRecDepth 100000 in
theorem own45 : (mz_T[45]?).map (fun e => e.2.2.2.2.2.1) = some 5 := rfl
set_option maxRecDepth 100000 in
theorem own46 : (mz_T[46]?).map (fun e => e.2.2.2.2.2.1) = some 5 := rfl
set_option maxRecDepth 100000 in
theorem own47 : (mz_T[47]?).map (fun e => e.2.2.2.2.2.1) = some 5 := rfl
set_option maxRecDepth 100000 in
theorem own48 : (mz_T[48]?).map (fun e => e.2.2.2.2.2.1) = some 5 := rfl
set_option maxRecDepth 100000 in
theorem own49 : (mz_T[49]?).map (fun e => e.2.2.2.2.2.1) = some 5 := rfl
set_option maxRecDepth 100000 in
theorem own50 : (mz_T[50]?).map (fun e => e.2.2.2.2.2.1) = some 5 := rfl
set_option maxRecDepth 100000 in
theorem own51 : (mz_T[51]?).map (fun e => e.2.2.2.2.2.1) = some 5 := rfl
set_option maxRecDepth 100000 in
theorem own52 : (mz_T[52]?).map (fun e => e.2.2.2.2.2.1) = some 5 := rfl
set_option maxRecDepth 100000 in
theorem own53 : (mz_T[53]?).map (fun e => e.2.2.2.2.2.1) = some 5 := rfl
set_option maxRecDepth 100000 in
theorem own54 : (mz_T[54]?).map (fun e => e.2.2.2.2.2.1) = some 5 := rfl
set_option maxRecDepth 100000 in
theorem own55 : (mz_T[55]?).map (fun e => e.2.2.2.2.2.1) = some 5 := rfl
set_option maxRecDepth 100000 in
theorem own56 : (mz_T[56]?).map (fun e => e.2.2.2.2.2.1) = some 5 := rfl
set_option maxRecDepth 100000 in
theorem own57 : (mz_T[57]?).map (fun e => e.2.2.2.2.2.1) = some 5 := rfl
set_option maxRecDepth 100000 in
theorem own58 : (mz_T[58]?).map (fun e => e.2.2.2.2.2.1) = some 5 := rfl
set_option maxRecDepth 100000 in
theorem own59 : (mz_T[59]?).map (fun e => e.2.2.2.2.2.1) = some 5 := rfl
set_option maxRecDepth 100000 in
theorem own60 : (mz_T[60]?).map (fun e => e.2.2.2.2.2.1) = some 5 := rfl
set_option maxRecDepth 100000 in
theorem own61 : (mz_T[61]?).map (fun e => e.2.2.2.2.2.1) = some 5 := rfl
set_option maxRecDepth 100000 in
theorem own62 : (mz_T[62]?).map (fun e => e.2.2.2.2.2.1) = some 5 := rfl
set_option maxRecDepth 100000 in
theorem own63 : (mz_T[63]?).map (fun e => e.2.2.2.2.2.1) = some 5 := rfl
set_option maxRecDepth 100000 in
theorem own64 : (mz_T[64]?).map (fun e => e.2.2.2.2.2.1) = some 5 := rfl
set_option maxRecDepth 100000 in
theorem own65 : (mz_T[65]?).map (fun e => e.2.2.2.2.2.1) = some 5 := rfl
set_option maxRecDepth 100000 in
theorem own66 : (mz_T[66]?).map (fun e => e.2.2.2.2.2.1) = some 5 := rfl
set_option maxRecDepth 100000 in
theorem own67 : (mz_T[67]?).map (fun e => e.2.2.2.2.2.1) = some 5 := rfl
set_option maxRecDepth 100000 in
theorem own68 : (mz_T[68]?).map (fun e => e.2.2.2.2.2.1) = some 5 := rfl
set_option maxRecDepth 100000 in
theorem own69 : (mz_T[69]?).map (fun e => e.2.2.2.2.2.1) = some 5 := rfl
set_option maxRecDepth 100000 in
theorem own70 : (mz_T[70]?).map (fun e => e.2.2.2.2.2.1) = some 5 := rfl
set_option maxRecDepth 100000 in
theorem own71 : (mz_T[71]?).map (fun e => e.2.2.2.2.2.1) = some 5 := rfl
set_option maxRecDepth 100000 in
theorem own72 : (mz_T[72]?).map (fun e => e.2.2.2.2.2.1) = some 5 := rfl
set_option maxRecDepth 100000 in
theorem own73 : (mz_T[73]?).map (fun e => e.2.2.2.2.2.1) = some 5 := rfl
set_option maxRecDepth 100000 in
theorem own74 : (mz_T[74]?).map (fun e => e.2.2.2.2.2.1) = some 5 := rfl
set_option maxRecDepth 100000 in
theorem own75 : (mz_T[75]?).map (fun e => e.2.2.2.2.2.1) = some 5 := rfl
set_option maxRecDepth 100000 in
theorem own78 : (mz_T[78]?).map (fun e => e.2.2.2.2.2.1) = some 5 := rfl
set_option maxRecDepth 100000 in
theorem own79 : (mz_T[79]?).map (fun e => e.2.2.2.2.2.1) = some 5 := rfl
set_option maxRecDepth 100000 in
theorem own80 : (mz_T[80]?).map (fun e => e.2.2.2.2.2.1) = some 5 := rfl
set_option maxRecDepth 100000 in
theorem own81 : (mz_T[81]?).map (fun e => e.2.2.2.2.2.1) = some 5 := rfl
set_option maxRecDepth 100000 in
theorem own82 : (mz_T[82]?).map (fun e => e.2.2.2.2.2.1) = some 5 := rfl
set_option maxRecDepth 100000 in
theorem own83 : (mz_T[83]?).map (fun e => e.2.2.2.2.2.1) = some 5 := rfl
set_option maxRecDepth 100000 in
theorem own85 : (mz_T[85]?).map (fun e => e.2.2.2.2.2.1) = some 5 := rfl
set_option maxRecDepth 100000 in
theorem own86 : (mz_T[86]?).map (fun e => e.2.2.2.2.2.1) = some 5 := rfl
set_option maxRecDepth 100000 in
theorem own87 : (mz_T[87]?).map (fun e => e.2.2.2.2.2.1) = some 5 := rfl
set_option maxRecDepth 100000 in
theorem own88 : (mz_T[88]?).map (fun e => e.2.2.2.2.2.1) = some 5 := rfl
set_option maxRecDepth 100000 in
theorem own89 : (mz_T[89]?).map (fun e => e.2.2.2.2.2.1) = some 5 := rfl
set_option maxRecDepth 100000 in
theorem own90 : (mz_T[90]?).map (fun e => e.2.2.2.2.2.1) = some 5 := rfl
set_option maxRecDepth 100000 in
theorem own91 : (mz_T[91]?).map (fun e => e.2.2.2.2.2.1) = some 5 := rfl
set_option maxRecDepth 100000 in
theorem own92 : (mz_T[92]?).map (fun e => e.2.2.2.2.2.1) = some 5 := rfl
set_option maxRecDepth 100000 in
theorem own93 : (mz_T[93]?).map (fun e => e.2.2.2.2.2.1) = some 5 := rfl
set_option maxRecDepth 100000 in
theorem own94 : (mz_T[94]?).map (fun e => e.2.2.2.2.2.1) = some 5 := rfl
set_option maxRecDepth 100000 in
theorem own95 : (mz_T[95]?).map (fun e => e.2.2.2.2.2.1) = some 5 := rfl
set_option maxRecDepth 100000 in
theorem own96 : (mz_T[96]?).map (fun e => e.2.2.2.2.2.1) = some 5 := rfl
set_option maxRecDepth 100000 in
theorem own97 : (mz_T[97]?).map (fun e => e.2.2.2.2.2.1) = some 5 := rfl
set_option maxRecDepth 100000 in
theorem own98 : (mz_T[98]?).map (fun e => e.2.2.2.2.2.1) = some 5 := rfl
set_option maxRecDepth 100000 in
theorem own99 : (mz_T[99]?).map (fun e => e.2.2.2.2.2.1) = some 5 := rfl
set_option maxRecDepth 100000 in
theorem own100 : (mz_T[100]?).map (fun e => e.2.2.2.2.2.1) = some 5 := rfl
set_option maxRecDepth 100000 in
theorem own103 : (mz_T[103]?).map (fun e => e.2.2.2.2.2.1) = some 6 := rfl
set_option maxRecDepth 100000 in
theorem own104 : (mz_T[104]?).map (fun e => e.2.2.2.2.2.1) = some 6 := rfl
set_option maxRecDepth 100000 in
theorem own105 : (mz_T[105]?).map (fun e => e.2.2.2.2.2.1) = some 6 := rfl
set_option maxRecDepth 100000 in
theorem own107 : (mz_T[107]?).map (fun e => e.2.2.2.2.2.1) = some 6 := rfl
set_option maxRecDepth 100000 in
theorem own108 : (mz_T[108]?).map (fun e => e.2.2.2.2.2.1) = some 6 := rfl
set_option maxRecDepth 100000 in
theorem own109 : (mz_T[109]?).map (fun e => e.2.2.2.2.2.1) = some 6 := rfl
set_option maxRecDepth 100000 in
theorem own110 : (mz_T[110]?).map (fun e => e.2.2.2.2.2.1) = some 6 := rfl
set_option maxRecDepth 100000 in
theorem own111 : (mz_T[111]?).map (fun e => e.2.2.2.2.2.1) = some 6 := rfl
set_option maxRecDepth 100000 in
theorem own112 : (mz_T[112]?).map (fun e => e.2.2.2.2.2.1) = some 6 := rfl
set_option maxRecDepth 100000 in
theorem own113 : (mz_T[113]?).map (fun e => e.2.2.2.2.2.1) = some 6 := rfl
set_option maxRecDepth 100000 in
theorem own114 : (mz_T[114]?).map (fun e => e.2.2.2.2.2.1) = some 6 := rfl
set_option maxRecDepth 100000 in
theorem own116 : (mz_T[116]?).map (fun e => e.2.2.2.2.2.1) = some 6 := rfl
set_option maxRecDepth 100000 in
theorem own117 : (mz_T[117]?).map (fun e => e.2.2.2.2.2.1) = some 6 := rfl
set_option maxRecDepth 100000 in
theorem own118 : (mz_T[118]?).map (fun e => e.2.2.2.2.2.1) = some 6 := rfl
set_option maxRecDepth 100000 in
theorem own119 : (mz_T[119]?).map (fun e => e.2.2.2.2.2.1) = some 6 := rfl
set_option maxRecDepth 100000 in
theorem own120 : (mz_T[120]?).map (fun e => e.2.2.2.2.2.1) = some 6 := rfl
set_option maxRecDepth 100000 in
theorem own122 : (mz_T[122]?).map (fun e => e.2.2.2.2.2.1) = some 6 := rfl
set_option maxRecDepth 100000 in
theorem own123 : (mz_T[123]?).map (fun e => e.2.2.2.2.2.1) = some 6 := rfl
set_option maxRecDepth 100000 in
theorem own124 : (mz_T[124]?).map (fun e => e.2.2.2.2.2.1) = some 6 := rfl
set_option maxRecDepth 100000 in
theorem own125 : (mz_T[125]?).map (fun e => e.2.2.2.2.2.1) = some 6 := rfl
set_option maxRecDepth 100000 in
theorem own126 : (mz_T[126]?).map (fun e => e.2.2.2.2.2.1) = some 6 := rfl
set_option maxRecDepth 100000 in
theorem own127 : (mz_T[127]?).map (fun e => e.2.2.2.2.2.1) = some 6 := rfl
set_option maxRecDepth 100000 in
theorem own128 : (mz_T[128]?).map (fun e => e.2.2.2.2.2.1) = some 6 := rfl
set_option maxRecDepth 100000 in
theorem own129 : (mz_T[129]?).map (fun e => e.2.2.2.2.2.1) = some 6 := rfl
set_option maxRecDepth 100000 in
theorem own130 : (mz_T[130]?).map (fun e => e.2.2.2.2.2.1) = some 6 := rfl
set_option maxRecDepth 100000 in
theorem own131 : (mz_T[131]?).map (fun e => e.2.2.2.2.2.1) = some 6 := rfl
set_option maxRecDepth 100000 in
theorem own132 : (mz_T[132]?).map (fun e => e.2.2.2.2.2.1) = some 6 := rfl
set_option maxRecDepth 100000 in
theorem own133 : (mz_T[133]?).map (fun e => e.2.2.2.2.2.1) = some 6 := rfl
set_option maxRecDepth 100000 in
theorem own134 : (mz_T[134]?).map (fun e => e.2.2.2.2.2.1) = some 6 := rfl
set_option maxRecDepth 100000 in
theorem own135 : (mz_T[135]?).map (fun e => e.2.2.2.2.2.1) = some 6 := rfl
set_option maxRecDepth 100000 in
theorem own136 : (mz_T[136]?).map (fun e => e.2.2.2.2.2.1) = some 6 := rfl
set_option maxRecDepth 100000 in
theorem own137 : (mz_T[137]?).map (fun e => e.2.2.2.2.2.1) = some 6 := rfl
set_option maxRecDepth 100000 in
theorem own138 : (mz_T[138]?).map (fun e => e.2.2.2.2.2.1) = some 6 := rfl
set_option maxRecDepth 100000 in
theorem own139 : (mz_T[139]?).map (fun e => e.2.2.2.2.2.1) = some 6 := rfl
set_option maxRecDepth 100000 in
theorem own140 : (mz_T[140]?).map (fun e => e.2.2.2.2.2.1) = some 6 := rfl
set_option maxRecDepth 100000 in
theorem own141 : (mz_T[141]?).map (fun e => e.2.2.2.2.2.1) = some 6 := rfl
set_option maxRecDepth 100000 in
theorem own142 : (mz_T[142]?).map (fun e => e.2.2.2.2.2.1) = some 6 := rfl
set_option maxRecDepth 100000 in
theorem own143 : (mz_T[143]?).map (fun e => e.2.2.2.2.2.1) = some 6 := rfl
set_option maxRecDepth 100000 in
theorem own144 : (mz_T[144]?).map (fun e => e.2.2.2.2.2.1) = some 6 := rfl
set_option maxRecDepth 100000 in
theorem own145 : (mz_T[145]?).map (fun e => e.2.2.2.2.2.1) = some 6 := rfl
set_option maxRecDepth 100000 in
theorem own146 : (mz_T[146]?).map (fun e => e.2.2.2.2.2.1) = some 6 := rfl
set_option maxRecDepth 100000 in
theorem own147 : (mz_T[147]?).map (fun e => e.2.2.2.2.2.1) = some 6 := rfl
set_option maxRecDepth 100000 in
theorem own148 : (mz_T[148]?).map (fun e => e.2.2.2.2.2.1) = some 6 := rfl
set_option maxRecDepth 100000 in
theorem own149 : (mz_T[149]?).map (fun e => e.2.2.2.2.2.1) = some 6 := rfl
set_option maxRecDepth 100000 in
theorem own150 : (mz_T[150]?).map (fun e => e.2.2.2.2.2.1) = some 6 := rfl
set_option maxRecDepth 100000 in
theorem own151 : (mz_T[151]?).map (fun e => e.2.2.2.2.2.1) = some 6 := rfl
set_option maxRecDepth 100000 in
theorem own153 : (mz_T[153]?).map (fun e => e.2.2.2.2.2.1) = some 6 := rfl
set_option maxRecDepth 100000 in
theorem own154 : (mz_T[154]?).map (fun e => e.2.2.2.2.2.1) = some 6 := rfl
set_option maxRecDepth 100000 in
theorem own155 : (mz_T[155]?).map (fun e => e.2.2.2.2.2.1) = some 6 := rfl
set_option maxRecDepth 100000 in
theorem own156 : (mz_T[156]?).map (fun e => e.2.2.2.2.2.1) = some 6 := rfl
set_option maxRecDepth 100000 in
theorem own157 : (mz_T[157]?).map (fun e => e.2.2.2.2.2.1) = some 6 := rfl
set_option maxRecDepth 100000 in
theorem own158 : (mz_T[158]?).map (fun e => e.2.2.2.2.2.1) = some 6 := rfl
set_option maxRecDepth 100000 in
theorem own159 : (mz_T[159]?).map (fun e => e.2.2.2.2.2.1) = some 6 := rfl
set_option maxRecDepth 100000 in
theorem own160 : (mz_T[160]?).map (fun e => e.2.2.2.2.2.1) = some 6 := rfl
end
section
/-! rows that a walk uses -/
theorem LCM : (∀ v a : Int, ((if v < a then (-1 : Int) else if v = a then 0 else 1) < 0) = (v < a)) ∧ (∀ v a : Int, (0 ≤ (if v < a then (-1 : Int) else if v = a then 0 else 1)) = (a ≤ v)) ∧ (∀ v a : Int, (0 < (if v < a then (-1 : Int) else if v = a then 0 else 1)) = (a < v)) ∧ (∀ v a : Int, ((if v < a then (-1 : Int) else if v = a then 0 else 1) ≤ 0) = (v ≤ a)) ∧ (∀ v a : Int, ((if v < a then (-1 : Int) else if v = a then 0 else 1) = 0) = (v = a)) ∧
    (∀ v a : Int, (-2147483648 ≤ (if v < a then (-1 : Int) else if v = a then 0 else 1)) = True) ∧ (∀ v a : Int, ((if v < a then (-1 : Int) else if v = a then 0 else 1) ≤ 2147483647) = True) := by
  refine ⟨?_, ?_, ?_, ?_, ?_, ?_, ?_⟩ <;> intro v a <;> apply propext <;> (by_cases h1 : v < a <;> by_cases h2 : v = a <;> simp [h1, h2] <;> omega)
theorem CST : ((0 : Nat) : Int) = 0 ∧ ((1 : Nat) : Int) = 1 ∧ ((2 : Nat) : Int) = 2 ∧ ((3 : Nat) : Int) = 3 ∧ ((4 : Nat) : Int) = 4 ∧ ((5 : Nat) : Int) = 5 ∧ ((6 : Nat) : Int) = 6 ∧ ((10 : Nat) : Int) = 10 ∧ ((12 : Nat) : Int) = 12 ∧ ((20 : Nat) : Int) = 20 ∧ ((36 : Nat) : Int) = 36 ∧ ((40 : Nat) : Int) = 40 ∧ ((80 : Nat) : Int) = 80 ∧ ((400 : Nat) : Int) = 400 := by decide
theorem TN : (∀ i : Nat, (4 * (i : Int)).toNat = 4 * i) ∧ (∀ i : Nat, (4 * (i : Int) + 1).toNat = 4 * i + 1) ∧ (∀ i : Nat, (4 * (i : Int) + 2).toNat = 4 * i + 2) ∧ (∀ i : Nat, (4 * (i : Int) + 3).toNat = 4 * i + 3) ∧ (∀ i : Nat, (3 * (i : Int)).toNat = 3 * i) ∧ (∀ i : Nat, (3 * (i : Int) + 1).toNat = 3 * i + 1) ∧ (∀ i : Nat, (3 * (i : Int) + 2).toNat = 3 * i + 2) ∧
    (∀ i : Nat, (10 + (i : Int)).toNat = 10 + i) ∧ (∀ i : Nat, (40 + (i : Int)).toNat = 40 + i) ∧ (∀ i : Nat, (18 + (i : Int)).toNat = 18 + i) ∧ (∀ i : Nat, (40 + 4 * (i : Int)).toNat = 40 + 4 * i) ∧ (∀ i : Nat, (40 + 4 * (i : Int) + 1).toNat = 40 + 4 * i + 1) ∧ (∀ i k : Nat, (40 + 4 * (i : Int) + (k : Int)).toNat = 40 + 4 * i + k) ∧ (∀ i k : Nat, (18 + 3 * (i : Int) + (k : Int)).toNat = 18 + 3 * i + k) := by
  refine ⟨?_, ?_, ?_, ?_, ?_, ?_, ?_, ?_, ?_, ?_, ?_, ?_, ?_, ?_⟩ <;> intros <;> omega
theorem CD : (∀ (a b : KK) (ls : AL) (st : List AV) (Z : ZZ) (M : MM), cond true a b ls st Z M = a ls st Z M) ∧ (∀ (a b : KK) (ls : AL) (st : List AV) (Z : ZZ) (M : MM), cond false a b ls st Z M = b ls st Z M) := ⟨fun _ _ _ _ _ _ => rfl, fun _ _ _ _ _ _ => rfl⟩
/-! bits -/
theorem nb {a : Nat} (h : a < 4294967296) : (iN (a : Int)).toBitVec.toNat = a := by
  show (BitVec.ofInt 32 (a : Int)).toNat = a
  rw [BitVec.toNat_ofInt]
  omega
theorem of_nb {x : Int32} {n : Nat} (h : x.toBitVec.toNat = n) (hn : n < 2147483648) : x.toInt = (n : Int) := by
  have h1 := BitVec.toInt_eq_toNat_of_lt (x := x.toBitVec) (by rw [h]; omega)
  rw [h] at h1
  exact h1
theorem bOr_nat {a b : Nat} (ha : a < 2147483648) (hb : b < 2147483648) : bOr (a : Int) (b : Int) = ((a ||| b : Nat) : Int) :=
  of_nb (by
    show (iN (a : Int) ||| iN (b : Int)).toBitVec.toNat = _
    rw [Int32.toBitVec_or, BitVec.toNat_or, nb (by omega), nb (by omega)]) (Nat.or_lt_two_pow (n := 31) ha hb)
theorem bAnd_nat {a b : Nat} (ha : a < 2147483648) (hb : b < 2147483648) : bAnd (a : Int) (b : Int) = ((a &&& b : Nat) : Int) :=
  of_nb (by
    show (iN (a : Int) &&& iN (b : Int)).toBitVec.toNat = _
    rw [Int32.toBitVec_and, BitVec.toNat_and, nb (by omega), nb (by omega)]) (Nat.and_lt_two_pow (n := 31) a hb)
theorem bAndN_nat {a b : Nat} (ha : a < 2147483648) (hb : b < 2147483648) : bAnd (a : Int) (bXor (b : Int) (-1)) = ((a &&& (b ^^^ 4294967295) : Nat) : Int) :=
  of_nb (by
    show (iN (a : Int) &&& iN (bXor (b : Int) (-1))).toBitVec.toNat = _
    unfold bXor
    rw [iN_of, Int32.toBitVec_and, Int32.toBitVec_xor, BitVec.toNat_and, BitVec.toNat_xor, nb (by omega), nb (by omega), show (iN (-1)).toBitVec.toNat = 4294967295 by decide]) (by
      have h1 := Nat.and_lt_two_pow (n := 31) (b ^^^ 4294967295) ha
      rw [Nat.and_comm] at h1
      exact h1)
def mkN (p : Nat → Bool) : Nat → Nat
  | 0 => 0
  | n + 1 => mkN p n ||| (if p n then 2 ^ n else 0)
theorem mkN_bit (p : Nat → Bool) : ∀ (n j : Nat), (mkN p n).testBit j = (decide (j < n) && p j)
  | 0, j => by simp [mkN]
  | n + 1, j => by
    rw [mkN, Nat.testBit_or, mkN_bit p n j]
    by_cases h1 : j = n
    · subst h1
      cases hp : p j with
      | true => rw [if_pos rfl, Nat.testBit_two_pow_self]; simp
      | false => simp
    · have h2 : (if p n = true then 2 ^ n else 0).testBit j = false := by
        cases hp : p n with
        | true => rw [if_pos rfl]; exact Nat.testBit_two_pow_of_ne (fun z => h1 z.symm)
        | false => simp
      rw [h2, Bool.or_false]
      congr 1
      apply decide_eq_decide.mpr
      omega
theorem mkN_lt (p : Nat → Bool) : ∀ n : Nat, mkN p n < 2 ^ n
  | 0 => by simp [mkN]
  | n + 1 => by
    have h1 := mkN_lt p n
    have h2 : 2 ^ n < 2 ^ (n + 1) := Nat.pow_lt_pow_right (by decide) (by omega)
    refine Nat.or_lt_two_pow (by omega) ?_
    cases hp : p n with
    | true => rw [if_pos rfl]; exact h2
    | false => simp; exact Nat.two_pow_pos _
theorem mkN_10 (p : Nat → Bool) : mkN p 10 < 1024 := mkN_lt p 10
def mk (p : Nat → Bool) : Int := (mkN p 10 : Nat)
theorem mk_rg (p : Nat → Bool) : 0 ≤ mk p ∧ mk p < 1024 := by
  have := mkN_10 p
  unfold mk
  omega
theorem mkN_eq {p q : Nat → Bool} {n : Nat} (h : ∀ i, i < n → p i = q i) : mkN p n = mkN q n := by
  apply Nat.eq_of_testBit_eq
  intro j
  rw [mkN_bit, mkN_bit]
  by_cases hj : j < n
  · rw [h j hj]
  · simp [hj]
theorem mk_eq {p q : Nat → Bool} (h : ∀ i, i < 10 → p i = q i) : mk p = mk q := by
  unfold mk
  rw [mkN_eq h]
theorem mk_inj {p q : Nat → Bool} : mk p = mk q ↔ ∀ i, i < 10 → p i = q i := by
  refine ⟨fun h i hi => ?_, mk_eq⟩
  have h1 : mkN p 10 = mkN q 10 := by unfold mk at h; omega
  have h2 : (mkN p 10).testBit i = (mkN q 10).testBit i := by rw [h1]
  rw [mkN_bit, mkN_bit] at h2
  simpa [hi] using h2
theorem mk_0 : mk (fun _ => false) = 0 := by decide
theorem mk_eq0 {p : Nat → Bool} : mk p = 0 ↔ ∀ i, i < 10 → p i = false := by
  rw [← mk_0, mk_inj]
theorem mk_or (p q : Nat → Bool) : bOr (mk p) (mk q) = mk (fun i => p i || q i) := by
  have h1 := mkN_10 p
  have h2 := mkN_10 q
  unfold mk
  rw [bOr_nat (by omega) (by omega)]
  congr 1
  apply Nat.eq_of_testBit_eq
  intro j
  rw [Nat.testBit_or, mkN_bit, mkN_bit, mkN_bit]
  by_cases hj : j < 10 <;> simp [hj]
theorem mk_and (p q : Nat → Bool) : bAnd (mk p) (mk q) = mk (fun i => p i && q i) := by
  have h1 := mkN_10 p
  have h2 := mkN_10 q
  unfold mk
  rw [bAnd_nat (by omega) (by omega)]
  congr 1
  apply Nat.eq_of_testBit_eq
  intro j
  rw [Nat.testBit_and, mkN_bit, mkN_bit, mkN_bit]
  by_cases hj : j < 10 <;> simp [hj]
theorem mk_andn (p q : Nat → Bool) : bAnd (mk p) (bXor (mk q) (-1)) = mk (fun i => p i && !q i) := by
  have h1 := mkN_10 p
  have h2 := mkN_10 q
  unfold mk
  rw [bAndN_nat (by omega) (by omega)]
  congr 1
  apply Nat.eq_of_testBit_eq
  intro j
  rw [Nat.testBit_and, Nat.testBit_xor, mkN_bit, mkN_bit, mkN_bit, show (4294967295 : Nat) = 2 ^ 32 - 1 by decide, Nat.testBit_two_pow_sub_one]
  by_cases hj : j < 10
  · have : j < 32 := by omega
    simp [hj, this]
  · simp [hj]
theorem bShl_1 {i : Nat} (h : i < 31) : bShl 1 (i : Int) = ((2 ^ i : Nat) : Int) := by
  have : ∀ i : Nat, i < 31 → bShl 1 (i : Int) = ((2 ^ i : Nat) : Int) := by decide +kernel
  exact this i h
theorem mk_one {i : Nat} (h : i < 10) : bShl 1 (i : Int) = mk (fun j => j == i) := by
  have : ∀ i : Nat, i < 10 → bShl 1 (i : Int) = mk (fun j => j == i) := by decide +kernel
  exact this i h
theorem mk_low {h : Nat} (hh : h ≤ 10) : bShl 1 (h : Int) - 1 = mk (fun j => decide (j < h)) := by
  have : ∀ h : Nat, h < 11 → bShl 1 (h : Int) - 1 = mk (fun j => decide (j < h)) := by decide +kernel
  exact this h (by omega)
theorem mk_put {p : Nat → Bool} {i : Nat} (h : i < 10) : bOr (mk p) (bShl 1 (i : Int)) = mk (fun j => p j || j == i) := by rw [mk_one h, mk_or]
theorem mk_lift {p : Nat → Bool} {i : Nat} (h : i < 10) : bAnd (mk p) (bXor (bShl 1 (i : Int)) (-1)) = mk (fun j => p j && !(j == i)) := by rw [mk_one h, mk_andn]
theorem mk_has {p : Nat → Bool} {i : Nat} (h : i < 10) : bAnd (mk p) (bShl 1 (i : Int)) = 0 ↔ p i = false := by
  rw [mk_one h, mk_and, mk_eq0]
  constructor
  · intro h1
    have := h1 i h
    simpa using this
  · intro h1 j hj
    by_cases hji : j = i
    · subst hji; simp [h1]
    · simp [hji]
theorem bShr_nat {a : Nat} (ha : a < 1024) {k : Nat} (hk : k < 10) : bAnd (bShr (a : Int) (k : Int)) 1 = if a.testBit k then 1 else 0 := by
  have : ∀ k : Nat, k < 10 → ∀ a : Nat, a < 1024 → bAnd (bShr (a : Int) (k : Int)) 1 = if a.testBit k then 1 else 0 := by decide +kernel
  exact this k hk a ha
theorem mk_bit {p : Nat → Bool} {k : Nat} (hk : k < 10) : bAnd (bShr (mk p) (k : Int)) 1 = if p k then 1 else 0 := by
  unfold mk
  rw [bShr_nat (mkN_10 p) hk, mkN_bit]
  simp [hk]
/-! how many -/
def cnt (p : Nat → Bool) : Nat → Int
  | 0 => 0
  | n + 1 => cnt p n + if p n then 1 else 0
theorem cnt_rg (p : Nat → Bool) : ∀ n : Nat, 0 ≤ cnt p n ∧ cnt p n ≤ n
  | 0 => by simp [cnt]
  | n + 1 => by
    have := cnt_rg p n
    rw [cnt]
    split <;> omega
theorem cnt_eq {p q : Nat → Bool} : ∀ {n : Nat}, (∀ i, i < n → p i = q i) → cnt p n = cnt q n
  | 0, _ => rfl
  | n + 1, h => by rw [cnt, cnt, cnt_eq (fun i hi => h i (by omega)), h n (by omega)]
theorem cnt_cut {p : Nat → Bool} {h : Nat} : ∀ {n : Nat}, h ≤ n → (∀ i, h ≤ i → i < n → p i = false) → cnt p n = cnt p h
  | 0, hn, _ => by rw [show h = 0 by omega]
  | n + 1, hn, hp => by
    by_cases h1 : h = n + 1
    · rw [h1]
    · rw [cnt, hp n (by omega) (by omega), cnt_cut (h := h) (n := n) (by omega) (fun i h2 h3 => hp i h2 (by omega))]
      simp
theorem cnt_le {p q : Nat → Bool} : ∀ {n : Nat}, (∀ i, i < n → p i = true → q i = true) → cnt p n ≤ cnt q n
  | 0, _ => by simp [cnt]
  | n + 1, h => by
    have h1 := cnt_le (n := n) (fun i hi => h i (by omega))
    have h2 := h n (by omega)
    rw [cnt, cnt]
    cases hp : p n with
    | true => rw [h2 hp]; simp; omega
    | false => simp; split <;> omega
theorem cnt_add {p q : Nat → Bool} : ∀ {n : Nat}, (∀ i, i < n → ¬ (p i = true ∧ q i = true)) → cnt (fun i => p i || q i) n = cnt p n + cnt q n
  | 0, _ => rfl
  | n + 1, h => by
    rw [cnt, cnt, cnt, cnt_add (n := n) (fun i hi => h i (by omega))]
    have := h n (by omega)
    cases hp : p n <;> cases hq : q n <;> simp [hp, hq] at this ⊢ <;> omega
theorem cnt_0 {p : Nat → Bool} {n : Nat} (h : ∀ i, i < n → p i = false) : cnt p n = 0 := by
  rw [cnt_cut (h := 0) (Nat.zero_le _) (fun i _ hi => h i hi)]
  rfl
theorem cnt_pos {p : Nat → Bool} : ∀ {n : Nat}, (∃ i, i < n ∧ p i = true) → 0 < cnt p n
  | 0, ⟨i, hi, _⟩ => absurd hi (by omega)
  | n + 1, ⟨i, hi, hp⟩ => by
    rw [cnt]
    have h0 := (cnt_rg p n).1
    by_cases h1 : i = n
    · subst h1; rw [if_pos hp]; omega
    · have := cnt_pos (n := n) ⟨i, by omega, hp⟩
      split <;> omega
def b2i (b : Bool) : Int := if b then 1 else 0
theorem b2i_01 (b : Bool) : b2i b = 0 ∨ b2i b = 1 := by cases b <;> decide
theorem B2 : (∀ b : Bool, (b2i b = 0) = (b = false)) ∧ (∀ b : Bool, (0 = b2i b) = (b = false)) ∧ (∀ b : Bool, (b2i b = 1) = (b = true)) ∧ (∀ b : Bool, (-2147483648 ≤ b2i b) = True) ∧ (∀ b : Bool, (b2i b ≤ 2147483647) = True) ∧ b2i true = 1 ∧ b2i false = 0 := by
  refine ⟨?_, ?_, ?_, ?_, ?_, rfl, rfl⟩ <;> intro b <;> cases b <;> simp [b2i]
def bcA (x : Int) : Int := x - bAnd (bUsr x 1) 1431655765
def bcB (x : Int) : Int := bAnd (bcA x) 858993459 + bAnd (bUsr (bcA x) 2) 858993459
def bcC (x : Int) : Int := bAnd (bcB x + bUsr (bcB x) 4) 252645135
def bcD (x : Int) : Int := bcC x + bUsr (bcC x) 8
def bcE (x : Int) : Int := bAnd (bcD x + bUsr (bcD x) 16) 63
theorem bcE_ok : ∀ n : Nat, n < 1024 → bcE (n : Int) = cnt (fun i => n.testBit i) 10 := by decide +kernel
theorem c_bitCount (p : Nat → Bool) (M : MM) : oI 1 161 [vI (mk p)] M (cnt p 10) := by
  refine go161 (fun S hS => ?_)
  refine wpx_ok hS bk161 (sp := sp161) 60 0 _ _ _ _ ?_
  simp only [LCM, B2, Bool.not_eq_false, Bool.not_eq_true, decide_eq_true_eq, decide_eq_false_iff_not, Int.not_lt, Int.not_le, CST, TN, WX, WA, WB, GS, LOC, BT161, SP161, CLS, FLD, ARR, CD, true_and, and_true, and_self, forall_const, true_implies, false_implies, implies_true, not_true_eq_false, not_false_eq_true, if_true, if_false, rgI, rgL, scr, swl, lkl, cats, cat, is2, List.drop_succ_cons, List.drop_zero, List.drop_nil, List.cons_append, List.nil_append, Option.toList_some, Option.toList_none, List.length_cons, List.length_nil, ne_eq, reduceCtorEq, Nat.reduceAdd, Nat.reduceSub, Nat.reduceMul, Nat.reduceLT, Nat.reduceLeDiff, Nat.reduceEqDiff, Nat.reduceBEq, Int.reduceToNat, Int.reduceLE, Int.reduceLT, Int.reduceEq, Int.reduceNeg, Int.reduceAdd, Int.reduceSub, Int.reduceMul, Int.toNat_natCast, Nat.zero_add, Int.add_zero, Nat.add_zero, ite_true, ite_false, Option.some.injEq, Nat.le_refl, or_true, true_or, or_false, false_or, if_pos, reduceIte, Nat.reduceGT]
  refine rt161 ⟨rfl, ?_, rfl⟩
  show some (Sum.inl (bcE (mk p))) = _
  have h1 := bcE_ok (mkN p 10) (mkN_10 p)
  unfold mk
  rw [h1]
  congr 2
  refine cnt_eq (fun i hi => ?_)
  rw [mkN_bit]
  simp [hi]
end
section
/-! the town as the model's cells have it -/
def len (T : MM) (i : Nat) : Int := T 57 (T 61 (4 * i)).toNat
def rsB (T : MM) (d : Int) (i : Nat) : Bool := decide (d % len T i = T 61 (4 * i + 1))
def skB (T : MM) (s i : Nat) : Bool := decide (bAnd (bShr (T 61 (4 * i + 2)) (s : Int)) 1 = 1)
def hN (T : MM) : Nat := (T 58 0).toNat
def wN (T : MM) : Nat := (T 59 0).toNat
def hands (T : MM) (s : Nat) (d : Int) : Int := cnt (fun i => skB T s i && !rsB T d i) (hN T)
def shrt (T : MM) (w : Nat) (d : Int) : Bool := decide (hands T (T 63 (3 * w)).toNat d < T 63 (3 * w + 1))
def upP (T : MM) (d : Int) (i : Nat) : Bool := decide (i < hN T) && !rsB T d i
def upM (T : MM) (d : Int) : Int := mk (upP T d)
/-- the first from i on, of n -/
def fstF (p : Nat → Bool) : Nat → Nat → Option Nat
  | _, 0 => none
  | i, n + 1 => if p i then some i else fstF p (i + 1) n
def newB (T : MM) (i : Nat) : Bool := decide (T 64 i = 1)
def WFt (T : MM) : Prop := (2 ≤ T 57 0 ∧ T 57 0 ≤ 12) ∧ (2 ≤ T 57 1 ∧ T 57 1 ≤ 12) ∧ (1 ≤ T 58 0 ∧ T 58 0 ≤ 10) ∧ (0 ≤ T 59 0 ∧ T 59 0 ≤ 6) ∧ (0 ≤ T 60 0 ∧ T 60 0 < T 58 0) ∧
  (∀ i : Nat, (i : Int) < T 58 0 → (T 61 (4 * i) = 0 ∨ T 61 (4 * i) = 1) ∧ (0 ≤ T 61 (4 * i + 1) ∧ T 61 (4 * i + 1) < len T i) ∧ (0 ≤ T 61 (4 * i + 2) ∧ T 61 (4 * i + 2) ≤ 31) ∧ (0 ≤ T 61 (4 * i + 3) ∧ T 61 (4 * i + 3) ≤ 3)) ∧
  (∀ w : Nat, (w : Int) < T 59 0 → (0 ≤ T 63 (3 * w) ∧ T 63 (3 * w) ≤ 4) ∧ (1 ≤ T 63 (3 * w + 1) ∧ T 63 (3 * w + 1) ≤ 9) ∧ (1 ≤ T 63 (3 * w + 2) ∧ T 63 (3 * w + 2) ≤ 9)) ∧
  (∀ i : Nat, i < 10 → (T 64 i = 0 ∨ T 64 i = 1) ∧ (T 58 0 ≤ i → T 64 i = 0)) ∧ cnt (newB T) 10 ≤ 3
theorem WFt.H {T : MM} (h : WFt T) : (hN T : Int) = T 58 0 ∧ 1 ≤ hN T ∧ hN T ≤ 10 := by
  have := h.2.2.1
  unfold hN
  omega
theorem WFt.W {T : MM} (h : WFt T) : (wN T : Int) = T 59 0 ∧ wN T ≤ 6 := by
  have := h.2.2.2.1
  unfold wN
  omega
theorem WFt.hs {T : MM} (h : WFt T) {i : Nat} (hi : i < hN T) : (T 61 (4 * i) = 0 ∨ T 61 (4 * i) = 1) ∧ (0 ≤ T 61 (4 * i + 1) ∧ T 61 (4 * i + 1) < len T i) ∧ (0 ≤ T 61 (4 * i + 2) ∧ T 61 (4 * i + 2) ≤ 31) ∧ (0 ≤ T 61 (4 * i + 3) ∧ T 61 (4 * i + 3) ≤ 3) := h.2.2.2.2.2.1 i (by have := h.H; omega)
theorem WFt.ln {T : MM} (h : WFt T) {i : Nat} (hi : i < hN T) : 2 ≤ len T i ∧ len T i ≤ 12 := by
  unfold len
  rcases (h.hs hi).1 with h1 | h1 <;> rw [h1]
  · exact h.1
  · exact h.2.1
theorem WFt.wk {T : MM} (h : WFt T) {w : Nat} (hw : w < wN T) : (0 ≤ T 63 (3 * w) ∧ T 63 (3 * w) ≤ 4) ∧ (1 ≤ T 63 (3 * w + 1) ∧ T 63 (3 * w + 1) ≤ 9) ∧ (1 ≤ T 63 (3 * w + 2) ∧ T 63 (3 * w + 2) ≤ 9) := h.2.2.2.2.2.2.1 w (by have := h.W; omega)
/-! its walks -/
theorem c_in (v a b : Int) (M : MM) (hv : rgL v) (ha : rgL a) (hb : rgL b) : oI 1 102 [vL v, vL a, vL b] M (b2i (decide (a ≤ v ∧ v ≤ b))) := by
  refine go102 (fun S hS => ?_)
  refine wpx_ok hS bk102 (sp := sp102) 60 0 _ _ _ _ ?_
  simp only [LCM, B2, Bool.not_eq_false, Bool.not_eq_true, decide_eq_true_eq, decide_eq_false_iff_not, Int.not_lt, Int.not_le, CST, TN, WX, WA, WB, GS, LOC, BT102, SP102, CLS, FLD, ARR, CD, true_and, and_true, and_self, forall_const, true_implies, false_implies, implies_true, not_true_eq_false, not_false_eq_true, if_true, if_false, rgI, rgL, scr, swl, lkl, cats, cat, is2, List.drop_succ_cons, List.drop_zero, List.drop_nil, List.cons_append, List.nil_append, Option.toList_some, Option.toList_none, List.length_cons, List.length_nil, ne_eq, reduceCtorEq, Nat.reduceAdd, Nat.reduceSub, Nat.reduceMul, Nat.reduceLT, Nat.reduceLeDiff, Nat.reduceEqDiff, Nat.reduceBEq, Int.reduceToNat, Int.reduceLE, Int.reduceLT, Int.reduceEq, Int.reduceNeg, Int.reduceAdd, Int.reduceSub, Int.reduceMul, Int.toNat_natCast, Nat.zero_add, Int.add_zero, Nat.add_zero, ite_true, ite_false, Option.some.injEq, Nat.le_refl, or_true, true_or, or_false, false_or, if_pos, reduceIte, Nat.reduceGT]
  refine ⟨hv, ha, fun h => ?_, fun h => ⟨hv, hb, fun h2 => ?_, fun h2 => ?_⟩⟩
  · exact rt102 (by decide) ⟨rfl, by rw [decide_eq_false (by omega)]; rfl, rfl⟩
  · exact rt102 (by decide) ⟨rfl, by rw [decide_eq_false (by omega)]; rfl, rfl⟩
  · exact rt102 (by decide) ⟨rfl, by rw [decide_eq_true (by omega)]; rfl, rfl⟩
theorem m_isHouse (i : Int) (M : MM) (hi : rgI i) (hW : WFt M) : oI 2 113 [vR 55, vI i] M (b2i (decide (0 ≤ i ∧ i < M 58 0))) := by
  have hH := hW.2.2.1
  refine go113 (fun S hS => ?_)
  refine wpx_ok hS bk113 (sp := sp113) 60 0 _ _ _ _ ?_
  simp only [LCM, B2, Bool.not_eq_false, Bool.not_eq_true, decide_eq_true_eq, decide_eq_false_iff_not, Int.not_lt, Int.not_le, CST, TN, WX, WA, WB, GS, LOC, BT113, SP113, CLS, FLD, ARR, CD, true_and, and_true, and_self, forall_const, true_implies, false_implies, implies_true, not_true_eq_false, not_false_eq_true, if_true, if_false, rgI, rgL, scr, swl, lkl, cats, cat, is2, List.drop_succ_cons, List.drop_zero, List.drop_nil, List.cons_append, List.nil_append, Option.toList_some, Option.toList_none, List.length_cons, List.length_nil, ne_eq, reduceCtorEq, Nat.reduceAdd, Nat.reduceSub, Nat.reduceMul, Nat.reduceLT, Nat.reduceLeDiff, Nat.reduceEqDiff, Nat.reduceBEq, Int.reduceToNat, Int.reduceLE, Int.reduceLT, Int.reduceEq, Int.reduceNeg, Int.reduceAdd, Int.reduceSub, Int.reduceMul, Int.toNat_natCast, Nat.zero_add, Int.add_zero, Nat.add_zero, ite_true, ite_false, Option.some.injEq, Nat.le_refl, or_true, true_or, or_false, false_or, if_pos, reduceIte, Nat.reduceGT]
  refine ⟨hi, by omega, ?_⟩
  refine kI (c_in i 0 (M 58 0 - 1) M (by unfold rgL rgI at *; omega) (by unfold rgL; omega) (by unfold rgL; omega)) (Nat.le_of_ble_eq_true rfl) rfl rfl (Nat.le_of_ble_eq_true rfl) (Nat.le_of_ble_eq_true rfl) rfl ?_
  refine wpx_ok hS bk113 (sp := sp113) 60 15 _ _ _ _ ?_
  simp only [LCM, B2, Bool.not_eq_false, Bool.not_eq_true, decide_eq_true_eq, decide_eq_false_iff_not, Int.not_lt, Int.not_le, CST, TN, WX, WA, WB, GS, LOC, BT113, SP113, CLS, FLD, ARR, CD, true_and, and_true, and_self, forall_const, true_implies, false_implies, implies_true, not_true_eq_false, not_false_eq_true, if_true, if_false, rgI, rgL, scr, swl, lkl, cats, cat, is2, List.drop_succ_cons, List.drop_zero, List.drop_nil, List.cons_append, List.nil_append, Option.toList_some, Option.toList_none, List.length_cons, List.length_nil, ne_eq, reduceCtorEq, Nat.reduceAdd, Nat.reduceSub, Nat.reduceMul, Nat.reduceLT, Nat.reduceLeDiff, Nat.reduceEqDiff, Nat.reduceBEq, Int.reduceToNat, Int.reduceLE, Int.reduceLT, Int.reduceEq, Int.reduceNeg, Int.reduceAdd, Int.reduceSub, Int.reduceMul, Int.toNat_natCast, Nat.zero_add, Int.add_zero, Nat.add_zero, ite_true, ite_false, Option.some.injEq, Nat.le_refl, or_true, true_or, or_false, false_or, if_pos, reduceIte, Nat.reduceGT]
  refine rt113 (b2i_01 _) ⟨rfl, ?_, rfl⟩
  congr 3
  apply decide_eq_decide.mpr
  omega
theorem m_isWork (i : Int) (M : MM) (hi : rgI i) (hW : WFt M) : oI 2 114 [vR 55, vI i] M (b2i (decide (0 ≤ i ∧ i < M 59 0))) := by
  have hH := hW.2.2.2.1
  refine go114 (fun S hS => ?_)
  refine wpx_ok hS bk114 (sp := sp114) 60 0 _ _ _ _ ?_
  simp only [LCM, B2, Bool.not_eq_false, Bool.not_eq_true, decide_eq_true_eq, decide_eq_false_iff_not, Int.not_lt, Int.not_le, CST, TN, WX, WA, WB, GS, LOC, BT114, SP114, CLS, FLD, ARR, CD, true_and, and_true, and_self, forall_const, true_implies, false_implies, implies_true, not_true_eq_false, not_false_eq_true, if_true, if_false, rgI, rgL, scr, swl, lkl, cats, cat, is2, List.drop_succ_cons, List.drop_zero, List.drop_nil, List.cons_append, List.nil_append, Option.toList_some, Option.toList_none, List.length_cons, List.length_nil, ne_eq, reduceCtorEq, Nat.reduceAdd, Nat.reduceSub, Nat.reduceMul, Nat.reduceLT, Nat.reduceLeDiff, Nat.reduceEqDiff, Nat.reduceBEq, Int.reduceToNat, Int.reduceLE, Int.reduceLT, Int.reduceEq, Int.reduceNeg, Int.reduceAdd, Int.reduceSub, Int.reduceMul, Int.toNat_natCast, Nat.zero_add, Int.add_zero, Nat.add_zero, ite_true, ite_false, Option.some.injEq, Nat.le_refl, or_true, true_or, or_false, false_or, if_pos, reduceIte, Nat.reduceGT]
  refine ⟨hi, by omega, ?_⟩
  refine kI (c_in i 0 (M 59 0 - 1) M (by unfold rgL rgI at *; omega) (by unfold rgL; omega) (by unfold rgL; omega)) (Nat.le_of_ble_eq_true rfl) rfl rfl (Nat.le_of_ble_eq_true rfl) (Nat.le_of_ble_eq_true rfl) rfl ?_
  refine wpx_ok hS bk114 (sp := sp114) 60 15 _ _ _ _ ?_
  simp only [LCM, B2, Bool.not_eq_false, Bool.not_eq_true, decide_eq_true_eq, decide_eq_false_iff_not, Int.not_lt, Int.not_le, CST, TN, WX, WA, WB, GS, LOC, BT114, SP114, CLS, FLD, ARR, CD, true_and, and_true, and_self, forall_const, true_implies, false_implies, implies_true, not_true_eq_false, not_false_eq_true, if_true, if_false, rgI, rgL, scr, swl, lkl, cats, cat, is2, List.drop_succ_cons, List.drop_zero, List.drop_nil, List.cons_append, List.nil_append, Option.toList_some, Option.toList_none, List.length_cons, List.length_nil, ne_eq, reduceCtorEq, Nat.reduceAdd, Nat.reduceSub, Nat.reduceMul, Nat.reduceLT, Nat.reduceLeDiff, Nat.reduceEqDiff, Nat.reduceBEq, Int.reduceToNat, Int.reduceLE, Int.reduceLT, Int.reduceEq, Int.reduceNeg, Int.reduceAdd, Int.reduceSub, Int.reduceMul, Int.toNat_natCast, Nat.zero_add, Int.add_zero, Nat.add_zero, ite_true, ite_false, Option.some.injEq, Nat.le_refl, or_true, true_or, or_false, false_or, if_pos, reduceIte, Nat.reduceGT]
  refine rt114 (b2i_01 _) ⟨rfl, ?_, rfl⟩
  congr 3
  apply decide_eq_decide.mpr
  omega
def isDayB (d : Int) : Bool := decide (0 ≤ d ∧ d ≤ 1000000000000000)
theorem m_isDay (d : Int) (M : MM) (hd : rgL d) : oI 2 115 [vL d] M (b2i (isDayB d)) := by
  refine go115 (fun S hS => ?_)
  refine wpx_ok hS bk115 (sp := sp115) 60 0 _ _ _ _ ?_
  simp only [LCM, B2, Bool.not_eq_false, Bool.not_eq_true, decide_eq_true_eq, decide_eq_false_iff_not, Int.not_lt, Int.not_le, CST, TN, WX, WA, WB, GS, LOC, BT115, SP115, CLS, FLD, ARR, CD, true_and, and_true, and_self, forall_const, true_implies, false_implies, implies_true, not_true_eq_false, not_false_eq_true, if_true, if_false, rgI, rgL, scr, swl, lkl, cats, cat, is2, List.drop_succ_cons, List.drop_zero, List.drop_nil, List.cons_append, List.nil_append, Option.toList_some, Option.toList_none, List.length_cons, List.length_nil, ne_eq, reduceCtorEq, Nat.reduceAdd, Nat.reduceSub, Nat.reduceMul, Nat.reduceLT, Nat.reduceLeDiff, Nat.reduceEqDiff, Nat.reduceBEq, Int.reduceToNat, Int.reduceLE, Int.reduceLT, Int.reduceEq, Int.reduceNeg, Int.reduceAdd, Int.reduceSub, Int.reduceMul, Int.toNat_natCast, Nat.zero_add, Int.add_zero, Nat.add_zero, ite_true, ite_false, Option.some.injEq, Nat.le_refl, or_true, true_or, or_false, false_or, if_pos, reduceIte, Nat.reduceGT]
  refine kI (c_in d 0 1000000000000000 M hd (by unfold rgL; omega) (by unfold rgL; omega)) (Nat.le_of_ble_eq_true rfl) rfl rfl (Nat.le_of_ble_eq_true rfl) (Nat.le_of_ble_eq_true rfl) rfl ?_
  refine wpx_ok hS bk115 (sp := sp115) 60 8 _ _ _ _ ?_
  simp only [LCM, B2, Bool.not_eq_false, Bool.not_eq_true, decide_eq_true_eq, decide_eq_false_iff_not, Int.not_lt, Int.not_le, CST, TN, WX, WA, WB, GS, LOC, BT115, SP115, CLS, FLD, ARR, CD, true_and, and_true, and_self, forall_const, true_implies, false_implies, implies_true, not_true_eq_false, not_false_eq_true, if_true, if_false, rgI, rgL, scr, swl, lkl, cats, cat, is2, List.drop_succ_cons, List.drop_zero, List.drop_nil, List.cons_append, List.nil_append, Option.toList_some, Option.toList_none, List.length_cons, List.length_nil, ne_eq, reduceCtorEq, Nat.reduceAdd, Nat.reduceSub, Nat.reduceMul, Nat.reduceLT, Nat.reduceLeDiff, Nat.reduceEqDiff, Nat.reduceBEq, Int.reduceToNat, Int.reduceLE, Int.reduceLT, Int.reduceEq, Int.reduceNeg, Int.reduceAdd, Int.reduceSub, Int.reduceMul, Int.toNat_natCast, Nat.zero_add, Int.add_zero, Nat.add_zero, ite_true, ite_false, Option.some.injEq, Nat.le_refl, or_true, true_or, or_false, false_or, if_pos, reduceIte, Nat.reduceGT]
  exact rt115 (b2i_01 _) ⟨rfl, rfl, rfl⟩
theorem m_weekOf (i : Nat) (M : MM) (hW : WFt M) (hi : i < hN M) : oI 1 117 [vR 55, vI i] M (len M i) := by
  have hH := hW.H
  have h1 := (hW.hs hi).1
  refine go117 (fun S hS => ?_)
  refine wpx_ok hS bk117 (sp := sp117) 60 0 _ _ _ _ ?_
  simp only [LCM, B2, Bool.not_eq_false, Bool.not_eq_true, decide_eq_true_eq, decide_eq_false_iff_not, Int.not_lt, Int.not_le, CST, TN, WX, WA, WB, GS, LOC, BT117, SP117, CLS, FLD, ARR, CD, true_and, and_true, and_self, forall_const, true_implies, false_implies, implies_true, not_true_eq_false, not_false_eq_true, if_true, if_false, rgI, rgL, scr, swl, lkl, cats, cat, is2, List.drop_succ_cons, List.drop_zero, List.drop_nil, List.cons_append, List.nil_append, Option.toList_some, Option.toList_none, List.length_cons, List.length_nil, ne_eq, reduceCtorEq, Nat.reduceAdd, Nat.reduceSub, Nat.reduceMul, Nat.reduceLT, Nat.reduceLeDiff, Nat.reduceEqDiff, Nat.reduceBEq, Int.reduceToNat, Int.reduceLE, Int.reduceLT, Int.reduceEq, Int.reduceNeg, Int.reduceAdd, Int.reduceSub, Int.reduceMul, Int.toNat_natCast, Nat.zero_add, Int.add_zero, Nat.add_zero, ite_true, ite_false, Option.some.injEq, Nat.le_refl, or_true, true_or, or_false, false_or, if_pos, reduceIte, Nat.reduceGT]
  refine ⟨by omega, by omega, ?_⟩
  exact rt117 ⟨rfl, rfl, rfl⟩
theorem m_isUp (i : Nat) (d : Int) (M : MM) (hW : WFt M) (hi : i < hN M) (hd : 0 ≤ d ∧ d ≤ 100000000000000000) : oI 2 118 [vR 55, vI i, vL d] M (b2i (!rsB M d i)) := by
  have hH := hW.H
  have h1 := hW.hs hi
  have h2 := hW.ln hi
  refine go118 (fun S hS => ?_)
  refine wpx_ok hS bk118 (sp := sp118) 60 0 _ _ _ _ ?_
  simp only [LCM, B2, Bool.not_eq_false, Bool.not_eq_true, decide_eq_true_eq, decide_eq_false_iff_not, Int.not_lt, Int.not_le, CST, TN, WX, WA, WB, GS, LOC, BT118, SP118, CLS, FLD, ARR, CD, true_and, and_true, and_self, forall_const, true_implies, false_implies, implies_true, not_true_eq_false, not_false_eq_true, if_true, if_false, rgI, rgL, scr, swl, lkl, cats, cat, is2, List.drop_succ_cons, List.drop_zero, List.drop_nil, List.cons_append, List.nil_append, Option.toList_some, Option.toList_none, List.length_cons, List.length_nil, ne_eq, reduceCtorEq, Nat.reduceAdd, Nat.reduceSub, Nat.reduceMul, Nat.reduceLT, Nat.reduceLeDiff, Nat.reduceEqDiff, Nat.reduceBEq, Int.reduceToNat, Int.reduceLE, Int.reduceLT, Int.reduceEq, Int.reduceNeg, Int.reduceAdd, Int.reduceSub, Int.reduceMul, Int.toNat_natCast, Nat.zero_add, Int.add_zero, Nat.add_zero, ite_true, ite_false, Option.some.injEq, Nat.le_refl, or_true, true_or, or_false, false_or, if_pos, reduceIte, Nat.reduceGT]
  refine ⟨rcv_ok rfl own117 rfl, kI (m_weekOf i M hW hi) (Nat.le_of_ble_eq_true rfl) rfl rfl (Nat.le_of_ble_eq_true rfl) (Nat.le_of_ble_eq_true rfl) rfl ?_⟩
  refine wpx_ok hS bk118 (sp := sp118) 60 6 _ _ _ _ ?_
  simp only [LCM, B2, Bool.not_eq_false, Bool.not_eq_true, decide_eq_true_eq, decide_eq_false_iff_not, Int.not_lt, Int.not_le, CST, TN, WX, WA, WB, GS, LOC, BT118, SP118, CLS, FLD, ARR, CD, true_and, and_true, and_self, forall_const, true_implies, false_implies, implies_true, not_true_eq_false, not_false_eq_true, if_true, if_false, rgI, rgL, scr, swl, lkl, cats, cat, is2, List.drop_succ_cons, List.drop_zero, List.drop_nil, List.cons_append, List.nil_append, Option.toList_some, Option.toList_none, List.length_cons, List.length_nil, ne_eq, reduceCtorEq, Nat.reduceAdd, Nat.reduceSub, Nat.reduceMul, Nat.reduceLT, Nat.reduceLeDiff, Nat.reduceEqDiff, Nat.reduceBEq, Int.reduceToNat, Int.reduceLE, Int.reduceLT, Int.reduceEq, Int.reduceNeg, Int.reduceAdd, Int.reduceSub, Int.reduceMul, Int.toNat_natCast, Nat.zero_add, Int.add_zero, Nat.add_zero, ite_true, ite_false, Option.some.injEq, Nat.le_refl, or_true, true_or, or_false, false_or, if_pos, reduceIte, Nat.reduceGT]
  have h3 := Int.emod_nonneg d (show len M i ≠ 0 by omega)
  have h4 := Int.emod_lt_of_pos d (show 0 < len M i by omega)
  refine ⟨by omega, by omega, by omega, by omega, by omega, by omega, fun h => ?_, fun h => ?_⟩
  · exact rt118 (by decide) ⟨rfl, by unfold rsB; rw [decide_eq_true h]; rfl, rfl⟩
  · exact rt118 (by decide) ⟨rfl, by unfold rsB; rw [decide_eq_false h]; rfl, rfl⟩
theorem pow_sm : ∀ i : Nat, i < 11 → 2 ^ i ≤ 1024 := by decide
theorem mkN_sm (p : Nat → Bool) {i : Nat} (h : i ≤ 10) : mkN p i < 1024 := Nat.lt_of_lt_of_le (mkN_lt p i) (pow_sm i (by omega))
theorem bOr_put (p : Nat → Bool) {i : Nat} (h : i < 10) (hp : p i = true) : bOr ((mkN p i : Nat) : Int) (bShl 1 (i : Int)) = ((mkN p (i + 1) : Nat) : Int) := by
  have h1 := mkN_sm p (i := i) (by omega)
  have h2 := pow_sm i (by omega)
  rw [bShl_1 (by omega), bOr_nat (by omega) (by omega), mkN, hp, if_pos rfl]
theorem bOr_skip (p : Nat → Bool) {i : Nat} (h : i < 10) (hp : p i = false) : bOr ((mkN p i : Nat) : Int) 0 = ((mkN p (i + 1) : Nat) : Int) := by
  have h1 := mkN_sm p (i := i) (by omega)
  have h2 : bOr ((mkN p i : Nat) : Int) ((0 : Nat) : Int) = _ := bOr_nat (by omega) (by omega)
  rw [mkN, hp, if_neg (by decide)]
  exact h2
theorem upP_of {T : MM} {d : Int} {i : Nat} (h : i < hN T) : upP T d i = !rsB T d i := by unfold upP; simp [h]
theorem mkN_cut {p : Nat → Bool} {h n : Nat} (hn : h ≤ n) (hp : ∀ i, h ≤ i → p i = false) : mkN p h = mkN p n := by
  apply Nat.eq_of_testBit_eq
  intro j
  rw [mkN_bit, mkN_bit]
  by_cases h1 : j < h
  · have h2 : j < n := by omega
    simp [h1, h2]
  · rw [hp j (by omega)]
    simp
theorem m_upOn (d : Int) (M : MM) (hW : WFt M) (hd : 0 ≤ d ∧ d ≤ 100000000000000000) : oI 3 120 [vR 55, vL d] M (upM M d) := by
  have hH := hW.H
  refine go120 (fun S hS => ?_)
  have head : ∀ (n i : Nat), i + n = hN M → S 5 [some (vR 55), some (vL d), none, some (vI (mkN (upP M d) i : Nat)), some (vI i)] [] (sh0, 0, 0) M := by
    intro n
    induction n with
    | zero =>
      intro i hi
      refine wpx_ok hS bk120 (sp := sp120) 60 5 _ _ _ _ ?_
      simp only [LCM, B2, Bool.not_eq_false, Bool.not_eq_true, decide_eq_true_eq, decide_eq_false_iff_not, Int.not_lt, Int.not_le, CST, TN, WX, WA, WB, GS, LOC, BT120, SP120, CLS, FLD, ARR, CD, true_and, and_true, and_self, forall_const, true_implies, false_implies, implies_true, not_true_eq_false, not_false_eq_true, if_true, if_false, rgI, rgL, scr, swl, lkl, cats, cat, is2, List.drop_succ_cons, List.drop_zero, List.drop_nil, List.cons_append, List.nil_append, Option.toList_some, Option.toList_none, List.length_cons, List.length_nil, ne_eq, reduceCtorEq, Nat.reduceAdd, Nat.reduceSub, Nat.reduceMul, Nat.reduceLT, Nat.reduceLeDiff, Nat.reduceEqDiff, Nat.reduceBEq, Int.reduceToNat, Int.reduceLE, Int.reduceLT, Int.reduceEq, Int.reduceNeg, Int.reduceAdd, Int.reduceSub, Int.reduceMul, Int.toNat_natCast, Nat.zero_add, Int.add_zero, Nat.add_zero, ite_true, ite_false, Option.some.injEq, Nat.le_refl, or_true, true_or, or_false, false_or, if_pos, reduceIte, Nat.reduceGT]
      refine ⟨by omega, fun h => ?_, fun h => by omega⟩
      refine rt120 ⟨rfl, ?_, rfl⟩
      congr 2
      unfold upM mk
      rw [mkN_cut (h := i) (n := 10) (by omega) (fun j hj => by unfold upP; rw [decide_eq_false (by omega)]; rfl)]
    | succ n ih =>
      intro i hi
      refine wpx_ok hS bk120 (sp := sp120) 60 5 _ _ _ _ ?_
      simp only [LCM, B2, Bool.not_eq_false, Bool.not_eq_true, decide_eq_true_eq, decide_eq_false_iff_not, Int.not_lt, Int.not_le, CST, TN, WX, WA, WB, GS, LOC, BT120, SP120, CLS, FLD, ARR, CD, true_and, and_true, and_self, forall_const, true_implies, false_implies, implies_true, not_true_eq_false, not_false_eq_true, if_true, if_false, rgI, rgL, scr, swl, lkl, cats, cat, is2, List.drop_succ_cons, List.drop_zero, List.drop_nil, List.cons_append, List.nil_append, Option.toList_some, Option.toList_none, List.length_cons, List.length_nil, ne_eq, reduceCtorEq, Nat.reduceAdd, Nat.reduceSub, Nat.reduceMul, Nat.reduceLT, Nat.reduceLeDiff, Nat.reduceEqDiff, Nat.reduceBEq, Int.reduceToNat, Int.reduceLE, Int.reduceLT, Int.reduceEq, Int.reduceNeg, Int.reduceAdd, Int.reduceSub, Int.reduceMul, Int.toNat_natCast, Nat.zero_add, Int.add_zero, Nat.add_zero, ite_true, ite_false, Option.some.injEq, Nat.le_refl, or_true, true_or, or_false, false_or, if_pos, reduceIte, Nat.reduceGT]
      refine ⟨by omega, fun h => by omega, fun h => ?_⟩
      refine ⟨rcv_ok rfl own118 rfl, kI (m_isUp i d M hW (by omega) hd) (Nat.le_of_ble_eq_true rfl) rfl rfl (Nat.le_of_ble_eq_true rfl) (Nat.le_of_ble_eq_true rfl) rfl ?_⟩
      refine wpx_ok hS bk120 (sp := sp120) 60 24 _ _ _ _ ?_
      simp only [LCM, B2, Bool.not_eq_false, Bool.not_eq_true, decide_eq_true_eq, decide_eq_false_iff_not, Int.not_lt, Int.not_le, CST, TN, WX, WA, WB, GS, LOC, BT120, SP120, CLS, FLD, ARR, CD, true_and, and_true, and_self, forall_const, true_implies, false_implies, implies_true, not_true_eq_false, not_false_eq_true, if_true, if_false, rgI, rgL, scr, swl, lkl, cats, cat, is2, List.drop_succ_cons, List.drop_zero, List.drop_nil, List.cons_append, List.nil_append, Option.toList_some, Option.toList_none, List.length_cons, List.length_nil, ne_eq, reduceCtorEq, Nat.reduceAdd, Nat.reduceSub, Nat.reduceMul, Nat.reduceLT, Nat.reduceLeDiff, Nat.reduceEqDiff, Nat.reduceBEq, Int.reduceToNat, Int.reduceLE, Int.reduceLT, Int.reduceEq, Int.reduceNeg, Int.reduceAdd, Int.reduceSub, Int.reduceMul, Int.toNat_natCast, Nat.zero_add, Int.add_zero, Nat.add_zero, ite_true, ite_false, Option.some.injEq, Nat.le_refl, or_true, true_or, or_false, false_or, if_pos, reduceIte, Nat.reduceGT]
      refine ⟨fun h1 => ?_, fun h1 => ?_⟩
      · rw [bOr_skip (upP M d) (by omega) (by rw [upP_of (by omega), h1])]
        exact ih (i + 1) (by omega)
      · rw [bOr_put (upP M d) (by omega) (by rw [upP_of (by omega), h1])]
        exact ih (i + 1) (by omega)
  refine wpx_ok hS bk120 (sp := sp120) 60 0 _ _ _ _ ?_
  simp only [LCM, B2, Bool.not_eq_false, Bool.not_eq_true, decide_eq_true_eq, decide_eq_false_iff_not, Int.not_lt, Int.not_le, CST, TN, WX, WA, WB, GS, LOC, BT120, SP120, CLS, FLD, ARR, CD, true_and, and_true, and_self, forall_const, true_implies, false_implies, implies_true, not_true_eq_false, not_false_eq_true, if_true, if_false, rgI, rgL, scr, swl, lkl, cats, cat, is2, List.drop_succ_cons, List.drop_zero, List.drop_nil, List.cons_append, List.nil_append, Option.toList_some, Option.toList_none, List.length_cons, List.length_nil, ne_eq, reduceCtorEq, Nat.reduceAdd, Nat.reduceSub, Nat.reduceMul, Nat.reduceLT, Nat.reduceLeDiff, Nat.reduceEqDiff, Nat.reduceBEq, Int.reduceToNat, Int.reduceLE, Int.reduceLT, Int.reduceEq, Int.reduceNeg, Int.reduceAdd, Int.reduceSub, Int.reduceMul, Int.toNat_natCast, Nat.zero_add, Int.add_zero, Nat.add_zero, ite_true, ite_false, Option.some.injEq, Nat.le_refl, or_true, true_or, or_false, false_or, if_pos, reduceIte, Nat.reduceGT]
  exact head (hN M) 0 (by omega)
end
section
/-! weeks, days -/
def perN (a b : Nat) : Nat := Nat.lcm a b
def perQ (a b : Nat) : Nat := perN a b / a
def pfOK (a b : Nat) : Bool := decide (a < 2) || (decide (b < 2) || ((List.range (perQ a b)).all (fun k => decide (k = 0) || !decide ((a * k) % b = 0)) && (decide ((a * perQ a b) % b = 0) && (decide (a * perQ a b = perN a b) && (decide (1 ≤ perQ a b) && (decide (perQ a b ≤ 12) && (decide (perN a b ≤ 132) && (decide (2 ≤ perN a b) && (decide (perN a b % a = 0) && decide (perN a b % b = 0))))))))))
theorem pf_all : (List.range 13).all (fun a => (List.range 13).all (fun b => pfOK a b)) = true := by decide +kernel
theorem per_facts (a : Nat) (ha : a < 13) (ha2 : 2 ≤ a) (b : Nat) (hb : b < 13) (hb2 : 2 ≤ b) : (∀ k : Nat, k < perQ a b → 1 ≤ k → (a * k) % b ≠ 0) ∧ (a * perQ a b) % b = 0 ∧ a * perQ a b = perN a b ∧ 1 ≤ perQ a b ∧ perQ a b ≤ 12 ∧ perN a b ≤ 132 ∧ 2 ≤ perN a b ∧ perN a b % a = 0 ∧ perN a b % b = 0 := by
  have h := List.all_eq_true.mp (List.all_eq_true.mp pf_all a (List.mem_range.mpr ha)) b (List.mem_range.mpr hb)
  unfold pfOK at h
  rw [decide_eq_false (show ¬ a < 2 by omega), decide_eq_false (show ¬ b < 2 by omega), Bool.false_or, Bool.false_or] at h
  simp only [Bool.and_eq_true, decide_eq_true_eq] at h
  obtain ⟨h1, h2⟩ := h
  refine ⟨fun k hk hk1 => ?_, h2⟩
  have h3 := List.all_eq_true.mp h1 k (List.mem_range.mpr hk)
  rw [decide_eq_false (show ¬ k = 0 by omega), Bool.false_or] at h3
  simpa using h3
def PN (T : MM) : Nat := perN (T 57 0).toNat (T 57 1).toNat
theorem WFt.P {T : MM} (h : WFt T) : 2 ≤ PN T ∧ PN T ≤ 132 := by
  have h1 := h.1
  have h2 := h.2.1
  have := per_facts (T 57 0).toNat (by omega) (by omega) (T 57 1).toNat (by omega) (by omega)
  unfold PN
  omega
theorem WFt.Pl {T : MM} (h : WFt T) {i : Nat} (hi : i < hN T) : (PN T : Int) % len T i = 0 := by
  have h1 := h.1
  have h2 := h.2.1
  have hp := per_facts (T 57 0).toNat (by omega) (by omega) (T 57 1).toNat (by omega) (by omega)
  unfold len PN
  rcases (h.hs hi).1 with h3 | h3 <;> rw [h3]
  · have : T 57 0 = ((T 57 0).toNat : Int) := by omega
    show ((perN (T 57 0).toNat (T 57 1).toNat : Nat) : Int) % T 57 0 = 0
    rw [this, ← Int.natCast_emod]
    simp only [Int.toNat_natCast]
    rw [hp.2.2.2.2.2.2.2.1]
    rfl
  · have : T 57 1 = ((T 57 1).toNat : Int) := by omega
    show ((perN (T 57 0).toNat (T 57 1).toNat : Nat) : Int) % T 57 1 = 0
    rw [this, ← Int.natCast_emod]
    simp only [Int.toNat_natCast]
    rw [hp.2.2.2.2.2.2.2.2]
    rfl
theorem rsB_per {T : MM} (h : WFt T) {i : Nat} (hi : i < hN T) (d : Int) (k : Int) : rsB T (d + PN T * k) i = rsB T d i := by
  unfold rsB
  have h1 := h.Pl hi
  have h2 : (d + PN T * k) % len T i = d % len T i := by
    have h3 := h.ln hi
    obtain ⟨q, hq⟩ := Int.dvd_of_emod_eq_zero h1
    rw [hq, Int.mul_assoc, Int.add_mul_emod_self_left]
  rw [h2]
theorem hands_per {T : MM} (h : WFt T) (s : Nat) (d k : Int) : hands T s (d + PN T * k) = hands T s d := by
  unfold hands
  exact cnt_eq (fun i hi => by rw [rsB_per h hi])
theorem shrt_per {T : MM} (h : WFt T) (w : Nat) (d k : Int) : shrt T w (d + PN T * k) = shrt T w d := by
  unfold shrt
  rw [hands_per h]
theorem upM_per {T : MM} (h : WFt T) (d k : Int) : upM T (d + PN T * k) = upM T d := by
  unfold upM
  refine mk_eq (fun i _ => ?_)
  unfold upP
  by_cases hi : i < hN T
  · rw [rsB_per h hi]
  · simp [hi]
theorem m_period (M : MM) (hW : WFt M) : oI 1 119 [vR 55] M (PN M) := by
  have h1 := hW.1
  have h2 := hW.2.1
  obtain ⟨a, ha⟩ : ∃ a : Nat, M 57 0 = (a : Int) := ⟨(M 57 0).toNat, by omega⟩
  obtain ⟨b, hb⟩ : ∃ b : Nat, M 57 1 = (b : Int) := ⟨(M 57 1).toNat, by omega⟩
  obtain ⟨f1, f2, f3, f4, f5, f6, f7, f8, f9⟩ := per_facts a (by omega) (by omega) b (by omega) (by omega)
  have hPN : PN M = perN a b := by unfold PN; rw [ha, hb]; rfl
  refine go119 (fun S hS => ?_)
  have hmul : ∀ k, k ≤ perQ a b → a * k ≤ 132 := fun k hk => Nat.le_trans (Nat.mul_le_mul_left a hk) (by omega)
  have head : ∀ (n k : Nat), k + n = perQ a b → 1 ≤ k → S 7 [some (vR 55), some (vI ((a * k : Nat) : Int))] [] (sh0, 0, 0) M := by
    intro n
    induction n with
    | zero =>
      intro k hk hk1
      have := hmul k (by omega)
      refine wpx_ok hS bk119 (sp := sp119) 60 7 _ _ _ _ ?_
      simp only [LCM, B2, Bool.not_eq_false, Bool.not_eq_true, decide_eq_true_eq, decide_eq_false_iff_not, Int.not_lt, Int.not_le, CST, TN, WX, WA, WB, GS, LOC, BT119, SP119, CLS, FLD, ARR, CD, true_and, and_true, and_self, forall_const, true_implies, false_implies, implies_true, not_true_eq_false, not_false_eq_true, if_true, if_false, rgI, rgL, scr, swl, lkl, cats, cat, is2, List.drop_succ_cons, List.drop_zero, List.drop_nil, List.cons_append, List.nil_append, Option.toList_some, Option.toList_none, List.length_cons, List.length_nil, ne_eq, reduceCtorEq, Nat.reduceAdd, Nat.reduceSub, Nat.reduceMul, Nat.reduceLT, Nat.reduceLeDiff, Nat.reduceEqDiff, Nat.reduceBEq, Int.reduceToNat, Int.reduceLE, Int.reduceLT, Int.reduceEq, Int.reduceNeg, Int.reduceAdd, Int.reduceSub, Int.reduceMul, Int.toNat_natCast, Nat.zero_add, Int.add_zero, Nat.add_zero, ite_true, ite_false, Option.some.injEq, Nat.le_refl, or_true, true_or, or_false, false_or, if_pos, reduceIte, Nat.reduceGT]
      rw [hb]
      refine ⟨by omega, ?_, fun h => ?_, fun h => ?_⟩
      · have h3 : ((a * k : Nat) : Int) % (b : Int) = ((a * k % b : Nat) : Int) := by rw [Int.natCast_emod]
        have h4 : a * k % b < b := Nat.mod_lt _ (by omega)
        omega
      · refine rt119 ⟨rfl, ?_, rfl⟩
        rw [hPN, ← f3, show k = perQ a b by omega]
      · exfalso
        apply h
        rw [← Int.natCast_emod, show k = perQ a b by omega, f2]
        rfl
    | succ n ih =>
      intro k hk hk1
      have := hmul k (by omega)
      refine wpx_ok hS bk119 (sp := sp119) 60 7 _ _ _ _ ?_
      simp only [LCM, B2, Bool.not_eq_false, Bool.not_eq_true, decide_eq_true_eq, decide_eq_false_iff_not, Int.not_lt, Int.not_le, CST, TN, WX, WA, WB, GS, LOC, BT119, SP119, CLS, FLD, ARR, CD, true_and, and_true, and_self, forall_const, true_implies, false_implies, implies_true, not_true_eq_false, not_false_eq_true, if_true, if_false, rgI, rgL, scr, swl, lkl, cats, cat, is2, List.drop_succ_cons, List.drop_zero, List.drop_nil, List.cons_append, List.nil_append, Option.toList_some, Option.toList_none, List.length_cons, List.length_nil, ne_eq, reduceCtorEq, Nat.reduceAdd, Nat.reduceSub, Nat.reduceMul, Nat.reduceLT, Nat.reduceLeDiff, Nat.reduceEqDiff, Nat.reduceBEq, Int.reduceToNat, Int.reduceLE, Int.reduceLT, Int.reduceEq, Int.reduceNeg, Int.reduceAdd, Int.reduceSub, Int.reduceMul, Int.toNat_natCast, Nat.zero_add, Int.add_zero, Nat.add_zero, ite_true, ite_false, Option.some.injEq, Nat.le_refl, or_true, true_or, or_false, false_or, if_pos, reduceIte, Nat.reduceGT]
      rw [hb]
      have h3 : ((a * k : Nat) : Int) % (b : Int) = ((a * k % b : Nat) : Int) := by rw [Int.natCast_emod]
      have h4 : a * k % b < b := Nat.mod_lt _ (by omega)
      refine ⟨by omega, by omega, fun h => ?_, fun h => ?_⟩
      · exfalso
        exact f1 k (by omega) hk1 (by omega)
      · have h5 := ih (k + 1) (by omega) (by omega)
        rw [show ((a * (k + 1) : Nat) : Int) = ((a * k : Nat) : Int) + M 57 0 by rw [ha, Nat.mul_add]; omega] at h5
        exact h5
  refine wpx_ok hS bk119 (sp := sp119) 60 0 _ _ _ _ ?_
  simp only [LCM, B2, Bool.not_eq_false, Bool.not_eq_true, decide_eq_true_eq, decide_eq_false_iff_not, Int.not_lt, Int.not_le, CST, TN, WX, WA, WB, GS, LOC, BT119, SP119, CLS, FLD, ARR, CD, true_and, and_true, and_self, forall_const, true_implies, false_implies, implies_true, not_true_eq_false, not_false_eq_true, if_true, if_false, rgI, rgL, scr, swl, lkl, cats, cat, is2, List.drop_succ_cons, List.drop_zero, List.drop_nil, List.cons_append, List.nil_append, Option.toList_some, Option.toList_none, List.length_cons, List.length_nil, ne_eq, reduceCtorEq, Nat.reduceAdd, Nat.reduceSub, Nat.reduceMul, Nat.reduceLT, Nat.reduceLeDiff, Nat.reduceEqDiff, Nat.reduceBEq, Int.reduceToNat, Int.reduceLE, Int.reduceLT, Int.reduceEq, Int.reduceNeg, Int.reduceAdd, Int.reduceSub, Int.reduceMul, Int.toNat_natCast, Nat.zero_add, Int.add_zero, Nat.add_zero, ite_true, ite_false, Option.some.injEq, Nat.le_refl, or_true, true_or, or_false, false_or, if_pos, reduceIte, Nat.reduceGT]
  have h5 := head (perQ a b - 1) 1 (by omega) (Nat.le_refl _)
  rw [Nat.mul_one] at h5
  rw [ha]
  exact h5
theorem m_bits (p : Nat → Bool) (M : MM) : oI 1 121 [vI (mk p)] M (cnt p 10) := by
  refine go121 (fun S hS => ?_)
  have hm := mk_rg p
  have head : ∀ (n i : Nat), i + n = 10 → S 4 [some (vI (mk p)), some (vI (cnt p i)), some (vI i)] [] (sh0, 0, 0) M := by
    intro n
    induction n with
    | zero =>
      intro i hi
      refine wpx_ok hS bk121 (sp := sp121) 60 4 _ _ _ _ ?_
      simp only [LCM, B2, Bool.not_eq_false, Bool.not_eq_true, decide_eq_true_eq, decide_eq_false_iff_not, Int.not_lt, Int.not_le, CST, TN, WX, WA, WB, GS, LOC, BT121, SP121, CLS, FLD, ARR, CD, true_and, and_true, and_self, forall_const, true_implies, false_implies, implies_true, not_true_eq_false, not_false_eq_true, if_true, if_false, rgI, rgL, scr, swl, lkl, cats, cat, is2, List.drop_succ_cons, List.drop_zero, List.drop_nil, List.cons_append, List.nil_append, Option.toList_some, Option.toList_none, List.length_cons, List.length_nil, ne_eq, reduceCtorEq, Nat.reduceAdd, Nat.reduceSub, Nat.reduceMul, Nat.reduceLT, Nat.reduceLeDiff, Nat.reduceEqDiff, Nat.reduceBEq, Int.reduceToNat, Int.reduceLE, Int.reduceLT, Int.reduceEq, Int.reduceNeg, Int.reduceAdd, Int.reduceSub, Int.reduceMul, Int.toNat_natCast, Nat.zero_add, Int.add_zero, Nat.add_zero, ite_true, ite_false, Option.some.injEq, Nat.le_refl, or_true, true_or, or_false, false_or, if_pos, reduceIte, Nat.reduceGT]
      refine ⟨by omega, fun h => ?_, fun h => by omega⟩
      exact rt121 ⟨rfl, by rw [show i = 10 by omega], rfl⟩
    | succ n ih =>
      intro i hi
      refine wpx_ok hS bk121 (sp := sp121) 60 4 _ _ _ _ ?_
      simp only [LCM, B2, Bool.not_eq_false, Bool.not_eq_true, decide_eq_true_eq, decide_eq_false_iff_not, Int.not_lt, Int.not_le, CST, TN, WX, WA, WB, GS, LOC, BT121, SP121, CLS, FLD, ARR, CD, true_and, and_true, and_self, forall_const, true_implies, false_implies, implies_true, not_true_eq_false, not_false_eq_true, if_true, if_false, rgI, rgL, scr, swl, lkl, cats, cat, is2, List.drop_succ_cons, List.drop_zero, List.drop_nil, List.cons_append, List.nil_append, Option.toList_some, Option.toList_none, List.length_cons, List.length_nil, ne_eq, reduceCtorEq, Nat.reduceAdd, Nat.reduceSub, Nat.reduceMul, Nat.reduceLT, Nat.reduceLeDiff, Nat.reduceEqDiff, Nat.reduceBEq, Int.reduceToNat, Int.reduceLE, Int.reduceLT, Int.reduceEq, Int.reduceNeg, Int.reduceAdd, Int.reduceSub, Int.reduceMul, Int.toNat_natCast, Nat.zero_add, Int.add_zero, Nat.add_zero, ite_true, ite_false, Option.some.injEq, Nat.le_refl, or_true, true_or, or_false, false_or, if_pos, reduceIte, Nat.reduceGT]
      refine ⟨by omega, fun h => by omega, fun h => ?_⟩
      rw [mk_bit (by omega)]
      exact ih (i + 1) (by omega)
  refine wpx_ok hS bk121 (sp := sp121) 60 0 _ _ _ _ ?_
  simp only [LCM, B2, Bool.not_eq_false, Bool.not_eq_true, decide_eq_true_eq, decide_eq_false_iff_not, Int.not_lt, Int.not_le, CST, TN, WX, WA, WB, GS, LOC, BT121, SP121, CLS, FLD, ARR, CD, true_and, and_true, and_self, forall_const, true_implies, false_implies, implies_true, not_true_eq_false, not_false_eq_true, if_true, if_false, rgI, rgL, scr, swl, lkl, cats, cat, is2, List.drop_succ_cons, List.drop_zero, List.drop_nil, List.cons_append, List.nil_append, Option.toList_some, Option.toList_none, List.length_cons, List.length_nil, ne_eq, reduceCtorEq, Nat.reduceAdd, Nat.reduceSub, Nat.reduceMul, Nat.reduceLT, Nat.reduceLeDiff, Nat.reduceEqDiff, Nat.reduceBEq, Int.reduceToNat, Int.reduceLE, Int.reduceLT, Int.reduceEq, Int.reduceNeg, Int.reduceAdd, Int.reduceSub, Int.reduceMul, Int.toNat_natCast, Nat.zero_add, Int.add_zero, Nat.add_zero, ite_true, ite_false, Option.some.injEq, Nat.le_refl, or_true, true_or, or_false, false_or, if_pos, reduceIte, Nat.reduceGT]
  exact head 10 0 (by omega)
theorem m_handsOn (s : Nat) (d : Int) (M : MM) (hW : WFt M) (hs : s < 5) (hd : 0 ≤ d ∧ d ≤ 100000000000000000) : oI 3 122 [vR 55, vI s, vL d] M (hands M s d) := by
  have hH := hW.H
  refine go122 (fun S hS => ?_)
  have head : ∀ (n i : Nat), i + n = hN M → S 6 [some (vR 55), some (vI s), some (vL d), none, some (vI (cnt (fun i => skB M s i && !rsB M d i) i)), some (vI i)] [] (sh0, 0, 0) M := by
    intro n
    induction n with
    | zero =>
      intro i hi
      refine wpx_ok hS bk122 (sp := sp122) 60 6 _ _ _ _ ?_
      simp only [LCM, B2, Bool.not_eq_false, Bool.not_eq_true, decide_eq_true_eq, decide_eq_false_iff_not, Int.not_lt, Int.not_le, CST, TN, WX, WA, WB, GS, LOC, BT122, SP122, CLS, FLD, ARR, CD, true_and, and_true, and_self, forall_const, true_implies, false_implies, implies_true, not_true_eq_false, not_false_eq_true, if_true, if_false, rgI, rgL, scr, swl, lkl, cats, cat, is2, List.drop_succ_cons, List.drop_zero, List.drop_nil, List.cons_append, List.nil_append, Option.toList_some, Option.toList_none, List.length_cons, List.length_nil, ne_eq, reduceCtorEq, Nat.reduceAdd, Nat.reduceSub, Nat.reduceMul, Nat.reduceLT, Nat.reduceLeDiff, Nat.reduceEqDiff, Nat.reduceBEq, Int.reduceToNat, Int.reduceLE, Int.reduceLT, Int.reduceEq, Int.reduceNeg, Int.reduceAdd, Int.reduceSub, Int.reduceMul, Int.toNat_natCast, Nat.zero_add, Int.add_zero, Nat.add_zero, ite_true, ite_false, Option.some.injEq, Nat.le_refl, or_true, true_or, or_false, false_or, if_pos, reduceIte, Nat.reduceGT]
      refine ⟨by omega, fun h => ?_, fun h => by omega⟩
      exact rt122 ⟨rfl, by unfold hands; rw [show i = hN M by omega], rfl⟩
    | succ n ih =>
      intro i hi
      have ih2 := ih (i + 1) (by omega)
      have hst : cnt (fun i => skB M s i && !rsB M d i) (i + 1) = cnt (fun i => skB M s i && !rsB M d i) i + b2i (skB M s i && !rsB M d i) := rfl
      rw [hst] at ih2
      refine wpx_ok hS bk122 (sp := sp122) 60 6 _ _ _ _ ?_
      simp only [LCM, B2, Bool.not_eq_false, Bool.not_eq_true, decide_eq_true_eq, decide_eq_false_iff_not, Int.not_lt, Int.not_le, CST, TN, WX, WA, WB, GS, LOC, BT122, SP122, CLS, FLD, ARR, CD, true_and, and_true, and_self, forall_const, true_implies, false_implies, implies_true, not_true_eq_false, not_false_eq_true, if_true, if_false, rgI, rgL, scr, swl, lkl, cats, cat, is2, List.drop_succ_cons, List.drop_zero, List.drop_nil, List.cons_append, List.nil_append, Option.toList_some, Option.toList_none, List.length_cons, List.length_nil, ne_eq, reduceCtorEq, Nat.reduceAdd, Nat.reduceSub, Nat.reduceMul, Nat.reduceLT, Nat.reduceLeDiff, Nat.reduceEqDiff, Nat.reduceBEq, Int.reduceToNat, Int.reduceLE, Int.reduceLT, Int.reduceEq, Int.reduceNeg, Int.reduceAdd, Int.reduceSub, Int.reduceMul, Int.toNat_natCast, Nat.zero_add, Int.add_zero, Nat.add_zero, ite_true, ite_false, Option.some.injEq, Nat.le_refl, or_true, true_or, or_false, false_or, if_pos, reduceIte, Nat.reduceGT]
      have hb : -1 ≤ bAnd (bShr (M 61 (4 * i + 2)) (s : Int)) 1 ∧ bAnd (bShr (M 61 (4 * i + 2)) (s : Int)) 1 ≤ 2 := by
        have h1 := (hW.hs (i := i) (by omega)).2.2.1
        obtain ⟨x, hx⟩ : ∃ x : Nat, M 61 (4 * i + 2) = (x : Int) := ⟨(M 61 (4 * i + 2)).toNat, by omega⟩
        rw [hx, bShr_nat (by omega) (by omega)]
        split <;> omega
      refine ⟨by omega, fun h => by omega, fun h => ⟨by omega, by omega, fun h1 => ?_, fun h1 => ?_⟩⟩
      · have h2 : skB M s i = false := by unfold skB; exact decide_eq_false h1
        rw [h2, Bool.false_and, show b2i false = 0 from rfl, Int.add_zero] at ih2
        exact ih2
      · have h2 : skB M s i = true := by unfold skB; exact decide_eq_true h1
        rw [h2, Bool.true_and] at ih2
        refine ⟨rcv_ok rfl own118 rfl, kI (m_isUp i d M hW (by omega) hd) (Nat.le_of_ble_eq_true rfl) rfl rfl (Nat.le_of_ble_eq_true rfl) (Nat.le_of_ble_eq_true rfl) rfl ?_⟩
        refine wpx_ok hS bk122 (sp := sp122) 60 45 _ _ _ _ ?_
        simp only [LCM, B2, Bool.not_eq_false, Bool.not_eq_true, decide_eq_true_eq, decide_eq_false_iff_not, Int.not_lt, Int.not_le, CST, TN, WX, WA, WB, GS, LOC, BT122, SP122, CLS, FLD, ARR, CD, true_and, and_true, and_self, forall_const, true_implies, false_implies, implies_true, not_true_eq_false, not_false_eq_true, if_true, if_false, rgI, rgL, scr, swl, lkl, cats, cat, is2, List.drop_succ_cons, List.drop_zero, List.drop_nil, List.cons_append, List.nil_append, Option.toList_some, Option.toList_none, List.length_cons, List.length_nil, ne_eq, reduceCtorEq, Nat.reduceAdd, Nat.reduceSub, Nat.reduceMul, Nat.reduceLT, Nat.reduceLeDiff, Nat.reduceEqDiff, Nat.reduceBEq, Int.reduceToNat, Int.reduceLE, Int.reduceLT, Int.reduceEq, Int.reduceNeg, Int.reduceAdd, Int.reduceSub, Int.reduceMul, Int.toNat_natCast, Nat.zero_add, Int.add_zero, Nat.add_zero, ite_true, ite_false, Option.some.injEq, Nat.le_refl, or_true, true_or, or_false, false_or, if_pos, reduceIte, Nat.reduceGT]
        refine ⟨fun h3 => ?_, fun h3 => ?_⟩
        · rw [h3, show b2i false = 0 from rfl, Int.add_zero] at ih2
          exact ih2
        · rw [h3] at ih2
          exact ih2
  refine wpx_ok hS bk122 (sp := sp122) 60 0 _ _ _ _ ?_
  simp only [LCM, B2, Bool.not_eq_false, Bool.not_eq_true, decide_eq_true_eq, decide_eq_false_iff_not, Int.not_lt, Int.not_le, CST, TN, WX, WA, WB, GS, LOC, BT122, SP122, CLS, FLD, ARR, CD, true_and, and_true, and_self, forall_const, true_implies, false_implies, implies_true, not_true_eq_false, not_false_eq_true, if_true, if_false, rgI, rgL, scr, swl, lkl, cats, cat, is2, List.drop_succ_cons, List.drop_zero, List.drop_nil, List.cons_append, List.nil_append, Option.toList_some, Option.toList_none, List.length_cons, List.length_nil, ne_eq, reduceCtorEq, Nat.reduceAdd, Nat.reduceSub, Nat.reduceMul, Nat.reduceLT, Nat.reduceLeDiff, Nat.reduceEqDiff, Nat.reduceBEq, Int.reduceToNat, Int.reduceLE, Int.reduceLT, Int.reduceEq, Int.reduceNeg, Int.reduceAdd, Int.reduceSub, Int.reduceMul, Int.toNat_natCast, Nat.zero_add, Int.add_zero, Nat.add_zero, ite_true, ite_false, Option.some.injEq, Nat.le_refl, or_true, true_or, or_false, false_or, if_pos, reduceIte, Nat.reduceGT]
  exact head (hN M) 0 (by omega)
theorem hands_rg {T : MM} (h : WFt T) (s : Nat) (d : Int) : 0 ≤ hands T s d ∧ hands T s d ≤ 10 := by
  have h1 := cnt_rg (fun i => skB T s i && !rsB T d i) (hN T)
  have h2 := h.H
  unfold hands
  omega
theorem m_isShort (w : Nat) (d : Int) (M : MM) (hW : WFt M) (hw : w < wN M) (hd : 0 ≤ d ∧ d ≤ 100000000000000000) : oI 4 125 [vR 55, vI w, vL d] M (b2i (shrt M w d)) := by
  have hw1 := hW.wk hw
  have hw2 := hW.W
  refine go125 (fun S hS => ?_)
  refine wpx_ok hS bk125 (sp := sp125) 60 0 _ _ _ _ ?_
  simp only [LCM, B2, Bool.not_eq_false, Bool.not_eq_true, decide_eq_true_eq, decide_eq_false_iff_not, Int.not_lt, Int.not_le, CST, TN, WX, WA, WB, GS, LOC, BT125, SP125, CLS, FLD, ARR, CD, true_and, and_true, and_self, forall_const, true_implies, false_implies, implies_true, not_true_eq_false, not_false_eq_true, if_true, if_false, rgI, rgL, scr, swl, lkl, cats, cat, is2, List.drop_succ_cons, List.drop_zero, List.drop_nil, List.cons_append, List.nil_append, Option.toList_some, Option.toList_none, List.length_cons, List.length_nil, ne_eq, reduceCtorEq, Nat.reduceAdd, Nat.reduceSub, Nat.reduceMul, Nat.reduceLT, Nat.reduceLeDiff, Nat.reduceEqDiff, Nat.reduceBEq, Int.reduceToNat, Int.reduceLE, Int.reduceLT, Int.reduceEq, Int.reduceNeg, Int.reduceAdd, Int.reduceSub, Int.reduceMul, Int.toNat_natCast, Nat.zero_add, Int.add_zero, Nat.add_zero, ite_true, ite_false, Option.some.injEq, Nat.le_refl, or_true, true_or, or_false, false_or, if_pos, reduceIte, Nat.reduceGT]
  refine ⟨by omega, ?_⟩
  have e1 : M 63 (3 * w) = ((M 63 (3 * w)).toNat : Int) := by omega
  rw [e1]
  refine ⟨rcv_ok rfl own122 rfl, kI (m_handsOn (M 63 (3 * w)).toNat d M hW (by omega) hd) (Nat.le_of_ble_eq_true rfl) rfl rfl (Nat.le_of_ble_eq_true rfl) (Nat.le_of_ble_eq_true rfl) rfl ?_⟩
  refine wpx_ok hS bk125 (sp := sp125) 60 13 _ _ _ _ ?_
  simp only [LCM, B2, Bool.not_eq_false, Bool.not_eq_true, decide_eq_true_eq, decide_eq_false_iff_not, Int.not_lt, Int.not_le, CST, TN, WX, WA, WB, GS, LOC, BT125, SP125, CLS, FLD, ARR, CD, true_and, and_true, and_self, forall_const, true_implies, false_implies, implies_true, not_true_eq_false, not_false_eq_true, if_true, if_false, rgI, rgL, scr, swl, lkl, cats, cat, is2, List.drop_succ_cons, List.drop_zero, List.drop_nil, List.cons_append, List.nil_append, Option.toList_some, Option.toList_none, List.length_cons, List.length_nil, ne_eq, reduceCtorEq, Nat.reduceAdd, Nat.reduceSub, Nat.reduceMul, Nat.reduceLT, Nat.reduceLeDiff, Nat.reduceEqDiff, Nat.reduceBEq, Int.reduceToNat, Int.reduceLE, Int.reduceLT, Int.reduceEq, Int.reduceNeg, Int.reduceAdd, Int.reduceSub, Int.reduceMul, Int.toNat_natCast, Nat.zero_add, Int.add_zero, Nat.add_zero, ite_true, ite_false, Option.some.injEq, Nat.le_refl, or_true, true_or, or_false, false_or, if_pos, reduceIte, Nat.reduceGT]
  have hr := hands_rg hW (M 63 (3 * w)).toNat d
  refine ⟨by omega, by omega, fun h => ?_, fun h => ?_⟩
  · exact rt125 (by decide) ⟨rfl, by unfold shrt; rw [decide_eq_false (by omega)]; rfl, rfl⟩
  · exact rt125 (by decide) ⟨rfl, by unfold shrt; rw [decide_eq_true (by omega)]; rfl, rfl⟩
def shO (T : MM) (d : Int) : Option Nat := fstF (fun w => shrt T w d) 0 (wN T)
def oZ (x : Option Nat) (e : Int) : Int := match x with
  | some w => (w : Int)
  | none => e
theorem m_shortOn (d : Int) (M : MM) (hW : WFt M) (hd : 0 ≤ d ∧ d ≤ 100000000000000000) : oI 5 126 [vR 55, vL d] M (oZ (shO M d) (-1)) := by
  have hw2 := hW.W
  refine go126 (fun S hS => ?_)
  have head : ∀ (n i : Nat), i + n = wN M → fstF (fun w => shrt M w d) i n = shO M d → S 2 [some (vR 55), some (vL d), none, some (vI i)] [] (sh0, 0, 0) M := by
    intro n
    induction n with
    | zero =>
      intro i hi hf
      refine wpx_ok hS bk126 (sp := sp126) 60 2 _ _ _ _ ?_
      simp only [LCM, B2, Bool.not_eq_false, Bool.not_eq_true, decide_eq_true_eq, decide_eq_false_iff_not, Int.not_lt, Int.not_le, CST, TN, WX, WA, WB, GS, LOC, BT126, SP126, CLS, FLD, ARR, CD, true_and, and_true, and_self, forall_const, true_implies, false_implies, implies_true, not_true_eq_false, not_false_eq_true, if_true, if_false, rgI, rgL, scr, swl, lkl, cats, cat, is2, List.drop_succ_cons, List.drop_zero, List.drop_nil, List.cons_append, List.nil_append, Option.toList_some, Option.toList_none, List.length_cons, List.length_nil, ne_eq, reduceCtorEq, Nat.reduceAdd, Nat.reduceSub, Nat.reduceMul, Nat.reduceLT, Nat.reduceLeDiff, Nat.reduceEqDiff, Nat.reduceBEq, Int.reduceToNat, Int.reduceLE, Int.reduceLT, Int.reduceEq, Int.reduceNeg, Int.reduceAdd, Int.reduceSub, Int.reduceMul, Int.toNat_natCast, Nat.zero_add, Int.add_zero, Nat.add_zero, ite_true, ite_false, Option.some.injEq, Nat.le_refl, or_true, true_or, or_false, false_or, if_pos, reduceIte, Nat.reduceGT]
      refine ⟨by omega, fun h => ?_, fun h => by omega⟩
      exact rt126 ⟨rfl, by rw [← hf]; rfl, rfl⟩
    | succ n ih =>
      intro i hi hf
      rw [fstF] at hf
      refine wpx_ok hS bk126 (sp := sp126) 60 2 _ _ _ _ ?_
      simp only [LCM, B2, Bool.not_eq_false, Bool.not_eq_true, decide_eq_true_eq, decide_eq_false_iff_not, Int.not_lt, Int.not_le, CST, TN, WX, WA, WB, GS, LOC, BT126, SP126, CLS, FLD, ARR, CD, true_and, and_true, and_self, forall_const, true_implies, false_implies, implies_true, not_true_eq_false, not_false_eq_true, if_true, if_false, rgI, rgL, scr, swl, lkl, cats, cat, is2, List.drop_succ_cons, List.drop_zero, List.drop_nil, List.cons_append, List.nil_append, Option.toList_some, Option.toList_none, List.length_cons, List.length_nil, ne_eq, reduceCtorEq, Nat.reduceAdd, Nat.reduceSub, Nat.reduceMul, Nat.reduceLT, Nat.reduceLeDiff, Nat.reduceEqDiff, Nat.reduceBEq, Int.reduceToNat, Int.reduceLE, Int.reduceLT, Int.reduceEq, Int.reduceNeg, Int.reduceAdd, Int.reduceSub, Int.reduceMul, Int.toNat_natCast, Nat.zero_add, Int.add_zero, Nat.add_zero, ite_true, ite_false, Option.some.injEq, Nat.le_refl, or_true, true_or, or_false, false_or, if_pos, reduceIte, Nat.reduceGT]
      refine ⟨by omega, fun h => by omega, fun h => ?_⟩
      refine ⟨rcv_ok rfl own125 rfl, kI (m_isShort i d M hW (by omega) hd) (Nat.le_of_ble_eq_true rfl) rfl rfl (Nat.le_of_ble_eq_true rfl) (Nat.le_of_ble_eq_true rfl) rfl ?_⟩
      refine wpx_ok hS bk126 (sp := sp126) 60 18 _ _ _ _ ?_
      simp only [LCM, B2, Bool.not_eq_false, Bool.not_eq_true, decide_eq_true_eq, decide_eq_false_iff_not, Int.not_lt, Int.not_le, CST, TN, WX, WA, WB, GS, LOC, BT126, SP126, CLS, FLD, ARR, CD, true_and, and_true, and_self, forall_const, true_implies, false_implies, implies_true, not_true_eq_false, not_false_eq_true, if_true, if_false, rgI, rgL, scr, swl, lkl, cats, cat, is2, List.drop_succ_cons, List.drop_zero, List.drop_nil, List.cons_append, List.nil_append, Option.toList_some, Option.toList_none, List.length_cons, List.length_nil, ne_eq, reduceCtorEq, Nat.reduceAdd, Nat.reduceSub, Nat.reduceMul, Nat.reduceLT, Nat.reduceLeDiff, Nat.reduceEqDiff, Nat.reduceBEq, Int.reduceToNat, Int.reduceLE, Int.reduceLT, Int.reduceEq, Int.reduceNeg, Int.reduceAdd, Int.reduceSub, Int.reduceMul, Int.toNat_natCast, Nat.zero_add, Int.add_zero, Nat.add_zero, ite_true, ite_false, Option.some.injEq, Nat.le_refl, or_true, true_or, or_false, false_or, if_pos, reduceIte, Nat.reduceGT]
      refine ⟨fun h1 => ?_, fun h1 => ?_⟩
      · rw [h1] at hf
        exact ih (i + 1) (by omega) hf
      · rw [h1, if_pos rfl] at hf
        exact rt126 ⟨rfl, by rw [← hf]; rfl, rfl⟩
  refine wpx_ok hS bk126 (sp := sp126) 60 0 _ _ _ _ ?_
  simp only [LCM, B2, Bool.not_eq_false, Bool.not_eq_true, decide_eq_true_eq, decide_eq_false_iff_not, Int.not_lt, Int.not_le, CST, TN, WX, WA, WB, GS, LOC, BT126, SP126, CLS, FLD, ARR, CD, true_and, and_true, and_self, forall_const, true_implies, false_implies, implies_true, not_true_eq_false, not_false_eq_true, if_true, if_false, rgI, rgL, scr, swl, lkl, cats, cat, is2, List.drop_succ_cons, List.drop_zero, List.drop_nil, List.cons_append, List.nil_append, Option.toList_some, Option.toList_none, List.length_cons, List.length_nil, ne_eq, reduceCtorEq, Nat.reduceAdd, Nat.reduceSub, Nat.reduceMul, Nat.reduceLT, Nat.reduceLeDiff, Nat.reduceEqDiff, Nat.reduceBEq, Int.reduceToNat, Int.reduceLE, Int.reduceLT, Int.reduceEq, Int.reduceNeg, Int.reduceAdd, Int.reduceSub, Int.reduceMul, Int.toNat_natCast, Nat.zero_add, Int.add_zero, Nat.add_zero, ite_true, ite_false, Option.some.injEq, Nat.le_refl, or_true, true_or, or_false, false_or, if_pos, reduceIte, Nat.reduceGT]
  exact head (wN M) 0 (by omega) rfl
def isSetB (T : MM) (x : Int) : Bool := decide (1 ≤ x ∧ x ≤ bShl 1 (T 58 0) - 1)
theorem bShl_H {T : MM} (h : WFt T) : 1 ≤ bShl 1 (T 58 0) - 1 ∧ bShl 1 (T 58 0) - 1 ≤ 1023 := by
  have h1 := h.H
  rw [← h1.1]
  have : ∀ i : Nat, i < 11 → 1 ≤ i → 1 ≤ bShl 1 (i : Int) - 1 ∧ bShl 1 (i : Int) - 1 ≤ 1023 := by decide +kernel
  exact this (hN T) (by omega) (by omega)
theorem m_isSet (x : Int) (M : MM) (hW : WFt M) (hx : rgI x) : oI 2 129 [vR 55, vI x] M (b2i (isSetB M x)) := by
  have hb := bShl_H hW
  refine go129 (fun S hS => ?_)
  refine wpx_ok hS bk129 (sp := sp129) 60 0 _ _ _ _ ?_
  simp only [LCM, B2, Bool.not_eq_false, Bool.not_eq_true, decide_eq_true_eq, decide_eq_false_iff_not, Int.not_lt, Int.not_le, CST, TN, WX, WA, WB, GS, LOC, BT129, SP129, CLS, FLD, ARR, CD, true_and, and_true, and_self, forall_const, true_implies, false_implies, implies_true, not_true_eq_false, not_false_eq_true, if_true, if_false, rgI, rgL, scr, swl, lkl, cats, cat, is2, List.drop_succ_cons, List.drop_zero, List.drop_nil, List.cons_append, List.nil_append, Option.toList_some, Option.toList_none, List.length_cons, List.length_nil, ne_eq, reduceCtorEq, Nat.reduceAdd, Nat.reduceSub, Nat.reduceMul, Nat.reduceLT, Nat.reduceLeDiff, Nat.reduceEqDiff, Nat.reduceBEq, Int.reduceToNat, Int.reduceLE, Int.reduceLT, Int.reduceEq, Int.reduceNeg, Int.reduceAdd, Int.reduceSub, Int.reduceMul, Int.toNat_natCast, Nat.zero_add, Int.add_zero, Nat.add_zero, ite_true, ite_false, Option.some.injEq, Nat.le_refl, or_true, true_or, or_false, false_or, if_pos, reduceIte, Nat.reduceGT]
  refine ⟨hx, by omega, ?_⟩
  refine kI (c_in x 1 (bShl 1 (M 58 0) - 1) M (by unfold rgL rgI at *; omega) (by unfold rgL; omega) (by unfold rgL; omega)) (Nat.le_of_ble_eq_true rfl) rfl rfl (Nat.le_of_ble_eq_true rfl) (Nat.le_of_ble_eq_true rfl) rfl ?_
  refine wpx_ok hS bk129 (sp := sp129) 60 17 _ _ _ _ ?_
  simp only [LCM, B2, Bool.not_eq_false, Bool.not_eq_true, decide_eq_true_eq, decide_eq_false_iff_not, Int.not_lt, Int.not_le, CST, TN, WX, WA, WB, GS, LOC, BT129, SP129, CLS, FLD, ARR, CD, true_and, and_true, and_self, forall_const, true_implies, false_implies, implies_true, not_true_eq_false, not_false_eq_true, if_true, if_false, rgI, rgL, scr, swl, lkl, cats, cat, is2, List.drop_succ_cons, List.drop_zero, List.drop_nil, List.cons_append, List.nil_append, Option.toList_some, Option.toList_none, List.length_cons, List.length_nil, ne_eq, reduceCtorEq, Nat.reduceAdd, Nat.reduceSub, Nat.reduceMul, Nat.reduceLT, Nat.reduceLeDiff, Nat.reduceEqDiff, Nat.reduceBEq, Int.reduceToNat, Int.reduceLE, Int.reduceLT, Int.reduceEq, Int.reduceNeg, Int.reduceAdd, Int.reduceSub, Int.reduceMul, Int.toNat_natCast, Nat.zero_add, Int.add_zero, Nat.add_zero, ite_true, ite_false, Option.some.injEq, Nat.le_refl, or_true, true_or, or_false, false_or, if_pos, reduceIte, Nat.reduceGT]
  exact rt129 (b2i_01 _) ⟨rfl, rfl, rfl⟩
/-- all of a set are up -/
def auB (T : MM) (x d : Int) : Bool := decide (bAnd x (bXor (upM T d) (-1)) = 0)
theorem bAnd_rg (x y : Int) : rgI (bAnd x y) := by
  unfold bAnd rgI
  have h1 := (iN x &&& iN y).le_toInt
  have h2 := (iN x &&& iN y).toInt_lt
  omega
theorem m_areUp (x d : Int) (M : MM) (hW : WFt M) (hd : 0 ≤ d ∧ d ≤ 100000000000000000) : oI 4 130 [vR 55, vI x, vL d] M (b2i (auB M x d)) := by
  refine go130 (fun S hS => ?_)
  refine wpx_ok hS bk130 (sp := sp130) 60 0 _ _ _ _ ?_
  simp only [LCM, B2, Bool.not_eq_false, Bool.not_eq_true, decide_eq_true_eq, decide_eq_false_iff_not, Int.not_lt, Int.not_le, CST, TN, WX, WA, WB, GS, LOC, BT130, SP130, CLS, FLD, ARR, CD, true_and, and_true, and_self, forall_const, true_implies, false_implies, implies_true, not_true_eq_false, not_false_eq_true, if_true, if_false, rgI, rgL, scr, swl, lkl, cats, cat, is2, List.drop_succ_cons, List.drop_zero, List.drop_nil, List.cons_append, List.nil_append, Option.toList_some, Option.toList_none, List.length_cons, List.length_nil, ne_eq, reduceCtorEq, Nat.reduceAdd, Nat.reduceSub, Nat.reduceMul, Nat.reduceLT, Nat.reduceLeDiff, Nat.reduceEqDiff, Nat.reduceBEq, Int.reduceToNat, Int.reduceLE, Int.reduceLT, Int.reduceEq, Int.reduceNeg, Int.reduceAdd, Int.reduceSub, Int.reduceMul, Int.toNat_natCast, Nat.zero_add, Int.add_zero, Nat.add_zero, ite_true, ite_false, Option.some.injEq, Nat.le_refl, or_true, true_or, or_false, false_or, if_pos, reduceIte, Nat.reduceGT]
  refine ⟨rcv_ok rfl own120 rfl, kI (m_upOn d M hW hd) (Nat.le_of_ble_eq_true rfl) rfl rfl (Nat.le_of_ble_eq_true rfl) (Nat.le_of_ble_eq_true rfl) rfl ?_⟩
  refine wpx_ok hS bk130 (sp := sp130) 60 6 _ _ _ _ ?_
  simp only [LCM, B2, Bool.not_eq_false, Bool.not_eq_true, decide_eq_true_eq, decide_eq_false_iff_not, Int.not_lt, Int.not_le, CST, TN, WX, WA, WB, GS, LOC, BT130, SP130, CLS, FLD, ARR, CD, true_and, and_true, and_self, forall_const, true_implies, false_implies, implies_true, not_true_eq_false, not_false_eq_true, if_true, if_false, rgI, rgL, scr, swl, lkl, cats, cat, is2, List.drop_succ_cons, List.drop_zero, List.drop_nil, List.cons_append, List.nil_append, Option.toList_some, Option.toList_none, List.length_cons, List.length_nil, ne_eq, reduceCtorEq, Nat.reduceAdd, Nat.reduceSub, Nat.reduceMul, Nat.reduceLT, Nat.reduceLeDiff, Nat.reduceEqDiff, Nat.reduceBEq, Int.reduceToNat, Int.reduceLE, Int.reduceLT, Int.reduceEq, Int.reduceNeg, Int.reduceAdd, Int.reduceSub, Int.reduceMul, Int.toNat_natCast, Nat.zero_add, Int.add_zero, Nat.add_zero, ite_true, ite_false, Option.some.injEq, Nat.le_refl, or_true, true_or, or_false, false_or, if_pos, reduceIte, Nat.reduceGT]
  refine ⟨bAnd_rg _ _, fun h => ?_, fun h => ?_⟩
  · exact rt130 (by decide) ⟨rfl, by unfold auB; rw [decide_eq_false h]; rfl, rfl⟩
  · exact rt130 (by decide) ⟨rfl, by unfold auB; rw [decide_eq_true h]; rfl, rfl⟩
end
section
/-! cells that no answer hangs on between two calls -/
def tmp (k j : Nat) : Prop := (2 ≤ k ∧ k ≤ 17) ∨ (32 ≤ k ∧ k ≤ 44) ∨ (74 ≤ k ∧ k ≤ 78) ∨ k = 62 ∨ (k = 55 ∧ (j = 2 ∨ j = 25 ∨ j = 26 ∨ j = 29)) ∨ (k = 57 ∧ 2 ≤ j) ∨ ((k = 58 ∨ k = 59 ∨ k = 60) ∧ 1 ≤ j) ∨ (k = 61 ∧ 40 ≤ j) ∨ (k = 63 ∧ 18 ≤ j) ∨ (k = 64 ∧ 10 ≤ j)
def eqT (M M' : MM) : Prop := ∀ k j, ¬ tmp k j → M' k j = M k j
theorem eqT.rf (M : MM) : eqT M M := fun _ _ _ => rfl
theorem eqT.tr {A B C : MM} (h : eqT A B) (g : eqT B C) : eqT A C := fun k j hk => (g k j hk).trans (h k j hk)
theorem eqT.set {A B : MM} (h : eqT A B) {k j : Nat} (a : Int) (ht : tmp k j) : eqT A (mset B k j a) := by
  intro k' j' hk
  unfold mset
  rw [if_neg (fun z => hk (by rw [z.1, z.2]; exact ht))]
  exact h k' j' hk
/-! the answers -/
def f_up (T : MM) (d : Int) : Int := if isDayB d then upM T d else -1
def f_hands (T : MM) (s d : Int) : Int := if 0 ≤ s ∧ s ≤ 4 ∧ isDayB d = true then hands T s.toNat d else -1
def anyS (T : MM) (d : Int) : Bool := (shO T d).isSome
def f_judge (T : MM) (d : Int) (what : Int) : Int := if isDayB d = true ∧ 0 ≤ what ∧ what ≤ 1 then (match fstF (fun k => anyS T (d + k)) 0 1000 with | some k => if what = 0 then d + k else oZ (shO T (d + k)) (-1) | none => -4) else -1
def stOn (T : MM) (w : Nat) : Nat → Int
  | 0 => 0
  | d + 1 => if shrt T w d then stOn T w d + 1 else 0
def stN (T : MM) (w : Nat) : Nat → Int
  | 0 => 0
  | d + 1 => stN T w d + (if PN T ≤ d ∧ T 63 (3 * w + 2) ≤ stOn T w (d + 1) then 1 else 0)
def f_still (T : MM) (w : Int) : Int := if 0 ≤ w ∧ w < T 59 0 then stN T w.toNat (2 * PN T) else -1
def dayK (x : Option Nat) (d : Int) : Int := match x with
  | some k => d + k
  | none => -4
def f_together (T : MM) (x d : Int) : Int := if isSetB T x = true ∧ isDayB d = true then dayK (fstF (fun k => auB T x (d + k)) 0 (PN T)) d else -1
def f_often (T : MM) (x d n : Int) : Int := if isSetB T x = true ∧ isDayB d = true ∧ 0 ≤ n ∧ n ≤ 1000000000000 then n / PN T * cnt (fun k => auB T x (d + k)) (PN T) + cnt (fun k => auB T x (d + k)) (n % PN T).toNat else -1
def lgW (T : MM) (x : Int) : Nat → Int
  | 0 => 0
  | d + 1 => if auB T x d then 0 else lgW T x d + 1
def lgM (T : MM) (x : Int) : Nat → Int
  | 0 => 0
  | d + 1 => if lgM T x d < lgW T x (d + 1) then lgW T x (d + 1) else lgM T x d
def lgE (T : MM) (x : Int) : Nat → Bool
  | 0 => false
  | d + 1 => lgE T x d || auB T x d
def f_longest (T : MM) (x : Int) : Int := if isSetB T x then (if lgE T x (2 * PN T) then lgM T x (2 * PN T) else -4) else -1
def stP (T : MM) (t : Int) (i : Nat) : Bool := decide (i < hN T) && decide (T 61 (4 * i + 3) = t)
def f_street (T : MM) (t d : Int) : Int := if 0 ≤ t ∧ t ≤ 3 ∧ isDayB d = true then (if mk (stP T t) = 0 then -4 else dayK (fstF (fun k => decide (bAnd (mk (stP T t)) (upM T (d + k)) = 0)) 0 (PN T)) d) else -1
def rcD (T : MM) (d : Int) : Int := T 58 0 - cnt (upP T d) 10
def msV (T : MM) : Nat → Int
  | 0 => -1
  | d + 1 => if msV T d < rcD T d then rcD T d else msV T d
def msD (T : MM) (x : Int) : Nat → Int
  | 0 => x
  | d + 1 => if msV T d < rcD T d then d else msD T x d
def f_same (T : MM) (what : Int) : Int := if 0 ≤ what ∧ what ≤ 1 then (if what = 0 then msV T (PN T) else msD T 0 (PN T)) else -1
def hsum (T : MM) (s : Nat) (d : Int) : Nat → Int
  | 0 => 0
  | k + 1 => hsum T s d k + hands T s (d + k)
def hvO (T : MM) (s : Nat) (d : Int) : Nat → Int → Nat → Int
  | 0, _, j => j
  | n + 1, left, j => if left ≤ 0 then j else hvO T s d n (left - hands T s (d + j)) (j + 1)
def f_harvest (T : MM) (s d h : Int) : Int := if 0 ≤ s ∧ s ≤ 4 ∧ isDayB d = true ∧ 1 ≤ h ∧ h ≤ 1000000000000 then (if hsum T s.toNat d (PN T) = 0 then -4 else (h - 1) / hsum T s.toNat d (PN T) * PN T + hvO T s.toNat d (PN T) (h - (h - 1) / hsum T s.toNat d (PN T) * hsum T s.toNat d (PN T)) 0) else -1
theorem isDayB_iff {d : Int} : isDayB d = true ↔ 0 ≤ d ∧ d ≤ 1000000000000000 := by unfold isDayB; simp
theorem m_up (d : Int) (M : MM) (hW : WFt M) (hd : rgL d) : oI 4 123 [vR 55, vL d] M (f_up M d) := by
  refine go123 (fun S hS => ?_)
  refine wpx_ok hS bk123 (sp := sp123) 60 0 _ _ _ _ ?_
  simp only [LCM, B2, Bool.not_eq_false, Bool.not_eq_true, decide_eq_true_eq, decide_eq_false_iff_not, Int.not_lt, Int.not_le, CST, TN, WX, WA, WB, GS, LOC, BT123, SP123, CLS, FLD, ARR, CD, true_and, and_true, and_self, forall_const, true_implies, false_implies, implies_true, not_true_eq_false, not_false_eq_true, if_true, if_false, rgI, rgL, scr, swl, lkl, cats, cat, is2, List.drop_succ_cons, List.drop_zero, List.drop_nil, List.cons_append, List.nil_append, Option.toList_some, Option.toList_none, List.length_cons, List.length_nil, ne_eq, Classical.not_not, reduceCtorEq, Nat.reduceAdd, Nat.reduceSub, Nat.reduceMul, Nat.reduceLT, Nat.reduceLeDiff, Nat.reduceEqDiff, Nat.reduceBEq, Int.reduceToNat, Int.reduceLE, Int.reduceLT, Int.reduceEq, Int.reduceNeg, Int.reduceAdd, Int.reduceSub, Int.reduceMul, Int.toNat_natCast, Nat.zero_add, Int.add_zero, Nat.add_zero, ite_true, ite_false, Option.some.injEq, Nat.le_refl, or_true, true_or, or_false, false_or, if_pos, reduceIte, Nat.reduceGT]
  refine kI (m_isDay d M hd) (Nat.le_of_ble_eq_true rfl) rfl rfl (Nat.le_of_ble_eq_true rfl) (Nat.le_of_ble_eq_true rfl) rfl ?_
  refine wpx_ok hS bk123 (sp := sp123) 60 4 _ _ _ _ ?_
  simp only [LCM, B2, Bool.not_eq_false, Bool.not_eq_true, decide_eq_true_eq, decide_eq_false_iff_not, Int.not_lt, Int.not_le, CST, TN, WX, WA, WB, GS, LOC, BT123, SP123, CLS, FLD, ARR, CD, true_and, and_true, and_self, forall_const, true_implies, false_implies, implies_true, not_true_eq_false, not_false_eq_true, if_true, if_false, rgI, rgL, scr, swl, lkl, cats, cat, is2, List.drop_succ_cons, List.drop_zero, List.drop_nil, List.cons_append, List.nil_append, Option.toList_some, Option.toList_none, List.length_cons, List.length_nil, ne_eq, Classical.not_not, reduceCtorEq, Nat.reduceAdd, Nat.reduceSub, Nat.reduceMul, Nat.reduceLT, Nat.reduceLeDiff, Nat.reduceEqDiff, Nat.reduceBEq, Int.reduceToNat, Int.reduceLE, Int.reduceLT, Int.reduceEq, Int.reduceNeg, Int.reduceAdd, Int.reduceSub, Int.reduceMul, Int.toNat_natCast, Nat.zero_add, Int.add_zero, Nat.add_zero, ite_true, ite_false, Option.some.injEq, Nat.le_refl, or_true, true_or, or_false, false_or, if_pos, reduceIte, Nat.reduceGT]
  refine ⟨fun h => ?_, fun h => ?_⟩
  · exact rt123 ⟨rfl, by unfold f_up; rw [h]; rfl, rfl⟩
  · have h1 := isDayB_iff.mp h
    refine ⟨rcv_ok rfl own120 rfl, kI (m_upOn d M hW (by omega)) (Nat.le_of_ble_eq_true rfl) rfl rfl (Nat.le_of_ble_eq_true rfl) (Nat.le_of_ble_eq_true rfl) rfl ?_⟩
    refine wpx_ok hS bk123 (sp := sp123) 60 12 _ _ _ _ ?_
    simp only [LCM, B2, Bool.not_eq_false, Bool.not_eq_true, decide_eq_true_eq, decide_eq_false_iff_not, Int.not_lt, Int.not_le, CST, TN, WX, WA, WB, GS, LOC, BT123, SP123, CLS, FLD, ARR, CD, true_and, and_true, and_self, forall_const, true_implies, false_implies, implies_true, not_true_eq_false, not_false_eq_true, if_true, if_false, rgI, rgL, scr, swl, lkl, cats, cat, is2, List.drop_succ_cons, List.drop_zero, List.drop_nil, List.cons_append, List.nil_append, Option.toList_some, Option.toList_none, List.length_cons, List.length_nil, ne_eq, Classical.not_not, reduceCtorEq, Nat.reduceAdd, Nat.reduceSub, Nat.reduceMul, Nat.reduceLT, Nat.reduceLeDiff, Nat.reduceEqDiff, Nat.reduceBEq, Int.reduceToNat, Int.reduceLE, Int.reduceLT, Int.reduceEq, Int.reduceNeg, Int.reduceAdd, Int.reduceSub, Int.reduceMul, Int.toNat_natCast, Nat.zero_add, Int.add_zero, Nat.add_zero, ite_true, ite_false, Option.some.injEq, Nat.le_refl, or_true, true_or, or_false, false_or, if_pos, reduceIte, Nat.reduceGT]
    exact rt123 ⟨rfl, by unfold f_up; rw [h]; rfl, rfl⟩
theorem m_hands (s d : Int) (M : MM) (hW : WFt M) (hs : rgI s) (hd : rgL d) : oI 4 124 [vR 55, vI s, vL d] M (f_hands M s d) := by
  refine go124 (fun S hS => ?_)
  refine wpx_ok hS bk124 (sp := sp124) 60 0 _ _ _ _ ?_
  simp only [LCM, B2, Bool.not_eq_false, Bool.not_eq_true, decide_eq_true_eq, decide_eq_false_iff_not, Int.not_lt, Int.not_le, CST, TN, WX, WA, WB, GS, LOC, BT124, SP124, CLS, FLD, ARR, CD, true_and, and_true, and_self, forall_const, true_implies, false_implies, implies_true, not_true_eq_false, not_false_eq_true, if_true, if_false, rgI, rgL, scr, swl, lkl, cats, cat, is2, List.drop_succ_cons, List.drop_zero, List.drop_nil, List.cons_append, List.nil_append, Option.toList_some, Option.toList_none, List.length_cons, List.length_nil, ne_eq, Classical.not_not, reduceCtorEq, Nat.reduceAdd, Nat.reduceSub, Nat.reduceMul, Nat.reduceLT, Nat.reduceLeDiff, Nat.reduceEqDiff, Nat.reduceBEq, Int.reduceToNat, Int.reduceLE, Int.reduceLT, Int.reduceEq, Int.reduceNeg, Int.reduceAdd, Int.reduceSub, Int.reduceMul, Int.toNat_natCast, Nat.zero_add, Int.add_zero, Nat.add_zero, ite_true, ite_false, Option.some.injEq, Nat.le_refl, or_true, true_or, or_false, false_or, if_pos, reduceIte, Nat.reduceGT]
  refine ⟨hs, ?_⟩
  refine kI (c_in s 0 4 M (by unfold rgL rgI at *; omega) (by unfold rgL; omega) (by unfold rgL; omega)) (Nat.le_of_ble_eq_true rfl) rfl rfl (Nat.le_of_ble_eq_true rfl) (Nat.le_of_ble_eq_true rfl) rfl ?_
  refine wpx_ok hS bk124 (sp := sp124) 60 9 _ _ _ _ ?_
  simp only [LCM, B2, Bool.not_eq_false, Bool.not_eq_true, decide_eq_true_eq, decide_eq_false_iff_not, Int.not_lt, Int.not_le, CST, TN, WX, WA, WB, GS, LOC, BT124, SP124, CLS, FLD, ARR, CD, true_and, and_true, and_self, forall_const, true_implies, false_implies, implies_true, not_true_eq_false, not_false_eq_true, if_true, if_false, rgI, rgL, scr, swl, lkl, cats, cat, is2, List.drop_succ_cons, List.drop_zero, List.drop_nil, List.cons_append, List.nil_append, Option.toList_some, Option.toList_none, List.length_cons, List.length_nil, ne_eq, Classical.not_not, reduceCtorEq, Nat.reduceAdd, Nat.reduceSub, Nat.reduceMul, Nat.reduceLT, Nat.reduceLeDiff, Nat.reduceEqDiff, Nat.reduceBEq, Int.reduceToNat, Int.reduceLE, Int.reduceLT, Int.reduceEq, Int.reduceNeg, Int.reduceAdd, Int.reduceSub, Int.reduceMul, Int.toNat_natCast, Nat.zero_add, Int.add_zero, Nat.add_zero, ite_true, ite_false, Option.some.injEq, Nat.le_refl, or_true, true_or, or_false, false_or, if_pos, reduceIte, Nat.reduceGT]
  refine ⟨fun h => ?_, fun h => ?_⟩
  · exact rt124 ⟨rfl, by unfold f_hands; rw [if_neg (fun z => h ⟨z.1, z.2.1⟩)], rfl⟩
  · refine kI (m_isDay d M hd) (Nat.le_of_ble_eq_true rfl) rfl rfl (Nat.le_of_ble_eq_true rfl) (Nat.le_of_ble_eq_true rfl) rfl ?_
    refine wpx_ok hS bk124 (sp := sp124) 60 16 _ _ _ _ ?_
    simp only [LCM, B2, Bool.not_eq_false, Bool.not_eq_true, decide_eq_true_eq, decide_eq_false_iff_not, Int.not_lt, Int.not_le, CST, TN, WX, WA, WB, GS, LOC, BT124, SP124, CLS, FLD, ARR, CD, true_and, and_true, and_self, forall_const, true_implies, false_implies, implies_true, not_true_eq_false, not_false_eq_true, if_true, if_false, rgI, rgL, scr, swl, lkl, cats, cat, is2, List.drop_succ_cons, List.drop_zero, List.drop_nil, List.cons_append, List.nil_append, Option.toList_some, Option.toList_none, List.length_cons, List.length_nil, ne_eq, Classical.not_not, reduceCtorEq, Nat.reduceAdd, Nat.reduceSub, Nat.reduceMul, Nat.reduceLT, Nat.reduceLeDiff, Nat.reduceEqDiff, Nat.reduceBEq, Int.reduceToNat, Int.reduceLE, Int.reduceLT, Int.reduceEq, Int.reduceNeg, Int.reduceAdd, Int.reduceSub, Int.reduceMul, Int.toNat_natCast, Nat.zero_add, Int.add_zero, Nat.add_zero, ite_true, ite_false, Option.some.injEq, Nat.le_refl, or_true, true_or, or_false, false_or, if_pos, reduceIte, Nat.reduceGT]
    refine ⟨fun h1 => ?_, fun h1 => ?_⟩
    · exact rt124 ⟨rfl, by unfold f_hands; rw [if_neg (fun z => by rw [h1] at z; exact absurd z.2.2 (by decide))], rfl⟩
    · have h2 := isDayB_iff.mp h1
      obtain ⟨n, rfl⟩ : ∃ n : Nat, s = (n : Int) := ⟨s.toNat, by omega⟩
      refine ⟨rcv_ok rfl own122 rfl, kI (m_handsOn n d M hW (by omega) (by omega)) (Nat.le_of_ble_eq_true rfl) rfl rfl (Nat.le_of_ble_eq_true rfl) (Nat.le_of_ble_eq_true rfl) rfl ?_⟩
      refine wpx_ok hS bk124 (sp := sp124) 60 25 _ _ _ _ ?_
      simp only [LCM, B2, Bool.not_eq_false, Bool.not_eq_true, decide_eq_true_eq, decide_eq_false_iff_not, Int.not_lt, Int.not_le, CST, TN, WX, WA, WB, GS, LOC, BT124, SP124, CLS, FLD, ARR, CD, true_and, and_true, and_self, forall_const, true_implies, false_implies, implies_true, not_true_eq_false, not_false_eq_true, if_true, if_false, rgI, rgL, scr, swl, lkl, cats, cat, is2, List.drop_succ_cons, List.drop_zero, List.drop_nil, List.cons_append, List.nil_append, Option.toList_some, Option.toList_none, List.length_cons, List.length_nil, ne_eq, Classical.not_not, reduceCtorEq, Nat.reduceAdd, Nat.reduceSub, Nat.reduceMul, Nat.reduceLT, Nat.reduceLeDiff, Nat.reduceEqDiff, Nat.reduceBEq, Int.reduceToNat, Int.reduceLE, Int.reduceLT, Int.reduceEq, Int.reduceNeg, Int.reduceAdd, Int.reduceSub, Int.reduceMul, Int.toNat_natCast, Nat.zero_add, Int.add_zero, Nat.add_zero, ite_true, ite_false, Option.some.injEq, Nat.le_refl, or_true, true_or, or_false, false_or, if_pos, reduceIte, Nat.reduceGT]
      exact rt124 ⟨rfl, by unfold f_hands; rw [if_pos ⟨h.1, h.2, h1⟩, Int.toNat_natCast], rfl⟩
theorem shO_rg {T : MM} {d : Int} (h : WFt T) : -1 ≤ oZ (shO T d) (-1) ∧ oZ (shO T d) (-1) < 6 ∧ (anyS T d = true ↔ 0 ≤ oZ (shO T d) (-1)) := by
  have hf : ∀ (p : Nat → Bool) (n i k : Nat), fstF p i n = some k → k < i + n := by
    intro p n
    induction n with
    | zero => intro i k hk; cases hk
    | succ n ih =>
      intro i k hk
      rw [fstF] at hk
      split at hk
      · cases hk; omega
      · have := ih (i + 1) k hk; omega
  have hw := h.W
  unfold anyS
  cases hs : shO T d with
  | none => simp [oZ]
  | some k =>
    have := hf _ _ _ _ hs
    simp [oZ]
    omega
theorem m_judge (d what : Int) (M : MM) (hW : WFt M) (hd : rgL d) (hw : rgI what) : oL 6 127 [vR 55, vL d, vI what] M (f_judge M d what) := by
  refine go127 (fun S hS => ?_)
  refine wpx_ok hS bk127 (sp := sp127) 60 0 _ _ _ _ ?_
  simp only [LCM, B2, Bool.not_eq_false, Bool.not_eq_true, decide_eq_true_eq, decide_eq_false_iff_not, Int.not_lt, Int.not_le, CST, TN, WX, WA, WB, GS, LOC, BT127, SP127, CLS, FLD, ARR, CD, true_and, and_true, and_self, forall_const, true_implies, false_implies, implies_true, not_true_eq_false, not_false_eq_true, if_true, if_false, rgI, rgL, scr, swl, lkl, cats, cat, is2, List.drop_succ_cons, List.drop_zero, List.drop_nil, List.cons_append, List.nil_append, Option.toList_some, Option.toList_none, List.length_cons, List.length_nil, ne_eq, Classical.not_not, reduceCtorEq, Nat.reduceAdd, Nat.reduceSub, Nat.reduceMul, Nat.reduceLT, Nat.reduceLeDiff, Nat.reduceEqDiff, Nat.reduceBEq, Int.reduceToNat, Int.reduceLE, Int.reduceLT, Int.reduceEq, Int.reduceNeg, Int.reduceAdd, Int.reduceSub, Int.reduceMul, Int.toNat_natCast, Nat.zero_add, Int.add_zero, Nat.add_zero, ite_true, ite_false, Option.some.injEq, Nat.le_refl, or_true, true_or, or_false, false_or, if_pos, reduceIte, Nat.reduceGT]
  refine kI (m_isDay d M hd) (Nat.le_of_ble_eq_true rfl) rfl rfl (Nat.le_of_ble_eq_true rfl) (Nat.le_of_ble_eq_true rfl) rfl ?_
  refine wpx_ok hS bk127 (sp := sp127) 60 4 _ _ _ _ ?_
  simp only [LCM, B2, Bool.not_eq_false, Bool.not_eq_true, decide_eq_true_eq, decide_eq_false_iff_not, Int.not_lt, Int.not_le, CST, TN, WX, WA, WB, GS, LOC, BT127, SP127, CLS, FLD, ARR, CD, true_and, and_true, and_self, forall_const, true_implies, false_implies, implies_true, not_true_eq_false, not_false_eq_true, if_true, if_false, rgI, rgL, scr, swl, lkl, cats, cat, is2, List.drop_succ_cons, List.drop_zero, List.drop_nil, List.cons_append, List.nil_append, Option.toList_some, Option.toList_none, List.length_cons, List.length_nil, ne_eq, Classical.not_not, reduceCtorEq, Nat.reduceAdd, Nat.reduceSub, Nat.reduceMul, Nat.reduceLT, Nat.reduceLeDiff, Nat.reduceEqDiff, Nat.reduceBEq, Int.reduceToNat, Int.reduceLE, Int.reduceLT, Int.reduceEq, Int.reduceNeg, Int.reduceAdd, Int.reduceSub, Int.reduceMul, Int.toNat_natCast, Nat.zero_add, Int.add_zero, Nat.add_zero, ite_true, ite_false, Option.some.injEq, Nat.le_refl, or_true, true_or, or_false, false_or, if_pos, reduceIte, Nat.reduceGT]
  refine ⟨fun h => ?_, fun h => ?_⟩
  · exact rt127 ⟨rfl, by unfold f_judge; rw [if_neg (fun z => by rw [h] at z; exact absurd z.1 (by decide))], rfl⟩
  · have h1 := isDayB_iff.mp h
    refine ⟨hw, ?_⟩
    refine kI (c_in what 0 1 M (by unfold rgL rgI at *; omega) (by unfold rgL; omega) (by unfold rgL; omega)) (Nat.le_of_ble_eq_true rfl) rfl rfl (Nat.le_of_ble_eq_true rfl) (Nat.le_of_ble_eq_true rfl) rfl ?_
    refine wpx_ok hS bk127 (sp := sp127) 60 14 _ _ _ _ ?_
    simp only [LCM, B2, Bool.not_eq_false, Bool.not_eq_true, decide_eq_true_eq, decide_eq_false_iff_not, Int.not_lt, Int.not_le, CST, TN, WX, WA, WB, GS, LOC, BT127, SP127, CLS, FLD, ARR, CD, true_and, and_true, and_self, forall_const, true_implies, false_implies, implies_true, not_true_eq_false, not_false_eq_true, if_true, if_false, rgI, rgL, scr, swl, lkl, cats, cat, is2, List.drop_succ_cons, List.drop_zero, List.drop_nil, List.cons_append, List.nil_append, Option.toList_some, Option.toList_none, List.length_cons, List.length_nil, ne_eq, Classical.not_not, reduceCtorEq, Nat.reduceAdd, Nat.reduceSub, Nat.reduceMul, Nat.reduceLT, Nat.reduceLeDiff, Nat.reduceEqDiff, Nat.reduceBEq, Int.reduceToNat, Int.reduceLE, Int.reduceLT, Int.reduceEq, Int.reduceNeg, Int.reduceAdd, Int.reduceSub, Int.reduceMul, Int.toNat_natCast, Nat.zero_add, Int.add_zero, Nat.add_zero, ite_true, ite_false, Option.some.injEq, Nat.le_refl, or_true, true_or, or_false, false_or, if_pos, reduceIte, Nat.reduceGT]
    refine ⟨fun h2 => ?_, fun h2 => ?_⟩
    · have head : ∀ (n k : Nat) (o6 : Option AV), k + n = 1000 → fstF (fun k => anyS M (d + k)) k n = fstF (fun k => anyS M (d + k)) 0 1000 → S 24 [some (vR 55), some (vL d), none, some (vI what), some (vL (d + k)), none, o6] [] (sh0, 0, 0) M := by
        intro n
        induction n with
        | zero =>
          intro k o6 hk hf
          refine wpx_ok hS bk127 (sp := sp127) 60 24 _ _ _ _ ?_
          simp only [LCM, B2, Bool.not_eq_false, Bool.not_eq_true, decide_eq_true_eq, decide_eq_false_iff_not, Int.not_lt, Int.not_le, CST, TN, WX, WA, WB, GS, LOC, BT127, SP127, CLS, FLD, ARR, CD, true_and, and_true, and_self, forall_const, true_implies, false_implies, implies_true, not_true_eq_false, not_false_eq_true, if_true, if_false, rgI, rgL, scr, swl, lkl, cats, cat, is2, List.drop_succ_cons, List.drop_zero, List.drop_nil, List.cons_append, List.nil_append, Option.toList_some, Option.toList_none, List.length_cons, List.length_nil, ne_eq, Classical.not_not, reduceCtorEq, Nat.reduceAdd, Nat.reduceSub, Nat.reduceMul, Nat.reduceLT, Nat.reduceLeDiff, Nat.reduceEqDiff, Nat.reduceBEq, Int.reduceToNat, Int.reduceLE, Int.reduceLT, Int.reduceEq, Int.reduceNeg, Int.reduceAdd, Int.reduceSub, Int.reduceMul, Int.toNat_natCast, Nat.zero_add, Int.add_zero, Nat.add_zero, ite_true, ite_false, Option.some.injEq, Nat.le_refl, or_true, true_or, or_false, false_or, if_pos, reduceIte, Nat.reduceGT]
          refine ⟨by omega, by omega, fun h3 => ?_, fun h3 => by omega⟩
          exact rt127 ⟨rfl, by unfold f_judge; rw [if_pos ⟨h, h2⟩, ← hf]; rfl, rfl⟩
        | succ n ih =>
          intro k o6 hk hf
          rw [fstF] at hf
          refine wpx_ok hS bk127 (sp := sp127) 60 24 _ _ _ _ ?_
          simp only [LCM, B2, Bool.not_eq_false, Bool.not_eq_true, decide_eq_true_eq, decide_eq_false_iff_not, Int.not_lt, Int.not_le, CST, TN, WX, WA, WB, GS, LOC, BT127, SP127, CLS, FLD, ARR, CD, true_and, and_true, and_self, forall_const, true_implies, false_implies, implies_true, not_true_eq_false, not_false_eq_true, if_true, if_false, rgI, rgL, scr, swl, lkl, cats, cat, is2, List.drop_succ_cons, List.drop_zero, List.drop_nil, List.cons_append, List.nil_append, Option.toList_some, Option.toList_none, List.length_cons, List.length_nil, ne_eq, Classical.not_not, reduceCtorEq, Nat.reduceAdd, Nat.reduceSub, Nat.reduceMul, Nat.reduceLT, Nat.reduceLeDiff, Nat.reduceEqDiff, Nat.reduceBEq, Int.reduceToNat, Int.reduceLE, Int.reduceLT, Int.reduceEq, Int.reduceNeg, Int.reduceAdd, Int.reduceSub, Int.reduceMul, Int.toNat_natCast, Nat.zero_add, Int.add_zero, Nat.add_zero, ite_true, ite_false, Option.some.injEq, Nat.le_refl, or_true, true_or, or_false, false_or, if_pos, reduceIte, Nat.reduceGT]
          refine ⟨by omega, by omega, fun h3 => by omega, fun h3 => ?_⟩
          refine ⟨rcv_ok rfl own126 rfl, kI (m_shortOn (d + k) M hW (by omega)) (Nat.le_of_ble_eq_true rfl) rfl rfl (Nat.le_of_ble_eq_true rfl) (Nat.le_of_ble_eq_true rfl) rfl ?_⟩
          have hr := shO_rg (d := d + k) hW
          refine wpx_ok hS bk127 (sp := sp127) 60 41 _ _ _ _ ?_
          simp only [LCM, B2, Bool.not_eq_false, Bool.not_eq_true, decide_eq_true_eq, decide_eq_false_iff_not, Int.not_lt, Int.not_le, CST, TN, WX, WA, WB, GS, LOC, BT127, SP127, CLS, FLD, ARR, CD, true_and, and_true, and_self, forall_const, true_implies, false_implies, implies_true, not_true_eq_false, not_false_eq_true, if_true, if_false, rgI, rgL, scr, swl, lkl, cats, cat, is2, List.drop_succ_cons, List.drop_zero, List.drop_nil, List.cons_append, List.nil_append, Option.toList_some, Option.toList_none, List.length_cons, List.length_nil, ne_eq, Classical.not_not, reduceCtorEq, Nat.reduceAdd, Nat.reduceSub, Nat.reduceMul, Nat.reduceLT, Nat.reduceLeDiff, Nat.reduceEqDiff, Nat.reduceBEq, Int.reduceToNat, Int.reduceLE, Int.reduceLT, Int.reduceEq, Int.reduceNeg, Int.reduceAdd, Int.reduceSub, Int.reduceMul, Int.toNat_natCast, Nat.zero_add, Int.add_zero, Nat.add_zero, ite_true, ite_false, Option.some.injEq, Nat.le_refl, or_true, true_or, or_false, false_or, if_pos, reduceIte, Nat.reduceGT]
          refine ⟨by omega, fun h4 => ?_, fun h4 => ⟨hw, fun h5 => ⟨by omega, ?_⟩, fun h5 => ?_⟩⟩
          · have h6 : anyS M (d + k) = false := by
              cases hz : anyS M (d + k) with
              | false => rfl
              | true => rw [hr.2.2] at hz; omega
            rw [h6] at hf
            have := ih (k + 1) (some (vI (oZ (shO M (d + k)) (-1)))) (by omega) hf
            rw [show d + ((k + 1 : Nat) : Int) = d + k + 1 by omega] at this
            exact this
          · rw [hr.2.2.mpr h4, if_pos rfl] at hf
            exact rt127 ⟨rfl, by unfold f_judge; rw [if_pos ⟨h, h2⟩, ← hf]; simp only; rw [if_neg h5], rfl⟩
          · rw [hr.2.2.mpr h4, if_pos rfl] at hf
            exact rt127 ⟨rfl, by unfold f_judge; rw [if_pos ⟨h, h2⟩, ← hf]; simp only; rw [if_pos h5], rfl⟩
      have := head 1000 0 none (by omega) rfl
      rw [show d + ((0 : Nat) : Int) = d by omega] at this
      exact this
    · exact rt127 ⟨rfl, by unfold f_judge; rw [if_neg (fun z => h2 z.2)], rfl⟩
theorem stOn_rg (T : MM) (w : Nat) : ∀ d : Nat, 0 ≤ stOn T w d ∧ stOn T w d ≤ d
  | 0 => by simp [stOn]
  | d + 1 => by
    have := stOn_rg T w d
    rw [stOn]
    split <;> omega
theorem stN_rg (T : MM) (w : Nat) : ∀ d : Nat, 0 ≤ stN T w d ∧ stN T w d ≤ d
  | 0 => by simp [stN]
  | d + 1 => by
    have := stN_rg T w d
    rw [stN]
    split <;> omega
theorem m_still (w : Int) (M : MM) (hW : WFt M) (hw : rgI w) : oI 5 128 [vR 55, vI w] M (f_still M w) := by
  have hP := hW.P
  refine go128 (fun S hS => ?_)
  refine wpx_ok hS bk128 (sp := sp128) 60 0 _ _ _ _ ?_
  simp only [LCM, B2, Bool.not_eq_false, Bool.not_eq_true, decide_eq_true_eq, decide_eq_false_iff_not, Int.not_lt, Int.not_le, CST, TN, WX, WA, WB, GS, LOC, BT128, SP128, CLS, FLD, ARR, CD, true_and, and_true, and_self, forall_const, true_implies, false_implies, implies_true, not_true_eq_false, not_false_eq_true, if_true, if_false, rgI, rgL, scr, swl, lkl, cats, cat, is2, List.drop_succ_cons, List.drop_zero, List.drop_nil, List.cons_append, List.nil_append, Option.toList_some, Option.toList_none, List.length_cons, List.length_nil, ne_eq, Classical.not_not, reduceCtorEq, Nat.reduceAdd, Nat.reduceSub, Nat.reduceMul, Nat.reduceLT, Nat.reduceLeDiff, Nat.reduceEqDiff, Nat.reduceBEq, Int.reduceToNat, Int.reduceLE, Int.reduceLT, Int.reduceEq, Int.reduceNeg, Int.reduceAdd, Int.reduceSub, Int.reduceMul, Int.toNat_natCast, Nat.zero_add, Int.add_zero, Nat.add_zero, ite_true, ite_false, Option.some.injEq, Nat.le_refl, or_true, true_or, or_false, false_or, if_pos, reduceIte, Nat.reduceGT]
  refine ⟨rcv_ok rfl own114 rfl, kI (m_isWork w M hw hW) (Nat.le_of_ble_eq_true rfl) rfl rfl (Nat.le_of_ble_eq_true rfl) (Nat.le_of_ble_eq_true rfl) rfl ?_⟩
  refine wpx_ok hS bk128 (sp := sp128) 60 5 _ _ _ _ ?_
  simp only [LCM, B2, Bool.not_eq_false, Bool.not_eq_true, decide_eq_true_eq, decide_eq_false_iff_not, Int.not_lt, Int.not_le, CST, TN, WX, WA, WB, GS, LOC, BT128, SP128, CLS, FLD, ARR, CD, true_and, and_true, and_self, forall_const, true_implies, false_implies, implies_true, not_true_eq_false, not_false_eq_true, if_true, if_false, rgI, rgL, scr, swl, lkl, cats, cat, is2, List.drop_succ_cons, List.drop_zero, List.drop_nil, List.cons_append, List.nil_append, Option.toList_some, Option.toList_none, List.length_cons, List.length_nil, ne_eq, Classical.not_not, reduceCtorEq, Nat.reduceAdd, Nat.reduceSub, Nat.reduceMul, Nat.reduceLT, Nat.reduceLeDiff, Nat.reduceEqDiff, Nat.reduceBEq, Int.reduceToNat, Int.reduceLE, Int.reduceLT, Int.reduceEq, Int.reduceNeg, Int.reduceAdd, Int.reduceSub, Int.reduceMul, Int.toNat_natCast, Nat.zero_add, Int.add_zero, Nat.add_zero, ite_true, ite_false, Option.some.injEq, Nat.le_refl, or_true, true_or, or_false, false_or, if_pos, reduceIte, Nat.reduceGT]
  refine ⟨fun h => ?_, fun h => ?_⟩
  · obtain ⟨n, rfl⟩ : ∃ n : Nat, w = (n : Int) := ⟨w.toNat, by omega⟩
    have hn : n < wN M := by have := hW.W; omega
    have hwk := hW.wk hn
    have hwW := hW.W
    have head : ∀ (m d : Nat), d + m = 2 * PN M → S 17 [some (vR 55), some (vI n), some (vI (stN M n d)), some (vI (stOn M n d)), some (vI d)] [] (sh0, 0, 0) M := by
      intro m
      induction m with
      | zero =>
        intro d hd
        refine wpx_ok hS bk128 (sp := sp128) 60 17 _ _ _ _ ?_
        simp only [LCM, B2, Bool.not_eq_false, Bool.not_eq_true, decide_eq_true_eq, decide_eq_false_iff_not, Int.not_lt, Int.not_le, CST, TN, WX, WA, WB, GS, LOC, BT128, SP128, CLS, FLD, ARR, CD, true_and, and_true, and_self, forall_const, true_implies, false_implies, implies_true, not_true_eq_false, not_false_eq_true, if_true, if_false, rgI, rgL, scr, swl, lkl, cats, cat, is2, List.drop_succ_cons, List.drop_zero, List.drop_nil, List.cons_append, List.nil_append, Option.toList_some, Option.toList_none, List.length_cons, List.length_nil, ne_eq, Classical.not_not, reduceCtorEq, Nat.reduceAdd, Nat.reduceSub, Nat.reduceMul, Nat.reduceLT, Nat.reduceLeDiff, Nat.reduceEqDiff, Nat.reduceBEq, Int.reduceToNat, Int.reduceLE, Int.reduceLT, Int.reduceEq, Int.reduceNeg, Int.reduceAdd, Int.reduceSub, Int.reduceMul, Int.toNat_natCast, Nat.zero_add, Int.add_zero, Nat.add_zero, ite_true, ite_false, Option.some.injEq, Nat.le_refl, or_true, true_or, or_false, false_or, if_pos, reduceIte, Nat.reduceGT]
        refine ⟨rcv_ok rfl own119 rfl, kI (m_period M hW) (Nat.le_of_ble_eq_true rfl) rfl rfl (Nat.le_of_ble_eq_true rfl) (Nat.le_of_ble_eq_true rfl) rfl ?_⟩
        refine wpx_ok hS bk128 (sp := sp128) 60 24 _ _ _ _ ?_
        simp only [LCM, B2, Bool.not_eq_false, Bool.not_eq_true, decide_eq_true_eq, decide_eq_false_iff_not, Int.not_lt, Int.not_le, CST, TN, WX, WA, WB, GS, LOC, BT128, SP128, CLS, FLD, ARR, CD, true_and, and_true, and_self, forall_const, true_implies, false_implies, implies_true, not_true_eq_false, not_false_eq_true, if_true, if_false, rgI, rgL, scr, swl, lkl, cats, cat, is2, List.drop_succ_cons, List.drop_zero, List.drop_nil, List.cons_append, List.nil_append, Option.toList_some, Option.toList_none, List.length_cons, List.length_nil, ne_eq, Classical.not_not, reduceCtorEq, Nat.reduceAdd, Nat.reduceSub, Nat.reduceMul, Nat.reduceLT, Nat.reduceLeDiff, Nat.reduceEqDiff, Nat.reduceBEq, Int.reduceToNat, Int.reduceLE, Int.reduceLT, Int.reduceEq, Int.reduceNeg, Int.reduceAdd, Int.reduceSub, Int.reduceMul, Int.toNat_natCast, Nat.zero_add, Int.add_zero, Nat.add_zero, ite_true, ite_false, Option.some.injEq, Nat.le_refl, or_true, true_or, or_false, false_or, if_pos, reduceIte, Nat.reduceGT]
        refine ⟨by omega, fun h1 => ?_, fun h1 => by omega⟩
        exact rt128 ⟨rfl, by unfold f_still; rw [if_pos h, Int.toNat_natCast, show d = 2 * PN M by omega], rfl⟩
      | succ m ih =>
        intro d hd
        have ih2 := ih (d + 1) (by omega)
        have r1 := stOn_rg M n (d + 1)
        have r2 := stOn_rg M n d
        have e1 : stN M n (d + 1) = stN M n d + (if PN M ≤ d ∧ M 63 (3 * n + 2) ≤ stOn M n (d + 1) then 1 else 0) := rfl
        have e2 : stOn M n (d + 1) = if shrt M n d then stOn M n d + 1 else 0 := rfl
        have next : S 54 [some (vR 55), some (vI n), some (vI (stN M n d)), some (vI (stOn M n (d + 1))), some (vI d)] [vI (PN M), vI d, vI (stN M n d)] (sh0, 0, 0) M := by
          refine wpx_ok hS bk128 (sp := sp128) 60 54 _ _ _ _ ?_
          simp only [LCM, B2, Bool.not_eq_false, Bool.not_eq_true, decide_eq_true_eq, decide_eq_false_iff_not, Int.not_lt, Int.not_le, CST, TN, WX, WA, WB, GS, LOC, BT128, SP128, CLS, FLD, ARR, CD, true_and, and_true, and_self, forall_const, true_implies, false_implies, implies_true, not_true_eq_false, not_false_eq_true, if_true, if_false, rgI, rgL, scr, swl, lkl, cats, cat, is2, List.drop_succ_cons, List.drop_zero, List.drop_nil, List.cons_append, List.nil_append, Option.toList_some, Option.toList_none, List.length_cons, List.length_nil, ne_eq, Classical.not_not, reduceCtorEq, Nat.reduceAdd, Nat.reduceSub, Nat.reduceMul, Nat.reduceLT, Nat.reduceLeDiff, Nat.reduceEqDiff, Nat.reduceBEq, Int.reduceToNat, Int.reduceLE, Int.reduceLT, Int.reduceEq, Int.reduceNeg, Int.reduceAdd, Int.reduceSub, Int.reduceMul, Int.toNat_natCast, Nat.zero_add, Int.add_zero, Nat.add_zero, ite_true, ite_false, Option.some.injEq, Nat.le_refl, or_true, true_or, or_false, false_or, if_pos, reduceIte, Nat.reduceGT]
          refine ⟨by omega, fun h1 => ?_, fun h1 => ⟨by omega, by omega, fun h2 => ?_, fun h2 => ?_⟩⟩
          · rw [if_neg (by omega), Int.add_zero] at e1
            rw [e1] at ih2
            exact ih2
          · rw [if_neg (by omega), Int.add_zero] at e1
            rw [e1] at ih2
            exact ih2
          · rw [if_pos (by omega)] at e1
            rw [e1] at ih2
            exact ih2
        refine wpx_ok hS bk128 (sp := sp128) 60 17 _ _ _ _ ?_
        simp only [LCM, B2, Bool.not_eq_false, Bool.not_eq_true, decide_eq_true_eq, decide_eq_false_iff_not, Int.not_lt, Int.not_le, CST, TN, WX, WA, WB, GS, LOC, BT128, SP128, CLS, FLD, ARR, CD, true_and, and_true, and_self, forall_const, true_implies, false_implies, implies_true, not_true_eq_false, not_false_eq_true, if_true, if_false, rgI, rgL, scr, swl, lkl, cats, cat, is2, List.drop_succ_cons, List.drop_zero, List.drop_nil, List.cons_append, List.nil_append, Option.toList_some, Option.toList_none, List.length_cons, List.length_nil, ne_eq, Classical.not_not, reduceCtorEq, Nat.reduceAdd, Nat.reduceSub, Nat.reduceMul, Nat.reduceLT, Nat.reduceLeDiff, Nat.reduceEqDiff, Nat.reduceBEq, Int.reduceToNat, Int.reduceLE, Int.reduceLT, Int.reduceEq, Int.reduceNeg, Int.reduceAdd, Int.reduceSub, Int.reduceMul, Int.toNat_natCast, Nat.zero_add, Int.add_zero, Nat.add_zero, ite_true, ite_false, Option.some.injEq, Nat.le_refl, or_true, true_or, or_false, false_or, if_pos, reduceIte, Nat.reduceGT]
        refine ⟨rcv_ok rfl own119 rfl, kI (m_period M hW) (Nat.le_of_ble_eq_true rfl) rfl rfl (Nat.le_of_ble_eq_true rfl) (Nat.le_of_ble_eq_true rfl) rfl ?_⟩
        refine wpx_ok hS bk128 (sp := sp128) 60 24 _ _ _ _ ?_
        simp only [LCM, B2, Bool.not_eq_false, Bool.not_eq_true, decide_eq_true_eq, decide_eq_false_iff_not, Int.not_lt, Int.not_le, CST, TN, WX, WA, WB, GS, LOC, BT128, SP128, CLS, FLD, ARR, CD, true_and, and_true, and_self, forall_const, true_implies, false_implies, implies_true, not_true_eq_false, not_false_eq_true, if_true, if_false, rgI, rgL, scr, swl, lkl, cats, cat, is2, List.drop_succ_cons, List.drop_zero, List.drop_nil, List.cons_append, List.nil_append, Option.toList_some, Option.toList_none, List.length_cons, List.length_nil, ne_eq, Classical.not_not, reduceCtorEq, Nat.reduceAdd, Nat.reduceSub, Nat.reduceMul, Nat.reduceLT, Nat.reduceLeDiff, Nat.reduceEqDiff, Nat.reduceBEq, Int.reduceToNat, Int.reduceLE, Int.reduceLT, Int.reduceEq, Int.reduceNeg, Int.reduceAdd, Int.reduceSub, Int.reduceMul, Int.toNat_natCast, Nat.zero_add, Int.add_zero, Nat.add_zero, ite_true, ite_false, Option.some.injEq, Nat.le_refl, or_true, true_or, or_false, false_or, if_pos, reduceIte, Nat.reduceGT]
        refine ⟨by omega, fun h1 => by omega, fun h1 => ⟨by omega, ?_⟩⟩
        refine ⟨rcv_ok rfl own125 rfl, kI (m_isShort n d M hW hn (by omega)) (Nat.le_of_ble_eq_true rfl) rfl rfl (Nat.le_of_ble_eq_true rfl) (Nat.le_of_ble_eq_true rfl) rfl ?_⟩
        refine wpx_ok hS bk128 (sp := sp128) 60 36 _ _ _ _ ?_
        simp only [LCM, B2, Bool.not_eq_false, Bool.not_eq_true, decide_eq_true_eq, decide_eq_false_iff_not, Int.not_lt, Int.not_le, CST, TN, WX, WA, WB, GS, LOC, BT128, SP128, CLS, FLD, ARR, CD, true_and, and_true, and_self, forall_const, true_implies, false_implies, implies_true, not_true_eq_false, not_false_eq_true, if_true, if_false, rgI, rgL, scr, swl, lkl, cats, cat, is2, List.drop_succ_cons, List.drop_zero, List.drop_nil, List.cons_append, List.nil_append, Option.toList_some, Option.toList_none, List.length_cons, List.length_nil, ne_eq, Classical.not_not, reduceCtorEq, Nat.reduceAdd, Nat.reduceSub, Nat.reduceMul, Nat.reduceLT, Nat.reduceLeDiff, Nat.reduceEqDiff, Nat.reduceBEq, Int.reduceToNat, Int.reduceLE, Int.reduceLT, Int.reduceEq, Int.reduceNeg, Int.reduceAdd, Int.reduceSub, Int.reduceMul, Int.toNat_natCast, Nat.zero_add, Int.add_zero, Nat.add_zero, ite_true, ite_false, Option.some.injEq, Nat.le_refl, or_true, true_or, or_false, false_or, if_pos, reduceIte, Nat.reduceGT]
        refine ⟨fun h2 => ?_, fun h2 => ?_⟩
        · rw [h2] at e2
          rw [show stOn M n (d + 1) = 0 from e2] at next
          refine ⟨rcv_ok rfl own119 rfl, kI (m_period M hW) (Nat.le_of_ble_eq_true rfl) rfl rfl (Nat.le_of_ble_eq_true rfl) (Nat.le_of_ble_eq_true rfl) rfl ?_⟩
          exact next
        · rw [h2, if_pos rfl] at e2
          rw [e2] at next
          refine ⟨rcv_ok rfl own119 rfl, kI (m_period M hW) (Nat.le_of_ble_eq_true rfl) rfl rfl (Nat.le_of_ble_eq_true rfl) (Nat.le_of_ble_eq_true rfl) rfl ?_⟩
          exact next
    exact head (2 * PN M) 0 (by omega)
  · exact rt128 ⟨rfl, by unfold f_still; rw [if_neg h], rfl⟩
end
section
theorem m_together (x d : Int) (M : MM) (hW : WFt M) (hx : rgI x) (hd : rgL d) : oL 5 131 [vR 55, vI x, vL d] M (f_together M x d) := by
  have hP := hW.P
  refine go131 (fun S hS => ?_)
  refine wpx_ok hS bk131 (sp := sp131) 60 0 _ _ _ _ ?_
  simp only [LCM, B2, Bool.not_eq_false, Bool.not_eq_true, decide_eq_true_eq, decide_eq_false_iff_not, Int.not_lt, Int.not_le, CST, TN, WX, WA, WB, GS, LOC, BT131, SP131, CLS, FLD, ARR, CD, true_and, and_true, and_self, forall_const, true_implies, false_implies, implies_true, not_true_eq_false, not_false_eq_true, if_true, if_false, rgI, rgL, scr, swl, lkl, cats, cat, is2, List.drop_succ_cons, List.drop_zero, List.drop_nil, List.cons_append, List.nil_append, Option.toList_some, Option.toList_none, List.length_cons, List.length_nil, ne_eq, Classical.not_not, reduceCtorEq, Nat.reduceAdd, Nat.reduceSub, Nat.reduceMul, Nat.reduceLT, Nat.reduceLeDiff, Nat.reduceEqDiff, Nat.reduceBEq, Int.reduceToNat, Int.reduceLE, Int.reduceLT, Int.reduceEq, Int.reduceNeg, Int.reduceAdd, Int.reduceSub, Int.reduceMul, Int.toNat_natCast, Nat.zero_add, Int.add_zero, Nat.add_zero, ite_true, ite_false, Option.some.injEq, Nat.le_refl, or_true, true_or, or_false, false_or, if_pos, reduceIte, Nat.reduceGT]
  refine ⟨rcv_ok rfl own129 rfl, kI (m_isSet x M hW hx) (Nat.le_of_ble_eq_true rfl) rfl rfl (Nat.le_of_ble_eq_true rfl) (Nat.le_of_ble_eq_true rfl) rfl ?_⟩
  refine wpx_ok hS bk131 (sp := sp131) 60 5 _ _ _ _ ?_
  simp only [LCM, B2, Bool.not_eq_false, Bool.not_eq_true, decide_eq_true_eq, decide_eq_false_iff_not, Int.not_lt, Int.not_le, CST, TN, WX, WA, WB, GS, LOC, BT131, SP131, CLS, FLD, ARR, CD, true_and, and_true, and_self, forall_const, true_implies, false_implies, implies_true, not_true_eq_false, not_false_eq_true, if_true, if_false, rgI, rgL, scr, swl, lkl, cats, cat, is2, List.drop_succ_cons, List.drop_zero, List.drop_nil, List.cons_append, List.nil_append, Option.toList_some, Option.toList_none, List.length_cons, List.length_nil, ne_eq, Classical.not_not, reduceCtorEq, Nat.reduceAdd, Nat.reduceSub, Nat.reduceMul, Nat.reduceLT, Nat.reduceLeDiff, Nat.reduceEqDiff, Nat.reduceBEq, Int.reduceToNat, Int.reduceLE, Int.reduceLT, Int.reduceEq, Int.reduceNeg, Int.reduceAdd, Int.reduceSub, Int.reduceMul, Int.toNat_natCast, Nat.zero_add, Int.add_zero, Nat.add_zero, ite_true, ite_false, Option.some.injEq, Nat.le_refl, or_true, true_or, or_false, false_or, if_pos, reduceIte, Nat.reduceGT]
  refine ⟨fun h => ?_, fun h => ?_⟩
  · exact rt131 ⟨rfl, by unfold f_together; rw [if_neg (fun z => by rw [h] at z; exact absurd z.1 (by decide))], rfl⟩
  · refine kI (m_isDay d M hd) (Nat.le_of_ble_eq_true rfl) rfl rfl (Nat.le_of_ble_eq_true rfl) (Nat.le_of_ble_eq_true rfl) rfl ?_
    refine wpx_ok hS bk131 (sp := sp131) 60 12 _ _ _ _ ?_
    simp only [LCM, B2, Bool.not_eq_false, Bool.not_eq_true, decide_eq_true_eq, decide_eq_false_iff_not, Int.not_lt, Int.not_le, CST, TN, WX, WA, WB, GS, LOC, BT131, SP131, CLS, FLD, ARR, CD, true_and, and_true, and_self, forall_const, true_implies, false_implies, implies_true, not_true_eq_false, not_false_eq_true, if_true, if_false, rgI, rgL, scr, swl, lkl, cats, cat, is2, List.drop_succ_cons, List.drop_zero, List.drop_nil, List.cons_append, List.nil_append, Option.toList_some, Option.toList_none, List.length_cons, List.length_nil, ne_eq, Classical.not_not, reduceCtorEq, Nat.reduceAdd, Nat.reduceSub, Nat.reduceMul, Nat.reduceLT, Nat.reduceLeDiff, Nat.reduceEqDiff, Nat.reduceBEq, Int.reduceToNat, Int.reduceLE, Int.reduceLT, Int.reduceEq, Int.reduceNeg, Int.reduceAdd, Int.reduceSub, Int.reduceMul, Int.toNat_natCast, Nat.zero_add, Int.add_zero, Nat.add_zero, ite_true, ite_false, Option.some.injEq, Nat.le_refl, or_true, true_or, or_false, false_or, if_pos, reduceIte, Nat.reduceGT]
    refine ⟨fun h1 => ?_, fun h1 => ?_⟩
    · have h2 := isDayB_iff.mp h1
      have head : ∀ (n k : Nat), k + n = PN M → fstF (fun k => auB M x (d + k)) k n = fstF (fun k => auB M x (d + k)) 0 (PN M) → S 22 [some (vR 55), some (vI x), some (vL d), none, some (vL (d + k)), none] [] (sh0, 0, 0) M := by
        intro n
        induction n with
        | zero =>
          intro k hk hf
          refine wpx_ok hS bk131 (sp := sp131) 60 22 _ _ _ _ ?_
          simp only [LCM, B2, Bool.not_eq_false, Bool.not_eq_true, decide_eq_true_eq, decide_eq_false_iff_not, Int.not_lt, Int.not_le, CST, TN, WX, WA, WB, GS, LOC, BT131, SP131, CLS, FLD, ARR, CD, true_and, and_true, and_self, forall_const, true_implies, false_implies, implies_true, not_true_eq_false, not_false_eq_true, if_true, if_false, rgI, rgL, scr, swl, lkl, cats, cat, is2, List.drop_succ_cons, List.drop_zero, List.drop_nil, List.cons_append, List.nil_append, Option.toList_some, Option.toList_none, List.length_cons, List.length_nil, ne_eq, Classical.not_not, reduceCtorEq, Nat.reduceAdd, Nat.reduceSub, Nat.reduceMul, Nat.reduceLT, Nat.reduceLeDiff, Nat.reduceEqDiff, Nat.reduceBEq, Int.reduceToNat, Int.reduceLE, Int.reduceLT, Int.reduceEq, Int.reduceNeg, Int.reduceAdd, Int.reduceSub, Int.reduceMul, Int.toNat_natCast, Nat.zero_add, Int.add_zero, Nat.add_zero, ite_true, ite_false, Option.some.injEq, Nat.le_refl, or_true, true_or, or_false, false_or, if_pos, reduceIte, Nat.reduceGT]
          refine ⟨rcv_ok rfl own119 rfl, kI (m_period M hW) (Nat.le_of_ble_eq_true rfl) rfl rfl (Nat.le_of_ble_eq_true rfl) (Nat.le_of_ble_eq_true rfl) rfl ?_⟩
          refine wpx_ok hS bk131 (sp := sp131) 60 29 _ _ _ _ ?_
          simp only [LCM, B2, Bool.not_eq_false, Bool.not_eq_true, decide_eq_true_eq, decide_eq_false_iff_not, Int.not_lt, Int.not_le, CST, TN, WX, WA, WB, GS, LOC, BT131, SP131, CLS, FLD, ARR, CD, true_and, and_true, and_self, forall_const, true_implies, false_implies, implies_true, not_true_eq_false, not_false_eq_true, if_true, if_false, rgI, rgL, scr, swl, lkl, cats, cat, is2, List.drop_succ_cons, List.drop_zero, List.drop_nil, List.cons_append, List.nil_append, Option.toList_some, Option.toList_none, List.length_cons, List.length_nil, ne_eq, Classical.not_not, reduceCtorEq, Nat.reduceAdd, Nat.reduceSub, Nat.reduceMul, Nat.reduceLT, Nat.reduceLeDiff, Nat.reduceEqDiff, Nat.reduceBEq, Int.reduceToNat, Int.reduceLE, Int.reduceLT, Int.reduceEq, Int.reduceNeg, Int.reduceAdd, Int.reduceSub, Int.reduceMul, Int.toNat_natCast, Nat.zero_add, Int.add_zero, Nat.add_zero, ite_true, ite_false, Option.some.injEq, Nat.le_refl, or_true, true_or, or_false, false_or, if_pos, reduceIte, Nat.reduceGT]
          refine ⟨by omega, by omega, by omega, fun h3 => ?_, fun h3 => by omega⟩
          exact rt131 ⟨rfl, by unfold f_together; rw [if_pos ⟨h, h1⟩, ← hf]; rfl, rfl⟩
        | succ n ih =>
          intro k hk hf
          rw [fstF] at hf
          refine wpx_ok hS bk131 (sp := sp131) 60 22 _ _ _ _ ?_
          simp only [LCM, B2, Bool.not_eq_false, Bool.not_eq_true, decide_eq_true_eq, decide_eq_false_iff_not, Int.not_lt, Int.not_le, CST, TN, WX, WA, WB, GS, LOC, BT131, SP131, CLS, FLD, ARR, CD, true_and, and_true, and_self, forall_const, true_implies, false_implies, implies_true, not_true_eq_false, not_false_eq_true, if_true, if_false, rgI, rgL, scr, swl, lkl, cats, cat, is2, List.drop_succ_cons, List.drop_zero, List.drop_nil, List.cons_append, List.nil_append, Option.toList_some, Option.toList_none, List.length_cons, List.length_nil, ne_eq, Classical.not_not, reduceCtorEq, Nat.reduceAdd, Nat.reduceSub, Nat.reduceMul, Nat.reduceLT, Nat.reduceLeDiff, Nat.reduceEqDiff, Nat.reduceBEq, Int.reduceToNat, Int.reduceLE, Int.reduceLT, Int.reduceEq, Int.reduceNeg, Int.reduceAdd, Int.reduceSub, Int.reduceMul, Int.toNat_natCast, Nat.zero_add, Int.add_zero, Nat.add_zero, ite_true, ite_false, Option.some.injEq, Nat.le_refl, or_true, true_or, or_false, false_or, if_pos, reduceIte, Nat.reduceGT]
          refine ⟨rcv_ok rfl own119 rfl, kI (m_period M hW) (Nat.le_of_ble_eq_true rfl) rfl rfl (Nat.le_of_ble_eq_true rfl) (Nat.le_of_ble_eq_true rfl) rfl ?_⟩
          refine wpx_ok hS bk131 (sp := sp131) 60 29 _ _ _ _ ?_
          simp only [LCM, B2, Bool.not_eq_false, Bool.not_eq_true, decide_eq_true_eq, decide_eq_false_iff_not, Int.not_lt, Int.not_le, CST, TN, WX, WA, WB, GS, LOC, BT131, SP131, CLS, FLD, ARR, CD, true_and, and_true, and_self, forall_const, true_implies, false_implies, implies_true, not_true_eq_false, not_false_eq_true, if_true, if_false, rgI, rgL, scr, swl, lkl, cats, cat, is2, List.drop_succ_cons, List.drop_zero, List.drop_nil, List.cons_append, List.nil_append, Option.toList_some, Option.toList_none, List.length_cons, List.length_nil, ne_eq, Classical.not_not, reduceCtorEq, Nat.reduceAdd, Nat.reduceSub, Nat.reduceMul, Nat.reduceLT, Nat.reduceLeDiff, Nat.reduceEqDiff, Nat.reduceBEq, Int.reduceToNat, Int.reduceLE, Int.reduceLT, Int.reduceEq, Int.reduceNeg, Int.reduceAdd, Int.reduceSub, Int.reduceMul, Int.toNat_natCast, Nat.zero_add, Int.add_zero, Nat.add_zero, ite_true, ite_false, Option.some.injEq, Nat.le_refl, or_true, true_or, or_false, false_or, if_pos, reduceIte, Nat.reduceGT]
          refine ⟨by omega, by omega, by omega, fun h3 => by omega, fun h3 => ?_⟩
          refine ⟨rcv_ok rfl own130 rfl, kI (m_areUp x (d + k) M hW (by omega)) (Nat.le_of_ble_eq_true rfl) rfl rfl (Nat.le_of_ble_eq_true rfl) (Nat.le_of_ble_eq_true rfl) rfl ?_⟩
          refine wpx_ok hS bk131 (sp := sp131) 60 42 _ _ _ _ ?_
          simp only [LCM, B2, Bool.not_eq_false, Bool.not_eq_true, decide_eq_true_eq, decide_eq_false_iff_not, Int.not_lt, Int.not_le, CST, TN, WX, WA, WB, GS, LOC, BT131, SP131, CLS, FLD, ARR, CD, true_and, and_true, and_self, forall_const, true_implies, false_implies, implies_true, not_true_eq_false, not_false_eq_true, if_true, if_false, rgI, rgL, scr, swl, lkl, cats, cat, is2, List.drop_succ_cons, List.drop_zero, List.drop_nil, List.cons_append, List.nil_append, Option.toList_some, Option.toList_none, List.length_cons, List.length_nil, ne_eq, Classical.not_not, reduceCtorEq, Nat.reduceAdd, Nat.reduceSub, Nat.reduceMul, Nat.reduceLT, Nat.reduceLeDiff, Nat.reduceEqDiff, Nat.reduceBEq, Int.reduceToNat, Int.reduceLE, Int.reduceLT, Int.reduceEq, Int.reduceNeg, Int.reduceAdd, Int.reduceSub, Int.reduceMul, Int.toNat_natCast, Nat.zero_add, Int.add_zero, Nat.add_zero, ite_true, ite_false, Option.some.injEq, Nat.le_refl, or_true, true_or, or_false, false_or, if_pos, reduceIte, Nat.reduceGT]
          refine ⟨fun h4 => ?_, fun h4 => ?_⟩
          · rw [h4] at hf
            have := ih (k + 1) (by omega) hf
            rw [show d + ((k + 1 : Nat) : Int) = d + k + 1 by omega] at this
            exact this
          · rw [h4, if_pos rfl] at hf
            exact rt131 ⟨rfl, by unfold f_together; rw [if_pos ⟨h, h1⟩, ← hf]; rfl, rfl⟩
      have := head (PN M) 0 (by omega) rfl
      rw [show d + ((0 : Nat) : Int) = d by omega] at this
      exact this
    · exact rt131 ⟨rfl, by unfold f_together; rw [if_neg (fun z => by rw [h1] at z; exact absurd z.2 (by decide))], rfl⟩
theorem m_often (x d n : Int) (M : MM) (hW : WFt M) (hx : rgI x) (hd : rgL d) (hn : rgL n) : oL 5 132 [vR 55, vI x, vL d, vL n] M (f_often M x d n) := by
  have hP := hW.P
  refine go132 (fun S hS => ?_)
  refine wpx_ok hS bk132 (sp := sp132) 60 0 _ _ _ _ ?_
  simp only [LCM, B2, Bool.not_eq_false, Bool.not_eq_true, decide_eq_true_eq, decide_eq_false_iff_not, Int.not_lt, Int.not_le, CST, TN, WX, WA, WB, GS, LOC, BT132, SP132, CLS, FLD, ARR, CD, true_and, and_true, and_self, forall_const, true_implies, false_implies, implies_true, not_true_eq_false, not_false_eq_true, if_true, if_false, rgI, rgL, scr, swl, lkl, cats, cat, is2, List.drop_succ_cons, List.drop_zero, List.drop_nil, List.cons_append, List.nil_append, Option.toList_some, Option.toList_none, List.length_cons, List.length_nil, ne_eq, Classical.not_not, reduceCtorEq, Nat.reduceAdd, Nat.reduceSub, Nat.reduceMul, Nat.reduceLT, Nat.reduceLeDiff, Nat.reduceEqDiff, Nat.reduceBEq, Int.reduceToNat, Int.reduceLE, Int.reduceLT, Int.reduceEq, Int.reduceNeg, Int.reduceAdd, Int.reduceSub, Int.reduceMul, Int.toNat_natCast, Nat.zero_add, Int.add_zero, Nat.add_zero, ite_true, ite_false, Option.some.injEq, Nat.le_refl, or_true, true_or, or_false, false_or, if_pos, reduceIte, Nat.reduceGT]
  refine ⟨rcv_ok rfl own129 rfl, kI (m_isSet x M hW hx) (Nat.le_of_ble_eq_true rfl) rfl rfl (Nat.le_of_ble_eq_true rfl) (Nat.le_of_ble_eq_true rfl) rfl ?_⟩
  refine wpx_ok hS bk132 (sp := sp132) 60 5 _ _ _ _ ?_
  simp only [LCM, B2, Bool.not_eq_false, Bool.not_eq_true, decide_eq_true_eq, decide_eq_false_iff_not, Int.not_lt, Int.not_le, CST, TN, WX, WA, WB, GS, LOC, BT132, SP132, CLS, FLD, ARR, CD, true_and, and_true, and_self, forall_const, true_implies, false_implies, implies_true, not_true_eq_false, not_false_eq_true, if_true, if_false, rgI, rgL, scr, swl, lkl, cats, cat, is2, List.drop_succ_cons, List.drop_zero, List.drop_nil, List.cons_append, List.nil_append, Option.toList_some, Option.toList_none, List.length_cons, List.length_nil, ne_eq, Classical.not_not, reduceCtorEq, Nat.reduceAdd, Nat.reduceSub, Nat.reduceMul, Nat.reduceLT, Nat.reduceLeDiff, Nat.reduceEqDiff, Nat.reduceBEq, Int.reduceToNat, Int.reduceLE, Int.reduceLT, Int.reduceEq, Int.reduceNeg, Int.reduceAdd, Int.reduceSub, Int.reduceMul, Int.toNat_natCast, Nat.zero_add, Int.add_zero, Nat.add_zero, ite_true, ite_false, Option.some.injEq, Nat.le_refl, or_true, true_or, or_false, false_or, if_pos, reduceIte, Nat.reduceGT]
  refine ⟨fun h => ?_, fun h => ?_⟩
  · exact rt132 ⟨rfl, by unfold f_often; rw [if_neg (fun z => by rw [h] at z; exact absurd z.1 (by decide))], rfl⟩
  · refine kI (m_isDay d M hd) (Nat.le_of_ble_eq_true rfl) rfl rfl (Nat.le_of_ble_eq_true rfl) (Nat.le_of_ble_eq_true rfl) rfl ?_
    refine wpx_ok hS bk132 (sp := sp132) 60 12 _ _ _ _ ?_
    simp only [LCM, B2, Bool.not_eq_false, Bool.not_eq_true, decide_eq_true_eq, decide_eq_false_iff_not, Int.not_lt, Int.not_le, CST, TN, WX, WA, WB, GS, LOC, BT132, SP132, CLS, FLD, ARR, CD, true_and, and_true, and_self, forall_const, true_implies, false_implies, implies_true, not_true_eq_false, not_false_eq_true, if_true, if_false, rgI, rgL, scr, swl, lkl, cats, cat, is2, List.drop_succ_cons, List.drop_zero, List.drop_nil, List.cons_append, List.nil_append, Option.toList_some, Option.toList_none, List.length_cons, List.length_nil, ne_eq, Classical.not_not, reduceCtorEq, Nat.reduceAdd, Nat.reduceSub, Nat.reduceMul, Nat.reduceLT, Nat.reduceLeDiff, Nat.reduceEqDiff, Nat.reduceBEq, Int.reduceToNat, Int.reduceLE, Int.reduceLT, Int.reduceEq, Int.reduceNeg, Int.reduceAdd, Int.reduceSub, Int.reduceMul, Int.toNat_natCast, Nat.zero_add, Int.add_zero, Nat.add_zero, ite_true, ite_false, Option.some.injEq, Nat.le_refl, or_true, true_or, or_false, false_or, if_pos, reduceIte, Nat.reduceGT]
    refine ⟨fun h1 => ?_, fun h1 => ?_⟩
    · exact rt132 ⟨rfl, by unfold f_often; rw [if_neg (fun z => by rw [h1] at z; exact absurd z.2.1 (by decide))], rfl⟩
    · have h2 := isDayB_iff.mp h1
      refine kI (c_in n 0 1000000000000 M hn (by unfold rgL; omega) (by unfold rgL; omega)) (Nat.le_of_ble_eq_true rfl) rfl rfl (Nat.le_of_ble_eq_true rfl) (Nat.le_of_ble_eq_true rfl) rfl ?_
      refine wpx_ok hS bk132 (sp := sp132) 60 24 _ _ _ _ ?_
      simp only [LCM, B2, Bool.not_eq_false, Bool.not_eq_true, decide_eq_true_eq, decide_eq_false_iff_not, Int.not_lt, Int.not_le, CST, TN, WX, WA, WB, GS, LOC, BT132, SP132, CLS, FLD, ARR, CD, true_and, and_true, and_self, forall_const, true_implies, false_implies, implies_true, not_true_eq_false, not_false_eq_true, if_true, if_false, rgI, rgL, scr, swl, lkl, cats, cat, is2, List.drop_succ_cons, List.drop_zero, List.drop_nil, List.cons_append, List.nil_append, Option.toList_some, Option.toList_none, List.length_cons, List.length_nil, ne_eq, Classical.not_not, reduceCtorEq, Nat.reduceAdd, Nat.reduceSub, Nat.reduceMul, Nat.reduceLT, Nat.reduceLeDiff, Nat.reduceEqDiff, Nat.reduceBEq, Int.reduceToNat, Int.reduceLE, Int.reduceLT, Int.reduceEq, Int.reduceNeg, Int.reduceAdd, Int.reduceSub, Int.reduceMul, Int.toNat_natCast, Nat.zero_add, Int.add_zero, Nat.add_zero, ite_true, ite_false, Option.some.injEq, Nat.le_refl, or_true, true_or, or_false, false_or, if_pos, reduceIte, Nat.reduceGT]
      refine ⟨fun h3 => ?_, fun h3 => ?_⟩
      · have hd0 : 0 ≤ n / PN M := Int.ediv_nonneg h3.1 (by omega)
        have hd1 : n / PN M ≤ n := Int.ediv_le_self _ h3.1
        have hm0 := Int.emod_nonneg n (show (PN M : Int) ≠ 0 by omega)
        have hm1 := Int.emod_lt_of_pos n (show (0 : Int) < PN M by omega)
        generalize hwh : n / (PN M : Int) = wh at hd0 hd1
        generalize hre : n % (PN M : Int) = re at hm0 hm1
        obtain ⟨rn, rfl⟩ : ∃ rn : Nat, re = (rn : Int) := ⟨re.toNat, by omega⟩
        have cb : ∀ k, 0 ≤ cnt (fun k => auB M x (d + k)) k ∧ cnt (fun k => auB M x (d + k)) k ≤ k := fun k => cnt_rg _ k
        have head : ∀ (m k : Nat) (o13 : Option AV), k + m = PN M → S 57 [some (vR 55), some (vI x), some (vL d), none, some (vL n), none, some (vL wh), none, some (vL rn), none, some (vL (wh * cnt (fun k => auB M x (d + k)) k + cnt (fun k => auB M x (d + k)) (min k rn))), none, some (vI k), o13] [] (sh0, 0, 0) M := by
          intro m
          induction m with
          | zero =>
            intro k o13 hk
            refine wpx_ok hS bk132 (sp := sp132) 60 57 _ _ _ _ ?_
            simp only [LCM, B2, Bool.not_eq_false, Bool.not_eq_true, decide_eq_true_eq, decide_eq_false_iff_not, Int.not_lt, Int.not_le, CST, TN, WX, WA, WB, GS, LOC, BT132, SP132, CLS, FLD, ARR, CD, true_and, and_true, and_self, forall_const, true_implies, false_implies, implies_true, not_true_eq_false, not_false_eq_true, if_true, if_false, rgI, rgL, scr, swl, lkl, cats, cat, is2, List.drop_succ_cons, List.drop_zero, List.drop_nil, List.cons_append, List.nil_append, Option.toList_some, Option.toList_none, List.length_cons, List.length_nil, ne_eq, Classical.not_not, reduceCtorEq, Nat.reduceAdd, Nat.reduceSub, Nat.reduceMul, Nat.reduceLT, Nat.reduceLeDiff, Nat.reduceEqDiff, Nat.reduceBEq, Int.reduceToNat, Int.reduceLE, Int.reduceLT, Int.reduceEq, Int.reduceNeg, Int.reduceAdd, Int.reduceSub, Int.reduceMul, Int.toNat_natCast, Nat.zero_add, Int.add_zero, Nat.add_zero, ite_true, ite_false, Option.some.injEq, Nat.le_refl, or_true, true_or, or_false, false_or, if_pos, reduceIte, Nat.reduceGT]
            refine ⟨rcv_ok rfl own119 rfl, kI (m_period M hW) (Nat.le_of_ble_eq_true rfl) rfl rfl (Nat.le_of_ble_eq_true rfl) (Nat.le_of_ble_eq_true rfl) rfl ?_⟩
            refine wpx_ok hS bk132 (sp := sp132) 60 63 _ _ _ _ ?_
            simp only [LCM, B2, Bool.not_eq_false, Bool.not_eq_true, decide_eq_true_eq, decide_eq_false_iff_not, Int.not_lt, Int.not_le, CST, TN, WX, WA, WB, GS, LOC, BT132, SP132, CLS, FLD, ARR, CD, true_and, and_true, and_self, forall_const, true_implies, false_implies, implies_true, not_true_eq_false, not_false_eq_true, if_true, if_false, rgI, rgL, scr, swl, lkl, cats, cat, is2, List.drop_succ_cons, List.drop_zero, List.drop_nil, List.cons_append, List.nil_append, Option.toList_some, Option.toList_none, List.length_cons, List.length_nil, ne_eq, Classical.not_not, reduceCtorEq, Nat.reduceAdd, Nat.reduceSub, Nat.reduceMul, Nat.reduceLT, Nat.reduceLeDiff, Nat.reduceEqDiff, Nat.reduceBEq, Int.reduceToNat, Int.reduceLE, Int.reduceLT, Int.reduceEq, Int.reduceNeg, Int.reduceAdd, Int.reduceSub, Int.reduceMul, Int.toNat_natCast, Nat.zero_add, Int.add_zero, Nat.add_zero, ite_true, ite_false, Option.some.injEq, Nat.le_refl, or_true, true_or, or_false, false_or, if_pos, reduceIte, Nat.reduceGT]
            refine ⟨by omega, fun h4 => ?_, fun h4 => by omega⟩
            refine rt132 ⟨rfl, ?_, rfl⟩
            unfold f_often
            rw [if_pos ⟨h, h1, h3⟩, hwh, hre, Int.toNat_natCast, show k = PN M by omega, show min (PN M) rn = rn by omega]
          | succ m ih =>
            intro k o13 hk
            have ih2 := fun o => ih (k + 1) o (by omega)
            have ek : cnt (fun k => auB M x (d + k)) (k + 1) = cnt (fun k => auB M x (d + k)) k + b2i (auB M x (d + k)) := rfl
            have em : cnt (fun k => auB M x (d + k)) (min (k + 1) rn) = cnt (fun k => auB M x (d + k)) (min k rn) + (if k < rn then b2i (auB M x (d + k)) else 0) := by
              by_cases hkr : k < rn
              · rw [if_pos hkr, show min (k + 1) rn = k + 1 by omega, show min k rn = k by omega]
                rfl
              · rw [if_neg hkr, show min (k + 1) rn = min k rn by omega]
                omega
            refine wpx_ok hS bk132 (sp := sp132) 60 57 _ _ _ _ ?_
            simp only [LCM, B2, Bool.not_eq_false, Bool.not_eq_true, decide_eq_true_eq, decide_eq_false_iff_not, Int.not_lt, Int.not_le, CST, TN, WX, WA, WB, GS, LOC, BT132, SP132, CLS, FLD, ARR, CD, true_and, and_true, and_self, forall_const, true_implies, false_implies, implies_true, not_true_eq_false, not_false_eq_true, if_true, if_false, rgI, rgL, scr, swl, lkl, cats, cat, is2, List.drop_succ_cons, List.drop_zero, List.drop_nil, List.cons_append, List.nil_append, Option.toList_some, Option.toList_none, List.length_cons, List.length_nil, ne_eq, Classical.not_not, reduceCtorEq, Nat.reduceAdd, Nat.reduceSub, Nat.reduceMul, Nat.reduceLT, Nat.reduceLeDiff, Nat.reduceEqDiff, Nat.reduceBEq, Int.reduceToNat, Int.reduceLE, Int.reduceLT, Int.reduceEq, Int.reduceNeg, Int.reduceAdd, Int.reduceSub, Int.reduceMul, Int.toNat_natCast, Nat.zero_add, Int.add_zero, Nat.add_zero, ite_true, ite_false, Option.some.injEq, Nat.le_refl, or_true, true_or, or_false, false_or, if_pos, reduceIte, Nat.reduceGT]
            refine ⟨rcv_ok rfl own119 rfl, kI (m_period M hW) (Nat.le_of_ble_eq_true rfl) rfl rfl (Nat.le_of_ble_eq_true rfl) (Nat.le_of_ble_eq_true rfl) rfl ?_⟩
            refine wpx_ok hS bk132 (sp := sp132) 60 63 _ _ _ _ ?_
            simp only [LCM, B2, Bool.not_eq_false, Bool.not_eq_true, decide_eq_true_eq, decide_eq_false_iff_not, Int.not_lt, Int.not_le, CST, TN, WX, WA, WB, GS, LOC, BT132, SP132, CLS, FLD, ARR, CD, true_and, and_true, and_self, forall_const, true_implies, false_implies, implies_true, not_true_eq_false, not_false_eq_true, if_true, if_false, rgI, rgL, scr, swl, lkl, cats, cat, is2, List.drop_succ_cons, List.drop_zero, List.drop_nil, List.cons_append, List.nil_append, Option.toList_some, Option.toList_none, List.length_cons, List.length_nil, ne_eq, Classical.not_not, reduceCtorEq, Nat.reduceAdd, Nat.reduceSub, Nat.reduceMul, Nat.reduceLT, Nat.reduceLeDiff, Nat.reduceEqDiff, Nat.reduceBEq, Int.reduceToNat, Int.reduceLE, Int.reduceLT, Int.reduceEq, Int.reduceNeg, Int.reduceAdd, Int.reduceSub, Int.reduceMul, Int.toNat_natCast, Nat.zero_add, Int.add_zero, Nat.add_zero, ite_true, ite_false, Option.some.injEq, Nat.le_refl, or_true, true_or, or_false, false_or, if_pos, reduceIte, Nat.reduceGT]
            refine ⟨by omega, fun h4 => by omega, fun h4 => ⟨by omega, ?_⟩⟩
            refine ⟨rcv_ok rfl own130 rfl, kI (m_areUp x (d + k) M hW (by omega)) (Nat.le_of_ble_eq_true rfl) rfl rfl (Nat.le_of_ble_eq_true rfl) (Nat.le_of_ble_eq_true rfl) rfl ?_⟩
            refine wpx_ok hS bk132 (sp := sp132) 60 76 _ _ _ _ ?_
            simp only [LCM, B2, Bool.not_eq_false, Bool.not_eq_true, decide_eq_true_eq, decide_eq_false_iff_not, Int.not_lt, Int.not_le, CST, TN, WX, WA, WB, GS, LOC, BT132, SP132, CLS, FLD, ARR, CD, true_and, and_true, and_self, forall_const, true_implies, false_implies, implies_true, not_true_eq_false, not_false_eq_true, if_true, if_false, rgI, rgL, scr, swl, lkl, cats, cat, is2, List.drop_succ_cons, List.drop_zero, List.drop_nil, List.cons_append, List.nil_append, Option.toList_some, Option.toList_none, List.length_cons, List.length_nil, ne_eq, Classical.not_not, reduceCtorEq, Nat.reduceAdd, Nat.reduceSub, Nat.reduceMul, Nat.reduceLT, Nat.reduceLeDiff, Nat.reduceEqDiff, Nat.reduceBEq, Int.reduceToNat, Int.reduceLE, Int.reduceLT, Int.reduceEq, Int.reduceNeg, Int.reduceAdd, Int.reduceSub, Int.reduceMul, Int.toNat_natCast, Nat.zero_add, Int.add_zero, Nat.add_zero, ite_true, ite_false, Option.some.injEq, Nat.le_refl, or_true, true_or, or_false, false_or, if_pos, reduceIte, Nat.reduceGT]
            refine ⟨fun h5 => ?_, fun h5 => ?_⟩
            · refine ⟨fun _ => ?_, fun h6 => absurd h6 (by rw [h5]; decide)⟩
              have := ih2 (some (vI (b2i (auB M x (d + k)))))
              rw [ek, em, h5] at this
              simp only [show b2i false = 0 from rfl, ite_self, Int.add_zero] at this
              rw [h5]
              exact this
            · refine ⟨fun h6 => absurd h6 (by rw [h5]; decide), fun _ => ⟨by omega, by omega, by omega, fun h7 => ?_, fun h7 => ?_⟩⟩
              · have := ih2 (some (vI (b2i (auB M x (d + k)))))
                rw [ek, em, h5, if_neg (by omega)] at this
                rw [h5]
                rw [show wh * (cnt (fun k => auB M x (d + k)) k + b2i true) + (cnt (fun k => auB M x (d + k)) (min k rn) + 0) = wh * cnt (fun k => auB M x (d + k)) k + cnt (fun k => auB M x (d + k)) (min k rn) + wh by rw [show b2i true = 1 from rfl, Int.mul_add]; omega] at this
                exact this
              · have := ih2 (some (vI (b2i (auB M x (d + k)))))
                rw [ek, em, h5, if_pos (by omega)] at this
                rw [h5]
                rw [show wh * (cnt (fun k => auB M x (d + k)) k + b2i true) + (cnt (fun k => auB M x (d + k)) (min k rn) + b2i true) = wh * cnt (fun k => auB M x (d + k)) k + cnt (fun k => auB M x (d + k)) (min k rn) + wh + 1 by rw [show b2i true = 1 from rfl, Int.mul_add]; omega] at this
                exact this
        refine ⟨rcv_ok rfl own119 rfl, kI (m_period M hW) (Nat.le_of_ble_eq_true rfl) rfl rfl (Nat.le_of_ble_eq_true rfl) (Nat.le_of_ble_eq_true rfl) rfl ?_⟩
        refine wpx_ok hS bk132 (sp := sp132) 60 37 _ _ _ _ ?_
        simp only [LCM, B2, Bool.not_eq_false, Bool.not_eq_true, decide_eq_true_eq, decide_eq_false_iff_not, Int.not_lt, Int.not_le, CST, TN, WX, WA, WB, GS, LOC, BT132, SP132, CLS, FLD, ARR, CD, true_and, and_true, and_self, forall_const, true_implies, false_implies, implies_true, not_true_eq_false, not_false_eq_true, if_true, if_false, rgI, rgL, scr, swl, lkl, cats, cat, is2, List.drop_succ_cons, List.drop_zero, List.drop_nil, List.cons_append, List.nil_append, Option.toList_some, Option.toList_none, List.length_cons, List.length_nil, ne_eq, Classical.not_not, reduceCtorEq, Nat.reduceAdd, Nat.reduceSub, Nat.reduceMul, Nat.reduceLT, Nat.reduceLeDiff, Nat.reduceEqDiff, Nat.reduceBEq, Int.reduceToNat, Int.reduceLE, Int.reduceLT, Int.reduceEq, Int.reduceNeg, Int.reduceAdd, Int.reduceSub, Int.reduceMul, Int.toNat_natCast, Nat.zero_add, Int.add_zero, Nat.add_zero, ite_true, ite_false, Option.some.injEq, Nat.le_refl, or_true, true_or, or_false, false_or, if_pos, reduceIte, Nat.reduceGT]
        refine ⟨by omega, by omega, ?_⟩
        refine ⟨rcv_ok rfl own119 rfl, kI (m_period M hW) (Nat.le_of_ble_eq_true rfl) rfl rfl (Nat.le_of_ble_eq_true rfl) (Nat.le_of_ble_eq_true rfl) rfl ?_⟩
        refine wpx_ok hS bk132 (sp := sp132) 60 47 _ _ _ _ ?_
        simp only [LCM, B2, Bool.not_eq_false, Bool.not_eq_true, decide_eq_true_eq, decide_eq_false_iff_not, Int.not_lt, Int.not_le, CST, TN, WX, WA, WB, GS, LOC, BT132, SP132, CLS, FLD, ARR, CD, true_and, and_true, and_self, forall_const, true_implies, false_implies, implies_true, not_true_eq_false, not_false_eq_true, if_true, if_false, rgI, rgL, scr, swl, lkl, cats, cat, is2, List.drop_succ_cons, List.drop_zero, List.drop_nil, List.cons_append, List.nil_append, Option.toList_some, Option.toList_none, List.length_cons, List.length_nil, ne_eq, Classical.not_not, reduceCtorEq, Nat.reduceAdd, Nat.reduceSub, Nat.reduceMul, Nat.reduceLT, Nat.reduceLeDiff, Nat.reduceEqDiff, Nat.reduceBEq, Int.reduceToNat, Int.reduceLE, Int.reduceLT, Int.reduceEq, Int.reduceNeg, Int.reduceAdd, Int.reduceSub, Int.reduceMul, Int.toNat_natCast, Nat.zero_add, Int.add_zero, Nat.add_zero, ite_true, ite_false, Option.some.injEq, Nat.le_refl, or_true, true_or, or_false, false_or, if_pos, reduceIte, Nat.reduceGT]
        refine ⟨by omega, by omega, ?_⟩
        rw [hwh, hre]
        have := head (PN M) 0 none (by omega)
        rw [show min 0 rn = 0 by omega, show cnt (fun k => auB M x (d + k)) 0 = 0 from rfl, Int.mul_zero, Int.add_zero] at this
        exact this
      · exact rt132 ⟨rfl, by unfold f_often; rw [if_neg (fun z => h3 z.2.2)], rfl⟩
theorem lgW_rg (T : MM) (x : Int) : ∀ d : Nat, 0 ≤ lgW T x d ∧ lgW T x d ≤ d
  | 0 => by simp [lgW]
  | d + 1 => by
    have := lgW_rg T x d
    rw [lgW]
    split <;> omega
theorem lgM_rg (T : MM) (x : Int) : ∀ d : Nat, 0 ≤ lgM T x d ∧ lgM T x d ≤ d
  | 0 => by simp [lgM]
  | d + 1 => by
    have := lgM_rg T x d
    have := lgW_rg T x (d + 1)
    rw [lgM]
    split <;> omega
theorem m_longest (x : Int) (M : MM) (hW : WFt M) (hx : rgI x) : oI 5 133 [vR 55, vI x] M (f_longest M x) := by
  have hP := hW.P
  refine go133 (fun S hS => ?_)
  refine wpx_ok hS bk133 (sp := sp133) 60 0 _ _ _ _ ?_
  simp only [LCM, B2, Bool.not_eq_false, Bool.not_eq_true, decide_eq_true_eq, decide_eq_false_iff_not, Int.not_lt, Int.not_le, CST, TN, WX, WA, WB, GS, LOC, BT133, SP133, CLS, FLD, ARR, CD, true_and, and_true, and_self, forall_const, true_implies, false_implies, implies_true, not_true_eq_false, not_false_eq_true, if_true, if_false, rgI, rgL, scr, swl, lkl, cats, cat, is2, List.drop_succ_cons, List.drop_zero, List.drop_nil, List.cons_append, List.nil_append, Option.toList_some, Option.toList_none, List.length_cons, List.length_nil, ne_eq, Classical.not_not, reduceCtorEq, Nat.reduceAdd, Nat.reduceSub, Nat.reduceMul, Nat.reduceLT, Nat.reduceLeDiff, Nat.reduceEqDiff, Nat.reduceBEq, Int.reduceToNat, Int.reduceLE, Int.reduceLT, Int.reduceEq, Int.reduceNeg, Int.reduceAdd, Int.reduceSub, Int.reduceMul, Int.toNat_natCast, Nat.zero_add, Int.add_zero, Nat.add_zero, ite_true, ite_false, Option.some.injEq, Nat.le_refl, or_true, true_or, or_false, false_or, if_pos, reduceIte, Nat.reduceGT]
  refine ⟨rcv_ok rfl own129 rfl, kI (m_isSet x M hW hx) (Nat.le_of_ble_eq_true rfl) rfl rfl (Nat.le_of_ble_eq_true rfl) (Nat.le_of_ble_eq_true rfl) rfl ?_⟩
  refine wpx_ok hS bk133 (sp := sp133) 60 5 _ _ _ _ ?_
  simp only [LCM, B2, Bool.not_eq_false, Bool.not_eq_true, decide_eq_true_eq, decide_eq_false_iff_not, Int.not_lt, Int.not_le, CST, TN, WX, WA, WB, GS, LOC, BT133, SP133, CLS, FLD, ARR, CD, true_and, and_true, and_self, forall_const, true_implies, false_implies, implies_true, not_true_eq_false, not_false_eq_true, if_true, if_false, rgI, rgL, scr, swl, lkl, cats, cat, is2, List.drop_succ_cons, List.drop_zero, List.drop_nil, List.cons_append, List.nil_append, Option.toList_some, Option.toList_none, List.length_cons, List.length_nil, ne_eq, Classical.not_not, reduceCtorEq, Nat.reduceAdd, Nat.reduceSub, Nat.reduceMul, Nat.reduceLT, Nat.reduceLeDiff, Nat.reduceEqDiff, Nat.reduceBEq, Int.reduceToNat, Int.reduceLE, Int.reduceLT, Int.reduceEq, Int.reduceNeg, Int.reduceAdd, Int.reduceSub, Int.reduceMul, Int.toNat_natCast, Nat.zero_add, Int.add_zero, Nat.add_zero, ite_true, ite_false, Option.some.injEq, Nat.le_refl, or_true, true_or, or_false, false_or, if_pos, reduceIte, Nat.reduceGT]
  refine ⟨fun h => ?_, fun h => ?_⟩
  · have head : ∀ (m d : Nat) (o6 : Option AV), d + m = 2 * PN M → S 20 [some (vR 55), some (vI x), some (vI (lgM M x d)), some (vI (lgW M x d)), some (vI (b2i (lgE M x d))), some (vI d), o6] [] (sh0, 0, 0) M := by
      intro m
      induction m with
      | zero =>
        intro d o6 hd
        refine wpx_ok hS bk133 (sp := sp133) 60 20 _ _ _ _ ?_
        simp only [LCM, B2, Bool.not_eq_false, Bool.not_eq_true, decide_eq_true_eq, decide_eq_false_iff_not, Int.not_lt, Int.not_le, CST, TN, WX, WA, WB, GS, LOC, BT133, SP133, CLS, FLD, ARR, CD, true_and, and_true, and_self, forall_const, true_implies, false_implies, implies_true, not_true_eq_false, not_false_eq_true, if_true, if_false, rgI, rgL, scr, swl, lkl, cats, cat, is2, List.drop_succ_cons, List.drop_zero, List.drop_nil, List.cons_append, List.nil_append, Option.toList_some, Option.toList_none, List.length_cons, List.length_nil, ne_eq, Classical.not_not, reduceCtorEq, Nat.reduceAdd, Nat.reduceSub, Nat.reduceMul, Nat.reduceLT, Nat.reduceLeDiff, Nat.reduceEqDiff, Nat.reduceBEq, Int.reduceToNat, Int.reduceLE, Int.reduceLT, Int.reduceEq, Int.reduceNeg, Int.reduceAdd, Int.reduceSub, Int.reduceMul, Int.toNat_natCast, Nat.zero_add, Int.add_zero, Nat.add_zero, ite_true, ite_false, Option.some.injEq, Nat.le_refl, or_true, true_or, or_false, false_or, if_pos, reduceIte, Nat.reduceGT]
        refine ⟨rcv_ok rfl own119 rfl, kI (m_period M hW) (Nat.le_of_ble_eq_true rfl) rfl rfl (Nat.le_of_ble_eq_true rfl) (Nat.le_of_ble_eq_true rfl) rfl ?_⟩
        refine wpx_ok hS bk133 (sp := sp133) 60 27 _ _ _ _ ?_
        simp only [LCM, B2, Bool.not_eq_false, Bool.not_eq_true, decide_eq_true_eq, decide_eq_false_iff_not, Int.not_lt, Int.not_le, CST, TN, WX, WA, WB, GS, LOC, BT133, SP133, CLS, FLD, ARR, CD, true_and, and_true, and_self, forall_const, true_implies, false_implies, implies_true, not_true_eq_false, not_false_eq_true, if_true, if_false, rgI, rgL, scr, swl, lkl, cats, cat, is2, List.drop_succ_cons, List.drop_zero, List.drop_nil, List.cons_append, List.nil_append, Option.toList_some, Option.toList_none, List.length_cons, List.length_nil, ne_eq, Classical.not_not, reduceCtorEq, Nat.reduceAdd, Nat.reduceSub, Nat.reduceMul, Nat.reduceLT, Nat.reduceLeDiff, Nat.reduceEqDiff, Nat.reduceBEq, Int.reduceToNat, Int.reduceLE, Int.reduceLT, Int.reduceEq, Int.reduceNeg, Int.reduceAdd, Int.reduceSub, Int.reduceMul, Int.toNat_natCast, Nat.zero_add, Int.add_zero, Nat.add_zero, ite_true, ite_false, Option.some.injEq, Nat.le_refl, or_true, true_or, or_false, false_or, if_pos, reduceIte, Nat.reduceGT]
        refine ⟨by omega, fun h1 => ⟨fun h2 => ?_, fun h2 => ?_⟩, fun h1 => by omega⟩
        · exact rt133 ⟨rfl, by unfold f_longest; rw [h, if_pos rfl, show 2 * PN M = d by omega, h2]; rfl, rfl⟩
        · exact rt133 ⟨rfl, by unfold f_longest; rw [h, if_pos rfl, show 2 * PN M = d by omega, h2]; rfl, rfl⟩
      | succ m ih =>
        intro d o6 hd
        have r0 := lgW_rg M x d
        have r1 := lgW_rg M x (d + 1)
        have r2 := lgM_rg M x d
        have e1 : lgW M x (d + 1) = if auB M x d then 0 else lgW M x d + 1 := rfl
        have e2 : lgM M x (d + 1) = if lgM M x d < lgW M x (d + 1) then lgW M x (d + 1) else lgM M x d := rfl
        have e3 : lgE M x (d + 1) = (lgE M x d || auB M x d) := rfl
        have ih2 := ih (d + 1) (some (vI (b2i (auB M x d)))) (by omega)
        have fin : S 70 [some (vR 55), some (vI x), some (vI (lgM M x d)), some (vI (lgW M x d)), some (vI (b2i (lgE M x (d + 1)))), some (vI d), some (vI (b2i (auB M x d)))] [vI (lgW M x (d + 1))] (sh0, 0, 0) M := by
          refine wpx_ok hS bk133 (sp := sp133) 60 70 _ _ _ _ ?_
          simp only [LCM, B2, Bool.not_eq_false, Bool.not_eq_true, decide_eq_true_eq, decide_eq_false_iff_not, Int.not_lt, Int.not_le, CST, TN, WX, WA, WB, GS, LOC, BT133, SP133, CLS, FLD, ARR, CD, true_and, and_true, and_self, forall_const, true_implies, false_implies, implies_true, not_true_eq_false, not_false_eq_true, if_true, if_false, rgI, rgL, scr, swl, lkl, cats, cat, is2, List.drop_succ_cons, List.drop_zero, List.drop_nil, List.cons_append, List.nil_append, Option.toList_some, Option.toList_none, List.length_cons, List.length_nil, ne_eq, Classical.not_not, reduceCtorEq, Nat.reduceAdd, Nat.reduceSub, Nat.reduceMul, Nat.reduceLT, Nat.reduceLeDiff, Nat.reduceEqDiff, Nat.reduceBEq, Int.reduceToNat, Int.reduceLE, Int.reduceLT, Int.reduceEq, Int.reduceNeg, Int.reduceAdd, Int.reduceSub, Int.reduceMul, Int.toNat_natCast, Nat.zero_add, Int.add_zero, Nat.add_zero, ite_true, ite_false, Option.some.injEq, Nat.le_refl, or_true, true_or, or_false, false_or, if_pos, reduceIte, Nat.reduceGT]
          refine ⟨by omega, fun h1 => ?_, fun h1 => ?_⟩
          · rw [if_neg (by omega)] at e2
            rw [e2] at ih2
            exact ih2
          · rw [if_pos (by omega)] at e2
            rw [e2] at ih2
            exact ih2
        have mid : S 56 [some (vR 55), some (vI x), some (vI (lgM M x d)), some (vI (lgW M x d)), some (vI (b2i (lgE M x d))), some (vI d), some (vI (b2i (auB M x d)))] [vI (b2i (lgE M x (d + 1)))] (sh0, 0, 0) M := by
          refine wpx_ok hS bk133 (sp := (fun t => sp133 t || t == 70)) 60 56 _ _ _ _ ?_
          simp only [LCM, B2, Bool.not_eq_false, Bool.not_eq_true, decide_eq_true_eq, decide_eq_false_iff_not, Int.not_lt, Int.not_le, CST, TN, WX, WA, WB, GS, LOC, BT133, SP133, CLS, FLD, ARR, CD, true_and, and_true, and_self, forall_const, true_implies, false_implies, implies_true, not_true_eq_false, not_false_eq_true, if_true, if_false, rgI, rgL, scr, swl, lkl, cats, cat, is2, List.drop_succ_cons, List.drop_zero, List.drop_nil, List.cons_append, List.nil_append, Option.toList_some, Option.toList_none, List.length_cons, List.length_nil, ne_eq, Classical.not_not, reduceCtorEq, Nat.reduceAdd, Nat.reduceSub, Nat.reduceMul, Nat.reduceLT, Nat.reduceLeDiff, Nat.reduceEqDiff, Nat.reduceBEq, Int.reduceToNat, Int.reduceLE, Int.reduceLT, Int.reduceEq, Int.reduceNeg, Int.reduceAdd, Int.reduceSub, Int.reduceMul, Int.toNat_natCast, Nat.zero_add, Int.add_zero, Nat.add_zero, ite_true, ite_false, Option.some.injEq, Nat.le_refl, or_true, true_or, or_false, false_or, if_pos, reduceIte, Nat.reduceGT, Bool.or_false, Bool.false_or, Bool.or_true, Bool.true_or, beq_self_eq_true, Nat.reduceBEq]
          refine ⟨fun h1 => ?_, fun h1 => ?_⟩
          · rw [h1] at e1
            rw [show lgW M x (d + 1) = lgW M x d + 1 from e1] at fin
            exact fin
          · rw [h1, if_pos rfl] at e1
            rw [e1] at fin
            exact fin
        refine wpx_ok hS bk133 (sp := sp133) 60 20 _ _ _ _ ?_
        simp only [LCM, B2, Bool.not_eq_false, Bool.not_eq_true, decide_eq_true_eq, decide_eq_false_iff_not, Int.not_lt, Int.not_le, CST, TN, WX, WA, WB, GS, LOC, BT133, SP133, CLS, FLD, ARR, CD, true_and, and_true, and_self, forall_const, true_implies, false_implies, implies_true, not_true_eq_false, not_false_eq_true, if_true, if_false, rgI, rgL, scr, swl, lkl, cats, cat, is2, List.drop_succ_cons, List.drop_zero, List.drop_nil, List.cons_append, List.nil_append, Option.toList_some, Option.toList_none, List.length_cons, List.length_nil, ne_eq, Classical.not_not, reduceCtorEq, Nat.reduceAdd, Nat.reduceSub, Nat.reduceMul, Nat.reduceLT, Nat.reduceLeDiff, Nat.reduceEqDiff, Nat.reduceBEq, Int.reduceToNat, Int.reduceLE, Int.reduceLT, Int.reduceEq, Int.reduceNeg, Int.reduceAdd, Int.reduceSub, Int.reduceMul, Int.toNat_natCast, Nat.zero_add, Int.add_zero, Nat.add_zero, ite_true, ite_false, Option.some.injEq, Nat.le_refl, or_true, true_or, or_false, false_or, if_pos, reduceIte, Nat.reduceGT]
        refine ⟨rcv_ok rfl own119 rfl, kI (m_period M hW) (Nat.le_of_ble_eq_true rfl) rfl rfl (Nat.le_of_ble_eq_true rfl) (Nat.le_of_ble_eq_true rfl) rfl ?_⟩
        refine wpx_ok hS bk133 (sp := sp133) 60 27 _ _ _ _ ?_
        simp only [LCM, B2, Bool.not_eq_false, Bool.not_eq_true, decide_eq_true_eq, decide_eq_false_iff_not, Int.not_lt, Int.not_le, CST, TN, WX, WA, WB, GS, LOC, BT133, SP133, CLS, FLD, ARR, CD, true_and, and_true, and_self, forall_const, true_implies, false_implies, implies_true, not_true_eq_false, not_false_eq_true, if_true, if_false, rgI, rgL, scr, swl, lkl, cats, cat, is2, List.drop_succ_cons, List.drop_zero, List.drop_nil, List.cons_append, List.nil_append, Option.toList_some, Option.toList_none, List.length_cons, List.length_nil, ne_eq, Classical.not_not, reduceCtorEq, Nat.reduceAdd, Nat.reduceSub, Nat.reduceMul, Nat.reduceLT, Nat.reduceLeDiff, Nat.reduceEqDiff, Nat.reduceBEq, Int.reduceToNat, Int.reduceLE, Int.reduceLT, Int.reduceEq, Int.reduceNeg, Int.reduceAdd, Int.reduceSub, Int.reduceMul, Int.toNat_natCast, Nat.zero_add, Int.add_zero, Nat.add_zero, ite_true, ite_false, Option.some.injEq, Nat.le_refl, or_true, true_or, or_false, false_or, if_pos, reduceIte, Nat.reduceGT]
        refine ⟨by omega, fun h1 => by omega, fun h1 => ⟨by omega, ?_⟩⟩
        refine ⟨rcv_ok rfl own130 rfl, kI (m_areUp x d M hW (by omega)) (Nat.le_of_ble_eq_true rfl) rfl rfl (Nat.le_of_ble_eq_true rfl) (Nat.le_of_ble_eq_true rfl) rfl ?_⟩
        refine wpx_ok hS bk133 (sp := (fun t => sp133 t || t == 56)) 60 39 _ _ _ _ ?_
        simp only [LCM, B2, Bool.not_eq_false, Bool.not_eq_true, decide_eq_true_eq, decide_eq_false_iff_not, Int.not_lt, Int.not_le, CST, TN, WX, WA, WB, GS, LOC, BT133, SP133, CLS, FLD, ARR, CD, true_and, and_true, and_self, forall_const, true_implies, false_implies, implies_true, not_true_eq_false, not_false_eq_true, if_true, if_false, rgI, rgL, scr, swl, lkl, cats, cat, is2, List.drop_succ_cons, List.drop_zero, List.drop_nil, List.cons_append, List.nil_append, Option.toList_some, Option.toList_none, List.length_cons, List.length_nil, ne_eq, Classical.not_not, reduceCtorEq, Nat.reduceAdd, Nat.reduceSub, Nat.reduceMul, Nat.reduceLT, Nat.reduceLeDiff, Nat.reduceEqDiff, Nat.reduceBEq, Int.reduceToNat, Int.reduceLE, Int.reduceLT, Int.reduceEq, Int.reduceNeg, Int.reduceAdd, Int.reduceSub, Int.reduceMul, Int.toNat_natCast, Nat.zero_add, Int.add_zero, Nat.add_zero, ite_true, ite_false, Option.some.injEq, Nat.le_refl, or_true, true_or, or_false, false_or, if_pos, reduceIte, Nat.reduceGT, Bool.or_false, Bool.false_or, Bool.or_true, Bool.true_or, beq_self_eq_true, Nat.reduceBEq]
        refine ⟨fun h1 => ?_, fun h1 => ⟨fun h2 => ?_, fun h2 => ?_⟩⟩
        · rw [show b2i (lgE M x (d + 1)) = 1 by rw [e3, h1]; rfl] at mid
          exact mid
        · rw [show b2i (lgE M x (d + 1)) = 0 by rw [e3, h1, h2]; rfl] at mid
          exact mid
        · rw [show b2i (lgE M x (d + 1)) = 1 by rw [e3, h1, h2]; rfl] at mid
          exact mid
    exact head (2 * PN M) 0 none (by omega)
  · exact rt133 ⟨rfl, by unfold f_longest; rw [h]; rfl, rfl⟩
end
