section
-- ===== PART A: goes FIRST, ahead of the names: the tables' words, and 'selects' of the private methods out of them =====
/-- a private method of a class that the tables say can be made, by its rows of tables_1 -/
def lw_okq (q : MethodName × Nat) : Prop := (q.1.cls ≠ "java/lang/invoke/MethodHandle" ∧ q.1.cls ≠ "java/lang/invoke/VarHandle") ∧ Cond.instantiable q.1.cls q.2 ∈ tables_1 ∧ Cond.privateMethod q.1 ∈ tables_1 ∧ Cond.instanceMethod q.1 ∈ tables_1
theorem lw_p0 : lw_okq (⟨"OwnSunday$Reader", "readNumbers", "([BII)I"⟩, 2) := ⟨⟨by decide +kernel, by decide +kernel⟩, List.mem_of_getElem? (i := 21) (by decide +kernel), List.mem_of_getElem? (i := 268) (by decide +kernel), List.mem_of_getElem? (i := 269) (by decide +kernel)⟩
theorem lw_p1 : lw_okq (⟨"OwnSunday$Reader", "take", "(IILOwnSunday$Town;LOwnSunday$Book;)Z"⟩, 2) := ⟨⟨by decide +kernel, by decide +kernel⟩, List.mem_of_getElem? (i := 21) (by decide +kernel), List.mem_of_getElem? (i := 278) (by decide +kernel), List.mem_of_getElem? (i := 279) (by decide +kernel)⟩
theorem lw_p2 : lw_okq (⟨"OwnSunday$Reader", "takeWeeks", "(LOwnSunday$Town;)Z"⟩, 2) := ⟨⟨by decide +kernel, by decide +kernel⟩, List.mem_of_getElem? (i := 21) (by decide +kernel), List.mem_of_getElem? (i := 282) (by decide +kernel), List.mem_of_getElem? (i := 283) (by decide +kernel)⟩
theorem lw_p3 : lw_okq (⟨"OwnSunday$Reader", "takeHouse", "(ILOwnSunday$Town;LOwnSunday$Book;)Z"⟩, 2) := ⟨⟨by decide +kernel, by decide +kernel⟩, List.mem_of_getElem? (i := 21) (by decide +kernel), List.mem_of_getElem? (i := 289) (by decide +kernel), List.mem_of_getElem? (i := 290) (by decide +kernel)⟩
theorem lw_p4 : lw_okq (⟨"OwnSunday$Reader", "takeNew", "(LOwnSunday$Town;LOwnSunday$Book;)Z"⟩, 2) := ⟨⟨by decide +kernel, by decide +kernel⟩, List.mem_of_getElem? (i := 21) (by decide +kernel), List.mem_of_getElem? (i := 295) (by decide +kernel), List.mem_of_getElem? (i := 296) (by decide +kernel)⟩
theorem lw_p5 : lw_okq (⟨"OwnSunday$Reader", "takeWork", "(LOwnSunday$Town;)Z"⟩, 2) := ⟨⟨by decide +kernel, by decide +kernel⟩, List.mem_of_getElem? (i := 21) (by decide +kernel), List.mem_of_getElem? (i := 305) (by decide +kernel), List.mem_of_getElem? (i := 306) (by decide +kernel)⟩
theorem lw_p6 : lw_okq (⟨"OwnSunday$Reader", "takeCook", "(LOwnSunday$Town;)Z"⟩, 2) := ⟨⟨by decide +kernel, by decide +kernel⟩, List.mem_of_getElem? (i := 21) (by decide +kernel), List.mem_of_getElem? (i := 313) (by decide +kernel), List.mem_of_getElem? (i := 314) (by decide +kernel)⟩
theorem lw_p7 : lw_okq (⟨"OwnSunday$Reader", "placeOfWrongRest", "(LOwnSunday$Town;LOwnSunday$Book;)I"⟩, 2) := ⟨⟨by decide +kernel, by decide +kernel⟩, List.mem_of_getElem? (i := 21) (by decide +kernel), List.mem_of_getElem? (i := 317) (by decide +kernel), List.mem_of_getElem? (i := 318) (by decide +kernel)⟩
theorem lw_p8 : lw_okq (⟨"OwnSunday", "isHouse", "(I)Z"⟩, 12) := ⟨⟨by decide +kernel, by decide +kernel⟩, List.mem_of_getElem? (i := 13) (by decide +kernel), List.mem_of_getElem? (i := 329) (by decide +kernel), List.mem_of_getElem? (i := 330) (by decide +kernel)⟩
theorem lw_p9 : lw_okq (⟨"OwnSunday", "fillRota", "()V"⟩, 12) := ⟨⟨by decide +kernel, by decide +kernel⟩, List.mem_of_getElem? (i := 13) (by decide +kernel), List.mem_of_getElem? (i := 345) (by decide +kernel), List.mem_of_getElem? (i := 346) (by decide +kernel)⟩
theorem lw_p10 : lw_okq (⟨"OwnSunday", "upOn", "(J)I"⟩, 12) := ⟨⟨by decide +kernel, by decide +kernel⟩, List.mem_of_getElem? (i := 13) (by decide +kernel), List.mem_of_getElem? (i := 366) (by decide +kernel), List.mem_of_getElem? (i := 367) (by decide +kernel)⟩
theorem lw_p11 : lw_okq (⟨"OwnSunday", "handsOn", "(IJ)I"⟩, 12) := ⟨⟨by decide +kernel, by decide +kernel⟩, List.mem_of_getElem? (i := 13) (by decide +kernel), List.mem_of_getElem? (i := 381) (by decide +kernel), List.mem_of_getElem? (i := 382) (by decide +kernel)⟩
theorem lw_p12 : lw_okq (⟨"OwnSunday", "firstShort", "(I)I"⟩, 12) := ⟨⟨by decide +kernel, by decide +kernel⟩, List.mem_of_getElem? (i := 13) (by decide +kernel), List.mem_of_getElem? (i := 395) (by decide +kernel), List.mem_of_getElem? (i := 396) (by decide +kernel)⟩
theorem lw_p13 : lw_okq (⟨"OwnSunday", "isWork", "(I)Z"⟩, 12) := ⟨⟨by decide +kernel, by decide +kernel⟩, List.mem_of_getElem? (i := 13) (by decide +kernel), List.mem_of_getElem? (i := 409) (by decide +kernel), List.mem_of_getElem? (i := 410) (by decide +kernel)⟩
theorem lw_p14 : lw_okq (⟨"OwnSunday", "isSet", "(I)Z"⟩, 12) := ⟨⟨by decide +kernel, by decide +kernel⟩, List.mem_of_getElem? (i := 13) (by decide +kernel), List.mem_of_getElem? (i := 417) (by decide +kernel), List.mem_of_getElem? (i := 418) (by decide +kernel)⟩
theorem lw_p15 : lw_okq (⟨"OwnSunday", "allUp", "(IJ)Z"⟩, 12) := ⟨⟨by decide +kernel, by decide +kernel⟩, List.mem_of_getElem? (i := 13) (by decide +kernel), List.mem_of_getElem? (i := 421) (by decide +kernel), List.mem_of_getElem? (i := 422) (by decide +kernel)⟩
def lw_privs_1 : List (MethodName × Nat) := [(⟨"OwnSunday$Reader", "readNumbers", "([BII)I"⟩, 2), (⟨"OwnSunday$Reader", "take", "(IILOwnSunday$Town;LOwnSunday$Book;)Z"⟩, 2), (⟨"OwnSunday$Reader", "takeWeeks", "(LOwnSunday$Town;)Z"⟩, 2), (⟨"OwnSunday$Reader", "takeHouse", "(ILOwnSunday$Town;LOwnSunday$Book;)Z"⟩, 2), (⟨"OwnSunday$Reader", "takeNew", "(LOwnSunday$Town;LOwnSunday$Book;)Z"⟩, 2), (⟨"OwnSunday$Reader", "takeWork", "(LOwnSunday$Town;)Z"⟩, 2), (⟨"OwnSunday$Reader", "takeCook", "(LOwnSunday$Town;)Z"⟩, 2), (⟨"OwnSunday$Reader", "placeOfWrongRest", "(LOwnSunday$Town;LOwnSunday$Book;)I"⟩, 2), (⟨"OwnSunday", "isHouse", "(I)Z"⟩, 12), (⟨"OwnSunday", "fillRota", "()V"⟩, 12), (⟨"OwnSunday", "upOn", "(J)I"⟩, 12), (⟨"OwnSunday", "handsOn", "(IJ)I"⟩, 12), (⟨"OwnSunday", "firstShort", "(I)I"⟩, 12), (⟨"OwnSunday", "isWork", "(I)Z"⟩, 12), (⟨"OwnSunday", "isSet", "(I)Z"⟩, 12), (⟨"OwnSunday", "allUp", "(IJ)Z"⟩, 12)]
theorem lw_r1 : ∀ q ∈ lw_privs_1, lw_okq q := List.forall_mem_cons.mpr ⟨lw_p0, List.forall_mem_cons.mpr ⟨lw_p1, List.forall_mem_cons.mpr ⟨lw_p2, List.forall_mem_cons.mpr ⟨lw_p3, List.forall_mem_cons.mpr ⟨lw_p4, List.forall_mem_cons.mpr ⟨lw_p5, List.forall_mem_cons.mpr ⟨lw_p6, List.forall_mem_cons.mpr ⟨lw_p7, List.forall_mem_cons.mpr ⟨lw_p8, List.forall_mem_cons.mpr ⟨lw_p9, List.forall_mem_cons.mpr ⟨lw_p10, List.forall_mem_cons.mpr ⟨lw_p11, List.forall_mem_cons.mpr ⟨lw_p12, List.forall_mem_cons.mpr ⟨lw_p13, List.forall_mem_cons.mpr ⟨lw_p14, List.forall_mem_cons.mpr ⟨lw_p15, fun _ h => absurd h List.not_mem_nil⟩⟩⟩⟩⟩⟩⟩⟩⟩⟩⟩⟩⟩⟩⟩⟩
theorem lw_p16 : lw_okq (⟨"OwnSunday", "daysAllUp", "(IJI)I"⟩, 12) := ⟨⟨by decide +kernel, by decide +kernel⟩, List.mem_of_getElem? (i := 13) (by decide +kernel), List.mem_of_getElem? (i := 430) (by decide +kernel), List.mem_of_getElem? (i := 431) (by decide +kernel)⟩
theorem lw_p17 : lw_okq (⟨"OwnSunday$Rota", "mostOfWeek", "(III)I"⟩, 3) := ⟨⟨by decide +kernel, by decide +kernel⟩, List.mem_of_getElem? (i := 133) (by decide +kernel), List.mem_of_getElem? (i := 455) (by decide +kernel), List.mem_of_getElem? (i := 456) (by decide +kernel)⟩
theorem lw_p18 : lw_okq (⟨"OwnSunday", "firstDayResting", "(I)I"⟩, 12) := ⟨⟨by decide +kernel, by decide +kernel⟩, List.mem_of_getElem? (i := 13) (by decide +kernel), List.mem_of_getElem? (i := 460) (by decide +kernel), List.mem_of_getElem? (i := 461) (by decide +kernel)⟩
theorem lw_p19 : lw_okq (⟨"OwnSunday", "daysToDo", "(IJJ)I"⟩, 12) := ⟨⟨by decide +kernel, by decide +kernel⟩, List.mem_of_getElem? (i := 13) (by decide +kernel), List.mem_of_getElem? (i := 468) (by decide +kernel), List.mem_of_getElem? (i := 469) (by decide +kernel)⟩
theorem lw_p20 : lw_okq (⟨"OwnSunday", "isNewHouse", "(I)Z"⟩, 12) := ⟨⟨by decide +kernel, by decide +kernel⟩, List.mem_of_getElem? (i := 13) (by decide +kernel), List.mem_of_getElem? (i := 476) (by decide +kernel), List.mem_of_getElem? (i := 477) (by decide +kernel)⟩
theorem lw_p21 : lw_okq (⟨"OwnSunday", "goThroughSettled", "()V"⟩, 12) := ⟨⟨by decide +kernel, by decide +kernel⟩, List.mem_of_getElem? (i := 13) (by decide +kernel), List.mem_of_getElem? (i := 480) (by decide +kernel), List.mem_of_getElem? (i := 481) (by decide +kernel)⟩
theorem lw_p22 : lw_okq (⟨"OwnSunday", "anyEverShort", "()Z"⟩, 12) := ⟨⟨by decide +kernel, by decide +kernel⟩, List.mem_of_getElem? (i := 13) (by decide +kernel), List.mem_of_getElem? (i := 494) (by decide +kernel), List.mem_of_getElem? (i := 495) (by decide +kernel)⟩
theorem lw_p23 : lw_okq (⟨"OwnSunday", "everShort", "(I)Z"⟩, 12) := ⟨⟨by decide +kernel, by decide +kernel⟩, List.mem_of_getElem? (i := 13) (by decide +kernel), List.mem_of_getElem? (i := 498) (by decide +kernel), List.mem_of_getElem? (i := 499) (by decide +kernel)⟩
theorem lw_p24 : lw_okq (⟨"OwnSunday$Ways", "ofHouse", "([II)I"⟩, 10) := ⟨⟨by decide +kernel, by decide +kernel⟩, List.mem_of_getElem? (i := 151) (by decide +kernel), List.mem_of_getElem? (i := 525) (by decide +kernel), List.mem_of_getElem? (i := 526) (by decide +kernel)⟩
theorem lw_p25 : lw_okq (⟨"OwnSunday", "findChanges", "(I)V"⟩, 12) := ⟨⟨by decide +kernel, by decide +kernel⟩, List.mem_of_getElem? (i := 13) (by decide +kernel), List.mem_of_getElem? (i := 533) (by decide +kernel), List.mem_of_getElem? (i := 534) (by decide +kernel)⟩
theorem lw_p26 : lw_okq (⟨"OwnSunday", "findOneChange", "(I)Z"⟩, 12) := ⟨⟨by decide +kernel, by decide +kernel⟩, List.mem_of_getElem? (i := 13) (by decide +kernel), List.mem_of_getElem? (i := 538) (by decide +kernel), List.mem_of_getElem? (i := 539) (by decide +kernel)⟩
theorem lw_p27 : lw_okq (⟨"OwnSunday", "helpfulRest", "(II)I"⟩, 12) := ⟨⟨by decide +kernel, by decide +kernel⟩, List.mem_of_getElem? (i := 13) (by decide +kernel), List.mem_of_getElem? (i := 542) (by decide +kernel), List.mem_of_getElem? (i := 543) (by decide +kernel)⟩
theorem lw_p28 : lw_okq (⟨"OwnSunday", "hasSkillOf", "(II)Z"⟩, 12) := ⟨⟨by decide +kernel, by decide +kernel⟩, List.mem_of_getElem? (i := 13) (by decide +kernel), List.mem_of_getElem? (i := 546) (by decide +kernel), List.mem_of_getElem? (i := 547) (by decide +kernel)⟩
theorem lw_p29 : lw_okq (⟨"OwnSunday", "weekLength", "(I)I"⟩, 12) := ⟨⟨by decide +kernel, by decide +kernel⟩, List.mem_of_getElem? (i := 13) (by decide +kernel), List.mem_of_getElem? (i := 550) (by decide +kernel), List.mem_of_getElem? (i := 551) (by decide +kernel)⟩
theorem lw_p30 : lw_okq (⟨"OwnSunday", "findTwoChanges", "(I)V"⟩, 12) := ⟨⟨by decide +kernel, by decide +kernel⟩, List.mem_of_getElem? (i := 13) (by decide +kernel), List.mem_of_getElem? (i := 556) (by decide +kernel), List.mem_of_getElem? (i := 557) (by decide +kernel)⟩
theorem lw_p31 : lw_okq (⟨"OwnSunday", "findSecondChange", "(III)Z"⟩, 12) := ⟨⟨by decide +kernel, by decide +kernel⟩, List.mem_of_getElem? (i := 13) (by decide +kernel), List.mem_of_getElem? (i := 560) (by decide +kernel), List.mem_of_getElem? (i := 561) (by decide +kernel)⟩
def lw_privs_2 : List (MethodName × Nat) := [(⟨"OwnSunday", "daysAllUp", "(IJI)I"⟩, 12), (⟨"OwnSunday$Rota", "mostOfWeek", "(III)I"⟩, 3), (⟨"OwnSunday", "firstDayResting", "(I)I"⟩, 12), (⟨"OwnSunday", "daysToDo", "(IJJ)I"⟩, 12), (⟨"OwnSunday", "isNewHouse", "(I)Z"⟩, 12), (⟨"OwnSunday", "goThroughSettled", "()V"⟩, 12), (⟨"OwnSunday", "anyEverShort", "()Z"⟩, 12), (⟨"OwnSunday", "everShort", "(I)Z"⟩, 12), (⟨"OwnSunday$Ways", "ofHouse", "([II)I"⟩, 10), (⟨"OwnSunday", "findChanges", "(I)V"⟩, 12), (⟨"OwnSunday", "findOneChange", "(I)Z"⟩, 12), (⟨"OwnSunday", "helpfulRest", "(II)I"⟩, 12), (⟨"OwnSunday", "hasSkillOf", "(II)Z"⟩, 12), (⟨"OwnSunday", "weekLength", "(I)I"⟩, 12), (⟨"OwnSunday", "findTwoChanges", "(I)V"⟩, 12), (⟨"OwnSunday", "findSecondChange", "(III)Z"⟩, 12)]
theorem lw_r2 : ∀ q ∈ lw_privs_2, lw_okq q := List.forall_mem_cons.mpr ⟨lw_p16, List.forall_mem_cons.mpr ⟨lw_p17, List.forall_mem_cons.mpr ⟨lw_p18, List.forall_mem_cons.mpr ⟨lw_p19, List.forall_mem_cons.mpr ⟨lw_p20, List.forall_mem_cons.mpr ⟨lw_p21, List.forall_mem_cons.mpr ⟨lw_p22, List.forall_mem_cons.mpr ⟨lw_p23, List.forall_mem_cons.mpr ⟨lw_p24, List.forall_mem_cons.mpr ⟨lw_p25, List.forall_mem_cons.mpr ⟨lw_p26, List.forall_mem_cons.mpr ⟨lw_p27, List.forall_mem_cons.mpr ⟨lw_p28, List.forall_mem_cons.mpr ⟨lw_p29, List.forall_mem_cons.mpr ⟨lw_p30, List.forall_mem_cons.mpr ⟨lw_p31, fun _ h => absurd h List.not_mem_nil⟩⟩⟩⟩⟩⟩⟩⟩⟩⟩⟩⟩⟩⟩⟩⟩
theorem lw_p32 : lw_okq (⟨"OwnSunday", "shortDaysWed", "(III)I"⟩, 12) := ⟨⟨by decide +kernel, by decide +kernel⟩, List.mem_of_getElem? (i := 13) (by decide +kernel), List.mem_of_getElem? (i := 568) (by decide +kernel), List.mem_of_getElem? (i := 569) (by decide +kernel)⟩
theorem lw_p33 : lw_okq (⟨"OwnSunday", "goThroughFits", "()V"⟩, 12) := ⟨⟨by decide +kernel, by decide +kernel⟩, List.mem_of_getElem? (i := 13) (by decide +kernel), List.mem_of_getElem? (i := 588) (by decide +kernel), List.mem_of_getElem? (i := 589) (by decide +kernel)⟩
theorem lw_p34 : lw_okq (⟨"OwnSunday", "allSeenWasSo", "()Z"⟩, 12) := ⟨⟨by decide +kernel, by decide +kernel⟩, List.mem_of_getElem? (i := 13) (by decide +kernel), List.mem_of_getElem? (i := 592) (by decide +kernel), List.mem_of_getElem? (i := 593) (by decide +kernel)⟩
theorem lw_p35 : lw_okq (⟨"OwnSunday", "cookRests", "(J)Z"⟩, 12) := ⟨⟨by decide +kernel, by decide +kernel⟩, List.mem_of_getElem? (i := 13) (by decide +kernel), List.mem_of_getElem? (i := 613) (by decide +kernel), List.mem_of_getElem? (i := 614) (by decide +kernel)⟩
theorem lw_p36 : lw_okq (⟨"OwnSundayModel", "begins", "()V"⟩, 30) := ⟨⟨by decide +kernel, by decide +kernel⟩, List.mem_of_getElem? (i := 646) (by decide +kernel), List.mem_of_getElem? (i := 652) (by decide +kernel), List.mem_of_getElem? (i := 653) (by decide +kernel)⟩
theorem lw_p37 : lw_okq (⟨"OwnSundayModel", "takes", "()V"⟩, 30) := ⟨⟨by decide +kernel, by decide +kernel⟩, List.mem_of_getElem? (i := 646) (by decide +kernel), List.mem_of_getElem? (i := 656) (by decide +kernel), List.mem_of_getElem? (i := 657) (by decide +kernel)⟩
theorem lw_p38 : lw_okq (⟨"OwnSundayModel", "isItem", "()Z"⟩, 30) := ⟨⟨by decide +kernel, by decide +kernel⟩, List.mem_of_getElem? (i := 646) (by decide +kernel), List.mem_of_getElem? (i := 768) (by decide +kernel), List.mem_of_getElem? (i := 769) (by decide +kernel)⟩
theorem lw_p39 : lw_okq (⟨"OwnSundayModel", "number", "()I"⟩, 30) := ⟨⟨by decide +kernel, by decide +kernel⟩, List.mem_of_getElem? (i := 646) (by decide +kernel), List.mem_of_getElem? (i := 775) (by decide +kernel), List.mem_of_getElem? (i := 776) (by decide +kernel)⟩
theorem lw_p40 : lw_okq (⟨"OwnSundayModel", "isGood", "(II)Z"⟩, 30) := ⟨⟨by decide +kernel, by decide +kernel⟩, List.mem_of_getElem? (i := 646) (by decide +kernel), List.mem_of_getElem? (i := 782) (by decide +kernel), List.mem_of_getElem? (i := 783) (by decide +kernel)⟩
theorem lw_p41 : lw_okq (⟨"OwnSundayModel", "isHouse", "(I)Z"⟩, 30) := ⟨⟨by decide +kernel, by decide +kernel⟩, List.mem_of_getElem? (i := 646) (by decide +kernel), List.mem_of_getElem? (i := 800) (by decide +kernel), List.mem_of_getElem? (i := 801) (by decide +kernel)⟩
theorem lw_p42 : lw_okq (⟨"OwnSundayModel", "upOn", "(J)I"⟩, 30) := ⟨⟨by decide +kernel, by decide +kernel⟩, List.mem_of_getElem? (i := 646) (by decide +kernel), List.mem_of_getElem? (i := 812) (by decide +kernel), List.mem_of_getElem? (i := 813) (by decide +kernel)⟩
theorem lw_p43 : lw_okq (⟨"OwnSundayModel", "isUp", "(IJ)Z"⟩, 30) := ⟨⟨by decide +kernel, by decide +kernel⟩, List.mem_of_getElem? (i := 646) (by decide +kernel), List.mem_of_getElem? (i := 816) (by decide +kernel), List.mem_of_getElem? (i := 817) (by decide +kernel)⟩
theorem lw_p44 : lw_okq (⟨"OwnSundayModel", "weekOf", "(I)I"⟩, 30) := ⟨⟨by decide +kernel, by decide +kernel⟩, List.mem_of_getElem? (i := 646) (by decide +kernel), List.mem_of_getElem? (i := 820) (by decide +kernel), List.mem_of_getElem? (i := 821) (by decide +kernel)⟩
theorem lw_p45 : lw_okq (⟨"OwnSundayModel", "handsOn", "(IJ)I"⟩, 30) := ⟨⟨by decide +kernel, by decide +kernel⟩, List.mem_of_getElem? (i := 646) (by decide +kernel), List.mem_of_getElem? (i := 828) (by decide +kernel), List.mem_of_getElem? (i := 829) (by decide +kernel)⟩
theorem lw_p46 : lw_okq (⟨"OwnSundayModel", "shortOn", "(J)I"⟩, 30) := ⟨⟨by decide +kernel, by decide +kernel⟩, List.mem_of_getElem? (i := 646) (by decide +kernel), List.mem_of_getElem? (i := 838) (by decide +kernel), List.mem_of_getElem? (i := 839) (by decide +kernel)⟩
theorem lw_p47 : lw_okq (⟨"OwnSundayModel", "isShort", "(IJ)Z"⟩, 30) := ⟨⟨by decide +kernel, by decide +kernel⟩, List.mem_of_getElem? (i := 646) (by decide +kernel), List.mem_of_getElem? (i := 842) (by decide +kernel), List.mem_of_getElem? (i := 843) (by decide +kernel)⟩
def lw_privs_3 : List (MethodName × Nat) := [(⟨"OwnSunday", "shortDaysWed", "(III)I"⟩, 12), (⟨"OwnSunday", "goThroughFits", "()V"⟩, 12), (⟨"OwnSunday", "allSeenWasSo", "()Z"⟩, 12), (⟨"OwnSunday", "cookRests", "(J)Z"⟩, 12), (⟨"OwnSundayModel", "begins", "()V"⟩, 30), (⟨"OwnSundayModel", "takes", "()V"⟩, 30), (⟨"OwnSundayModel", "isItem", "()Z"⟩, 30), (⟨"OwnSundayModel", "number", "()I"⟩, 30), (⟨"OwnSundayModel", "isGood", "(II)Z"⟩, 30), (⟨"OwnSundayModel", "isHouse", "(I)Z"⟩, 30), (⟨"OwnSundayModel", "upOn", "(J)I"⟩, 30), (⟨"OwnSundayModel", "isUp", "(IJ)Z"⟩, 30), (⟨"OwnSundayModel", "weekOf", "(I)I"⟩, 30), (⟨"OwnSundayModel", "handsOn", "(IJ)I"⟩, 30), (⟨"OwnSundayModel", "shortOn", "(J)I"⟩, 30), (⟨"OwnSundayModel", "isShort", "(IJ)Z"⟩, 30)]
theorem lw_r3 : ∀ q ∈ lw_privs_3, lw_okq q := List.forall_mem_cons.mpr ⟨lw_p32, List.forall_mem_cons.mpr ⟨lw_p33, List.forall_mem_cons.mpr ⟨lw_p34, List.forall_mem_cons.mpr ⟨lw_p35, List.forall_mem_cons.mpr ⟨lw_p36, List.forall_mem_cons.mpr ⟨lw_p37, List.forall_mem_cons.mpr ⟨lw_p38, List.forall_mem_cons.mpr ⟨lw_p39, List.forall_mem_cons.mpr ⟨lw_p40, List.forall_mem_cons.mpr ⟨lw_p41, List.forall_mem_cons.mpr ⟨lw_p42, List.forall_mem_cons.mpr ⟨lw_p43, List.forall_mem_cons.mpr ⟨lw_p44, List.forall_mem_cons.mpr ⟨lw_p45, List.forall_mem_cons.mpr ⟨lw_p46, List.forall_mem_cons.mpr ⟨lw_p47, fun _ h => absurd h List.not_mem_nil⟩⟩⟩⟩⟩⟩⟩⟩⟩⟩⟩⟩⟩⟩⟩⟩
theorem lw_p48 : lw_okq (⟨"OwnSundayModel", "isWork", "(I)Z"⟩, 30) := ⟨⟨by decide +kernel, by decide +kernel⟩, List.mem_of_getElem? (i := 646) (by decide +kernel), List.mem_of_getElem? (i := 851) (by decide +kernel), List.mem_of_getElem? (i := 852) (by decide +kernel)⟩
theorem lw_p49 : lw_okq (⟨"OwnSundayModel", "period", "()I"⟩, 30) := ⟨⟨by decide +kernel, by decide +kernel⟩, List.mem_of_getElem? (i := 646) (by decide +kernel), List.mem_of_getElem? (i := 855) (by decide +kernel), List.mem_of_getElem? (i := 856) (by decide +kernel)⟩
theorem lw_p50 : lw_okq (⟨"OwnSundayModel", "isSet", "(I)Z"⟩, 30) := ⟨⟨by decide +kernel, by decide +kernel⟩, List.mem_of_getElem? (i := 646) (by decide +kernel), List.mem_of_getElem? (i := 863) (by decide +kernel), List.mem_of_getElem? (i := 864) (by decide +kernel)⟩
theorem lw_p51 : lw_okq (⟨"OwnSundayModel", "areUp", "(IJ)Z"⟩, 30) := ⟨⟨by decide +kernel, by decide +kernel⟩, List.mem_of_getElem? (i := 646) (by decide +kernel), List.mem_of_getElem? (i := 867) (by decide +kernel), List.mem_of_getElem? (i := 868) (by decide +kernel)⟩
theorem lw_p52 : lw_okq (⟨"OwnSundayModel", "mostRest", "()I"⟩, 30) := ⟨⟨by decide +kernel, by decide +kernel⟩, List.mem_of_getElem? (i := 646) (by decide +kernel), List.mem_of_getElem? (i := 888) (by decide +kernel), List.mem_of_getElem? (i := 889) (by decide +kernel)⟩
theorem lw_p53 : lw_okq (⟨"OwnSundayModel", "settles", "(Z)V"⟩, 30) := ⟨⟨by decide +kernel, by decide +kernel⟩, List.mem_of_getElem? (i := 646) (by decide +kernel), List.mem_of_getElem? (i := 904) (by decide +kernel), List.mem_of_getElem? (i := 905) (by decide +kernel)⟩
theorem lw_p54 : lw_okq (⟨"OwnSundayModel", "fitsSeen", "()Z"⟩, 30) := ⟨⟨by decide +kernel, by decide +kernel⟩, List.mem_of_getElem? (i := 646) (by decide +kernel), List.mem_of_getElem? (i := 908) (by decide +kernel), List.mem_of_getElem? (i := 909) (by decide +kernel)⟩
theorem lw_p55 : lw_okq (⟨"OwnSundayModel", "isAll", "()Z"⟩, 30) := ⟨⟨by decide +kernel, by decide +kernel⟩, List.mem_of_getElem? (i := 646) (by decide +kernel), List.mem_of_getElem? (i := 912) (by decide +kernel), List.mem_of_getElem? (i := 913) (by decide +kernel)⟩
theorem lw_p56 : lw_okq (⟨"OwnSundayModel", "counts", "(Z)V"⟩, 30) := ⟨⟨by decide +kernel, by decide +kernel⟩, List.mem_of_getElem? (i := 646) (by decide +kernel), List.mem_of_getElem? (i := 916) (by decide +kernel), List.mem_of_getElem? (i := 917) (by decide +kernel)⟩
theorem lw_p57 : lw_okq (⟨"OwnSundayModel", "goesOn", "(I)Z"⟩, 30) := ⟨⟨by decide +kernel, by decide +kernel⟩, List.mem_of_getElem? (i := 646) (by decide +kernel), List.mem_of_getElem? (i := 924) (by decide +kernel), List.mem_of_getElem? (i := 925) (by decide +kernel)⟩
theorem lw_p58 : lw_okq (⟨"OwnSundayModel", "changesOne", "(III)Z"⟩, 30) := ⟨⟨by decide +kernel, by decide +kernel⟩, List.mem_of_getElem? (i := 646) (by decide +kernel), List.mem_of_getElem? (i := 928) (by decide +kernel), List.mem_of_getElem? (i := 929) (by decide +kernel)⟩
theorem lw_p59 : lw_okq (⟨"OwnSundayModel", "changesTwo", "(I)Z"⟩, 30) := ⟨⟨by decide +kernel, by decide +kernel⟩, List.mem_of_getElem? (i := 646) (by decide +kernel), List.mem_of_getElem? (i := 932) (by decide +kernel), List.mem_of_getElem? (i := 933) (by decide +kernel)⟩
theorem lw_p60 : lw_okq (⟨"OwnSundayModel", "days", "(II)I"⟩, 30) := ⟨⟨by decide +kernel, by decide +kernel⟩, List.mem_of_getElem? (i := 646) (by decide +kernel), List.mem_of_getElem? (i := 940) (by decide +kernel), List.mem_of_getElem? (i := 941) (by decide +kernel)⟩
theorem lw_p61 : lw_okq (⟨"OwnSundayModel", "newMany", "()I"⟩, 30) := ⟨⟨by decide +kernel, by decide +kernel⟩, List.mem_of_getElem? (i := 646) (by decide +kernel), List.mem_of_getElem? (i := 979) (by decide +kernel), List.mem_of_getElem? (i := 980) (by decide +kernel)⟩
def lw_privs_4 : List (MethodName × Nat) := [(⟨"OwnSundayModel", "isWork", "(I)Z"⟩, 30), (⟨"OwnSundayModel", "period", "()I"⟩, 30), (⟨"OwnSundayModel", "isSet", "(I)Z"⟩, 30), (⟨"OwnSundayModel", "areUp", "(IJ)Z"⟩, 30), (⟨"OwnSundayModel", "mostRest", "()I"⟩, 30), (⟨"OwnSundayModel", "settles", "(Z)V"⟩, 30), (⟨"OwnSundayModel", "fitsSeen", "()Z"⟩, 30), (⟨"OwnSundayModel", "isAll", "()Z"⟩, 30), (⟨"OwnSundayModel", "counts", "(Z)V"⟩, 30), (⟨"OwnSundayModel", "goesOn", "(I)Z"⟩, 30), (⟨"OwnSundayModel", "changesOne", "(III)Z"⟩, 30), (⟨"OwnSundayModel", "changesTwo", "(I)Z"⟩, 30), (⟨"OwnSundayModel", "days", "(II)I"⟩, 30), (⟨"OwnSundayModel", "newMany", "()I"⟩, 30)]
theorem lw_r4 : ∀ q ∈ lw_privs_4, lw_okq q := List.forall_mem_cons.mpr ⟨lw_p48, List.forall_mem_cons.mpr ⟨lw_p49, List.forall_mem_cons.mpr ⟨lw_p50, List.forall_mem_cons.mpr ⟨lw_p51, List.forall_mem_cons.mpr ⟨lw_p52, List.forall_mem_cons.mpr ⟨lw_p53, List.forall_mem_cons.mpr ⟨lw_p54, List.forall_mem_cons.mpr ⟨lw_p55, List.forall_mem_cons.mpr ⟨lw_p56, List.forall_mem_cons.mpr ⟨lw_p57, List.forall_mem_cons.mpr ⟨lw_p58, List.forall_mem_cons.mpr ⟨lw_p59, List.forall_mem_cons.mpr ⟨lw_p60, List.forall_mem_cons.mpr ⟨lw_p61, fun _ h => absurd h List.not_mem_nil⟩⟩⟩⟩⟩⟩⟩⟩⟩⟩⟩⟩⟩⟩
def lw_privs : List (MethodName × Nat) := lw_privs_1 ++ (lw_privs_2 ++ (lw_privs_3 ++ (lw_privs_4)))
def lw_tbl : List Cond := k2_sels lw_privs ++ tables_1
theorem lw_privs_ok : ∀ q ∈ lw_privs, lw_okq q := by
  show ∀ q ∈ lw_privs_1 ++ (lw_privs_2 ++ (lw_privs_3 ++ (lw_privs_4))), lw_okq q
  exact List.forall_mem_append.mpr ⟨lw_r1, List.forall_mem_append.mpr ⟨lw_r2, List.forall_mem_append.mpr ⟨lw_r3, lw_r4⟩⟩⟩
end
section
def va_AOA (t : FieldType) (U : State) : Prop := (Cond.arrayOver (.array t)).before #[] U = true
theorem va_AOA.of {t : FieldType} {A : Array Value} {U : State} (h : (Cond.arrayOver (.array t)).before A U = true) : va_AOA t U := h
theorem va_AOA.use {t : FieldType} {A : Array Value} {U : State} (h : va_AOA t U) : (Cond.arrayOver (.array t)).before A U = true := h
/-! ===== BEGIN words of one list among another's, by their places ===== -/
theorem goodIn_r {big : List Cond} (ws : List Cond) (ps : List Nat) (hp : ws = ps.filterMap (fun i => big[i]?)) (h : ws.all goodWord = true) : GoodIn big ws := by
  intro w hw
  have h1 := List.all_eq_true.mp h w hw
  rw [hp] at hw
  obtain ⟨i, -, hi⟩ := List.mem_filterMap.mp hw
  have hm : w ∈ big := by first | exact List.mem_of_getElem? hi | exact List.getElem?_mem hi
  exact ⟨hm, good_of_word h1⟩
theorem goodIn_app {big a b : List Cond} (ha : GoodIn big a) (hb : GoodIn big b) : GoodIn big (a ++ b) := fun w h => (List.mem_append.mp h).elim (ha w) (hb w)
theorem goodIn_ca {big a b : List Cond} {c : Cond} (ha : GoodIn big (c :: a)) (hb : GoodIn big b) : GoodIn big (c :: (a ++ b)) := fun w h => (List.mem_cons.mp h).elim (fun e => ha w (List.mem_cons.mpr (Or.inl e))) (fun h => (List.mem_append.mp h).elim (fun h => ha w (List.mem_cons.mpr (Or.inr h))) (hb w))
theorem goodIn_sub {big ws : List Cond} (hm : ∀ w ∈ ws, w ∈ big) (h : ws.all goodWord = true) : GoodIn big ws := fun w hw => ⟨hm w hw, good_of_word (List.all_eq_true.mp h w hw)⟩
/-! ===== END ===== -/

/-! ===== BEGIN new T[n][m]: the outer array a place, the inner ones among the pooled ===== -/
/-- f, but v at every address of l -/
def vr_up {α : Type} (f : Nat → α) (l : List Nat) (v : α) : Nat → α := fun a => if a ∈ l then v else f a
theorem vr_up_in {α : Type} {f : Nat → α} {l : List Nat} {v : α} {a : Nat} (h : a ∈ l) : vr_up f l v a = v := if_pos h
theorem vr_up_ne {α : Type} {f : Nat → α} {l : List Nat} {v : α} {a : Nat} (h : a ∉ l) : vr_up f l v a = f a := if_neg h
theorem vr_rows {L l : List Nat} {f : Nat → va_E} {e : va_E} (h : ∀ a, a ∈ l → a ∉ L) : va_pl L f ++ l.map (fun a => (a, e)) = va_pl (L ++ l) (vr_up f l e) := by
  unfold va_pl
  rw [List.map_append]
  congr 1
  · apply List.map_congr_left
    intro a ha
    rw [vr_up_ne (fun q => h a q ha)]
  · apply List.map_congr_left
    intro a ha
    rw [vr_up_in ha]
theorem vr_lay {X rows : va_W} {x : Nat × va_E} {pl : va_W} {D : va_G} {cl : List vw_C} {H : Heap} (hP : va_P D cl (((X ++ pl) ++ [x]) ++ rows) H) : va_P D cl ((X ++ [x]) ++ (pl ++ rows)) H := by
  rw [List.append_assoc (X ++ pl)] at hP
  have h := va_P.swap hP
  rw [← List.append_assoc X] at h
  have h2 := va_P.swap h
  rw [List.append_assoc (X ++ [x])] at h2
  exact h2
theorem vr_layD {X rows : va_W} {x : Nat × va_E} {pl : va_W} {A : Nat → Prop} (hD : va_D A (((X ++ pl) ++ [x]) ++ rows)) : va_D A ((X ++ [x]) ++ (pl ++ rows)) := by
  rw [List.append_assoc (X ++ pl)] at hD
  have h := va_D.swap hD
  rw [← List.append_assoc X] at h
  have h2 := va_D.swap h
  rw [List.append_assoc (X ++ [x])] at h2
  exact h2
theorem vr_outer (c : ClassId) (N h0 : Nat) : ∀ i : Nat, Jvm.Free.Multi.outerC c N h0 i = arrV c N (fun j => va_rf (if j < i then some (h0 + 1 + j) else none))
  | 0 => by
    show ({ cls := c, slots := Array.replicate N .null, vm := .none } : Cell) = _
    rw [arrV_new]
    refine congrArg (arrV c N) (funext fun j => ?_)
    simp [va_rf]
  | i + 1 => by
    show (Jvm.Free.Multi.outerC c N h0 i).setSlot i (.ref (h0 + 1 + i)) = _
    rw [vr_outer c N h0 i, arrV_store]
    refine congrArg (arrV c N) (funext fun j => ?_)
    by_cases e : j = i
    · subst e
      simp [updV, va_rf]
    · by_cases h : j < i
      · simp [updV, e, h, Nat.lt_succ_of_lt h]
      · simp [updV, e, h, show ¬ j < i + 1 by omega]
section VGM
variable {p : Program} {l : Launch} {e : Env} {R : Room} {s : State} {m : MethodId} {args : Array Value} {below : List Frame} {meth : Method} {c : Code} {H : Heap} {locs : List Loc} {cells slots : Nat} {Q : State → Prop}
variable {cc : ByteArray} {pc : Nat} {ls : Array Slot} {rest : List Value} {D : va_G} {cl : List vw_C} {A : Nat → Prop} {a : Nat} {tys : List (ClassId × FieldType)} {ws : va_W} {H0 : Heap}
theorem va_mna {X : va_W} {L : List Nat} {f : Nat → va_E} {cc : ByteArray} (hexec : p.tables.exec = Jvm.exec) (hb : c.code = cc) {own : String} {index : Nat} {ty : FieldType} {cy : ClassId} (hown : s.vm.findClass own = some m.cls) (hclink : (Cond.classLink own index ("[" ++ (FieldType.array ty).toString)).before args s = true) (hover : va_AOA ty s) (harr : (Cond.arrayClass ty).before args s = true) (hcy : s.vm.findClass (FieldType.array ty).toString = some cy)
    (hK : va_K D cl tys s) (hP : va_P D cl (X ++ va_pl L f) H) (hD : va_D A (X ++ va_pl L f)) (hS : va_S A H0 H locs) (hA : ∀ q, H0.size ≤ q → A q) {n k : Int32} {N' K' : Nat} {z : vp_A} (hn : ¬ n < 0) (hk : ¬ k < 0) (hN : n.toNatClampNeg = N') (hM : k.toNatClampNeg = K')
    (hb1 : N' * 4 ≤ 536870912) (hb2 : K' * componentBytes ty ≤ 536870912) (hb3 : K' ≤ 536870912) (hdf : fits ty (defaultValue ty) = true) (hdd : (defaultValue ty).isDefault = true) (hcells : cells + (1 + N') ≤ R.cells) (hslots : slots + (N' + N' * K') ≤ R.slots) (hz : ∀ c : ClassId, Jvm.Free.Multi.innerC c K' (defaultValue ty) = vp_cell c z) (hdg : decode cc pc = .ok (.multianewarray index 2, 4))
    (kk : ∀ (q : Nat) (r : Nat → Nat) (cA : ClassId) (H1 : Heap), (∀ i j : Nat, i < N' → j < N' → r i = r j → i = j) → (∀ i : Nat, i < N' → r i ∉ L) → va_K D cl (tys ++ [(cA, .array ty)]) s →
      va_P D cl ((X ++ [(q, .inl (cA, N', .inr (.inr (.inr (.inr (fun i => if i < N' then some (r i) else none))))))]) ++ va_pl (L ++ (List.range N').map r) (vr_up f ((List.range N').map r) (.inl (cy, z)))) H1 → va_D A ((X ++ [(q, .inl (cA, N', .inr (.inr (.inr (.inr (fun i => if i < N' then some (r i) else none))))))]) ++ va_pl (L ++ (List.range N').map r) (vr_up f ((List.range N').map r) (.inl (cy, z)))) → va_S A H0 H1 locs →
      W p l e R s m args below meth c H1 locs (cells + 1 + N') (slots + N' + N' * K') Q (F0 m (pc + 4) ls (.ref q :: rest))) : W p l e R s m args below meth c H locs cells slots Q (F0 m pc ls (.int k :: .int n :: rest)) := by
  subst hN
  subst hM
  intro T hT Xs
  obtain ⟨vm₁, cA, comp, -, fA, fC, hO, -, X', step⟩ := Xs.multianewarray2F hexec hown hclink (va_AOA.use hover) harr (g := F0 m pc ls (.int k :: .int n :: rest)) rfl (by rw [hb]; exact hdg) rfl hn hk hb1 hb2 hb3 hdf hdd hcells hslots
  have ec : some cy = some comp := hcy.symm.trans fC
  cases ec
  generalize hF : Jvm.Free.Multi.fill (T.setVm vm₁) cA cy n.toNatClampNeg k.toNatClampNeg (defaultValue ty) n.toNatClampNeg = F at X' step
  have hTh : (T.setVm vm₁).heap = H := hT
  obtain ⟨f1, f2, -, -⟩ := Jvm.Free.Multi.fill_facts (T.setVm vm₁) cA cy n.toNatClampNeg k.toNatClampNeg (defaultValue ty) n.toNatClampNeg
  rw [hF, hTh] at f1 f2
  have hold : ∀ x : Nat, x < H.size → F.heap[x]? = H[x]? := fun x hx => by
    have := Jvm.Free.Multi.fill_old (T.setVm vm₁) cA cy n.toNatClampNeg k.toNatClampNeg (defaultValue ty) (a := x) (by rw [hTh]; exact hx) n.toNatClampNeg
    rw [hF, hTh] at this
    exact this
  have hrow : ∀ j : Nat, j < n.toNatClampNeg → F.heap[H.size + 1 + j]? = some (vp_cell cy z) := fun j hj => by
    have := Jvm.Free.Multi.fill_inner (T.setVm vm₁) cA cy n.toNatClampNeg k.toNatClampNeg (defaultValue ty) n.toNatClampNeg j hj
    rw [hF, hTh, hz] at this
    exact this
  have hout : Jvm.Free.Multi.outerC cA n.toNatClampNeg H.size n.toNatClampNeg = vp_cell cA (n.toNatClampNeg, .inr (.inr (.inr (.inr (fun i => if i < n.toNatClampNeg then some (H.size + 1 + i) else none))))) := by
    rw [vp_cell_q]
    exact vr_outer cA n.toNatClampNeg H.size n.toNatClampNeg
  rw [hout] at f2
  have hlt : ∀ a, a ∈ L → a < H.size := fun a ha => by
    obtain ⟨k9, hk9⟩ := va_pl_get (X := X) (f := f) ha
    exact (hP k9 _ hk9).lt
  have hnl : ∀ i : Nat, i < n.toNatClampNeg → H.size + 1 + i ∉ L := fun i _ h => by
    have := hlt _ h
    omega
  have hnm : ∀ a, a ∈ (List.range n.toNatClampNeg).map (fun i => H.size + 1 + i) → a ∉ L := fun a ha h => by
    obtain ⟨i, -, rfl⟩ := List.mem_map.mp ha
    have := hlt _ h
    omega
  have hP0 : va_P D cl (X ++ va_pl L f) F.heap := hP.kept (fun k9 x hx => hold x.1 ((hP k9 x hx).lt))
  have hP1 : va_P D cl ((X ++ va_pl L f) ++ [(H.size, .inl (cA, n.toNatClampNeg, .inr (.inr (.inr (.inr (fun i => if i < n.toNatClampNeg then some (H.size + 1 + i) else none))))))]) F.heap := hP0.app (fun k9 x hx => by
    have h0 : k9 < 1 := (List.getElem?_eq_some_iff.mp hx).1
    rw [show k9 = 0 by omega] at hx
    cases hx
    exact f2)
  have hP2 : va_P D cl (((X ++ va_pl L f) ++ [(H.size, .inl (cA, n.toNatClampNeg, .inr (.inr (.inr (.inr (fun i => if i < n.toNatClampNeg then some (H.size + 1 + i) else none))))))]) ++ ((List.range n.toNatClampNeg).map (fun i => H.size + 1 + i)).map (fun a => (a, .inl (cy, z)))) F.heap := hP1.app (fun k9 x hx => by
    obtain ⟨a, ha, rfl⟩ := List.mem_map.mp (List.mem_of_getElem? hx)
    obtain ⟨i, hi, rfl⟩ := List.mem_map.mp ha
    exact hrow i (List.mem_range.mp hi))
  have hD2 : va_D A (((X ++ va_pl L f) ++ [(H.size, .inl (cA, n.toNatClampNeg, .inr (.inr (.inr (.inr (fun i => if i < n.toNatClampNeg then some (H.size + 1 + i) else none))))))]) ++ ((List.range n.toNatClampNeg).map (fun i => H.size + 1 + i)).map (fun a => (a, .inl (cy, z)))) := by
    have hD1 := hD.push (e := .inl (cA, n.toNatClampNeg, .inr (.inr (.inr (.inr (fun i => if i < n.toNatClampNeg then some (H.size + 1 + i) else none)))))) hP rfl (hA _ hS.1)
    generalize hW1 : (X ++ va_pl L f) ++ [(H.size, .inl (cA, n.toNatClampNeg, .inr (.inr (.inr (.inr (fun i => if i < n.toNatClampNeg then some (H.size + 1 + i) else none))))))] = W1 at hD1 hP1 ⊢
    have hle : ∀ (k9 : Nat) (x : Nat × va_E), W1[k9]? = some x → x.1 ≤ H.size := fun k9 x hx => by
      rw [← hW1] at hx
      by_cases hl : k9 < (X ++ va_pl L f).length
      · rw [List.getElem?_append_left hl] at hx
        exact Nat.le_of_lt ((hP k9 x hx).lt)
      · rw [List.getElem?_append_right (by omega)] at hx
        have h0 : k9 - (X ++ va_pl L f).length < 1 := (List.getElem?_eq_some_iff.mp hx).1
        rw [show k9 - (X ++ va_pl L f).length = 0 by omega] at hx
        cases hx
        exact Nat.le_refl _
    have hr : ∀ (k9 : Nat) (x : Nat × va_E), (((List.range n.toNatClampNeg).map (fun i => H.size + 1 + i)).map (fun a => ((a, .inl (cy, z)) : Nat × va_E)))[k9]? = some x → x.1 = H.size + 1 + k9 := fun k9 x hx => by
      rw [List.getElem?_map, List.getElem?_map] at hx
      by_cases h9 : k9 < n.toNatClampNeg
      · rw [List.getElem?_range h9] at hx
        cases hx
        rfl
      · have hn0 : (List.range n.toNatClampNeg)[k9]? = none := List.getElem?_eq_none (by rw [List.length_range]; omega)
        rw [hn0] at hx
        cases hx
    refine ⟨fun i j x y hi hj hxy => ?_, fun k9 x hx => ?_⟩
    · by_cases h1 : i < W1.length <;> by_cases h2 : j < W1.length
      · rw [List.getElem?_append_left h1] at hi
        rw [List.getElem?_append_left h2] at hj
        exact hD1.1 i j x y hi hj hxy
      · rw [List.getElem?_append_left h1] at hi
        rw [List.getElem?_append_right (by omega)] at hj
        have := hle _ _ hi
        have := hr _ _ hj
        omega
      · rw [List.getElem?_append_right (by omega)] at hi
        rw [List.getElem?_append_left h2] at hj
        have := hle _ _ hj
        have := hr _ _ hi
        omega
      · rw [List.getElem?_append_right (by omega)] at hi hj
        have := hr _ _ hi
        have := hr _ _ hj
        omega
    · by_cases h1 : k9 < W1.length
      · rw [List.getElem?_append_left h1] at hx
        exact hD1.2 k9 x hx
      · rw [List.getElem?_append_right (by omega)] at hx
        have := hr _ _ hx
        exact hA _ (by have := hS.1; omega)
  have hAr : ArrOfT s cA (.array ty) := fun N9 z9 => by
    obtain ⟨-, k9, hk9, cm9, hkk9⟩ := (hO 0 0 0).1
    exact ⟨(fun q hq => by cases hq), k9, hk9, cm9, hkk9⟩
  have hK2 : va_K D cl (tys ++ [(cA, .array ty)]) s := ⟨hK.1, fun k9 x hx => by
    by_cases hl : k9 < tys.length
    · rw [List.getElem?_append_left hl] at hx
      exact hK.2 k9 x hx
    · rw [List.getElem?_append_right (by omega)] at hx
      have h0 : k9 - tys.length < 1 := (List.getElem?_eq_some_iff.mp hx).1
      rw [show k9 - tys.length = 0 by omega] at hx
      cases hx
      exact ⟨hAr, fA⟩⟩
  obtain ⟨t, a1, b1⟩ := kk H.size (fun i => H.size + 1 + i) cA F.heap (fun i j _ _ h => by have h9 : H.size + 1 + i = H.size + 1 + j := h; omega) hnl hK2 (by rw [← vr_rows hnm]; exact vr_lay hP2) (by rw [← vr_rows hnm]; exact vr_layD hD2) ⟨by rw [f1]; have := hS.1; omega, fun x h1 h2 => (hold x (Nat.lt_of_lt_of_le h1 hS.1)).trans (hS.2.1 x h1 h2), hS.2.2⟩ F rfl X'
  refine ⟨t, step t ?_, b1⟩
  have e : T.heap.size = H.size := by rw [hT]
  rw [e]
  exact a1
end VGM
/-! ===== END ===== -/

def RX0 : String := "OwnSunday$Book"
def TX0 : u_T := fun k => match k with
  | 0 => ("OwnSunday$Book", "week", "[I", true)
  | 1 => ("OwnSunday$Book", "rest", "[I", true)
  | 2 => ("OwnSunday$Book", "newHouses", "I", false)
  | 3 => ("OwnSunday$Book", "seenCount", "I", false)
  | 4 => ("OwnSunday$Book", "seenDay", "[J", true)
  | 5 => ("OwnSunday$Book", "seenWork", "[I", true)
  | _ => ("OwnSunday$Book", "seenWentBits", "I", false)
def tyX0 : Nat → FieldType := fun k => match k with
  | 0 => .array .int
  | 1 => .array .int
  | 2 => .int
  | 3 => .int
  | 4 => .array .long
  | 5 => .array .int
  | _ => .int
abbrev wsX00 : List Cond := u_ws RX0 TX0 7
theorem nmX0 : ∀ a, a < 7 → ∀ b, b < 7 → a ≠ b → (TX0 a).2.1 ≠ (TX0 b).2.1 := by decide +kernel
theorem tyX0_ok : ∀ k, k < 7 → parseFieldDescriptor (TX0 k).2.2.1 = some (tyX0 k) := by decide +kernel
abbrev cX0_init : ByteArray := prog_2_method_1_code
def yX0_init : MethodName := ⟨RX0, "<init>", "()V"⟩
abbrev cX0_begin : ByteArray := prog_2_method_2_code
def yX0_begin : MethodName := ⟨RX0, "begin", "()V"⟩
abbrev cX0_settleAt : ByteArray := prog_2_method_3_code
def yX0_settleAt : MethodName := ⟨RX0, "settleAt", "(III)V"⟩
abbrev cX0_isNew : ByteArray := prog_2_method_4_code
def yX0_isNew : MethodName := ⟨RX0, "isNew", "(I)Z"⟩
abbrev cX0_seenWent : ByteArray := prog_2_method_5_code
def yX0_seenWent : MethodName := ⟨RX0, "seenWent", "(I)Z"⟩
abbrev cX0_addSeen : ByteArray := prog_2_method_6_code
def yX0_addSeen : MethodName := ⟨RX0, "addSeen", "(JIZ)V"⟩
abbrev cX0_copyFrom : ByteArray := prog_2_method_7_code
def yX0_copyFrom : MethodName := ⟨RX0, "copyFrom", "(LOwnSunday$Book;)V"⟩
def RX1 : String := "OwnSunday$Reader"
def TX1 : u_T := fun k => match k with
  | 0 => ("OwnSunday$Reader", "number", "[I", true)
  | _ => ("OwnSunday$Reader", "placeOfHouse", "[I", true)
def tyX1 : Nat → FieldType := fun k => match k with
  | 0 => .array .int
  | _ => .array .int
abbrev wsX10 : List Cond := u_ws RX1 TX1 2
theorem nmX1 : ∀ a, a < 2 → ∀ b, b < 2 → a ≠ b → (TX1 a).2.1 ≠ (TX1 b).2.1 := by decide +kernel
theorem tyX1_ok : ∀ k, k < 2 → parseFieldDescriptor (TX1 k).2.2.1 = some (tyX1 k) := by decide +kernel
abbrev cX1_init : ByteArray := prog_3_method_1_code
def yX1_init : MethodName := ⟨RX1, "<init>", "()V"⟩
abbrev cX1_read : ByteArray := prog_3_method_2_code
def yX1_read : MethodName := ⟨RX1, "read", "([BILOwnSunday$Town;LOwnSunday$Book;)I"⟩
abbrev cX1_readNumbers : ByteArray := prog_3_method_3_code
def yX1_readNumbers : MethodName := ⟨RX1, "readNumbers", "([BII)I"⟩
abbrev cX1_numbersOf : ByteArray := prog_3_method_4_code
def yX1_numbersOf : MethodName := ⟨RX1, "numbersOf", "(I)I"⟩
abbrev cX1_isFigure : ByteArray := prog_3_method_5_code
def yX1_isFigure : MethodName := ⟨RX1, "isFigure", "([BII)Z"⟩
abbrev cX1_take : ByteArray := prog_3_method_6_code
def yX1_take : MethodName := ⟨RX1, "take", "(IILOwnSunday$Town;LOwnSunday$Book;)Z"⟩
abbrev cX1_takeWeeks : ByteArray := prog_3_method_7_code
def yX1_takeWeeks : MethodName := ⟨RX1, "takeWeeks", "(LOwnSunday$Town;)Z"⟩
abbrev cX1_isWeekLength : ByteArray := prog_3_method_8_code
def yX1_isWeekLength : MethodName := ⟨RX1, "isWeekLength", "(I)Z"⟩
abbrev cX1_takeHouse : ByteArray := prog_3_method_9_code
def yX1_takeHouse : MethodName := ⟨RX1, "takeHouse", "(ILOwnSunday$Town;LOwnSunday$Book;)Z"⟩
abbrev cX1_takeNew : ByteArray := prog_3_method_10_code
def yX1_takeNew : MethodName := ⟨RX1, "takeNew", "(LOwnSunday$Town;LOwnSunday$Book;)Z"⟩
abbrev cX1_takeWork : ByteArray := prog_3_method_11_code
def yX1_takeWork : MethodName := ⟨RX1, "takeWork", "(LOwnSunday$Town;)Z"⟩
abbrev cX1_takeCook : ByteArray := prog_3_method_12_code
def yX1_takeCook : MethodName := ⟨RX1, "takeCook", "(LOwnSunday$Town;)Z"⟩
abbrev cX1_placeOfWrongRest : ByteArray := prog_3_method_13_code
def yX1_placeOfWrongRest : MethodName := ⟨RX1, "placeOfWrongRest", "(LOwnSunday$Town;LOwnSunday$Book;)I"⟩
def RX2 : String := "OwnSunday$Rota"
def TX2 : u_T := fun k => match k with
  | 0 => ("OwnSunday$Rota", "length", "[I", true)
  | 1 => ("OwnSunday$Rota", "resting", "[[I", true)
  | _ => ("OwnSunday$Rota", "common", "I", false)
def tyX2 : Nat → FieldType := fun k => match k with
  | 0 => .array .int
  | 1 => .array (.array .int)
  | _ => .int
abbrev wsX20 : List Cond := u_ws RX2 TX2 3
theorem nmX2 : ∀ a, a < 3 → ∀ b, b < 3 → a ≠ b → (TX2 a).2.1 ≠ (TX2 b).2.1 := by decide +kernel
theorem tyX2_ok : ∀ k, k < 3 → parseFieldDescriptor (TX2 k).2.2.1 = some (tyX2 k) := by decide +kernel
abbrev cX2_init : ByteArray := prog_4_method_1_code
def yX2_init : MethodName := ⟨RX2, "<init>", "()V"⟩
abbrev cX2_fill : ByteArray := prog_4_method_2_code
def yX2_fill : MethodName := ⟨RX2, "fill", "(LOwnSunday$Town;LOwnSunday$Book;I)V"⟩
abbrev cX2_put : ByteArray := prog_4_method_3_code
def yX2_put : MethodName := ⟨RX2, "put", "(III)V"⟩
abbrev cX2_lift : ByteArray := prog_4_method_4_code
def yX2_lift : MethodName := ⟨RX2, "lift", "(III)V"⟩
abbrev cX2_restingOn : ByteArray := prog_4_method_5_code
def yX2_restingOn : MethodName := ⟨RX2, "restingOn", "(J)I"⟩
abbrev cX2_mostResting : ByteArray := prog_4_method_6_code
def yX2_mostResting : MethodName := ⟨RX2, "mostResting", "(I)I"⟩
abbrev cX2_mostOfWeek : ByteArray := prog_4_method_7_code
def yX2_mostOfWeek : MethodName := ⟨RX2, "mostOfWeek", "(III)I"⟩
def RX3 : String := "OwnSunday$Town"
def TX3 : u_T := fun k => match k with
  | 0 => ("OwnSunday$Town", "length", "[I", true)
  | 1 => ("OwnSunday$Town", "houses", "I", false)
  | 2 => ("OwnSunday$Town", "skills", "[I", true)
  | 3 => ("OwnSunday$Town", "street", "[I", true)
  | 4 => ("OwnSunday$Town", "skilled", "[I", true)
  | 5 => ("OwnSunday$Town", "works", "I", false)
  | 6 => ("OwnSunday$Town", "workSkill", "[I", true)
  | 7 => ("OwnSunday$Town", "workNeed", "[I", true)
  | 8 => ("OwnSunday$Town", "workDays", "[I", true)
  | _ => ("OwnSunday$Town", "cook", "I", false)
def tyX3 : Nat → FieldType := fun k => match k with
  | 0 => .array .int
  | 1 => .int
  | 2 => .array .int
  | 3 => .array .int
  | 4 => .array .int
  | 5 => .int
  | 6 => .array .int
  | 7 => .array .int
  | 8 => .array .int
  | _ => .int
abbrev wsX30 : List Cond := u_ws RX3 TX3 10
theorem nmX3 : ∀ a, a < 10 → ∀ b, b < 10 → a ≠ b → (TX3 a).2.1 ≠ (TX3 b).2.1 := by decide +kernel
theorem tyX3_ok : ∀ k, k < 10 → parseFieldDescriptor (TX3 k).2.2.1 = some (tyX3 k) := by decide +kernel
abbrev cX3_init : ByteArray := prog_5_method_1_code
def yX3_init : MethodName := ⟨RX3, "<init>", "()V"⟩
abbrev cX3_begin : ByteArray := prog_5_method_2_code
def yX3_begin : MethodName := ⟨RX3, "begin", "()V"⟩
abbrev cX3_addHouse : ByteArray := prog_5_method_3_code
def yX3_addHouse : MethodName := ⟨RX3, "addHouse", "(II)V"⟩
abbrev cX3_addWork : ByteArray := prog_5_method_4_code
def yX3_addWork : MethodName := ⟨RX3, "addWork", "(III)V"⟩
abbrev cX3_period : ByteArray := prog_5_method_5_code
def yX3_period : MethodName := ⟨RX3, "period", "()I"⟩
abbrev cX3_housesOfStreet : ByteArray := prog_5_method_6_code
def yX3_housesOfStreet : MethodName := ⟨RX3, "housesOfStreet", "(I)I"⟩
abbrev cX3_isShort : ByteArray := prog_5_method_7_code
def yX3_isShort : MethodName := ⟨RX3, "isShort", "(II)Z"⟩
def RX4 : String := "OwnSunday$Ways"
def TX4 : u_T := fun k => match k with
  | 0 => ("OwnSunday$Ways", "newcomers", "I", false)
  | 1 => ("OwnSunday$Ways", "newcomer", "[I", true)
  | 2 => ("OwnSunday$Ways", "week", "[I", true)
  | 3 => ("OwnSunday$Ways", "length", "[I", true)
  | 4 => ("OwnSunday$Ways", "rest", "[I", true)
  | 5 => ("OwnSunday$Ways", "total", "I", false)
  | 6 => ("OwnSunday$Ways", "found", "I", false)
  | 7 => ("OwnSunday$Ways", "least", "I", false)
  | 8 => ("OwnSunday$Ways", "chosen", "[I", true)
  | _ => ("OwnSunday$Ways", "some", "[I", true)
def tyX4 : Nat → FieldType := fun k => match k with
  | 0 => .int
  | 1 => .array .int
  | 2 => .array .int
  | 3 => .array .int
  | 4 => .array .int
  | 5 => .int
  | 6 => .int
  | 7 => .int
  | 8 => .array .int
  | _ => .array .int
abbrev wsX40 : List Cond := u_ws RX4 TX4 10
theorem nmX4 : ∀ a, a < 10 → ∀ b, b < 10 → a ≠ b → (TX4 a).2.1 ≠ (TX4 b).2.1 := by decide +kernel
theorem tyX4_ok : ∀ k, k < 10 → parseFieldDescriptor (TX4 k).2.2.1 = some (tyX4 k) := by decide +kernel
abbrev cX4_init : ByteArray := prog_6_method_1_code
def yX4_init : MethodName := ⟨RX4, "<init>", "()V"⟩
abbrev cX4_begin : ByteArray := prog_6_method_2_code
def yX4_begin : MethodName := ⟨RX4, "begin", "(LOwnSunday$Town;LOwnSunday$Book;)V"⟩
abbrev cX4_advance : ByteArray := prog_6_method_3_code
def yX4_advance : MethodName := ⟨RX4, "advance", "()V"⟩
abbrev cX4_putInto : ByteArray := prog_6_method_4_code
def yX4_putInto : MethodName := ⟨RX4, "putInto", "(LOwnSunday$Rota;)V"⟩
abbrev cX4_liftFrom : ByteArray := prog_6_method_5_code
def yX4_liftFrom : MethodName := ⟨RX4, "liftFrom", "(LOwnSunday$Rota;)V"⟩
abbrev cX4_find : ByteArray := prog_6_method_6_code
def yX4_find : MethodName := ⟨RX4, "find", "(I)V"⟩
abbrev cX4_chosenRest : ByteArray := prog_6_method_7_code
def yX4_chosenRest : MethodName := ⟨RX4, "chosenRest", "(I)I"⟩
abbrev cX4_restsOfSome : ByteArray := prog_6_method_8_code
def yX4_restsOfSome : MethodName := ⟨RX4, "restsOfSome", "(I)I"⟩
abbrev cX4_ofHouse : ByteArray := prog_6_method_9_code
def yX4_ofHouse : MethodName := ⟨RX4, "ofHouse", "([II)I"⟩
def RX5 : String := "OwnSunday"
def TX5 : u_T := fun k => match k with
  | 0 => ("OwnSunday", "text", "[B", true)
  | 1 => ("OwnSunday", "size", "I", false)
  | 2 => ("OwnSunday", "reader", "LOwnSunday$Reader;", true)
  | 3 => ("OwnSunday", "draftTown", "LOwnSunday$Town;", true)
  | 4 => ("OwnSunday", "draftBook", "LOwnSunday$Book;", true)
  | 5 => ("OwnSunday", "town", "LOwnSunday$Town;", true)
  | 6 => ("OwnSunday", "book", "LOwnSunday$Book;", true)
  | 7 => ("OwnSunday", "kept", "[LOwnSunday$Book;", true)
  | 8 => ("OwnSunday", "keptCount", "I", false)
  | 9 => ("OwnSunday", "rota", "LOwnSunday$Rota;", true)
  | 10 => ("OwnSunday", "ways", "LOwnSunday$Ways;", true)
  | _ => ("OwnSunday", "changes", "[I", true)
def tyX5 : Nat → FieldType := fun k => match k with
  | 0 => .array .byte
  | 1 => .int
  | 2 => .object "OwnSunday$Reader"
  | 3 => .object "OwnSunday$Town"
  | 4 => .object "OwnSunday$Book"
  | 5 => .object "OwnSunday$Town"
  | 6 => .object "OwnSunday$Book"
  | 7 => .array (.object "OwnSunday$Book")
  | 8 => .int
  | 9 => .object "OwnSunday$Rota"
  | 10 => .object "OwnSunday$Ways"
  | _ => .array .int
abbrev wsX50 : List Cond := u_ws RX5 TX5 12
theorem nmX5 : ∀ a, a < 12 → ∀ b, b < 12 → a ≠ b → (TX5 a).2.1 ≠ (TX5 b).2.1 := by decide +kernel
theorem tyX5_ok : ∀ k, k < 12 → parseFieldDescriptor (TX5 k).2.2.1 = some (tyX5 k) := by decide +kernel
abbrev cX5_init : ByteArray := prog_1_method_1_code
def yX5_init : MethodName := ⟨RX5, "<init>", "()V"⟩
abbrev cX5_write : ByteArray := prog_1_method_2_code
def yX5_write : MethodName := ⟨RX5, "write", "(IJ)I"⟩
abbrev cX5_wipe : ByteArray := prog_1_method_3_code
def yX5_wipe : MethodName := ⟨RX5, "wipe", "()I"⟩
abbrev cX5_fault : ByteArray := prog_1_method_4_code
def yX5_fault : MethodName := ⟨RX5, "fault", "()I"⟩
abbrev cX5_lay : ByteArray := prog_1_method_5_code
def yX5_lay : MethodName := ⟨RX5, "lay", "()I"⟩
abbrev cX5_house : ByteArray := prog_1_method_6_code
def yX5_house : MethodName := ⟨RX5, "house", "(II)I"⟩
abbrev cX5_up : ByteArray := prog_1_method_7_code
def yX5_up : MethodName := ⟨RX5, "up", "(J)I"⟩
abbrev cX5_hands : ByteArray := prog_1_method_8_code
def yX5_hands : MethodName := ⟨RX5, "hands", "(IJ)I"⟩
abbrev cX5_judge : ByteArray := prog_1_method_9_code
def yX5_judge : MethodName := ⟨RX5, "judge", "(JI)J"⟩
abbrev cX5_still : ByteArray := prog_1_method_10_code
def yX5_still : MethodName := ⟨RX5, "still", "(I)I"⟩
abbrev cX5_together : ByteArray := prog_1_method_11_code
def yX5_together : MethodName := ⟨RX5, "together", "(IJ)J"⟩
abbrev cX5_often : ByteArray := prog_1_method_12_code
def yX5_often : MethodName := ⟨RX5, "often", "(IJJ)J"⟩
abbrev cX5_longest : ByteArray := prog_1_method_13_code
def yX5_longest : MethodName := ⟨RX5, "longest", "(I)I"⟩
abbrev cX5_street : ByteArray := prog_1_method_14_code
def yX5_street : MethodName := ⟨RX5, "street", "(IJ)J"⟩
abbrev cX5_same : ByteArray := prog_1_method_15_code
def yX5_same : MethodName := ⟨RX5, "same", "(I)I"⟩
abbrev cX5_harvest : ByteArray := prog_1_method_16_code
def yX5_harvest : MethodName := ⟨RX5, "harvest", "(IJJ)J"⟩
abbrev cX5_settled : ByteArray := prog_1_method_17_code
def yX5_settled : MethodName := ⟨RX5, "settled", "(I)I"⟩
abbrev cX5_years : ByteArray := prog_1_method_18_code
def yX5_years : MethodName := ⟨RX5, "years", "(II)I"⟩
abbrev cX5_wedding : ByteArray := prog_1_method_19_code
def yX5_wedding : MethodName := ⟨RX5, "wedding", "(III)I"⟩
abbrev cX5_seen : ByteArray := prog_1_method_20_code
def yX5_seen : MethodName := ⟨RX5, "seen", "(JIZ)I"⟩
abbrev cX5_forget : ByteArray := prog_1_method_21_code
def yX5_forget : MethodName := ⟨RX5, "forget", "()I"⟩
abbrev cX5_fits : ByteArray := prog_1_method_22_code
def yX5_fits : MethodName := ⟨RX5, "fits", "(IZ)I"⟩
abbrev cX5_fire : ByteArray := prog_1_method_23_code
def yX5_fire : MethodName := ⟨RX5, "fire", "(IIJI)I"⟩
abbrev cX5_change : ByteArray := prog_1_method_24_code
def yX5_change : MethodName := ⟨RX5, "change", "(II)I"⟩
abbrev cX5_wed : ByteArray := prog_1_method_25_code
def yX5_wed : MethodName := ⟨RX5, "wed", "(II)I"⟩
abbrev cX5_settle : ByteArray := prog_1_method_26_code
def yX5_settle : MethodName := ⟨RX5, "settle", "()I"⟩
abbrev cX5_keep : ByteArray := prog_1_method_27_code
def yX5_keep : MethodName := ⟨RX5, "keep", "()I"⟩
abbrev cX5_back : ByteArray := prog_1_method_28_code
def yX5_back : MethodName := ⟨RX5, "back", "()I"⟩
abbrev cX5_count : ByteArray := prog_1_method_29_code
def yX5_count : MethodName := ⟨RX5, "count", "(I)I"⟩
abbrev cX5_isHouse : ByteArray := prog_1_method_30_code
def yX5_isHouse : MethodName := ⟨RX5, "isHouse", "(I)Z"⟩
abbrev cX5_isNewHouse : ByteArray := prog_1_method_31_code
def yX5_isNewHouse : MethodName := ⟨RX5, "isNewHouse", "(I)Z"⟩
abbrev cX5_isWork : ByteArray := prog_1_method_32_code
def yX5_isWork : MethodName := ⟨RX5, "isWork", "(I)Z"⟩
abbrev cX5_isSet : ByteArray := prog_1_method_33_code
def yX5_isSet : MethodName := ⟨RX5, "isSet", "(I)Z"⟩
abbrev cX5_isSkill : ByteArray := prog_1_method_34_code
def yX5_isSkill : MethodName := ⟨RX5, "isSkill", "(I)Z"⟩
abbrev cX5_isDay : ByteArray := prog_1_method_35_code
def yX5_isDay : MethodName := ⟨RX5, "isDay", "(J)Z"⟩
abbrev cX5_fillRota : ByteArray := prog_1_method_36_code
def yX5_fillRota : MethodName := ⟨RX5, "fillRota", "()V"⟩
abbrev cX5_weekLength : ByteArray := prog_1_method_37_code
def yX5_weekLength : MethodName := ⟨RX5, "weekLength", "(I)I"⟩
abbrev cX5_upOn : ByteArray := prog_1_method_38_code
def yX5_upOn : MethodName := ⟨RX5, "upOn", "(J)I"⟩
abbrev cX5_handsOn : ByteArray := prog_1_method_39_code
def yX5_handsOn : MethodName := ⟨RX5, "handsOn", "(IJ)I"⟩
abbrev cX5_allUp : ByteArray := prog_1_method_40_code
def yX5_allUp : MethodName := ⟨RX5, "allUp", "(IJ)Z"⟩
abbrev cX5_cookRests : ByteArray := prog_1_method_41_code
def yX5_cookRests : MethodName := ⟨RX5, "cookRests", "(J)Z"⟩
abbrev cX5_dayOfFire : ByteArray := prog_1_method_42_code
def yX5_dayOfFire : MethodName := ⟨RX5, "dayOfFire", "(IIJ)J"⟩
abbrev cX5_firstShort : ByteArray := prog_1_method_43_code
def yX5_firstShort : MethodName := ⟨RX5, "firstShort", "(I)I"⟩
abbrev cX5_daysAllUp : ByteArray := prog_1_method_44_code
def yX5_daysAllUp : MethodName := ⟨RX5, "daysAllUp", "(IJI)I"⟩
abbrev cX5_firstDayResting : ByteArray := prog_1_method_45_code
def yX5_firstDayResting : MethodName := ⟨RX5, "firstDayResting", "(I)I"⟩
abbrev cX5_daysToDo : ByteArray := prog_1_method_46_code
def yX5_daysToDo : MethodName := ⟨RX5, "daysToDo", "(IJJ)I"⟩
abbrev cX5_everShort : ByteArray := prog_1_method_47_code
def yX5_everShort : MethodName := ⟨RX5, "everShort", "(I)Z"⟩
abbrev cX5_anyEverShort : ByteArray := prog_1_method_48_code
def yX5_anyEverShort : MethodName := ⟨RX5, "anyEverShort", "()Z"⟩
abbrev cX5_shortDaysWed : ByteArray := prog_1_method_49_code
def yX5_shortDaysWed : MethodName := ⟨RX5, "shortDaysWed", "(III)I"⟩
abbrev cX5_goThroughSettled : ByteArray := prog_1_method_50_code
def yX5_goThroughSettled : MethodName := ⟨RX5, "goThroughSettled", "()V"⟩
abbrev cX5_goThroughFits : ByteArray := prog_1_method_51_code
def yX5_goThroughFits : MethodName := ⟨RX5, "goThroughFits", "()V"⟩
abbrev cX5_allSeenWasSo : ByteArray := prog_1_method_52_code
def yX5_allSeenWasSo : MethodName := ⟨RX5, "allSeenWasSo", "()Z"⟩
abbrev cX5_findChanges : ByteArray := prog_1_method_53_code
def yX5_findChanges : MethodName := ⟨RX5, "findChanges", "(I)V"⟩
abbrev cX5_findOneChange : ByteArray := prog_1_method_54_code
def yX5_findOneChange : MethodName := ⟨RX5, "findOneChange", "(I)Z"⟩
abbrev cX5_findTwoChanges : ByteArray := prog_1_method_55_code
def yX5_findTwoChanges : MethodName := ⟨RX5, "findTwoChanges", "(I)V"⟩
abbrev cX5_findSecondChange : ByteArray := prog_1_method_56_code
def yX5_findSecondChange : MethodName := ⟨RX5, "findSecondChange", "(III)Z"⟩
abbrev cX5_hasSkillOf : ByteArray := prog_1_method_57_code
def yX5_hasSkillOf : MethodName := ⟨RX5, "hasSkillOf", "(II)Z"⟩
abbrev cX5_helpfulRest : ByteArray := prog_1_method_58_code
def yX5_helpfulRest : MethodName := ⟨RX5, "helpfulRest", "(II)I"⟩
def RX6 : String := "OwnSundayModel"
def TX6 : u_T := fun k => match k with
  | 0 => ("OwnSundayModel", "length", "I", false)
  | 1 => ("OwnSundayModel", "text", "[B", true)
  | 2 => ("OwnSundayModel", "at", "I", false)
  | 3 => ("OwnSundayModel", "weeks", "[I", true)
  | 4 => ("OwnSundayModel", "houses", "[I", true)
  | 5 => ("OwnSundayModel", "works", "[I", true)
  | 6 => ("OwnSundayModel", "cook", "[I", true)
  | 7 => ("OwnSundayModel", "house", "[I", true)
  | 8 => ("OwnSundayModel", "place", "[I", true)
  | 9 => ("OwnSundayModel", "work", "[I", true)
  | 10 => ("OwnSundayModel", "isNew", "[Z", true)
  | 11 => ("OwnSundayModel", "seen", "I", false)
  | 12 => ("OwnSundayModel", "seenDay", "[J", true)
  | 13 => ("OwnSundayModel", "seenWork", "[I", true)
  | 14 => ("OwnSundayModel", "went", "[Z", true)
  | 15 => ("OwnSundayModel", "kept", "I", false)
  | 16 => ("OwnSundayModel", "keptHouse", "[I", true)
  | 17 => ("OwnSundayModel", "keptNew", "[Z", true)
  | 18 => ("OwnSundayModel", "keptSeen", "[I", true)
  | 19 => ("OwnSundayModel", "keptDay", "[J", true)
  | 20 => ("OwnSundayModel", "keptWork", "[I", true)
  | 21 => ("OwnSundayModel", "keptWent", "[Z", true)
  | 22 => ("OwnSundayModel", "old", "[I", true)
  | 23 => ("OwnSundayModel", "first", "[I", true)
  | 24 => ("OwnSundayModel", "some", "[I", true)
  | 25 => ("OwnSundayModel", "ways", "I", false)
  | 26 => ("OwnSundayModel", "fairest", "I", false)
  | 27 => ("OwnSundayModel", "changes", "[I", true)
  | 28 => ("OwnSundayModel", "got", "[I", true)
  | _ => ("OwnSundayModel", "sameDay", "I", false)
def tyX6 : Nat → FieldType := fun k => match k with
  | 0 => .int
  | 1 => .array .byte
  | 2 => .int
  | 3 => .array .int
  | 4 => .array .int
  | 5 => .array .int
  | 6 => .array .int
  | 7 => .array .int
  | 8 => .array .int
  | 9 => .array .int
  | 10 => .array .boolean
  | 11 => .int
  | 12 => .array .long
  | 13 => .array .int
  | 14 => .array .boolean
  | 15 => .int
  | 16 => .array .int
  | 17 => .array .boolean
  | 18 => .array .int
  | 19 => .array .long
  | 20 => .array .int
  | 21 => .array .boolean
  | 22 => .array .int
  | 23 => .array .int
  | 24 => .array .int
  | 25 => .int
  | 26 => .int
  | 27 => .array .int
  | 28 => .array .int
  | _ => .int
abbrev wsX60 : List Cond := u_ws RX6 TX6 30
theorem nmX6 : ∀ a, a < 30 → ∀ b, b < 30 → a ≠ b → (TX6 a).2.1 ≠ (TX6 b).2.1 := by decide +kernel
theorem tyX6_ok : ∀ k, k < 30 → parseFieldDescriptor (TX6 k).2.2.1 = some (tyX6 k) := by decide +kernel
abbrev cX6_init : ByteArray := prog_8_method_1_code
def yX6_init : MethodName := ⟨RX6, "<init>", "()V"⟩
abbrev cX6_in : ByteArray := prog_8_method_2_code
def yX6_in : MethodName := ⟨RX6, "in", "(JJJ)Z"⟩
abbrev cX6_write : ByteArray := prog_8_method_3_code
def yX6_write : MethodName := ⟨RX6, "write", "(IJ)I"⟩
abbrev cX6_wipe : ByteArray := prog_8_method_4_code
def yX6_wipe : MethodName := ⟨RX6, "wipe", "()I"⟩
abbrev cX6_number : ByteArray := prog_8_method_5_code
def yX6_number : MethodName := ⟨RX6, "number", "()I"⟩
abbrev cX6_parts : ByteArray := prog_8_method_6_code
def yX6_parts : MethodName := ⟨RX6, "parts", "(I)I"⟩
abbrev cX6_isItem : ByteArray := prog_8_method_7_code
def yX6_isItem : MethodName := ⟨RX6, "isItem", "()Z"⟩
abbrev cX6_isGood : ByteArray := prog_8_method_8_code
def yX6_isGood : MethodName := ⟨RX6, "isGood", "(II)Z"⟩
abbrev cX6_begins : ByteArray := prog_8_method_9_code
def yX6_begins : MethodName := ⟨RX6, "begins", "()V"⟩
abbrev cX6_takes : ByteArray := prog_8_method_10_code
def yX6_takes : MethodName := ⟨RX6, "takes", "()V"⟩
abbrev cX6_fault : ByteArray := prog_8_method_11_code
def yX6_fault : MethodName := ⟨RX6, "fault", "()I"⟩
abbrev cX6_lay : ByteArray := prog_8_method_12_code
def yX6_lay : MethodName := ⟨RX6, "lay", "()I"⟩
abbrev cX6_isHouse : ByteArray := prog_8_method_13_code
def yX6_isHouse : MethodName := ⟨RX6, "isHouse", "(I)Z"⟩
abbrev cX6_isWork : ByteArray := prog_8_method_14_code
def yX6_isWork : MethodName := ⟨RX6, "isWork", "(I)Z"⟩
abbrev cX6_isDay : ByteArray := prog_8_method_15_code
def yX6_isDay : MethodName := ⟨RX6, "isDay", "(J)Z"⟩
abbrev cX6_house : ByteArray := prog_8_method_16_code
def yX6_house : MethodName := ⟨RX6, "house", "(II)I"⟩
abbrev cX6_weekOf : ByteArray := prog_8_method_17_code
def yX6_weekOf : MethodName := ⟨RX6, "weekOf", "(I)I"⟩
abbrev cX6_isUp : ByteArray := prog_8_method_18_code
def yX6_isUp : MethodName := ⟨RX6, "isUp", "(IJ)Z"⟩
abbrev cX6_period : ByteArray := prog_8_method_19_code
def yX6_period : MethodName := ⟨RX6, "period", "()I"⟩
abbrev cX6_upOn : ByteArray := prog_8_method_20_code
def yX6_upOn : MethodName := ⟨RX6, "upOn", "(J)I"⟩
abbrev cX6_bits : ByteArray := prog_8_method_21_code
def yX6_bits : MethodName := ⟨RX6, "bits", "(I)I"⟩
abbrev cX6_handsOn : ByteArray := prog_8_method_22_code
def yX6_handsOn : MethodName := ⟨RX6, "handsOn", "(IJ)I"⟩
abbrev cX6_up : ByteArray := prog_8_method_23_code
def yX6_up : MethodName := ⟨RX6, "up", "(J)I"⟩
abbrev cX6_hands : ByteArray := prog_8_method_24_code
def yX6_hands : MethodName := ⟨RX6, "hands", "(IJ)I"⟩
abbrev cX6_isShort : ByteArray := prog_8_method_25_code
def yX6_isShort : MethodName := ⟨RX6, "isShort", "(IJ)Z"⟩
abbrev cX6_shortOn : ByteArray := prog_8_method_26_code
def yX6_shortOn : MethodName := ⟨RX6, "shortOn", "(J)I"⟩
abbrev cX6_judge : ByteArray := prog_8_method_27_code
def yX6_judge : MethodName := ⟨RX6, "judge", "(JI)J"⟩
abbrev cX6_still : ByteArray := prog_8_method_28_code
def yX6_still : MethodName := ⟨RX6, "still", "(I)I"⟩
abbrev cX6_isSet : ByteArray := prog_8_method_29_code
def yX6_isSet : MethodName := ⟨RX6, "isSet", "(I)Z"⟩
abbrev cX6_areUp : ByteArray := prog_8_method_30_code
def yX6_areUp : MethodName := ⟨RX6, "areUp", "(IJ)Z"⟩
abbrev cX6_together : ByteArray := prog_8_method_31_code
def yX6_together : MethodName := ⟨RX6, "together", "(IJ)J"⟩
abbrev cX6_often : ByteArray := prog_8_method_32_code
def yX6_often : MethodName := ⟨RX6, "often", "(IJJ)J"⟩
abbrev cX6_longest : ByteArray := prog_8_method_33_code
def yX6_longest : MethodName := ⟨RX6, "longest", "(I)I"⟩
abbrev cX6_street : ByteArray := prog_8_method_34_code
def yX6_street : MethodName := ⟨RX6, "street", "(IJ)J"⟩
abbrev cX6_mostRest : ByteArray := prog_8_method_35_code
def yX6_mostRest : MethodName := ⟨RX6, "mostRest", "()I"⟩
abbrev cX6_same : ByteArray := prog_8_method_36_code
def yX6_same : MethodName := ⟨RX6, "same", "(I)I"⟩
abbrev cX6_harvest : ByteArray := prog_8_method_37_code
def yX6_harvest : MethodName := ⟨RX6, "harvest", "(IJJ)J"⟩
abbrev cX6_isAll : ByteArray := prog_8_method_38_code
def yX6_isAll : MethodName := ⟨RX6, "isAll", "()Z"⟩
abbrev cX6_fitsSeen : ByteArray := prog_8_method_39_code
def yX6_fitsSeen : MethodName := ⟨RX6, "fitsSeen", "()Z"⟩
abbrev cX6_settles : ByteArray := prog_8_method_40_code
def yX6_settles : MethodName := ⟨RX6, "settles", "(Z)V"⟩
abbrev cX6_counts : ByteArray := prog_8_method_41_code
def yX6_counts : MethodName := ⟨RX6, "counts", "(Z)V"⟩
abbrev cX6_settled : ByteArray := prog_8_method_42_code
def yX6_settled : MethodName := ⟨RX6, "settled", "(I)I"⟩
abbrev cX6_goesOn : ByteArray := prog_8_method_43_code
def yX6_goesOn : MethodName := ⟨RX6, "goesOn", "(I)Z"⟩
abbrev cX6_changesOne : ByteArray := prog_8_method_44_code
def yX6_changesOne : MethodName := ⟨RX6, "changesOne", "(III)Z"⟩
abbrev cX6_changesTwo : ByteArray := prog_8_method_45_code
def yX6_changesTwo : MethodName := ⟨RX6, "changesTwo", "(I)Z"⟩
abbrev cX6_years : ByteArray := prog_8_method_46_code
def yX6_years : MethodName := ⟨RX6, "years", "(II)I"⟩
abbrev cX6_days : ByteArray := prog_8_method_47_code
def yX6_days : MethodName := ⟨RX6, "days", "(II)I"⟩
abbrev cX6_wedding : ByteArray := prog_8_method_48_code
def yX6_wedding : MethodName := ⟨RX6, "wedding", "(III)I"⟩
abbrev cX6_seen : ByteArray := prog_8_method_49_code
def yX6_seen : MethodName := ⟨RX6, "seen", "(JIZ)I"⟩
abbrev cX6_forget : ByteArray := prog_8_method_50_code
def yX6_forget : MethodName := ⟨RX6, "forget", "()I"⟩
abbrev cX6_fits : ByteArray := prog_8_method_51_code
def yX6_fits : MethodName := ⟨RX6, "fits", "(IZ)I"⟩
abbrev cX6_fireDay : ByteArray := prog_8_method_52_code
def yX6_fireDay : MethodName := ⟨RX6, "fireDay", "(IIJ)J"⟩
abbrev cX6_fire : ByteArray := prog_8_method_53_code
def yX6_fire : MethodName := ⟨RX6, "fire", "(IIJI)I"⟩
abbrev cX6_change : ByteArray := prog_8_method_54_code
def yX6_change : MethodName := ⟨RX6, "change", "(II)I"⟩
abbrev cX6_wed : ByteArray := prog_8_method_55_code
def yX6_wed : MethodName := ⟨RX6, "wed", "(II)I"⟩
abbrev cX6_newMany : ByteArray := prog_8_method_56_code
def yX6_newMany : MethodName := ⟨RX6, "newMany", "()I"⟩
abbrev cX6_settle : ByteArray := prog_8_method_57_code
def yX6_settle : MethodName := ⟨RX6, "settle", "()I"⟩
abbrev cX6_keep : ByteArray := prog_8_method_58_code
def yX6_keep : MethodName := ⟨RX6, "keep", "()I"⟩
abbrev cX6_back : ByteArray := prog_8_method_59_code
def yX6_back : MethodName := ⟨RX6, "back", "()I"⟩
abbrev cX6_count : ByteArray := prog_8_method_60_code
def yX6_count : MethodName := ⟨RX6, "count", "(I)I"⟩
def RJ6 : String := "java/lang/Integer"
def TJ6 : u_T := fun k => match k with
  | _ => ("", "", "", false)
def tyJ6 : Nat → FieldType := fun k => match k with
  | _ => .int
abbrev wsJ60 : List Cond := u_ws RJ6 TJ6 0
theorem nmJ6 : ∀ a, a < 0 → ∀ b, b < 0 → a ≠ b → (TJ6 a).2.1 ≠ (TJ6 b).2.1 := by decide +kernel
theorem tyJ6_ok : ∀ k, k < 0 → parseFieldDescriptor (TJ6 k).2.2.1 = some (tyJ6 k) := by decide +kernel
abbrev cJ6_bitCount_0f7a4 : ByteArray := prog_9_method_49_code
def yJ6_bitCount_0f7a4 : MethodName := ⟨RJ6, "bitCount", "(I)I"⟩
def RJ9 : String := "java/lang/Math"
def TJ9 : u_T := fun k => match k with
  | _ => ("", "", "", false)
def tyJ9 : Nat → FieldType := fun k => match k with
  | _ => .int
abbrev wsJ90 : List Cond := u_ws RJ9 TJ9 0
theorem nmJ9 : ∀ a, a < 0 → ∀ b, b < 0 → a ≠ b → (TJ9 a).2.1 ≠ (TJ9 b).2.1 := by decide +kernel
theorem tyJ9_ok : ∀ k, k < 0 → parseFieldDescriptor (TJ9 k).2.2.1 = some (tyJ9 k) := by decide +kernel
abbrev cJ9_max_7cf53 : ByteArray := prog_10_method_65_code
def yJ9_max_7cf53 : MethodName := ⟨RJ9, "max", "(II)I"⟩
abbrev cJ9_min_7cf53 : ByteArray := prog_10_method_69_code
def yJ9_min_7cf53 : MethodName := ⟨RJ9, "min", "(II)I"⟩
def RJ10 : String := "java/lang/System"
def TJ10 : u_T := fun k => match k with
  | _ => ("", "", "", false)
def tyJ10 : Nat → FieldType := fun k => match k with
  | _ => .int
abbrev wsJ100 : List Cond := u_ws RJ10 TJ10 0
theorem nmJ10 : ∀ a, a < 0 → ∀ b, b < 0 → a ≠ b → (TJ10 a).2.1 ≠ (TJ10 b).2.1 := by decide +kernel
theorem tyJ10_ok : ∀ k, k < 0 → parseFieldDescriptor (TJ10 k).2.2.1 = some (tyJ10 k) := by decide +kernel
def RJ7 : String := "java/util/Arrays"
def TJ7 : u_T := fun k => match k with
  | _ => ("", "", "", false)
def tyJ7 : Nat → FieldType := fun k => match k with
  | _ => .int
abbrev wsJ70 : List Cond := u_ws RJ7 TJ7 0
theorem nmJ7 : ∀ a, a < 0 → ∀ b, b < 0 → a ≠ b → (TJ7 a).2.1 ≠ (TJ7 b).2.1 := by decide +kernel
theorem tyJ7_ok : ∀ k, k < 0 → parseFieldDescriptor (TJ7 k).2.2.1 = some (tyJ7 k) := by decide +kernel
abbrev cJ7_fill_53178 : ByteArray := prog_12_method_103_code
def yJ7_fill_53178 : MethodName := ⟨RJ7, "fill", "([II)V"⟩
def RL : String := "OwnSundayLaw"
abbrev cL_law : ByteArray := code
def yL_law : MethodName := ⟨RL, "law", "([I)Z"⟩
abbrev vwCl : List vw_C := [(RX0, TX0, 7), (RX1, TX1, 2), (RX2, TX2, 3), (RX3, TX3, 10), (RX4, TX4, 10), (RX5, TX5, 12), (RX6, TX6, 30)]
abbrev mz_E : Type := MethodName × ByteArray × Nat × Option FieldType × Nat × Nat × Nat × Nat × Nat × Nat × Nat
/-- the methods: name, code, locals, answer, kind (0 static, 1 virtual, 2 init), class, parameters, places of its words (code, kind, selects, initialized) -/
def mz_T : List mz_E := [
  (yX0_init, cX0_init, 1, none, 2, 0, 0, 156, 155, 0, 66),
  (yX0_begin, cX0_begin, 1, none, 1, 0, 0, 265, 263, 264, 66),
  (yX0_settleAt, cX0_settleAt, 4, none, 1, 0, 3, 269, 267, 268, 66),
  (yX0_isNew, cX0_isNew, 2, some .boolean, 1, 0, 1, 397, 395, 396, 66),
  (yX0_seenWent, cX0_seenWent, 2, some .boolean, 1, 0, 1, 660, 658, 659, 66),
  (yX0_addSeen, cX0_addSeen, 6, none, 1, 0, 3, 640, 638, 639, 66),
  (yX0_copyFrom, cX0_copyFrom, 2, none, 1, 0, 1, 697, 695, 696, 66),
  (yX1_init, cX1_init, 1, none, 2, 1, 0, 86, 85, 0, 64),
  (yX1_read, cX1_read, 8, some .int, 1, 1, 4, 326, 324, 325, 64),
  (yX1_readNumbers, cX1_readNumbers, 8, some .int, 1, 1, 3, 332, 331, 0, 64),
  (yX1_numbersOf, cX1_numbersOf, 1, some .int, 0, 1, 1, 335, 334, 0, 64),
  (yX1_isFigure, cX1_isFigure, 3, some .boolean, 0, 1, 3, 338, 337, 0, 64),
  (yX1_take, cX1_take, 5, some .boolean, 1, 1, 4, 342, 341, 1, 64),
  (yX1_takeWeeks, cX1_takeWeeks, 2, some .boolean, 1, 1, 1, 346, 345, 2, 64),
  (yX1_isWeekLength, cX1_isWeekLength, 1, some .boolean, 0, 1, 1, 349, 348, 0, 64),
  (yX1_takeHouse, cX1_takeHouse, 4, some .boolean, 1, 1, 3, 353, 352, 3, 64),
  (yX1_takeNew, cX1_takeNew, 4, some .boolean, 1, 1, 2, 359, 358, 4, 64),
  (yX1_takeWork, cX1_takeWork, 2, some .boolean, 1, 1, 1, 369, 368, 5, 64),
  (yX1_takeCook, cX1_takeCook, 2, some .boolean, 1, 1, 1, 377, 376, 6, 64),
  (yX1_placeOfWrongRest, cX1_placeOfWrongRest, 4, some .int, 1, 1, 2, 381, 380, 7, 64),
  (yX2_init, cX2_init, 1, none, 2, 2, 0, 198, 197, 0, 67),
  (yX2_fill, cX2_fill, 5, none, 1, 2, 3, 413, 411, 412, 67),
  (yX2_put, cX2_put, 4, none, 1, 2, 3, 426, 424, 425, 67),
  (yX2_lift, cX2_lift, 4, none, 1, 2, 3, 577, 575, 576, 67),
  (yX2_restingOn, cX2_restingOn, 3, some .int, 1, 2, 1, 434, 432, 433, 67),
  (yX2_mostResting, cX2_mostResting, 4, some .int, 1, 2, 1, 515, 513, 514, 67),
  (yX2_mostOfWeek, cX2_mostOfWeek, 7, some .int, 1, 2, 3, 519, 518, 17, 67),
  (yX3_init, cX3_init, 1, none, 2, 3, 0, 101, 100, 0, 65),
  (yX3_begin, cX3_begin, 1, none, 1, 3, 0, 258, 256, 257, 65),
  (yX3_addHouse, cX3_addHouse, 4, none, 1, 3, 2, 273, 271, 272, 65),
  (yX3_addWork, cX3_addWork, 4, none, 1, 3, 3, 373, 371, 372, 65),
  (yX3_period, cX3_period, 4, some .int, 1, 3, 0, 418, 416, 417, 65),
  (yX3_housesOfStreet, cX3_housesOfStreet, 4, some .int, 1, 3, 1, 507, 505, 506, 65),
  (yX3_isShort, cX3_isShort, 3, some .boolean, 1, 3, 2, 463, 461, 462, 65),
  (yX4_init, cX4_init, 1, none, 2, 4, 0, 216, 215, 0, 68),
  (yX4_begin, cX4_begin, 4, none, 1, 4, 2, 548, 546, 547, 68),
  (yX4_advance, cX4_advance, 2, none, 1, 4, 0, 581, 579, 580, 68),
  (yX4_putInto, cX4_putInto, 3, none, 1, 4, 1, 553, 551, 552, 68),
  (yX4_liftFrom, cX4_liftFrom, 3, none, 1, 4, 1, 573, 571, 572, 68),
  (yX4_find, cX4_find, 3, none, 1, 4, 1, 566, 564, 565, 68),
  (yX4_chosenRest, cX4_chosenRest, 2, some .int, 1, 4, 1, 585, 583, 584, 68),
  (yX4_restsOfSome, cX4_restsOfSome, 2, some .int, 1, 4, 1, 664, 662, 663, 68),
  (yX4_ofHouse, cX4_ofHouse, 4, some .int, 1, 4, 2, 589, 588, 24, 68),
  (yX5_init, cX5_init, 2, none, 2, 5, 0, 78, 77, 0, 63),
  (yX5_write, cX5_write, 5, some .int, 1, 5, 2, 314, 312, 313, 63),
  (yX5_wipe, cX5_wipe, 2, some .int, 1, 5, 0, 318, 316, 317, 63),
  (yX5_fault, cX5_fault, 1, some .int, 1, 5, 0, 322, 320, 321, 63),
  (yX5_lay, cX5_lay, 1, some .int, 1, 5, 0, 385, 383, 384, 63),
  (yX5_house, cX5_house, 3, some .int, 1, 5, 2, 389, 387, 388, 63),
  (yX5_up, cX5_up, 3, some .int, 1, 5, 1, 401, 399, 400, 63),
  (yX5_hands, cX5_hands, 4, some .int, 1, 5, 2, 438, 436, 437, 63),
  (yX5_judge, cX5_judge, 7, some .long, 1, 5, 2, 450, 448, 449, 63),
  (yX5_still, cX5_still, 6, some .int, 1, 5, 1, 469, 467, 468, 63),
  (yX5_together, cX5_together, 6, some .long, 1, 5, 2, 477, 475, 476, 63),
  (yX5_often, cX5_often, 10, some .long, 1, 5, 3, 489, 487, 488, 63),
  (yX5_longest, cX5_longest, 6, some .int, 1, 5, 1, 498, 496, 497, 63),
  (yX5_street, cX5_street, 7, some .long, 1, 5, 2, 503, 501, 502, 63),
  (yX5_same, cX5_same, 3, some .int, 1, 5, 1, 511, 509, 510, 63),
  (yX5_harvest, cX5_harvest, 11, some .long, 1, 5, 3, 528, 526, 527, 63),
  (yX5_settled, cX5_settled, 2, some .int, 1, 5, 1, 536, 534, 535, 63),
  (yX5_years, cX5_years, 3, some .int, 1, 5, 2, 593, 591, 592, 63),
  (yX5_wedding, cX5_wedding, 6, some .int, 1, 5, 3, 628, 626, 627, 63),
  (yX5_seen, cX5_seen, 5, some .int, 1, 5, 3, 636, 634, 635, 63),
  (yX5_forget, cX5_forget, 2, some .int, 1, 5, 0, 644, 642, 643, 63),
  (yX5_fits, cX5_fits, 3, some .int, 1, 5, 2, 648, 646, 647, 63),
  (yX5_fire, cX5_fire, 8, some .int, 1, 5, 4, 668, 666, 667, 63),
  (yX5_change, cX5_change, 4, some .int, 1, 5, 2, 681, 679, 680, 63),
  (yX5_wed, cX5_wed, 4, some .int, 1, 5, 2, 685, 683, 684, 63),
  (yX5_settle, cX5_settle, 2, some .int, 1, 5, 0, 689, 687, 688, 63),
  (yX5_keep, cX5_keep, 1, some .int, 1, 5, 0, 693, 691, 692, 63),
  (yX5_back, cX5_back, 1, some .int, 1, 5, 0, 702, 700, 701, 63),
  (yX5_count, cX5_count, 2, some .int, 1, 5, 1, 706, 704, 705, 63),
  (yX5_isHouse, cX5_isHouse, 2, some .boolean, 1, 5, 1, 393, 392, 8, 63),
  (yX5_isNewHouse, cX5_isNewHouse, 2, some .boolean, 1, 5, 1, 540, 539, 20, 63),
  (yX5_isWork, cX5_isWork, 2, some .boolean, 1, 5, 1, 473, 472, 13, 63),
  (yX5_isSet, cX5_isSet, 2, some .boolean, 1, 5, 1, 481, 480, 14, 63),
  (yX5_isSkill, cX5_isSkill, 1, some .boolean, 0, 5, 1, 441, 440, 0, 63),
  (yX5_isDay, cX5_isDay, 2, some .boolean, 0, 5, 1, 404, 403, 0, 63),
  (yX5_fillRota, cX5_fillRota, 1, none, 1, 5, 0, 409, 408, 9, 63),
  (yX5_weekLength, cX5_weekLength, 2, some .int, 1, 5, 1, 614, 613, 29, 63),
  (yX5_upOn, cX5_upOn, 3, some .int, 1, 5, 1, 430, 429, 10, 63),
  (yX5_handsOn, cX5_handsOn, 4, some .int, 1, 5, 2, 445, 444, 11, 63),
  (yX5_allUp, cX5_allUp, 4, some .boolean, 1, 5, 2, 485, 484, 15, 63),
  (yX5_cookRests, cX5_cookRests, 3, some .boolean, 1, 5, 1, 677, 676, 35, 63),
  (yX5_dayOfFire, cX5_dayOfFire, 6, some .long, 0, 5, 3, 671, 670, 0, 63),
  (yX5_firstShort, cX5_firstShort, 3, some .int, 1, 5, 1, 459, 458, 12, 63),
  (yX5_daysAllUp, cX5_daysAllUp, 7, some .int, 1, 5, 3, 494, 493, 16, 63),
  (yX5_firstDayResting, cX5_firstDayResting, 4, some .int, 1, 5, 1, 524, 523, 18, 63),
  (yX5_daysToDo, cX5_daysToDo, 10, some .int, 1, 5, 3, 532, 531, 19, 63),
  (yX5_everShort, cX5_everShort, 3, some .boolean, 1, 5, 1, 562, 561, 23, 63),
  (yX5_anyEverShort, cX5_anyEverShort, 2, some .boolean, 1, 5, 0, 558, 557, 22, 63),
  (yX5_shortDaysWed, cX5_shortDaysWed, 7, some .int, 1, 5, 3, 632, 631, 32, 63),
  (yX5_goThroughSettled, cX5_goThroughSettled, 2, none, 1, 5, 0, 544, 543, 21, 63),
  (yX5_goThroughFits, cX5_goThroughFits, 2, none, 1, 5, 0, 652, 651, 33, 63),
  (yX5_allSeenWasSo, cX5_allSeenWasSo, 3, some .boolean, 1, 5, 0, 656, 655, 34, 63),
  (yX5_findChanges, cX5_findChanges, 2, none, 1, 5, 1, 597, 596, 25, 63),
  (yX5_findOneChange, cX5_findOneChange, 4, some .boolean, 1, 5, 1, 602, 601, 26, 63),
  (yX5_findTwoChanges, cX5_findTwoChanges, 5, none, 1, 5, 1, 620, 619, 30, 63),
  (yX5_findSecondChange, cX5_findSecondChange, 6, some .boolean, 1, 5, 3, 624, 623, 31, 63),
  (yX5_hasSkillOf, cX5_hasSkillOf, 3, some .boolean, 1, 5, 2, 610, 609, 28, 63),
  (yX5_helpfulRest, cX5_helpfulRest, 7, some .int, 1, 5, 2, 606, 605, 27, 63),
  (yX6_init, cX6_init, 1, none, 2, 6, 0, 711, 710, 0, 70),
  (yX6_in, cX6_in, 6, some .boolean, 0, 6, 3, 820, 819, 0, 70),
  (yX6_write, cX6_write, 5, some .int, 1, 6, 2, 816, 814, 815, 70),
  (yX6_wipe, cX6_wipe, 2, some .int, 1, 6, 0, 824, 822, 823, 70),
  (yX6_number, cX6_number, 3, some .int, 1, 6, 0, 839, 838, 39, 70),
  (yX6_parts, cX6_parts, 1, some .int, 0, 6, 1, 835, 834, 0, 70),
  (yX6_isItem, cX6_isItem, 6, some .boolean, 1, 6, 0, 832, 831, 38, 70),
  (yX6_isGood, cX6_isGood, 6, some .boolean, 1, 6, 2, 846, 845, 40, 70),
  (yX6_begins, cX6_begins, 2, none, 1, 6, 0, 716, 715, 36, 70),
  (yX6_takes, cX6_takes, 2, none, 1, 6, 0, 720, 719, 37, 70),
  (yX6_fault, cX6_fault, 2, some .int, 1, 6, 0, 828, 826, 827, 70),
  (yX6_lay, cX6_lay, 1, some .int, 1, 6, 0, 855, 853, 854, 70),
  (yX6_isHouse, cX6_isHouse, 2, some .boolean, 1, 6, 1, 864, 863, 41, 70),
  (yX6_isWork, cX6_isWork, 2, some .boolean, 1, 6, 1, 915, 914, 48, 70),
  (yX6_isDay, cX6_isDay, 2, some .boolean, 0, 6, 1, 871, 870, 0, 70),
  (yX6_house, cX6_house, 3, some .int, 1, 6, 2, 860, 858, 859, 70),
  (yX6_weekOf, cX6_weekOf, 2, some .int, 1, 6, 1, 884, 883, 44, 70),
  (yX6_isUp, cX6_isUp, 4, some .boolean, 1, 6, 2, 880, 879, 43, 70),
  (yX6_period, cX6_period, 2, some .int, 1, 6, 0, 919, 918, 49, 70),
  (yX6_upOn, cX6_upOn, 5, some .int, 1, 6, 1, 876, 875, 42, 70),
  (yX6_bits, cX6_bits, 3, some .int, 0, 6, 1, 955, 954, 0, 70),
  (yX6_handsOn, cX6_handsOn, 6, some .int, 1, 6, 2, 892, 891, 45, 70),
  (yX6_up, cX6_up, 3, some .int, 1, 6, 1, 868, 866, 867, 70),
  (yX6_hands, cX6_hands, 4, some .int, 1, 6, 2, 888, 886, 887, 70),
  (yX6_isShort, cX6_isShort, 4, some .boolean, 1, 6, 2, 906, 905, 47, 70),
  (yX6_shortOn, cX6_shortOn, 4, some .int, 1, 6, 1, 902, 901, 46, 70),
  (yX6_judge, cX6_judge, 7, some .long, 1, 6, 2, 896, 894, 895, 70),
  (yX6_still, cX6_still, 5, some .int, 1, 6, 1, 911, 909, 910, 70),
  (yX6_isSet, cX6_isSet, 2, some .boolean, 1, 6, 1, 927, 926, 50, 70),
  (yX6_areUp, cX6_areUp, 4, some .boolean, 1, 6, 2, 931, 930, 51, 70),
  (yX6_together, cX6_together, 6, some .long, 1, 6, 2, 923, 921, 922, 70),
  (yX6_often, cX6_often, 14, some .long, 1, 6, 3, 935, 933, 934, 70),
  (yX6_longest, cX6_longest, 7, some .int, 1, 6, 1, 940, 938, 939, 70),
  (yX6_street, cX6_street, 7, some .long, 1, 6, 2, 944, 942, 943, 70),
  (yX6_mostRest, cX6_mostRest, 4, some .int, 1, 6, 0, 952, 951, 52, 70),
  (yX6_same, cX6_same, 3, some .int, 1, 6, 1, 948, 946, 947, 70),
  (yX6_harvest, cX6_harvest, 12, some .long, 1, 6, 3, 959, 957, 958, 70),
  (yX6_isAll, cX6_isAll, 3, some .boolean, 1, 6, 0, 976, 975, 55, 70),
  (yX6_fitsSeen, cX6_fitsSeen, 3, some .boolean, 1, 6, 0, 972, 971, 54, 70),
  (yX6_settles, cX6_settles, 6, none, 1, 6, 1, 968, 967, 53, 70),
  (yX6_counts, cX6_counts, 5, none, 1, 6, 1, 980, 979, 56, 70),
  (yX6_settled, cX6_settled, 2, some .int, 1, 6, 1, 963, 961, 962, 70),
  (yX6_goesOn, cX6_goesOn, 4, some .boolean, 1, 6, 1, 988, 987, 57, 70),
  (yX6_changesOne, cX6_changesOne, 8, some .boolean, 1, 6, 3, 992, 991, 58, 70),
  (yX6_changesTwo, cX6_changesTwo, 6, some .boolean, 1, 6, 1, 996, 995, 59, 70),
  (yX6_years, cX6_years, 4, some .int, 1, 6, 2, 984, 982, 983, 70),
  (yX6_days, cX6_days, 7, some .int, 1, 6, 2, 1004, 1003, 60, 70),
  (yX6_wedding, cX6_wedding, 6, some .int, 1, 6, 3, 1000, 998, 999, 70),
  (yX6_seen, cX6_seen, 5, some .int, 1, 6, 3, 1008, 1006, 1007, 70),
  (yX6_forget, cX6_forget, 2, some .int, 1, 6, 0, 1012, 1010, 1011, 70),
  (yX6_fits, cX6_fits, 3, some .int, 1, 6, 2, 1016, 1014, 1015, 70),
  (yX6_fireDay, cX6_fireDay, 6, some .long, 0, 6, 3, 1025, 1024, 0, 70),
  (yX6_fire, cX6_fire, 8, some .int, 1, 6, 4, 1020, 1018, 1019, 70),
  (yX6_change, cX6_change, 4, some .int, 1, 6, 2, 1031, 1029, 1030, 70),
  (yX6_wed, cX6_wed, 4, some .int, 1, 6, 2, 1035, 1033, 1034, 70),
  (yX6_newMany, cX6_newMany, 3, some .int, 1, 6, 0, 1043, 1042, 61, 70),
  (yX6_settle, cX6_settle, 3, some .int, 1, 6, 0, 1039, 1037, 1038, 70),
  (yX6_keep, cX6_keep, 2, some .int, 1, 6, 0, 1047, 1045, 1046, 70),
  (yX6_back, cX6_back, 2, some .int, 1, 6, 0, 1051, 1049, 1050, 70),
  (yX6_count, cX6_count, 2, some .int, 1, 6, 1, 1055, 1053, 1054, 70),
  (yJ6_bitCount_0f7a4, cJ6_bitCount_0f7a4, 1, some .int, 0, 8, 1, 362, 361, 0, 71),
  (yJ7_fill_53178, cJ7_fill_53178, 4, none, 0, 10, 2, 261, 260, 0, 69),
  (yL_law, cL_law, 4, some .boolean, 0, 7, 1, 0, 0, 0, 62)]
def mz_cn : List String := [RX0, RX1, RX2, RX3, RX4, RX5, RX6, RL, RJ6, RJ9, RJ7]
/-- field links: class, index, class of the field, its slot, the place of the word -/
def mz_F : List ((Nat × Nat) × (Nat × Nat × Nat)) := [((1, 9), (1, 0, 88)), ((1, 15), (1, 1, 89)), ((3, 9), (3, 0, 103)), ((2, 24), (3, 0, 104)), ((4, 55), (3, 0, 105)), ((1, 68), (3, 0, 106)), ((5, 261), (3, 0, 107)), ((5, 66), (3, 1, 108)), ((3, 33), (3, 1, 109)), ((4, 43), (3, 1, 110)), ((2, 43), (3, 1, 111)), ((1, 71), (3, 1, 112)), ((3, 15), (3, 2, 113)), ((5, 98), (3, 2, 114)), ((3, 18), (3, 3, 115)), ((5, 101), (3, 3, 116)), ((3, 21), (3, 4, 117)), ((5, 264), (3, 4, 118)), ((3, 43), (3, 5, 119)), ((1, 91), (3, 5, 120)), ((5, 252), (3, 5, 121)), ((3, 24), (3, 6, 122)), ((5, 274), (3, 6, 123)), ((3, 27), (3, 7, 124)), ((5, 277), (3, 7, 125)), ((3, 30), (3, 8, 126)), ((5, 153), (3, 8, 127)), ((3, 46), (3, 9, 128)), ((1, 97), (3, 9, 129)), ((5, 267), (3, 9, 130)), ((0, 9), (0, 0, 158)), ((4, 54), (0, 0, 159)), ((2, 46), (0, 0, 160)), ((5, 92), (0, 0, 161)), ((1, 103), (0, 0, 162)), ((0, 15), (0, 1, 163)), ((2, 51), (0, 1, 164)), ((5, 95), (0, 1, 165)), ((1, 100), (0, 1, 166)), ((0, 25), (0, 2, 167)), ((1, 83), (0, 2, 168)), ((5, 236), (0, 2, 169)), ((0, 29), (0, 3, 170)), ((5, 208), (0, 3, 171)), ((0, 18), (0, 4, 172)), ((5, 315), (0, 4, 173)), ((0, 22), (0, 5, 174)), ((5, 312), (0, 5, 175)), ((0, 32), (0, 6, 176)), ((2, 9), (2, 0, 202)), ((2, 17), (2, 1, 203)), ((2, 20), (2, 2, 204)), ((4, 30), (4, 0, 218)), ((5, 239), (4, 0, 219)), ((4, 9), (4, 1, 220)), ((5, 242), (4, 1, 221)), ((4, 15), (4, 2, 222)), ((4, 18), (4, 3, 223)), ((4, 21), (4, 4, 224)), ((4, 34), (4, 5, 225)), ((5, 289), (4, 5, 226)), ((4, 37), (4, 6, 227)), ((5, 191), (4, 6, 228)), ((4, 40), (4, 7, 229)), ((5, 194), (4, 7, 230)), ((4, 24), (4, 8, 231)), ((5, 245), (4, 8, 232)), ((4, 27), (4, 9, 233)), ((5, 9), (5, 0, 274)), ((5, 78), (5, 1, 275)), ((5, 16), (5, 2, 276)), ((5, 23), (5, 3, 277)), ((5, 30), (5, 4, 278)), ((5, 34), (5, 5, 279)), ((5, 37), (5, 6, 280)), ((5, 40), (5, 7, 281)), ((5, 85), (5, 8, 282)), ((5, 47), (5, 9, 283)), ((5, 54), (5, 10, 284)), ((5, 58), (5, 11, 285)), ((6, 94), (6, 0, 721)), ((6, 7), (6, 1, 722)), ((6, 98), (6, 2, 723)), ((6, 13), (6, 3, 724)), ((6, 17), (6, 4, 725)), ((6, 20), (6, 5, 726)), ((6, 23), (6, 6, 727)), ((6, 26), (6, 7, 728)), ((6, 29), (6, 8, 729)), ((6, 32), (6, 9, 730)), ((6, 35), (6, 10, 731)), ((6, 129), (6, 11, 732)), ((6, 39), (6, 12, 733)), ((6, 43), (6, 13, 734)), ((6, 46), (6, 14, 735)), ((6, 132), (6, 15, 736)), ((6, 49), (6, 16, 737)), ((6, 52), (6, 17, 738)), ((6, 55), (6, 18, 739)), ((6, 58), (6, 19, 740)), ((6, 61), (6, 20, 741)), ((6, 64), (6, 21, 742)), ((6, 67), (6, 22, 743)), ((6, 70), (6, 23, 744)), ((6, 73), (6, 24, 745)), ((6, 202), (6, 25, 746)), ((6, 205), (6, 26, 747)), ((6, 76), (6, 27, 748)), ((6, 79), (6, 28, 749)), ((6, 196), (6, 29, 750))]
/-- method links: class, index, the method (1000 arraycopy, 1001 Object()), 1 by the nest, the place of the word -/
def mz_L : List ((Nat × Nat) × (Nat × Nat × Nat)) := [((7, 9), (43, 0, 76)), ((5, 3), (1001, 0, 79)), ((1, 3), (1001, 0, 87)), ((3, 3), (1001, 0, 102)), ((0, 3), (1001, 0, 157)), ((2, 3), (1001, 0, 199)), ((4, 3), (1001, 0, 217)), ((5, 62), (28, 0, 255)), ((3, 37), (162, 0, 259)), ((5, 65), (1, 0, 262)), ((5, 70), (2, 0, 266)), ((5, 74), (29, 0, 270)), ((7, 15), (44, 0, 311)), ((7, 20), (45, 0, 315)), ((7, 25), (46, 0, 319)), ((5, 81), (8, 0, 323)), ((1, 18), (28, 0, 327)), ((1, 23), (1, 0, 328)), ((1, 26), (9, 0, 329)), ((1, 38), (10, 0, 333)), ((1, 42), (11, 0, 336)), ((1, 30), (12, 0, 339)), ((1, 46), (13, 0, 343)), ((1, 64), (14, 0, 347)), ((1, 50), (15, 0, 350)), ((1, 75), (2, 0, 354)), ((1, 79), (29, 0, 355)), ((1, 54), (16, 0, 356)), ((1, 86), (161, 0, 360)), ((1, 58), (17, 0, 366)), ((1, 94), (30, 0, 370)), ((1, 61), (18, 0, 374)), ((1, 34), (19, 0, 378)), ((7, 29), (47, 0, 382)), ((7, 33), (48, 0, 386)), ((5, 88), (72, 0, 390)), ((5, 104), (3, 0, 394)), ((7, 38), (49, 0, 398)), ((5, 107), (77, 0, 402)), ((5, 111), (78, 0, 406)), ((5, 257), (21, 0, 410)), ((2, 27), (162, 0, 414)), ((2, 33), (31, 0, 415)), ((3, 49), (1002, 0, 419)), ((2, 37), (1002, 0, 422)), ((2, 54), (22, 0, 423)), ((5, 114), (80, 0, 427)), ((5, 137), (24, 0, 431)), ((7, 43), (50, 0, 435)), ((5, 118), (76, 0, 439)), ((5, 121), (81, 0, 442)), ((5, 228), (161, 0, 446)), ((7, 47), (51, 0, 447)), ((5, 127), (31, 0, 452)), ((5, 131), (1003, 0, 453)), ((5, 140), (85, 0, 456)), ((5, 149), (33, 0, 460)), ((3, 55), (161, 0, 464)), ((7, 52), (52, 0, 466)), ((5, 146), (74, 0, 470)), ((7, 57), (53, 0, 474)), ((5, 156), (75, 0, 478)), ((5, 159), (82, 0, 482)), ((7, 62), (54, 0, 486)), ((5, 165), (86, 0, 491)), ((7, 67), (55, 0, 495)), ((5, 169), (1002, 0, 499)), ((7, 71), (56, 0, 500)), ((5, 172), (32, 0, 504)), ((7, 75), (57, 0, 508)), ((5, 175), (25, 0, 512)), ((2, 58), (26, 0, 516)), ((2, 62), (161, 0, 520)), ((5, 178), (87, 0, 521)), ((7, 79), (58, 0, 525)), ((5, 181), (88, 0, 529)), ((7, 83), (59, 0, 533)), ((5, 185), (73, 0, 537)), ((5, 188), (92, 0, 541)), ((5, 286), (35, 0, 545)), ((4, 48), (3, 0, 549)), ((5, 292), (37, 0, 550)), ((4, 56), (22, 0, 554)), ((5, 296), (90, 0, 555)), ((5, 280), (89, 0, 559)), ((5, 300), (39, 0, 563)), ((4, 65), (1000, 0, 567)), ((5, 303), (38, 0, 570)), ((4, 62), (23, 0, 574)), ((5, 306), (36, 0, 578)), ((5, 197), (40, 0, 582)), ((4, 71), (42, 0, 586)), ((7, 87), (60, 0, 590)), ((5, 200), (95, 0, 594)), ((5, 322), (162, 0, 598)), ((5, 327), (96, 0, 599)), ((5, 333), (100, 0, 603)), ((5, 336), (99, 0, 607)), ((5, 233), (79, 0, 611)), ((5, 339), (23, 0, 615)), ((5, 283), (22, 0, 616)), ((5, 330), (97, 0, 617)), ((5, 342), (98, 0, 621)), ((7, 91), (61, 0, 625)), ((5, 204), (91, 0, 629)), ((7, 96), (62, 0, 633)), ((5, 211), (5, 0, 637)), ((7, 101), (63, 0, 641)), ((7, 105), (64, 0, 645)), ((5, 215), (93, 0, 649)), ((5, 309), (94, 0, 653)), ((5, 319), (4, 0, 657)), ((5, 218), (41, 0, 661)), ((7, 110), (65, 0, 665)), ((5, 221), (84, 0, 669)), ((5, 225), (83, 0, 674)), ((7, 115), (66, 0, 678)), ((7, 119), (67, 0, 682)), ((7, 123), (68, 0, 686)), ((7, 127), (69, 0, 690)), ((5, 248), (6, 0, 694)), ((0, 35), (1000, 0, 698)), ((7, 131), (70, 0, 699)), ((7, 135), (71, 0, 703)), ((7, 12), (101, 0, 709)), ((6, 1), (1001, 0, 712)), ((6, 82), (109, 0, 713)), ((6, 85), (110, 0, 717)), ((7, 19), (103, 0, 813)), ((6, 90), (102, 0, 818)), ((7, 24), (104, 0, 821)), ((7, 28), (111, 0, 825)), ((6, 135), (107, 0, 829)), ((6, 107), (106, 0, 833)), ((6, 111), (105, 0, 836)), ((6, 115), (108, 0, 843)), ((7, 32), (112, 0, 852)), ((6, 139), (111, 0, 856)), ((7, 37), (116, 0, 857)), ((6, 144), (113, 0, 861)), ((7, 42), (123, 0, 865)), ((6, 155), (115, 0, 869)), ((6, 159), (120, 0, 873)), ((6, 151), (118, 0, 877)), ((6, 148), (117, 0, 881)), ((7, 46), (124, 0, 885)), ((6, 163), (122, 0, 889)), ((7, 51), (127, 0, 893)), ((6, 174), (126, 0, 899)), ((6, 167), (125, 0, 903)), ((7, 56), (128, 0, 908)), ((6, 179), (114, 0, 912)), ((6, 182), (119, 0, 916)), ((7, 61), (131, 0, 920)), ((6, 185), (129, 0, 924)), ((6, 188), (130, 0, 928)), ((7, 66), (132, 0, 932)), ((7, 70), (133, 0, 937)), ((7, 74), (134, 0, 941)), ((7, 78), (136, 0, 945)), ((6, 199), (135, 0, 949)), ((6, 193), (121, 0, 953)), ((7, 82), (137, 0, 956)), ((7, 86), (142, 0, 960)), ((6, 220), (140, 0, 965)), ((6, 208), (139, 0, 969)), ((6, 211), (138, 0, 973)), ((6, 214), (141, 0, 977)), ((7, 90), (146, 0, 981)), ((6, 223), (143, 0, 985)), ((6, 226), (144, 0, 989)), ((6, 230), (145, 0, 993)), ((7, 95), (148, 0, 997)), ((6, 233), (147, 0, 1001)), ((7, 100), (149, 0, 1005)), ((7, 104), (150, 0, 1009)), ((7, 109), (151, 0, 1013)), ((7, 114), (153, 0, 1017)), ((6, 245), (152, 0, 1023)), ((7, 118), (154, 0, 1028)), ((7, 122), (155, 0, 1032)), ((7, 126), (157, 0, 1036)), ((6, 249), (156, 0, 1040)), ((7, 130), (158, 0, 1044)), ((7, 134), (159, 0, 1048)), ((7, 138), (160, 0, 1052)), ((5, 15), (7, 1, 84)), ((5, 22), (27, 1, 99)), ((5, 29), (0, 1, 154)), ((5, 46), (20, 1, 196)), ((5, 53), (34, 1, 214))]
def mz_C : List ((Nat × Nat) × (Nat × Nat)) := [((7, 7), (5, 74)), ((5, 13), (1, 82)), ((5, 20), (3, 97)), ((5, 27), (0, 152)), ((5, 44), (2, 194)), ((2, 15), (100, 200)), ((5, 51), (4, 212)), ((7, 10), (6, 707))]
def mz_K : List ((Nat × Nat) × (Int × Nat)) := [((8, 265), ((1431655765), 363)), ((8, 266), ((858993459), 364)), ((8, 267), ((252645135), 365)), ((5, 255), ((1000000000000000), 405)), ((5, 125), ((-1), 451)), ((5, 144), ((-4), 465)), ((5, 163), ((1000000000000), 490)), ((5, 270), ((7919), 672)), ((5, 272), ((65521), 673)), ((6, 88), ((8), 817)), ((6, 101), ((48), 840)), ((6, 103), ((57), 841)), ((6, 105), ((2), 842)), ((6, 119), ((12), 847)), ((6, 121), ((31), 848)), ((6, 123), ((3), 849)), ((6, 125), ((4), 850)), ((6, 127), ((9), 851)), ((6, 142), ((1000000000000000), 872)), ((6, 170), ((-1), 897)), ((6, 172), ((1000), 898)), ((6, 177), ((-4), 907)), ((6, 191), ((1000000000000), 936)), ((6, 218), ((-2), 964)), ((6, 241), ((9999), 1021)), ((6, 243), ((999), 1022)), ((6, 237), ((7919), 1026)), ((6, 239), ((65521), 1027)), ((7, 13), ((4294967295), 1056))]
end
section
/-! THE SMALL MACHINE: ints and longs as whole numbers, references as numbers of cells, the heap as a list of shapes and one table of numbers -/
abbrev AV : Type := Int ⊕ Int ⊕ Nat
abbrev AL : Type := List (Option AV)
abbrev SC : Type := (Nat × Nat × (Nat → Option Nat)) ⊕ (Nat × List (Option (Option Nat)))
abbrev MM : Type := Nat → Nat → Int
abbrev ZZ : Type := List SC × Nat × Nat
def mz_nul : Nat → Option Nat := fun _ => none
abbrev vI (a : Int) : AV := Sum.inl a
abbrev vL (a : Int) : AV := Sum.inr (Sum.inl a)
abbrev vR (k : Nat) : AV := Sum.inr (Sum.inr k)
def iN (a : Int) : Int32 := Int32.ofInt a
def jN (a : Int) : Int64 := Int64.ofInt a
def rgI (a : Int) : Prop := -2147483648 ≤ a ∧ a ≤ 2147483647
def rgL (a : Int) : Prop := -9223372036854775808 ≤ a ∧ a ≤ 9223372036854775807
def mset (M : MM) (k j : Nat) (a : Int) : MM := fun k' j' => if k' = k ∧ j' = j then a else M k' j'
def mnew (M : MM) (k : Nat) : MM := fun k' j' => if k' = k then 0 else M k' j'
def mcpy (M : MM) (sk dk sp dp n : Nat) : MM := fun k j => if k = dk ∧ dp ≤ j ∧ j < dp + n then M sk (sp + (j - dp)) else M k j
def fld (sh : List SC) (r k : Nat) : Option (Option (Option Nat)) := match sh[r]? with
  | some (Sum.inr q) => q.2[k]?
  | _ => none
def arr (sh : List SC) (r : Nat) : Option (Nat × Nat × (Nat → Option Nat)) := match sh[r]? with
  | some (Sum.inl a) => some a
  | _ => none
def cls (sh : List SC) (r : Nat) : Option Nat := match sh[r]? with
  | some (Sum.inr q) => some q.1
  | _ => none
def is2 (v : AV) : Bool := match v with
  | Sum.inr (Sum.inl _) => true
  | _ => false
def lget : AL → Nat → Option AV
  | [], _ => none
  | x :: _, 0 => x
  | _ :: t, i + 1 => lget t i
def lclr (x : Option AV) : Option AV := match x with
  | some (Sum.inr (Sum.inl _)) => none
  | x => x
def lst1 : AL → Nat → AV → AL
  | [], _, _ => []
  | _ :: t, 0, v => some v :: t
  | x :: t, 1, v => lclr x :: lst1 t 0 v
  | x :: t, i + 2, v => x :: lst1 t (i + 1) v
def lst2 : AL → Nat → AV → AL
  | [], _, _ => []
  | [_], 0, v => [some v]
  | _ :: _ :: t, 0, v => some v :: none :: t
  | x :: t, 1, v => lclr x :: lst2 t 0 v
  | x :: t, i + 2, v => x :: lst2 t (i + 1) v
def cat (v : AV) : Nat := if is2 v then 2 else 1
def cats : List AV → Nat
  | [] => 0
  | v :: t => cat v + cats t
def sls : List AV → AL
  | [] => []
  | v :: t => if is2 v then some v :: none :: sls t else some v :: sls t
def entL (n : Nat) (args : List AV) : AL := sls args ++ List.replicate (n - (sls args).length) none
/-- a reference that a making of the cells n .. n' - 1 leaves as it is -/
def rfv (n n' : Nat) (v : AV) : Prop := match v with
  | Sum.inr (Sum.inr k) => k < n ∨ n' ≤ k
  | _ => True
def rfs : List AV → Nat → Nat → Prop
  | [], _, _ => True
  | v :: t, n, n' => rfv n n' v ∧ rfs t n n'
def rfq : AL → Nat → Nat → Prop
  | [], _, _ => True
  | none :: t, n, n' => rfq t n n'
  | some v :: t, n, n' => rfv n n' v ∧ rfq t n n'
def bAnd (x y : Int) : Int := (iN x &&& iN y).toInt
def bOr (x y : Int) : Int := (iN x ||| iN y).toInt
def bXor (x y : Int) : Int := (iN x ^^^ iN y).toInt
def bShl (x y : Int) : Int := (iN x <<< (iN y &&& 31)).toInt
def bShr (x y : Int) : Int := (iN x >>> (iN y &&& 31)).toInt
def bUsr (x y : Int) : Int := ((iN x).toUInt32 >>> ((iN y).toUInt32 &&& Int32.toUInt32 31)).toInt32.toInt
def bByt (x : Int) : Int := (iN x).toInt8.toInt32.toInt
def lAnd (x y : Int) : Int := (jN x &&& jN y).toInt
def lOr (x y : Int) : Int := (jN x ||| jN y).toInt
def lShl (x y : Int) : Int := (jN x <<< ((iN y).toInt64 &&& 63)).toInt
def lShr (x y : Int) : Int := (jN x >>> ((iN y).toInt64 &&& 63)).toInt
def lUsr (x y : Int) : Int := ((jN x).toUInt64 >>> ((iN y).toInt64.toUInt64 &&& Int64.toUInt64 63)).toInt64.toInt
abbrev PP : Type := Option AV → List SC → MM → Prop
abbrev CC : Type := Nat → List AV → List SC → MM → Nat → Nat → PP → Prop
abbrev KK : Type := AL → List AV → ZZ → MM → Prop
abbrev RR : Type := Option AV → ZZ → MM → Prop
abbrev XX : Type := Option (Nat × (Nat → Int))
def scr : Nat := 1000000
def pI (st : List AV) (k : Int → List AV → Prop) : Prop := match st with
  | Sum.inl a :: t => k a t
  | _ => False
def pL (st : List AV) (k : Int → List AV → Prop) : Prop := match st with
  | Sum.inr (Sum.inl a) :: t => k a t
  | _ => False
def pR (st : List AV) (k : Nat → List AV → Prop) : Prop := match st with
  | Sum.inr (Sum.inr a) :: t => k a t
  | _ => False
/-- a value of one slot -/
def pV (st : List AV) (k : AV → List AV → Prop) : Prop := match st with
  | Sum.inl a :: t => k (Sum.inl a) t
  | Sum.inr (Sum.inr a) :: t => k (Sum.inr (Sum.inr a)) t
  | _ => False
def gI (x : Option AV) (k : Int → Prop) : Prop := match x with
  | some (Sum.inl a) => k a
  | _ => False
def gL (x : Option AV) (k : Int → Prop) : Prop := match x with
  | some (Sum.inr (Sum.inl a)) => k a
  | _ => False
def gR (x : Option AV) (k : Nat → Prop) : Prop := match x with
  | some (Sum.inr (Sum.inr a)) => k a
  | _ => False
def gF (x : Option (Option (Option Nat))) (kn : Prop) (kr : Nat → Prop) : Prop := match x with
  | some none => kn
  | some (some (some q)) => kr q
  | _ => False
/-- an array of a kind, the index in it -/
def gA (x : Option (Nat × Nat × (Nat → Option Nat))) (j : Int) (k : Nat → (Nat → Option Nat) → Prop) : Prop := match x with
  | some (t, n, f) => (0 ≤ j ∧ j < n) ∧ n ≤ 100000 ∧ k t f
  | none => False
def gQ (x : Option Nat) (k : Nat → Prop) : Prop := match x with
  | some q => k q
  | none => False
def swl (J : Nat → KK) (a : Int) (ls : AL) (st : List AV) (Z : ZZ) (M : MM) : List Int → Int → Prop
  | [], _ => True
  | o :: t, v => (a = v → J o.toNat ls st Z M) ∧ swl J a ls st Z M t (v + 1)
def lkl (J : Nat → KK) (a : Int) (ls : AL) (st : List AV) (Z : ZZ) (M : MM) (d : Int) : List (Int × Int) → Prop
  | [] => J d.toNat ls st Z M
  | q :: t => (a = q.1 → J q.2.toNat ls st Z M) ∧ (a ≠ q.1 → lkl J a ls st Z M d t)
def cnd (c : Jvm.ClassFile.Cond) (x y : Int) : Prop := match c with
  | .eq => x = y
  | .ne => x ≠ y
  | .lt => x < y
  | .ge => y ≤ x
  | .gt => y < x
  | .le => x ≤ y
/-- the fields of a new object of a class: none a number, some none a reference that is null -/
def newF (ci : Nat) : List (Option (Option Nat)) := match ci with
  | 0 => [some none, some none, none, none, some none, some none, none]
  | 1 => [some none, some none]
  | 2 => [some none, some none, none]
  | 3 => [some none, none, some none, some none, some none, none, some none, some none, some none, none]
  | 4 => [none, some none, some none, some none, some none, none, none, none, some none, some none]
  | 5 => [some none, none, some none, some none, some none, some none, some none, some none, none, some none, some none, some none]
  | 6 => [none, some none, none, some none, some none, some none, some none, some none, some none, some none, some none, none, some none, some none, some none, none, some none, some none, some none, some none, some none, some none, some none, some none, some none, none, none, some none, some none, none]
  | _ => []
def newT (t : ArrayType) : Nat := match t with
  | .int => 0
  | .byte => 1
  | .boolean => 2
  | .long => 3
  | _ => 9
/-- a call: what it takes off the stack, whom it asks, how it goes on -/
def wpc (C : CC) (mc ms : Nat) (y n : Nat) (K : KK) (ls : AL) (st : List AV) (Z : ZZ) (M : MM) : Prop :=
  n ≤ st.length ∧ cats (st.drop n) ≤ 8 ∧ ∃ c s : Nat, Z.2.1 + c ≤ mc ∧ Z.2.2 + s ≤ ms ∧
    C y (st.take n).reverse Z.1 M c s (fun r sh M' => (sh.length = Z.1.length ∨ (rfs (st.drop n) Z.1.length sh.length ∧ rfq ls Z.1.length sh.length)) ∧ K ls (r.toList ++ st.drop n) (sh, Z.2.1 + c, Z.2.2 + s) M')
/-- the class of the receiver: the n-th below the top -/
def rcv (sh : List SC) (st : List AV) (n y : Nat) : Prop := gR st[n]? (fun r => match mz_T[y]? with
  | some e => cls sh r = some e.2.2.2.2.2.1
  | none => False)
/-- one instruction: J goes to a place, K to the next, Rt ends -/
def wpi (C : CC) (X : XX) (mc ms : Nat) (J : Nat → KK) (Rt : RR) (i : Instr) (x : Int) (K : KK) (ls : AL) (st : List AV) (Z : ZZ) (M : MM) : Prop := match i with
  | .iconst n => K ls (vI n :: st) Z M
  | .ldc2_w _ => K ls (vL x :: st) Z M
  | .iload k => gI (lget ls k) fun a => K ls (vI a :: st) Z M
  | .lload k => gL (lget ls k) fun a => K ls (vL a :: st) Z M
  | .aload k => gR (lget ls k) fun a => K ls (vR a :: st) Z M
  | .istore k => pI st fun a st => k < ls.length ∧ K (lst1 ls k (vI a)) st Z M
  | .astore k => pR st fun a st => k < ls.length ∧ K (lst1 ls k (vR a)) st Z M
  | .lstore k => pL st fun a st => k + 1 < ls.length ∧ K (lst2 ls k (vL a)) st Z M
  | .iinc k n => gI (lget ls k) fun a => k < ls.length ∧ K (lst1 ls k (vI (a + n))) st Z M
  | .iadd => pI st fun b st => pI st fun a st => K ls (vI (a + b) :: st) Z M
  | .isub => pI st fun b st => pI st fun a st => K ls (vI (a - b) :: st) Z M
  | .imul => pI st fun b st => pI st fun a st => K ls (vI (a * b) :: st) Z M
  | .idiv => pI st fun b st => pI st fun a st => (0 ≤ a ∧ a ≤ 2147483647 ∧ 0 < b ∧ b ≤ 2147483647) ∧ K ls (vI (a / b) :: st) Z M
  | .irem => pI st fun b st => pI st fun a st => (0 ≤ a ∧ a ≤ 2147483647 ∧ 0 < b ∧ b ≤ 2147483647) ∧ K ls (vI (a % b) :: st) Z M
  | .iand => pI st fun b st => pI st fun a st => K ls (vI (bAnd a b) :: st) Z M
  | .ior => pI st fun b st => pI st fun a st => K ls (vI (bOr a b) :: st) Z M
  | .ixor => pI st fun b st => pI st fun a st => K ls (vI (bXor a b) :: st) Z M
  | .ishl => pI st fun b st => pI st fun a st => K ls (vI (bShl a b) :: st) Z M
  | .ishr => pI st fun b st => pI st fun a st => K ls (vI (bShr a b) :: st) Z M
  | .iushr => pI st fun b st => pI st fun a st => K ls (vI (bUsr a b) :: st) Z M
  | .ladd => pL st fun b st => pL st fun a st => K ls (vL (a + b) :: st) Z M
  | .lsub => pL st fun b st => pL st fun a st => K ls (vL (a - b) :: st) Z M
  | .lmul => pL st fun b st => pL st fun a st => K ls (vL (a * b) :: st) Z M
  | .ldiv => pL st fun b st => pL st fun a st => (0 ≤ a ∧ a ≤ 9223372036854775807 ∧ 0 < b ∧ b ≤ 9223372036854775807) ∧ K ls (vL (a / b) :: st) Z M
  | .lrem => pL st fun b st => pL st fun a st => (0 ≤ a ∧ a ≤ 9223372036854775807 ∧ 0 < b ∧ b ≤ 9223372036854775807) ∧ K ls (vL (a % b) :: st) Z M
  | .land => pL st fun b st => pL st fun a st => K ls (vL (lAnd a b) :: st) Z M
  | .lor => pL st fun b st => pL st fun a st => K ls (vL (lOr a b) :: st) Z M
  | .lshl => pI st fun b st => pL st fun a st => K ls (vL (lShl a b) :: st) Z M
  | .lshr => pI st fun b st => pL st fun a st => K ls (vL (lShr a b) :: st) Z M
  | .lushr => pI st fun b st => pL st fun a st => K ls (vL (lUsr a b) :: st) Z M
  | .lcmp => pL st fun b st => pL st fun a st => rgL a ∧ rgL b ∧ K ls (vI (if a < b then -1 else if a = b then 0 else 1) :: st) Z M
  | .i2l => pI st fun a st => rgI a ∧ K ls (vL a :: st) Z M
  | .l2i => pL st fun a st => K ls (vI a :: st) Z M
  | .i2b => pI st fun a st => K ls (vI (bByt a) :: st) Z M
  | .dup => pV st fun v st => K ls (v :: v :: st) Z M
  | .dup2 => pV st fun v st => pV st fun w st => K ls (v :: w :: v :: w :: st) Z M
  | .pop => pV st fun _ st => K ls st Z M
  | .goto t => J t.toNat ls st Z M
  | .if_icmp c t => pI st fun b st => pI st fun a st => rgI a ∧ rgI b ∧ (cnd c a b → J t.toNat ls st Z M) ∧ (¬ cnd c a b → K ls st Z M)
  | .ifCond c t => pI st fun a st => rgI a ∧ (cnd c a 0 → J t.toNat ls st Z M) ∧ (¬ cnd c a 0 → K ls st Z M)
  | .tableswitch d lo hi os => pI st fun a st => rgI a ∧ (a < lo ∨ hi < a → J d.toNat ls st Z M) ∧ swl J a ls st Z M os.toList lo
  | .lookupswitch d ps => pI st fun a st => rgI a ∧ lkl J a ls st Z M d ps.toList
  | .getfield k => pR st fun r st => cls Z.1 r = some x.toNat ∧ gF (fld Z.1 r k) (K ls (vI (M r k) :: st) Z M) (fun q => K ls (vR q :: st) Z M)
  | .putfield k => pI st fun a st => pR st fun r st => cls Z.1 r = some x.toNat ∧ gF (fld Z.1 r k) (K ls st Z (mset M r k a)) (fun _ => False)
  | .putstatic k => pR st fun q st => pR st fun r st => (match Z.1[r]? with
      | some (Sum.inr o) => o.1 = x.toNat ∧ (∃ z, o.2[k]? = some (some z)) ∧ q < Z.1.length ∧ K ls st (Z.1.set r (Sum.inr (o.1, o.2.set k (some (some q)))), Z.2.1, Z.2.2) M
      | _ => False)
  | .iaload => pI st fun j st => pR st fun r st => if r = scr then (match X with | some q => (0 ≤ j ∧ j < q.1) ∧ q.1 ≤ 100000 ∧ K ls (vI (q.2 j.toNat) :: st) Z M | none => False) else gA (arr Z.1 r) j fun t _ => t = 0 ∧ K ls (vI (M r j.toNat) :: st) Z M
  | .baload => pI st fun j st => pR st fun r st => gA (arr Z.1 r) j fun t _ => (t = 1 ∨ t = 2) ∧ K ls (vI (M r j.toNat) :: st) Z M
  | .laload => pI st fun j st => pR st fun r st => gA (arr Z.1 r) j fun t _ => t = 3 ∧ K ls (vL (M r j.toNat) :: st) Z M
  | .aaload => pI st fun j st => pR st fun r st => gA (arr Z.1 r) j fun t f => (t = 4 ∨ t = 5) ∧ gQ (f j.toNat) fun q => K ls (vR q :: st) Z M
  | .iastore => pI st fun a st => pI st fun j st => pR st fun r st => gA (arr Z.1 r) j fun t _ => t = 0 ∧ K ls st Z (mset M r j.toNat a)
  | .bastore => pI st fun a st => pI st fun j st => pR st fun r st => gA (arr Z.1 r) j fun t _ => (t = 1 ∨ (t = 2 ∧ (a = 0 ∨ a = 1))) ∧ K ls st Z (mset M r j.toNat (if t = 1 then bByt a else a))
  | .lastore => pL st fun a st => pI st fun j st => pR st fun r st => gA (arr Z.1 r) j fun t _ => t = 3 ∧ K ls st Z (mset M r j.toNat a)
  | .aastore => pR st fun q st => pI st fun j st => pR st fun r st => (match arr Z.1 r with
      | some (t, n, f) => t = 4 ∧ (0 ≤ j ∧ j < n) ∧ n ≤ 100000 ∧ cls Z.1 q = some 0 ∧ K ls st (Z.1.set r (Sum.inl (4, n, fun z => if z = j.toNat then some q else f z)), Z.2.1, Z.2.2) M
      | _ => False)
  | .arraylength => pR st fun r st => if r = scr then (match X with | some q => q.1 ≤ 100000 ∧ K ls (vI q.1 :: st) Z M | none => False) else (match arr Z.1 r with | some (t, n, _) => t < 6 ∧ n ≤ 100000 ∧ K ls (vI n :: st) Z M | _ => False)
  | .new ci => Z.2.1 + 1 ≤ mc ∧ Z.2.2 + (newF ci).length ≤ ms ∧ rfs st Z.1.length (Z.1.length + 1) ∧ rfq ls Z.1.length (Z.1.length + 1) ∧ Z.1.length < 100000 ∧ K ls (vR Z.1.length :: st) (Z.1 ++ [Sum.inr (ci, newF ci)], Z.2.1 + 1, Z.2.2 + (newF ci).length) (mnew M Z.1.length)
  | .newarray t => pI st fun n st => newT t < 4 ∧ 0 ≤ n ∧ n ≤ 100000 ∧ Z.2.1 + 1 ≤ mc ∧ Z.2.2 + n.toNat ≤ ms ∧ rfs st Z.1.length (Z.1.length + 1) ∧ rfq ls Z.1.length (Z.1.length + 1) ∧ Z.1.length < 100000 ∧ K ls (vR Z.1.length :: st) (Z.1 ++ [Sum.inl (newT t, n.toNat, mz_nul)], Z.2.1 + 1, Z.2.2 + n.toNat) (mnew M Z.1.length)
  | .anewarray _ => pI st fun n st => 0 ≤ n ∧ n ≤ 100000 ∧ Z.2.1 + 1 ≤ mc ∧ Z.2.2 + n.toNat ≤ ms ∧ rfs st Z.1.length (Z.1.length + 1) ∧ rfq ls Z.1.length (Z.1.length + 1) ∧ Z.1.length < 100000 ∧ K ls (vR Z.1.length :: st) (Z.1 ++ [Sum.inl (4, n.toNat, mz_nul)], Z.2.1 + 1, Z.2.2 + n.toNat) (mnew M Z.1.length)
  | .multianewarray _ _ => pI st fun k st => pI st fun n st => n = 2 ∧ 0 ≤ k ∧ k ≤ 100000 ∧ Z.2.1 + 3 ≤ mc ∧ Z.2.2 + (2 + 2 * k.toNat) ≤ ms ∧ rfs st Z.1.length (Z.1.length + 3) ∧ rfq ls Z.1.length (Z.1.length + 3) ∧ Z.1.length + 3 ≤ 100000 ∧
      K ls (vR Z.1.length :: st) (Z.1 ++ [Sum.inl (5, 2, fun j => if j < 2 then some (Z.1.length + 1 + j) else none), Sum.inl (0, k.toNat, mz_nul), Sum.inl (0, k.toNat, mz_nul)], Z.2.1 + 3, Z.2.2 + (2 + 2 * k.toNat)) (mnew (mnew (mnew M Z.1.length) (Z.1.length + 1)) (Z.1.length + 2))
  | .invokestatic y => if y < 1000 then wpc C mc ms y x.toNat K ls st Z M
      else if y = 1000 then pI st fun n st => pI st fun dp st => pR st fun dk st => pI st fun sp st => pR st fun sk st => (match arr Z.1 sk, arr Z.1 dk with
          | some (t, n0, _), some (t1, n1, _) => t = t1 ∧ (t = 0 ∨ t = 3) ∧ 0 ≤ sp ∧ 0 ≤ dp ∧ 0 ≤ n ∧ sp + n ≤ n0 ∧ dp + n ≤ n1 ∧ n0 ≤ 100000 ∧ n1 ≤ 100000 ∧ st = [] ∧ K ls st Z (mcpy M sk dk sp.toNat dp.toNat n.toNat)
          | _, _ => False)
      else if y = 1002 then pI st fun b st => pI st fun a st => rgI a ∧ rgI b ∧ cats st ≤ 8 ∧ Z.2.1 ≤ mc ∧ Z.2.2 ≤ ms ∧ K ls (vI (max a b) :: st) Z M
      else if y = 1003 then pI st fun b st => pI st fun a st => rgI a ∧ rgI b ∧ cats st ≤ 8 ∧ Z.2.1 ≤ mc ∧ Z.2.2 ≤ ms ∧ K ls (vI (min a b) :: st) Z M
      else False
  | .invokevirtual y => rcv Z.1 st (x.toNat - 1) y ∧ wpc C mc ms y x.toNat K ls st Z M
  | .invokespecial y => if y = 1001 then pR st fun _ st => cats st ≤ 8 ∧ K ls st Z M
      else gR st[x.toNat - 1]? (fun _ => True) ∧ wpc C mc ms y x.toNat K ls st Z M
  | .ireturn => pI st fun a st => st = [] ∧ Rt (some (vI a)) Z M
  | .lreturn => pL st fun a st => st = [] ∧ Rt (some (vL a)) Z M
  | .return_ => st = [] ∧ Rt none Z M
  | _ => False
/-- what an instruction is in the small machine: places are absolute, pool numbers are looked up -/
def ownOf (y : Nat) : Nat := match mz_T[y]? with | some e => e.2.2.2.2.2.1 | none => 99
def nmOf (y : Nat) : String := match mz_T[y]? with | some e => e.1.name | none => ""
def npOf (y : Nat) : Nat := match mz_T[y]? with | some e => (if e.2.2.2.2.1 = 0 then e.2.2.2.2.2.2.1 else e.2.2.2.2.2.2.1 + 1) | none => 99
def kdOf (y : Nat) : Nat := match mz_T[y]? with | some e => e.2.2.2.2.1 | none => 9
def isRefD (d : String) : Bool := match parseFieldDescriptor d with
  | some (.array _) => true
  | some (.object _) => true
  | _ => false
/-- a field that is written: a number that isn't final; a reference that is, by its class's own constructor -/
def pfK (y : Nat) (q : Nat × Nat × Nat) : Option Bool := match vwCl[q.1]? with
  | some r => if (r.2.1 q.2.1).2.2.1 = "I" ∧ (r.2.1 q.2.1).2.2.2 = false then some false else if (r.2.1 q.2.1).2.2.2 = true ∧ nmOf y = "<init>" ∧ q.1 = ownOf y ∧ (r.2.1 q.2.1).1 = r.1 ∧ isRefD (r.2.1 q.2.1).2.2.1 = true then some true else none
  | none => none
def lenOK (i : Instr) (len : Nat) : Bool := match i with
  | .iload _ | .lload _ | .aload _ | .istore _ | .lstore _ | .astore _ | .bipush _ | .newarray _ => len == 2
  | .sipush _ | .ldc_w _ | .ldc2_w _ | .goto _ | .if_icmp _ _ | .ifCond _ _ | .iinc _ _ | .getfield _ | .putfield _ | .new _ | .anewarray _ | .invokestatic _ | .invokevirtual _ | .invokespecial _ => len == 3
  | .multianewarray _ _ => len == 4
  | .tableswitch _ _ _ _ | .lookupswitch _ _ => true
  | _ => len == 1
def res0 (y : Nat) (pc : Nat) (i : Instr) : Option (Instr × Int) := match i with
  | .iload_n k => some (.iload k, 0)
  | .lload_n k => some (.lload k, 0)
  | .aload_n k => some (.aload k, 0)
  | .istore_n k => some (.istore k, 0)
  | .lstore_n k => some (.lstore k, 0)
  | .astore_n k => some (.astore k, 0)
  | .iload k => some (.iload k, 0)
  | .lload k => some (.lload k, 0)
  | .aload k => some (.aload k, 0)
  | .istore k => some (.istore k, 0)
  | .lstore k => some (.lstore k, 0)
  | .astore k => some (.astore k, 0)
  | .iinc k n => some (.iinc k n, 0)
  | .iconst n => some (.iconst n, 0)
  | .bipush n => if -128 ≤ n ∧ n ≤ 127 then some (.iconst n, 0) else none
  | .sipush n => if -32768 ≤ n ∧ n ≤ 32767 then some (.iconst n, 0) else none
  | .lconst k => some (.ldc2_w 0, ((k : Nat) : Int))
  | .ldc_w ix => (match mz_K.lookup (ownOf y, ix) with | some q => if ownOf y = 8 then some (.iconst q.1, 0) else none | none => none)
  | .ldc2_w ix => (match mz_K.lookup (ownOf y, ix) with | some q => if ownOf y ≠ 8 then some (.ldc2_w 0, q.1) else none | none => none)
  | .goto o => if 0 ≤ pc + o then some (.goto (pc + o), 0) else none
  | .if_icmp c o => if 0 ≤ pc + o then some (.if_icmp c (pc + o), 0) else none
  | .ifCond c o => if 0 ≤ pc + o then some (.ifCond c (pc + o), 0) else none
  | .tableswitch d lo hi os => if (os.toList.length : Int) = hi - lo + 1 ∧ 0 ≤ pc + d ∧ (os.toList.all fun o => decide (0 ≤ pc + o)) = true then some (.tableswitch (pc + d) lo hi (os.toList.map fun o => (pc : Int) + o).toArray, 0) else none
  | .lookupswitch d ps => if (ps.toList.zip (ps.toList.drop 1)).all (fun (a, next) => a.1 < next.1) = true ∧ 0 ≤ pc + d ∧ (ps.toList.all fun o => decide (0 ≤ pc + o.2)) = true then some (.lookupswitch (pc + d) (ps.toList.map fun o => (o.1, (pc : Int) + o.2)).toArray, 0) else none
  | .getfield ix => (match mz_F.lookup (ownOf y, ix) with | some q => some (.getfield q.2.1, q.1) | none => none)
  | .putfield ix => (match mz_F.lookup (ownOf y, ix) with
      | some q => (match pfK y q with
        | some false => some (.putfield q.2.1, (q.1 : Int))
        | some true => some (.putstatic q.2.1, (q.1 : Int))
        | none => none)
      | none => none)
  | .new ix => (match mz_C.lookup (ownOf y, ix) with | some q => if q.1 < 7 then some (.new q.1, 0) else none | none => none)
  | .newarray t => some (.newarray t, 0)
  | .anewarray ix => (match mz_C.lookup (ownOf y, ix) with | some q => if q.1 = 0 then some (.anewarray 0, 0) else none | none => none)
  | .multianewarray ix n => (match mz_C.lookup (ownOf y, ix) with | some q => if q.1 = 100 ∧ n = 2 then some (.multianewarray 0 2, 0) else none | none => none)
  | .invokestatic ix => (match mz_L.lookup (ownOf y, ix) with | some q => if q.2.1 = 0 ∧ (q.1 = 1000 ∨ q.1 = 1002 ∨ q.1 = 1003 ∨ (kdOf q.1 = 0 ∧ q.1 < 163)) then some (.invokestatic q.1, (npOf q.1 : Int)) else none | none => none)
  | .invokevirtual ix => (match mz_L.lookup (ownOf y, ix) with | some q => if q.2.1 = 0 ∧ kdOf q.1 = 1 ∧ q.1 < 163 then some (.invokevirtual q.1, (npOf q.1 : Int)) else none | none => none)
  | .invokespecial ix => (match mz_L.lookup (ownOf y, ix) with | some q => if (q.1 = 1001 ∧ q.2.1 = 0) ∨ (kdOf q.1 = 2 ∧ q.1 < 163) then some (.invokespecial q.1, (npOf q.1 : Int)) else none | none => none)
  | .iadd => some (.iadd, 0)
  | .isub => some (.isub, 0)
  | .imul => some (.imul, 0)
  | .idiv => some (.idiv, 0)
  | .irem => some (.irem, 0)
  | .iand => some (.iand, 0)
  | .ior => some (.ior, 0)
  | .ixor => some (.ixor, 0)
  | .ishl => some (.ishl, 0)
  | .ishr => some (.ishr, 0)
  | .iushr => some (.iushr, 0)
  | .ladd => some (.ladd, 0)
  | .lsub => some (.lsub, 0)
  | .lmul => some (.lmul, 0)
  | .ldiv => some (.ldiv, 0)
  | .lrem => some (.lrem, 0)
  | .land => some (.land, 0)
  | .lor => some (.lor, 0)
  | .lshl => some (.lshl, 0)
  | .lshr => some (.lshr, 0)
  | .lushr => some (.lushr, 0)
  | .lcmp => some (.lcmp, 0)
  | .i2l => some (.i2l, 0)
  | .l2i => some (.l2i, 0)
  | .i2b => some (.i2b, 0)
  | .dup => some (.dup, 0)
  | .dup2 => some (.dup2, 0)
  | .pop => some (.pop, 0)
  | .iaload => some (.iaload, 0)
  | .baload => some (.baload, 0)
  | .laload => some (.laload, 0)
  | .aaload => some (.aaload, 0)
  | .iastore => some (.iastore, 0)
  | .bastore => some (.bastore, 0)
  | .lastore => some (.lastore, 0)
  | .aastore => some (.aastore, 0)
  | .arraylength => some (.arraylength, 0)
  | .ireturn => some (.ireturn, 0)
  | .lreturn => some (.lreturn, 0)
  | .return_ => some (.return_, 0)
  | _ => none
def res (y : Nat) (pc : Nat) (i : Instr) (len : Nat) : Option (Instr × Int) := if lenOK i len = true then res0 y pc i else none
def mbOf (y : Nat) : ByteArray := match mz_T[y]? with | some e => e.2.1 | none => ByteArray.empty
def mlOf (y : Nat) : Nat := match mz_T[y]? with | some e => e.2.2.1 | none => 0
def mrOf (y : Nat) : Option FieldType := match mz_T[y]? with | some e => e.2.2.2.1 | none => none
/-- an answer of the method's kind -/
def rok (t : Option FieldType) (r : Option AV) : Prop := match t, r with
  | none, none => True
  | some .int, some (Sum.inl _) => True
  | some .boolean, some (Sum.inl a) => a = 0 ∨ a = 1
  | some .long, some (Sum.inr (Sum.inl _)) => True
  | _, _ => False
def Rtn (y mc ms : Nat) (Post : PP) : RR := fun r Z M => Z.2.1 ≤ mc ∧ Z.2.2 ≤ ms ∧ rok (mrOf y) r ∧ Post r Z.1 M
/-- S holds wherever one instruction leads to it -/
def Clo (C : CC) (y : Nat) (X : XX) (mc ms : Nat) (Rt : RR) (S : Nat → KK) : Prop :=
  ∀ (C' : CC) (J : Nat → KK) (R' : RR) (K : KK) (pc : Nat) (i : Instr) (len : Nat) (i' : Instr) (x : Int) (ls : AL) (st : List AV) (Z : ZZ) (M : MM),
    (∀ z a sh M c s P, C' z a sh M c s P → C z a sh M c s P) → (∀ t ls st Z M, J t ls st Z M → S t ls st Z M) → (∀ r Z M, R' r Z M → Rt r Z M) → (∀ ls st Z M, K ls st Z M → S (pc + len) ls st Z M) →
    decode (mbOf y) pc = .ok (i, len) → res y pc i len = some (i', x) → wpi C' X mc ms J R' i' x K ls st Z M → S pc ls st Z M
/-- method y, asked with args, comes to an end with Post, by calls at most d deep, making at most mc cells of ms slots -/
def Run : Nat → CC
  | 0 => fun _ _ _ _ _ _ _ => False
  | d + 1 => fun y args sh M mc ms Post => cats args ≤ mlOf y ∧ ∀ S : Nat → KK, Clo (Run d) y none mc ms (Rtn y mc ms Post) S → S 0 (entL (mlOf y) args) [] (sh, 0, 0) M
theorem Run.mono : ∀ (d d' : Nat) {y : Nat} {a : List AV} {sh : List SC} {M : MM} {mc ms : Nat} {P Q : PP}, d ≤ d' → Run d y a sh M mc ms P → (∀ r sh M, P r sh M → Q r sh M) → Run d' y a sh M mc ms Q
  | 0, _, _, _, _, _, _, _, _, _, _, h, _ => h.elim
  | d + 1, 0, _, _, _, _, _, _, _, _, hd, _, _ => absurd hd (by omega)
  | d + 1, d' + 1, y, a, sh, M, mc, ms, P, Q, hd, h, hPQ => by
    refine ⟨h.1, fun S hS => h.2 S ?_⟩
    intro C' J R' K pc i len i' x ls st Z M hC hJ hR hK
    exact hS C' J R' K pc i len i' x ls st Z M (fun z a sh M c s P h => Run.mono d d' (by omega) (hC z a sh M c s P h) (fun _ _ _ h => h)) hJ (fun r Z M h => ⟨(hR r Z M h).1, (hR r Z M h).2.1, (hR r Z M h).2.2.1, hPQ _ _ _ (hR r Z M h).2.2.2⟩) hK
abbrev BL : Type := List (Instr × Int × Nat)
def blk (y : Nat) : Nat → BL → Bool
  | _, [] => true
  | pc, q :: t => (match decode (mbOf y) pc with
      | .ok (i, len) => decide (len = q.2.2) && decide (res y pc i len = some (q.1, q.2.1))
      | _ => false) && blk y (pc + q.2.2) t
def wpl (C : CC) (X : XX) (mc ms : Nat) (J : Nat → KK) (Rt : RR) : BL → Nat → KK
  | [], pc => J pc
  | q :: t, pc => fun ls st Z M => wpi C X mc ms J Rt q.1 q.2.1 (wpl C X mc ms J Rt t (pc + q.2.2)) ls st Z M
theorem wpl_ok {C : CC} {y : Nat} {X : XX} {mc ms : Nat} {Rt : RR} {S J : Nat → KK} (hS : Clo C y X mc ms Rt S) (hJ : ∀ t ls st Z M, J t ls st Z M → S t ls st Z M) : ∀ (b : BL) (pc : Nat) (ls : AL) (st : List AV) (Z : ZZ) (M : MM), blk y pc b = true → wpl C X mc ms J Rt b pc ls st Z M → S pc ls st Z M
  | [], pc, ls, st, Z, M, _, h => hJ pc ls st Z M h
  | q :: t, pc, ls, st, Z, M, hb, h => by
    unfold blk at hb
    rw [Bool.and_eq_true] at hb
    cases hd : decode (mbOf y) pc with
    | error e => rw [hd] at hb; exact absurd hb.1 (by simp)
    | ok p =>
      obtain ⟨i, len⟩ := p
      rw [hd] at hb
      have h1 := hb.1
      simp only [Bool.and_eq_true, decide_eq_true_eq] at h1
      obtain ⟨h1, h2⟩ := h1
      subst h1
      exact hS C J Rt _ pc i _ q.1 q.2.1 ls st Z M (fun _ _ _ _ _ _ _ h => h) hJ (fun _ _ _ h => h) (fun ls st Z M h2 => wpl_ok hS hJ t (pc + q.2.2) ls st Z M hb.2 h2) hd h2 h
/-- on from a place, through jumps, up to the places that sp names -/
def wpx (C : CC) (X : XX) (mc ms : Nat) (S : Nat → KK) (Rt : RR) (bt : Nat → BL) (sp : Nat → Bool) : Nat → Nat → KK
  | 0, pc => S pc
  | f + 1, pc => wpl C X mc ms (fun t => cond (sp t) (S t) (wpx C X mc ms S Rt bt sp f t)) Rt (bt pc) pc
theorem wpx_ok {C : CC} {y : Nat} {X : XX} {mc ms : Nat} {Rt : RR} {S : Nat → KK} (hS : Clo C y X mc ms Rt S) {bt : Nat → BL} {sp : Nat → Bool} (hb : ∀ pc, blk y pc (bt pc) = true) : ∀ (f pc : Nat) (ls : AL) (st : List AV) (Z : ZZ) (M : MM), wpx C X mc ms S Rt bt sp f pc ls st Z M → S pc ls st Z M
  | 0, _, _, _, _, _, h => h
  | f + 1, pc, ls, st, Z, M, h => wpl_ok hS (fun t ls st Z M h => by
      cases hs : sp t with
      | true => rw [hs] at h; exact h
      | false => rw [hs] at h; exact wpx_ok hS hb f t ls st Z M h) (bt pc) pc ls st Z M (hb pc) h
end
section
/-! the tables of the small machine are the Statement's words -/
def mz_okM (e : mz_E) : Bool := match e with
  | (y, b, L, r, kd, ow, n, p1, p2, p3, p4) => decide (lw_tbl[p4]? = some (Cond.initialized y.cls)) && decide (y.cls ≠ "java/lang/invoke/MethodHandle") && decide (y.cls ≠ "java/lang/invoke/VarHandle") && decide ((parseMethodDescriptor y.desc).map (fun d => d.parameters.length) = some n) && plainName y.cls && decide (L ≤ 14) && decide (mz_cn[ow]? = some y.cls) &&
    (if kd = 0 then decide (lw_tbl[p2]? = some (Cond.static y)) else if kd = 1 then decide (lw_tbl[p2]? = some (Cond.instanceMethod y)) && decide (lw_tbl[p3]? = some (Cond.selects y.cls y y)) && decide ((vwCl[ow]?).map (fun q => q.1) = some y.cls) else decide (kd = 2) && decide (lw_tbl[p2]? = some (Cond.instanceMethod y)) && decide (y.name = "<init>") && decide (r = none))
set_option maxRecDepth 100000 in
theorem mz_T_code : mz_T.dropLast.map (fun e => lw_tbl[e.2.2.2.2.2.2.2.1]?) = mz_T.dropLast.map (fun e => some (Cond.code e.1 e.2.1 e.2.2.1 e.2.2.2.1)) := rfl
set_option maxRecDepth 100000 in
theorem mz_T_ok : mz_T.dropLast.all mz_okM = true := by decide +kernel
def mz_okF (q : (Nat × Nat) × (Nat × Nat × Nat)) : Bool := match mz_cn[q.1.1]?, vwCl[q.2.1]? with
  | some own, some (_, T, N) => decide (q.2.2.1 < N) && decide (lw_tbl[q.2.2.2]? = some (Cond.fieldLink own q.1.2 (T q.2.2.1).1 (T q.2.2.1).2.1 (T q.2.2.1).2.2.1))
  | _, _ => false
set_option maxRecDepth 100000 in
theorem mz_F_ok : mz_F.all mz_okF = true := by decide +kernel
def mz_okL (q : (Nat × Nat) × (Nat × Nat × Nat)) : Bool := match mz_cn[q.1.1]? with
  | some own => if q.2.1 = 1000 then decide (q.2.2.1 = 0) && decide (lw_tbl[q.2.2.2]? = some (Cond.methodLink own q.1.2 arraycopyName)) else if q.2.1 = 1002 then decide (q.2.2.1 = 0) && decide (lw_tbl[q.2.2.2]? = some (Cond.methodLink own q.1.2 Lib.Math.max.name)) else if q.2.1 = 1003 then decide (q.2.2.1 = 0) && decide (lw_tbl[q.2.2.2]? = some (Cond.methodLink own q.1.2 Lib.Math.min.name)) else if q.2.1 = 1001 then decide (q.2.2.1 = 0) && decide (lw_tbl[q.2.2.2]? = some (Cond.methodLink own q.1.2 objectInit)) else match mz_T[q.2.1]? with
    | some e => decide (q.2.1 < 163) && (if q.2.2.1 = 0 then decide (lw_tbl[q.2.2.2]? = some (Cond.methodLink own q.1.2 e.1)) else decide (lw_tbl[q.2.2.2]? = some (Cond.methodLinkNest own q.1.2 e.1 "OwnSunday")))
    | none => false
  | none => false
set_option maxRecDepth 100000 in
theorem mz_L_ok : mz_L.all mz_okL = true := by decide +kernel
def mz_okC (q : (Nat × Nat) × (Nat × Nat)) : Bool := match mz_cn[q.1.1]? with
  | some own => if q.2.1 = 100 then decide (lw_tbl[q.2.2]? = some (Cond.classLink own q.1.2 ("[" ++ (FieldType.array .int).toString))) else match vwCl[q.2.1]? with
    | some r => decide (lw_tbl[q.2.2]? = some (Cond.classLink own q.1.2 r.1))
    | none => false
  | none => false
set_option maxRecDepth 100000 in
theorem mz_C_ok : mz_C.all mz_okC = true := by decide +kernel
def mz_okK (q : (Nat × Nat) × (Int × Nat)) : Bool := match mz_cn[q.1.1]? with
  | some own => decide (lw_tbl[q.2.2]? = some (Cond.constant own q.1.2 (Int32.ofInt q.2.1))) || decide (lw_tbl[q.2.2]? = some (Cond.constantLong own q.1.2 (Int64.ofInt q.2.1)))
  | none => false
set_option maxRecDepth 100000 in
theorem mz_K_ok : mz_K.all mz_okK = true := by decide +kernel
/-- the words that every method bears -/
def mz_GW : List Cond := lw_tbl.filter goodWord
theorem mz_GW_good : ∀ w ∈ mz_GW, goodWord w = true := fun w h => (List.mem_filter.mp h).2
theorem mz_gw {w : Cond} {p : Nat} (h : lw_tbl[p]? = some w) (hg : goodWord w = true) : w ∈ mz_GW := List.mem_filter.mpr ⟨List.mem_of_getElem? h, hg⟩
theorem mz_goodIn : GoodIn mz_GW mz_GW := fun w h => ⟨h, good_of_word (mz_GW_good w h)⟩
set_option maxRecDepth 100000 in
theorem mz_inX0 : ∀ w ∈ wsX00, w ∈ lw_tbl ∧ goodWord w = true := by decide +kernel
set_option maxRecDepth 100000 in
theorem mz_inX1 : ∀ w ∈ wsX10, w ∈ lw_tbl ∧ goodWord w = true := by decide +kernel
set_option maxRecDepth 100000 in
theorem mz_inX2 : ∀ w ∈ wsX20, w ∈ lw_tbl ∧ goodWord w = true := by decide +kernel
set_option maxRecDepth 100000 in
theorem mz_inX3 : ∀ w ∈ wsX30, w ∈ lw_tbl ∧ goodWord w = true := by decide +kernel
set_option maxRecDepth 100000 in
theorem mz_inX4 : ∀ w ∈ wsX40, w ∈ lw_tbl ∧ goodWord w = true := by decide +kernel
set_option maxRecDepth 100000 in
theorem mz_inX5 : ∀ w ∈ wsX50, w ∈ lw_tbl ∧ goodWord w = true := by decide +kernel
set_option maxRecDepth 100000 in
theorem mz_inX6 : ∀ w ∈ wsX60, w ∈ lw_tbl ∧ goodWord w = true := by decide +kernel
end
section
/-! numbers -/
theorem iN_toInt {a : Int} (h : rgI a) : (iN a).toInt = a := Int32.toInt_ofInt_of_le h.1 (by have := h.2; omega)
theorem jN_toInt {a : Int} (h : rgL a) : (jN a).toInt = a := Int64.toInt_ofInt_of_le h.1 (by have := h.2; omega)
theorem iN_of (x : Int32) : iN x.toInt = x := Int32.ofInt_toInt x
theorem jN_of (x : Int64) : jN x.toInt = x := Int64.ofInt_toInt x
theorem iN_add (a b : Int) : iN a + iN b = iN (a + b) := (Int32.ofInt_add a b).symm
theorem iN_sub (a b : Int) : iN a - iN b = iN (a - b) := (Int32.ofInt_sub a b).symm
theorem iN_mul (a b : Int) : iN a * iN b = iN (a * b) := (Int32.ofInt_mul a b).symm
theorem jN_add (a b : Int) : jN a + jN b = jN (a + b) := (Int64.ofInt_add a b).symm
theorem jN_sub (a b : Int) : jN a - jN b = jN (a - b) := (Int64.ofInt_sub a b).symm
theorem jN_mul (a b : Int) : jN a * jN b = jN (a * b) := (Int64.ofInt_mul a b).symm
theorem iN_ne0 {b : Int} (h0 : 0 < b) (h : b ≤ 2147483647) : ¬ iN b = 0 := fun h2 => by
  have h3 := iN_toInt (a := b) ⟨by omega, h⟩
  rw [h2] at h3
  have h4 : (0 : Int32).toInt = 0 := by decide
  omega
theorem jN_ne0 {b : Int} (h0 : 0 < b) (h : b ≤ 9223372036854775807) : ¬ jN b = 0 := fun h2 => by
  have h3 := jN_toInt (a := b) ⟨by omega, h⟩
  rw [h2] at h3
  have h4 : (0 : Int64).toInt = 0 := by decide
  omega
theorem iN_div {a b : Int} (h : 0 ≤ a ∧ a ≤ 2147483647 ∧ 0 < b ∧ b ≤ 2147483647) : iN a / iN b = iN (a / b) := by
  obtain ⟨h0, h1, h2, h3⟩ := h
  have hle : a / b ≤ a := Int.ediv_le_self b h0
  have hge : 0 ≤ a / b := Int.ediv_nonneg h0 (by omega)
  apply Int32.toInt_inj.mp
  rw [Int32.toInt_div, iN_toInt ⟨by omega, h1⟩, iN_toInt ⟨by omega, h3⟩, iN_toInt ⟨by omega, by omega⟩, Int.tdiv_eq_ediv_of_nonneg h0]
  apply Int.bmod_eq_of_le <;> omega
theorem jN_div {a b : Int} (h : 0 ≤ a ∧ a ≤ 9223372036854775807 ∧ 0 < b ∧ b ≤ 9223372036854775807) : jN a / jN b = jN (a / b) := by
  obtain ⟨h0, h1, h2, h3⟩ := h
  have hle : a / b ≤ a := Int.ediv_le_self b h0
  have hge : 0 ≤ a / b := Int.ediv_nonneg h0 (by omega)
  apply Int64.toInt_inj.mp
  rw [Int64.toInt_div, jN_toInt ⟨by omega, h1⟩, jN_toInt ⟨by omega, h3⟩, jN_toInt ⟨by omega, by omega⟩, Int.tdiv_eq_ediv_of_nonneg h0]
  apply Int.bmod_eq_of_le <;> omega
theorem iN_rem {a b : Int} (h : 0 ≤ a ∧ a ≤ 2147483647 ∧ 0 < b ∧ b ≤ 2147483647) : iN a - iN a / iN b * iN b = iN (a % b) := by
  rw [iN_div h, iN_mul, iN_sub, Int.emod_def, Int.mul_comm b]
theorem jN_rem {a b : Int} (h : 0 ≤ a ∧ a ≤ 9223372036854775807 ∧ 0 < b ∧ b ≤ 9223372036854775807) : jN a - jN a / jN b * jN b = jN (a % b) := by
  rw [jN_div h, jN_mul, jN_sub, Int.emod_def, Int.mul_comm b]
theorem iN_lt {a b : Int} (ha : rgI a) (hb : rgI b) : iN a < iN b ↔ a < b := by rw [Int32.lt_iff_toInt_lt, iN_toInt ha, iN_toInt hb]
theorem iN_le {a b : Int} (ha : rgI a) (hb : rgI b) : iN a ≤ iN b ↔ a ≤ b := by rw [Int32.le_iff_toInt_le, iN_toInt ha, iN_toInt hb]
theorem iN_eq {a b : Int} (ha : rgI a) (hb : rgI b) : iN a = iN b ↔ a = b := by rw [← Int32.toInt_inj, iN_toInt ha, iN_toInt hb]
theorem jN_lt {a b : Int} (ha : rgL a) (hb : rgL b) : jN a < jN b ↔ a < b := by rw [Int64.lt_iff_toInt_lt, jN_toInt ha, jN_toInt hb]
theorem jN_eq {a b : Int} (ha : rgL a) (hb : rgL b) : jN a = jN b ↔ a = b := by rw [← Int64.toInt_inj, jN_toInt ha, jN_toInt hb]
theorem iN_0 : iN 0 = 0 := by decide
theorem rgI_0 : rgI 0 := by unfold rgI; omega
theorem iN_clamp {j : Int} {n : Nat} (h : 0 ≤ j ∧ j < n) (hn : n ≤ 100000) : (iN j).toNatClampNeg = j.toNat := Int32.toNatClampNeg_ofInt_of_le (by omega) (by omega)
theorem iN_in {j : Int} {n : Nat} (h : 0 ≤ j ∧ j < n) (hn : n ≤ 100000) : vp_in (iN j) n := by
  rw [vp_in_iff, iN_toInt ⟨by omega, by omega⟩]
  exact ⟨h.1, h.2⟩
theorem iN_i2l {a : Int} (h : rgI a) : (iN a).toInt64 = jN a := by
  apply Int64.toInt_inj.mp
  rw [Int32.toInt_toInt64, iN_toInt h, jN_toInt ⟨by have := h.1; omega, by have := h.2; omega⟩]
theorem jN_l2i (a : Int) : (jN a).toInt32 = iN a := Int64.toInt32_ofInt
theorem iN_bi {n : Int} (h : -128 ≤ n ∧ n ≤ 127) : (Int8.ofInt n).toInt32 = iN n := Int8.toInt32_ofInt h.1 h.2
theorem iN_si {n : Int} (h : -32768 ≤ n ∧ n ≤ 32767) : (Int16.ofInt n).toInt32 = iN n := Int16.toInt32_ofInt h.1 h.2
/-! values, locals -/
def cvV (ad : Nat → Nat) (v : AV) : Value := match v with
  | Sum.inl a => .int (iN a)
  | Sum.inr (Sum.inl a) => .long (jN a)
  | Sum.inr (Sum.inr k) => .ref (ad k)
theorem cvV_cat (ad : Nat → Nat) (v : AV) : (cvV ad v).category = cat v := by
  rcases v with a | a | a <;> rfl
theorem cvV_cats (ad : Nat → Nat) : ∀ st : List AV, ((st.map (cvV ad)).map fun v => v.category).sum = cats st
  | [] => rfl
  | v :: t => by
    have := cvV_cats ad t
    simp only [List.map_cons, List.sum_cons, cats] at this ⊢
    rw [this, cvV_cat]
def llst (ad : Nat → Nat) : Nat → AL → List (Nat × Value)
  | _, [] => []
  | i, none :: t => llst ad (i + 1) t
  | i, some v :: t => (i, cvV ad v) :: llst ad (i + 1) t
theorem llst_mem (ad : Nat → Nat) : ∀ (al : AL) (i : Nat) (q : Nat × Value), q ∈ llst ad i al ↔ ∃ (k : Nat) (v : AV), lget al k = some v ∧ q = (i + k, cvV ad v)
  | [], i, q => by simp [llst, lget]
  | none :: t, i, q => by
    rw [llst, llst_mem ad t (i + 1) q]
    constructor
    · rintro ⟨k, v, h1, h2⟩
      exact ⟨k + 1, v, h1, by rw [h2]; congr 1; omega⟩
    · rintro ⟨k, v, h1, h2⟩
      match k, h1, h2 with
      | 0, h1, _ => cases h1
      | k + 1, h1, h2 => exact ⟨k, v, h1, by rw [h2]; congr 1; omega⟩
  | some u :: t, i, q => by
    rw [llst, List.mem_cons, llst_mem ad t (i + 1) q]
    constructor
    · rintro (rfl | ⟨k, v, h1, h2⟩)
      · exact ⟨0, u, rfl, rfl⟩
      · exact ⟨k + 1, v, h1, by rw [h2]; congr 1; omega⟩
    · rintro ⟨k, v, h1, h2⟩
      match k, h1, h2 with
      | 0, h1, h2 => cases h1; exact Or.inl h2
      | k + 1, h1, h2 => exact Or.inr ⟨k, v, h1, by rw [h2]; congr 1; omega⟩
def LocR (ad : Nat → Nat) (al : AL) (ls : Array Slot) : Prop := lv_has ls al.length (llst ad 0 al)
theorem LocR.get {ad : Nat → Nat} {al : AL} {ls : Array Slot} (h : LocR ad al ls) {i : Nat} {v : AV} (hg : lget al i = some v) : ls[i]? = some (.val (cvV ad v)) := h.2.2 (i, cvV ad v) ((llst_mem ad al 0 _).mpr ⟨i, v, hg, by rw [Nat.zero_add]⟩)
theorem lst1_len : ∀ (al : AL) (i : Nat) (v : AV), (lst1 al i v).length = al.length
  | [], _, _ => rfl
  | _ :: _, 0, _ => rfl
  | x :: t, 1, v => by simp [lst1, lst1_len t 0 v]
  | x :: t, i + 2, v => by simp [lst1, lst1_len t (i + 1) v]
theorem lst2_len : ∀ (al : AL) (i : Nat) (v : AV), (lst2 al i v).length = al.length
  | [], _, _ => rfl
  | [_], 0, _ => rfl
  | _ :: _ :: _, 0, _ => rfl
  | x :: t, 1, v => by simp [lst2, lst2_len t 0 v]
  | x :: t, i + 2, v => by simp [lst2, lst2_len t (i + 1) v]
theorem lclr_some {x : Option AV} {u : AV} (h : lclr x = some u) : x = some u ∧ is2 u = false := by
  match x, h with
  | some (Sum.inl a), h => cases h; exact ⟨rfl, rfl⟩
  | some (Sum.inr (Sum.inl a)), h => cases h
  | some (Sum.inr (Sum.inr a)), h => cases h; exact ⟨rfl, rfl⟩
  | none, h => cases h
theorem lst1_get : ∀ (al : AL) (i : Nat) (v : AV) (j : Nat) (u : AV), lget (lst1 al i v) j = some u → (j = i ∧ u = v) ∨ (j ≠ i ∧ lget al j = some u ∧ ¬ (j + 1 = i ∧ is2 u = true))
  | [], _, _, _, _, h => by simp [lst1, lget] at h
  | x :: t, 0, v, 0, u, h => by simp [lst1, lget] at h; exact Or.inl ⟨rfl, h.symm⟩
  | x :: t, 0, v, j + 1, u, h => Or.inr ⟨by omega, h, by omega⟩
  | x :: t, 1, v, 0, u, h => by
    have h2 := lclr_some (x := x) h
    exact Or.inr ⟨by omega, h2.1, by rw [h2.2]; simp⟩
  | x :: t, 1, v, j + 1, u, h => by
    rcases lst1_get t 0 v j u h with ⟨h1, h2⟩ | ⟨h1, h2, h3⟩
    · exact Or.inl ⟨by omega, h2⟩
    · exact Or.inr ⟨by omega, h2, by omega⟩
  | x :: t, i + 2, v, 0, u, h => Or.inr ⟨by omega, h, by omega⟩
  | x :: t, i + 2, v, j + 1, u, h => by
    rcases lst1_get t (i + 1) v j u h with ⟨h1, h2⟩ | ⟨h1, h2, h3⟩
    · exact Or.inl ⟨by omega, h2⟩
    · exact Or.inr ⟨by omega, h2, fun h4 => h3 ⟨by omega, h4.2⟩⟩
theorem lst2_get : ∀ (al : AL) (i : Nat) (v : AV) (j : Nat) (u : AV), lget (lst2 al i v) j = some u → (j = i ∧ u = v) ∨ (j ≠ i ∧ j ≠ i + 1 ∧ lget al j = some u ∧ ¬ (j + 1 = i ∧ is2 u = true))
  | [], _, _, _, _, h => by simp [lst2, lget] at h
  | [x], 0, v, 0, u, h => by simp [lst2, lget] at h; exact Or.inl ⟨rfl, h.symm⟩
  | [x], 0, v, j + 1, u, h => by simp [lst2, lget] at h
  | x :: y :: t, 0, v, 0, u, h => by simp [lst2, lget] at h; exact Or.inl ⟨rfl, h.symm⟩
  | x :: y :: t, 0, v, 1, u, h => by simp [lst2, lget] at h
  | x :: y :: t, 0, v, j + 2, u, h => Or.inr ⟨by omega, by omega, h, by omega⟩
  | x :: t, 1, v, 0, u, h => by
    have h2 := lclr_some (x := x) (by simpa [lst2, lget] using h)
    exact Or.inr ⟨by omega, by omega, h2.1, by rw [h2.2]; simp⟩
  | x :: t, 1, v, j + 1, u, h => by
    rcases lst2_get t 0 v j u (by simpa [lst2, lget] using h) with ⟨h1, h2⟩ | ⟨h1, h2, h3, h4⟩
    · exact Or.inl ⟨by omega, h2⟩
    · exact Or.inr ⟨by omega, by omega, h3, by omega⟩
  | x :: t, i + 2, v, 0, u, h => Or.inr ⟨by omega, by omega, by simpa [lst2, lget] using h, by omega⟩
  | x :: t, i + 2, v, j + 1, u, h => by
    rcases lst2_get t (i + 1) v j u (by simpa [lst2, lget] using h) with ⟨h1, h2⟩ | ⟨h1, h2, h3, h4⟩
    · exact Or.inl ⟨by omega, h2⟩
    · exact Or.inr ⟨by omega, by omega, h3, fun h5 => h4 ⟨by omega, h5.2⟩⟩
theorem is2_cat {ad : Nat → Nat} {u : AV} (h : ((cvV ad u).category == 2) = true) : is2 u = true := by
  rcases u with a | a | a
  · cases h
  · rfl
  · cases h
theorem LocR.st1 {ad : Nat → Nat} {al : AL} {ls' : Array Slot} {i : Nat} {v : AV} (h : lv_has ls' al.length ((i, cvV ad v) :: (llst ad 0 al).filter (fun q => !(q.1 == i) && !(q.1 + 1 == i && q.2.category == 2)))) : LocR ad (lst1 al i v) ls' := by
  refine ⟨by rw [lst1_len]; exact h.1, h.2.1, fun q hq => h.2.2 q ?_⟩
  obtain ⟨k, u, h1, rfl⟩ := (llst_mem ad _ 0 q).mp hq
  rw [Nat.zero_add]
  rcases lst1_get al i v k u h1 with ⟨rfl, rfl⟩ | ⟨h2, h3, h4⟩
  · exact List.mem_cons_self
  · refine List.mem_cons_of_mem _ (List.mem_filter.mpr ⟨(llst_mem ad al 0 _).mpr ⟨k, u, h3, by rw [Nat.zero_add]⟩, ?_⟩)
    simp only [Bool.and_eq_true, Bool.not_eq_true', beq_eq_false_iff_ne, ne_eq, Bool.and_eq_false_iff]
    refine ⟨h2, ?_⟩
    by_cases h5 : k + 1 = i
    · right
      cases h6 : ((cvV ad u).category == 2) with
      | false => exact beq_eq_false_iff_ne.mp h6
      | true => exact absurd ⟨h5, is2_cat h6⟩ h4
    · exact Or.inl h5
theorem LocR.st2 {ad : Nat → Nat} {al : AL} {ls' : Array Slot} {i : Nat} {v : AV} (h : lv_has ls' al.length ((i, cvV ad v) :: (llst ad 0 al).filter (fun q => !(q.1 == i) && (!(q.1 == i + 1) && !(q.1 + 1 == i && q.2.category == 2))))) : LocR ad (lst2 al i v) ls' := by
  refine ⟨by rw [lst2_len]; exact h.1, h.2.1, fun q hq => h.2.2 q ?_⟩
  obtain ⟨k, u, h1, rfl⟩ := (llst_mem ad _ 0 q).mp hq
  rw [Nat.zero_add]
  rcases lst2_get al i v k u h1 with ⟨rfl, rfl⟩ | ⟨h2, h20, h3, h4⟩
  · exact List.mem_cons_self
  · refine List.mem_cons_of_mem _ (List.mem_filter.mpr ⟨(llst_mem ad al 0 _).mpr ⟨k, u, h3, by rw [Nat.zero_add]⟩, ?_⟩)
    simp only [Bool.and_eq_true, Bool.not_eq_true', beq_eq_false_iff_ne, ne_eq, Bool.and_eq_false_iff]
    refine ⟨h2, h20, ?_⟩
    by_cases h5 : k + 1 = i
    · right
      cases h6 : ((cvV ad u).category == 2) with
      | false => exact beq_eq_false_iff_ne.mp h6
      | true => exact absurd ⟨h5, is2_cat h6⟩ h4
    · exact Or.inl h5
/-- another placing of cells that agrees on what the locals and the stack hold -/
theorem cvV_mv {ad ad' : Nat → Nat} {n n' : Nat} (h : ∀ k, k < n ∨ n' ≤ k → ad' k = ad k) {v : AV} (hv : rfv n n' v) : cvV ad' v = cvV ad v := by
  rcases v with a | a | a
  · rfl
  · rfl
  · show Value.ref (ad' a) = Value.ref (ad a)
    rw [h a hv]
theorem rfs_mv {ad ad' : Nat → Nat} {n n' : Nat} (h : ∀ k, k < n ∨ n' ≤ k → ad' k = ad k) : ∀ {st : List AV}, rfs st n n' → st.map (cvV ad') = st.map (cvV ad)
  | [], _ => rfl
  | v :: t, hv => by
    rw [List.map_cons, List.map_cons, cvV_mv h hv.1, rfs_mv h hv.2]
theorem rfq_get : ∀ {al : AL} {n n' i : Nat} {v : AV}, rfq al n n' → lget al i = some v → rfv n n' v
  | [], _, _, _, _, _, hg => by cases hg
  | none :: t, n, n', 0, v, _, hg => by cases hg
  | some u :: t, n, n', 0, v, h, hg => by cases hg; exact h.1
  | none :: t, n, n', i + 1, v, h, hg => rfq_get (al := t) h hg
  | some u :: t, n, n', i + 1, v, h, hg => rfq_get (al := t) h.2 hg
theorem LocR.mv {ad ad' : Nat → Nat} {n n' : Nat} (h : ∀ k, k < n ∨ n' ≤ k → ad' k = ad k) {al : AL} {ls : Array Slot} (hl : LocR ad al ls) (hv : rfq al n n') : LocR ad' al ls := by
  refine ⟨hl.1, hl.2.1, fun q hq => hl.2.2 q ?_⟩
  obtain ⟨k, u, h1, rfl⟩ := (llst_mem ad' _ 0 q).mp hq
  rw [cvV_mv h (rfq_get hv h1)]
  exact (llst_mem ad al 0 _).mpr ⟨k, u, h1, rfl⟩
theorem LocR.all {ad ad' : Nat → Nat} {al : AL} {ls : Array Slot} (hl : LocR ad al ls) (h : ∀ k, ad' k = ad k) : LocR ad' al ls := by
  rw [show ad' = ad from funext h]; exact hl
/-! the world -/
def fvV (ad : Nat → Nat) (g : Nat → Int) (j : Nat) (x : Option (Option Nat)) : Value := match x with
  | none => .int (iN (g j))
  | some none => .null
  | some (some q) => .ref (ad q)
def eA (cT : Nat → ClassId) (ad : Nat → Nat) (g : Nat → Int) (a : Nat × Nat × (Nat → Option Nat)) : va_E :=
  .inl (cT a.1, a.2.1, if a.1 < 3 then .inl (fun j => iN (g j)) else if a.1 = 3 then .inr (.inl (fun j => jN (g j))) else .inr (.inr (.inr (.inr (fun j => (a.2.2 j).map ad)))))
def eO (ad : Nat → Nat) (g : Nat → Int) (o : Nat × List (Option (Option Nat))) : va_E := .inr (o.1, o.2.mapIdx (fvV ad g))
def elV (cT : Nat → ClassId) (ad : Nat → Nat) (g : Nat → Int) (x : SC) : va_E := match x with
  | Sum.inl a => eA cT ad g a
  | Sum.inr o => eO ad g o
def wsOf (cT : Nat → ClassId) (ad : Nat → Nat) (sh : List SC) (M : MM) : va_W := sh.mapIdx (fun k x => (ad k, elV cT ad (M k) x))
theorem wsOf_get (cT : Nat → ClassId) (ad : Nat → Nat) (sh : List SC) (M : MM) (k : Nat) : (wsOf cT ad sh M)[k]? = (sh[k]?).map (fun x => (ad k, elV cT ad (M k) x)) := by
  simp [wsOf]
theorem wsOf_at {cT : Nat → ClassId} {ad : Nat → Nat} {sh : List SC} {M : MM} {k : Nat} {x : SC} (h : sh[k]? = some x) : (wsOf cT ad sh M)[k]? = some (ad k, elV cT ad (M k) x) := by
  rw [wsOf_get, h]; rfl
theorem wsOf_len (cT : Nat → ClassId) (ad : Nat → Nat) (sh : List SC) (M : MM) : (wsOf cT ad sh M).length = sh.length := by simp [wsOf]
/-- one cell changed -/
theorem wsOf_set {cT : Nat → ClassId} {ad : Nat → Nat} {sh : List SC} {M M' : MM} {r : Nat} {x x' : SC} {e : va_E} (h : sh[r]? = some x) (hM : ∀ k, k ≠ r → M' k = M k) (he : elV cT ad (M' r) x' = e) : wsOf cT ad (sh.set r x') M' = (wsOf cT ad sh M).set r (ad r, e) := by
  apply List.ext_getElem?
  intro k
  have hlt : r < sh.length := (List.getElem?_eq_some_iff.mp h).1
  rw [wsOf_get, List.getElem?_set, List.getElem?_set, wsOf_len, wsOf_get]
  by_cases hk : r = k
  · subst hk
    simp [hlt, he]
  · rw [if_neg hk, if_neg hk, hM k (fun z => hk z.symm)]
theorem wsOf_set' {cT : Nat → ClassId} {ad : Nat → Nat} {sh : List SC} {M M' : MM} {r : Nat} {x : SC} {e : va_E} (h : sh[r]? = some x) (hM : ∀ k, k ≠ r → M' k = M k) (he : elV cT ad (M' r) x = e) : wsOf cT ad sh M' = (wsOf cT ad sh M).set r (ad r, e) := by
  have h2 : sh.set r x = sh := by
    apply List.ext_getElem?
    intro k
    rw [List.getElem?_set]
    by_cases hk : r = k
    · subst hk
      rw [if_pos rfl, h]
      simp [(List.getElem?_eq_some_iff.mp h).1]
    · rw [if_neg hk]
  have h3 := wsOf_set (cT := cT) (ad := ad) (M := M) (M' := M') (x' := x) h hM he
  rwa [h2] at h3
theorem mset_ne {M : MM} {r j : Nat} {a : Int} (k : Nat) (h : k ≠ r) : mset M r j a k = M k := by
  funext i
  simp [mset, h]
theorem mset_at (M : MM) (r j : Nat) (a : Int) (i : Nat) : mset M r j a r i = if i = j then a else M r i := by simp [mset]
theorem arr_spec {sh : List SC} {r t n : Nat} {f : Nat → Option Nat} (h : arr sh r = some (t, n, f)) : sh[r]? = some (Sum.inl (t, n, f)) := by
  unfold arr at h
  split at h
  · rename_i a ha
    rw [ha, Option.some.inj h]
  · cases h
theorem cls_spec {sh : List SC} {r ci : Nat} (h : cls sh r = some ci) : ∃ fs, sh[r]? = some (Sum.inr (ci, fs)) := by
  unfold cls at h
  split at h
  · rename_i a ha
    exact ⟨a.2, by rw [ha, ← Option.some.inj h]⟩
  · cases h
/-- a world grown by a cell -/
theorem wsOf_app {cT : Nat → ClassId} {ad ad' : Nat → Nat} {sh : List SC} {M M' : MM} {x : SC} {e : va_E} {q : Nat} (hM : ∀ k, k < sh.length → M' k = M k) (ha : ∀ k, k < sh.length → ad' k = ad k) (hq : ad' sh.length = q) (he : elV cT ad' (M' sh.length) x = e)
    (hin : ∀ (k : Nat) (x : SC), sh[k]? = some x → elV cT ad' (M k) x = elV cT ad (M k) x) : wsOf cT ad' (sh ++ [x]) M' = wsOf cT ad sh M ++ [(q, e)] := by
  apply List.ext_getElem?
  intro k
  rw [wsOf_get]
  by_cases hk : k < sh.length
  · rw [List.getElem?_append_left hk, List.getElem?_append_left (by rw [wsOf_len]; exact hk), wsOf_get, hM k hk, ha k hk]
    cases hx : sh[k]? with
    | none => rfl
    | some y => simp only [Option.map_some]; rw [hin k y hx]
  · rw [List.getElem?_append_right (by omega), List.getElem?_append_right (by rw [wsOf_len]; omega), wsOf_len]
    by_cases h2 : k = sh.length
    · subst h2
      simp [hq, he]
    · rw [List.getElem?_eq_none (by simp; omega), List.getElem?_eq_none (by simp; omega)]
      rfl
end
section
/-! what an instruction of the small machine says of the machine itself -/
theorem pI_spec {st : List AV} {k : Int → List AV → Prop} (h : pI st k) : ∃ a t, st = vI a :: t ∧ k a t := by
  match st, h with
  | Sum.inl a :: t, h => exact ⟨a, t, rfl, h⟩
  | [], h => exact h.elim
  | Sum.inr (Sum.inl _) :: _, h => exact h.elim
  | Sum.inr (Sum.inr _) :: _, h => exact h.elim
theorem pL_spec {st : List AV} {k : Int → List AV → Prop} (h : pL st k) : ∃ a t, st = vL a :: t ∧ k a t := by
  match st, h with
  | Sum.inr (Sum.inl a) :: t, h => exact ⟨a, t, rfl, h⟩
  | [], h => exact h.elim
  | Sum.inl _ :: _, h => exact h.elim
  | Sum.inr (Sum.inr _) :: _, h => exact h.elim
theorem pR_spec {st : List AV} {k : Nat → List AV → Prop} (h : pR st k) : ∃ a t, st = vR a :: t ∧ k a t := by
  match st, h with
  | Sum.inr (Sum.inr a) :: t, h => exact ⟨a, t, rfl, h⟩
  | [], h => exact h.elim
  | Sum.inl _ :: _, h => exact h.elim
  | Sum.inr (Sum.inl _) :: _, h => exact h.elim
theorem pV_spec {st : List AV} {k : AV → List AV → Prop} (h : pV st k) : ∃ a t, st = a :: t ∧ cat a = 1 ∧ k a t := by
  match st, h with
  | Sum.inr (Sum.inr a) :: t, h => exact ⟨_, t, rfl, rfl, h⟩
  | [], h => exact h.elim
  | Sum.inl _ :: t, h => exact ⟨_, t, rfl, rfl, h⟩
  | Sum.inr (Sum.inl _) :: _, h => exact h.elim
theorem gI_spec {x : Option AV} {k : Int → Prop} (h : gI x k) : ∃ a, x = some (vI a) ∧ k a := by
  match x, h with
  | some (Sum.inl a), h => exact ⟨a, rfl, h⟩
  | none, h => exact h.elim
  | some (Sum.inr (Sum.inl _)), h => exact h.elim
  | some (Sum.inr (Sum.inr _)), h => exact h.elim
theorem gL_spec {x : Option AV} {k : Int → Prop} (h : gL x k) : ∃ a, x = some (vL a) ∧ k a := by
  match x, h with
  | some (Sum.inr (Sum.inl a)), h => exact ⟨a, rfl, h⟩
  | none, h => exact h.elim
  | some (Sum.inl _), h => exact h.elim
  | some (Sum.inr (Sum.inr _)), h => exact h.elim
theorem gR_spec {x : Option AV} {k : Nat → Prop} (h : gR x k) : ∃ a, x = some (vR a) ∧ k a := by
  match x, h with
  | some (Sum.inr (Sum.inr a)), h => exact ⟨a, rfl, h⟩
  | none, h => exact h.elim
  | some (Sum.inl _), h => exact h.elim
  | some (Sum.inr (Sum.inl _)), h => exact h.elim
theorem gA_spec {x : Option (Nat × Nat × (Nat → Option Nat))} {j : Int} {k : Nat → (Nat → Option Nat) → Prop} (h : gA x j k) : ∃ t n f, x = some (t, n, f) ∧ (0 ≤ j ∧ j < (n : Int)) ∧ n ≤ 100000 ∧ k t f := by
  match x, h with
  | some (t, n, f), h => exact ⟨t, n, f, rfl, h⟩
  | none, h => exact h.elim
theorem gQ_spec {x : Option Nat} {k : Nat → Prop} (h : gQ x k) : ∃ q, x = some q ∧ k q := by
  match x, h with
  | some q, h => exact ⟨q, rfl, h⟩
  | none, h => exact h.elim
theorem gF_spec {x : Option (Option (Option Nat))} {kn : Prop} {kr : Nat → Prop} (h : gF x kn kr) : (x = some none ∧ kn) ∨ ∃ q, x = some (some (some q)) ∧ kr q := by
  match x, h with
  | some none, h => exact Or.inl ⟨rfl, h⟩
  | some (some (some q)), h => exact Or.inr ⟨q, rfl, h⟩
  | none, h => exact h.elim
  | some (some none), h => exact h.elim
def wfC (n : Nat) (x : SC) : Prop := match x with
  | Sum.inl a => ∀ (j q : Nat), a.2.2 j = some q → q < n
  | Sum.inr o => ∀ (j q : Nat), o.2[j]? = some (some (some q)) → q < n
def wfS (sh : List SC) : Prop := ∀ (k : Nat) (x : SC), sh[k]? = some x → wfC sh.length x
def cnOf (k : Nat) : String := (mz_cn[k]?).getD ""
def tyL (cT : Nat → ClassId) : List (ClassId × FieldType) := [(cT 0, .int), (cT 1, .byte), (cT 2, .boolean), (cT 3, .long), (cT 4, .object "OwnSunday$Book"), (cT 5, .array .int)]
/-- the machine goes on well from every picture of the small one -/
def SimS (p : Program) (l : Launch) (e : Env) (R : Room) (s : State) (m : MethodId) (args : Array Value) (below : List Frame) (meth : Method) (c : Code) (Qf : State → Prop) (D : va_G) (cT : Nat → ClassId) (A : Nat → Prop) (nL : Nat) (ad0 : Nat → Nat) (n0 : Nat) : Nat → KK := fun pc ls st Z M =>
  ∀ (ad : Nat → Nat) (H : Heap) (locs : List Loc) (als : Array Slot), (∀ k, k < n0 ∨ Z.1.length ≤ k → ad k = ad0 k) → n0 ≤ Z.1.length → Z.1.length ≤ 100000 → wfS Z.1 → ls.length = nL → LocR ad ls als → va_P D vwCl (wsOf cT ad Z.1 M) H → va_D A (wsOf cT ad Z.1 M) → va_S A s.heap H locs →
    W p l e R s m args below meth c H locs Z.2.1 Z.2.2 Qf (F0 m pc als (st.map (cvV ad)))
section SND
variable {p : Program} {l : Launch} {e : Env} {R : Room} {s : State} {m : MethodId} {args : Array Value} {below : List Frame} {meth : Method} {c : Code} {Qf : State → Prop} {D : va_G} {cT : Nat → ClassId} {A : Nat → Prop} {nL : Nat} {ad0 : Nat → Nat} {n0 : Nat}
variable {cc : ByteArray} {C : CC} {X : XX} {mc ms : Nat} {J : Nat → KK} {Rt : RR} {x : Int} {K : KK} {ls : AL} {st : List AV} {Z : ZZ} {M : MM} {pc len : Nat}

theorem sn_iadd (hx : p.tables.exec = Jvm.exec) (hb : c.code = cc) (hdg : decode cc pc = .ok (.iadd, 1)) (hJ : ∀ t ls st Z M, J t ls st Z M → SimS p l e R s m args below meth c Qf D cT A nL ad0 n0 t ls st Z M) (hK : ∀ ls st Z M, K ls st Z M → SimS p l e R s m args below meth c Qf D cT A nL ad0 n0 (pc + 1) ls st Z M) (h : wpi C X mc ms J Rt (.iadd) x K ls st Z M) : SimS p l e R s m args below meth c Qf D cT A nL ad0 n0 pc ls st Z M := by
  obtain ⟨b, st, rfl, h⟩ := pI_spec h
  obtain ⟨a, st, rfl, h⟩ := pI_spec h
  intro ad H locs als i1 i2 i3 i4 i5 i6 i7 i8 i9
  refine lv_iadd hx hb hdg ?_
  rw [iN_add]
  exact hK _ _ _ _ h ad H locs als i1 i2 i3 i4 i5 i6 i7 i8 i9
theorem sn_isub (hx : p.tables.exec = Jvm.exec) (hb : c.code = cc) (hdg : decode cc pc = .ok (.isub, 1)) (hJ : ∀ t ls st Z M, J t ls st Z M → SimS p l e R s m args below meth c Qf D cT A nL ad0 n0 t ls st Z M) (hK : ∀ ls st Z M, K ls st Z M → SimS p l e R s m args below meth c Qf D cT A nL ad0 n0 (pc + 1) ls st Z M) (h : wpi C X mc ms J Rt (.isub) x K ls st Z M) : SimS p l e R s m args below meth c Qf D cT A nL ad0 n0 pc ls st Z M := by
  obtain ⟨b, st, rfl, h⟩ := pI_spec h
  obtain ⟨a, st, rfl, h⟩ := pI_spec h
  intro ad H locs als i1 i2 i3 i4 i5 i6 i7 i8 i9
  refine lv_isub hx hb hdg ?_
  rw [iN_sub]
  exact hK _ _ _ _ h ad H locs als i1 i2 i3 i4 i5 i6 i7 i8 i9
theorem sn_imul (hx : p.tables.exec = Jvm.exec) (hb : c.code = cc) (hdg : decode cc pc = .ok (.imul, 1)) (hJ : ∀ t ls st Z M, J t ls st Z M → SimS p l e R s m args below meth c Qf D cT A nL ad0 n0 t ls st Z M) (hK : ∀ ls st Z M, K ls st Z M → SimS p l e R s m args below meth c Qf D cT A nL ad0 n0 (pc + 1) ls st Z M) (h : wpi C X mc ms J Rt (.imul) x K ls st Z M) : SimS p l e R s m args below meth c Qf D cT A nL ad0 n0 pc ls st Z M := by
  obtain ⟨b, st, rfl, h⟩ := pI_spec h
  obtain ⟨a, st, rfl, h⟩ := pI_spec h
  intro ad H locs als i1 i2 i3 i4 i5 i6 i7 i8 i9
  refine lv_imul hx hb hdg ?_
  rw [iN_mul]
  exact hK _ _ _ _ h ad H locs als i1 i2 i3 i4 i5 i6 i7 i8 i9
theorem sn_idiv (hx : p.tables.exec = Jvm.exec) (hb : c.code = cc) (hdg : decode cc pc = .ok (.idiv, 1)) (hJ : ∀ t ls st Z M, J t ls st Z M → SimS p l e R s m args below meth c Qf D cT A nL ad0 n0 t ls st Z M) (hK : ∀ ls st Z M, K ls st Z M → SimS p l e R s m args below meth c Qf D cT A nL ad0 n0 (pc + 1) ls st Z M) (h : wpi C X mc ms J Rt (.idiv) x K ls st Z M) : SimS p l e R s m args below meth c Qf D cT A nL ad0 n0 pc ls st Z M := by
  obtain ⟨b, st, rfl, h⟩ := pI_spec h
  obtain ⟨a, st, rfl, h⟩ := pI_spec h
  obtain ⟨hr, h⟩ := h
  intro ad H locs als i1 i2 i3 i4 i5 i6 i7 i8 i9
  refine lv_idiv hx hb hdg (iN_ne0 hr.2.2.1 hr.2.2.2) ?_
  rw [iN_div hr]
  exact hK _ _ _ _ h ad H locs als i1 i2 i3 i4 i5 i6 i7 i8 i9
theorem sn_irem (hx : p.tables.exec = Jvm.exec) (hb : c.code = cc) (hdg : decode cc pc = .ok (.irem, 1)) (hJ : ∀ t ls st Z M, J t ls st Z M → SimS p l e R s m args below meth c Qf D cT A nL ad0 n0 t ls st Z M) (hK : ∀ ls st Z M, K ls st Z M → SimS p l e R s m args below meth c Qf D cT A nL ad0 n0 (pc + 1) ls st Z M) (h : wpi C X mc ms J Rt (.irem) x K ls st Z M) : SimS p l e R s m args below meth c Qf D cT A nL ad0 n0 pc ls st Z M := by
  obtain ⟨b, st, rfl, h⟩ := pI_spec h
  obtain ⟨a, st, rfl, h⟩ := pI_spec h
  obtain ⟨hr, h⟩ := h
  intro ad H locs als i1 i2 i3 i4 i5 i6 i7 i8 i9
  refine lv_irem hx hb hdg (iN_ne0 hr.2.2.1 hr.2.2.2) ?_
  rw [iN_rem hr]
  exact hK _ _ _ _ h ad H locs als i1 i2 i3 i4 i5 i6 i7 i8 i9
theorem sn_iand (hx : p.tables.exec = Jvm.exec) (hb : c.code = cc) (hdg : decode cc pc = .ok (.iand, 1)) (hJ : ∀ t ls st Z M, J t ls st Z M → SimS p l e R s m args below meth c Qf D cT A nL ad0 n0 t ls st Z M) (hK : ∀ ls st Z M, K ls st Z M → SimS p l e R s m args below meth c Qf D cT A nL ad0 n0 (pc + 1) ls st Z M) (h : wpi C X mc ms J Rt (.iand) x K ls st Z M) : SimS p l e R s m args below meth c Qf D cT A nL ad0 n0 pc ls st Z M := by
  obtain ⟨b, st, rfl, h⟩ := pI_spec h
  obtain ⟨a, st, rfl, h⟩ := pI_spec h
  intro ad H locs als i1 i2 i3 i4 i5 i6 i7 i8 i9
  refine lv_iand hx hb hdg ?_
  have h2 := hK _ _ _ _ h ad H locs als i1 i2 i3 i4 i5 i6 i7 i8 i9
  simp only [List.map_cons, cvV, bAnd, iN_of] at h2
  exact h2
theorem sn_ior (hx : p.tables.exec = Jvm.exec) (hb : c.code = cc) (hdg : decode cc pc = .ok (.ior, 1)) (hJ : ∀ t ls st Z M, J t ls st Z M → SimS p l e R s m args below meth c Qf D cT A nL ad0 n0 t ls st Z M) (hK : ∀ ls st Z M, K ls st Z M → SimS p l e R s m args below meth c Qf D cT A nL ad0 n0 (pc + 1) ls st Z M) (h : wpi C X mc ms J Rt (.ior) x K ls st Z M) : SimS p l e R s m args below meth c Qf D cT A nL ad0 n0 pc ls st Z M := by
  obtain ⟨b, st, rfl, h⟩ := pI_spec h
  obtain ⟨a, st, rfl, h⟩ := pI_spec h
  intro ad H locs als i1 i2 i3 i4 i5 i6 i7 i8 i9
  refine lv_ior hx hb hdg ?_
  have h2 := hK _ _ _ _ h ad H locs als i1 i2 i3 i4 i5 i6 i7 i8 i9
  simp only [List.map_cons, cvV, bOr, iN_of] at h2
  exact h2
theorem sn_ixor (hx : p.tables.exec = Jvm.exec) (hb : c.code = cc) (hdg : decode cc pc = .ok (.ixor, 1)) (hJ : ∀ t ls st Z M, J t ls st Z M → SimS p l e R s m args below meth c Qf D cT A nL ad0 n0 t ls st Z M) (hK : ∀ ls st Z M, K ls st Z M → SimS p l e R s m args below meth c Qf D cT A nL ad0 n0 (pc + 1) ls st Z M) (h : wpi C X mc ms J Rt (.ixor) x K ls st Z M) : SimS p l e R s m args below meth c Qf D cT A nL ad0 n0 pc ls st Z M := by
  obtain ⟨b, st, rfl, h⟩ := pI_spec h
  obtain ⟨a, st, rfl, h⟩ := pI_spec h
  intro ad H locs als i1 i2 i3 i4 i5 i6 i7 i8 i9
  refine lv_ixor hx hb hdg ?_
  have h2 := hK _ _ _ _ h ad H locs als i1 i2 i3 i4 i5 i6 i7 i8 i9
  simp only [List.map_cons, cvV, bXor, iN_of] at h2
  exact h2
theorem sn_ishl (hx : p.tables.exec = Jvm.exec) (hb : c.code = cc) (hdg : decode cc pc = .ok (.ishl, 1)) (hJ : ∀ t ls st Z M, J t ls st Z M → SimS p l e R s m args below meth c Qf D cT A nL ad0 n0 t ls st Z M) (hK : ∀ ls st Z M, K ls st Z M → SimS p l e R s m args below meth c Qf D cT A nL ad0 n0 (pc + 1) ls st Z M) (h : wpi C X mc ms J Rt (.ishl) x K ls st Z M) : SimS p l e R s m args below meth c Qf D cT A nL ad0 n0 pc ls st Z M := by
  obtain ⟨b, st, rfl, h⟩ := pI_spec h
  obtain ⟨a, st, rfl, h⟩ := pI_spec h
  intro ad H locs als i1 i2 i3 i4 i5 i6 i7 i8 i9
  refine lv_ishl hx hb hdg ?_
  have h2 := hK _ _ _ _ h ad H locs als i1 i2 i3 i4 i5 i6 i7 i8 i9
  simp only [List.map_cons, cvV, bShl, iN_of] at h2
  exact h2
theorem sn_ishr (hx : p.tables.exec = Jvm.exec) (hb : c.code = cc) (hdg : decode cc pc = .ok (.ishr, 1)) (hJ : ∀ t ls st Z M, J t ls st Z M → SimS p l e R s m args below meth c Qf D cT A nL ad0 n0 t ls st Z M) (hK : ∀ ls st Z M, K ls st Z M → SimS p l e R s m args below meth c Qf D cT A nL ad0 n0 (pc + 1) ls st Z M) (h : wpi C X mc ms J Rt (.ishr) x K ls st Z M) : SimS p l e R s m args below meth c Qf D cT A nL ad0 n0 pc ls st Z M := by
  obtain ⟨b, st, rfl, h⟩ := pI_spec h
  obtain ⟨a, st, rfl, h⟩ := pI_spec h
  intro ad H locs als i1 i2 i3 i4 i5 i6 i7 i8 i9
  refine lv_ishr hx hb hdg ?_
  have h2 := hK _ _ _ _ h ad H locs als i1 i2 i3 i4 i5 i6 i7 i8 i9
  simp only [List.map_cons, cvV, bShr, iN_of] at h2
  exact h2
theorem sn_iushr (hx : p.tables.exec = Jvm.exec) (hb : c.code = cc) (hdg : decode cc pc = .ok (.iushr, 1)) (hJ : ∀ t ls st Z M, J t ls st Z M → SimS p l e R s m args below meth c Qf D cT A nL ad0 n0 t ls st Z M) (hK : ∀ ls st Z M, K ls st Z M → SimS p l e R s m args below meth c Qf D cT A nL ad0 n0 (pc + 1) ls st Z M) (h : wpi C X mc ms J Rt (.iushr) x K ls st Z M) : SimS p l e R s m args below meth c Qf D cT A nL ad0 n0 pc ls st Z M := by
  obtain ⟨b, st, rfl, h⟩ := pI_spec h
  obtain ⟨a, st, rfl, h⟩ := pI_spec h
  intro ad H locs als i1 i2 i3 i4 i5 i6 i7 i8 i9
  refine lv_iushr hx hb hdg rfl ?_
  have h2 := hK _ _ _ _ h ad H locs als i1 i2 i3 i4 i5 i6 i7 i8 i9
  simp only [List.map_cons, cvV, bUsr, iN_of] at h2
  exact h2
theorem sn_ladd (hx : p.tables.exec = Jvm.exec) (hb : c.code = cc) (hdg : decode cc pc = .ok (.ladd, 1)) (hJ : ∀ t ls st Z M, J t ls st Z M → SimS p l e R s m args below meth c Qf D cT A nL ad0 n0 t ls st Z M) (hK : ∀ ls st Z M, K ls st Z M → SimS p l e R s m args below meth c Qf D cT A nL ad0 n0 (pc + 1) ls st Z M) (h : wpi C X mc ms J Rt (.ladd) x K ls st Z M) : SimS p l e R s m args below meth c Qf D cT A nL ad0 n0 pc ls st Z M := by
  obtain ⟨b, st, rfl, h⟩ := pL_spec h
  obtain ⟨a, st, rfl, h⟩ := pL_spec h
  intro ad H locs als i1 i2 i3 i4 i5 i6 i7 i8 i9
  refine lv_ladd hx hb hdg ?_
  rw [jN_add]
  exact hK _ _ _ _ h ad H locs als i1 i2 i3 i4 i5 i6 i7 i8 i9
theorem sn_lsub (hx : p.tables.exec = Jvm.exec) (hb : c.code = cc) (hdg : decode cc pc = .ok (.lsub, 1)) (hJ : ∀ t ls st Z M, J t ls st Z M → SimS p l e R s m args below meth c Qf D cT A nL ad0 n0 t ls st Z M) (hK : ∀ ls st Z M, K ls st Z M → SimS p l e R s m args below meth c Qf D cT A nL ad0 n0 (pc + 1) ls st Z M) (h : wpi C X mc ms J Rt (.lsub) x K ls st Z M) : SimS p l e R s m args below meth c Qf D cT A nL ad0 n0 pc ls st Z M := by
  obtain ⟨b, st, rfl, h⟩ := pL_spec h
  obtain ⟨a, st, rfl, h⟩ := pL_spec h
  intro ad H locs als i1 i2 i3 i4 i5 i6 i7 i8 i9
  refine lv_lsub hx hb hdg ?_
  rw [jN_sub]
  exact hK _ _ _ _ h ad H locs als i1 i2 i3 i4 i5 i6 i7 i8 i9
theorem sn_lmul (hx : p.tables.exec = Jvm.exec) (hb : c.code = cc) (hdg : decode cc pc = .ok (.lmul, 1)) (hJ : ∀ t ls st Z M, J t ls st Z M → SimS p l e R s m args below meth c Qf D cT A nL ad0 n0 t ls st Z M) (hK : ∀ ls st Z M, K ls st Z M → SimS p l e R s m args below meth c Qf D cT A nL ad0 n0 (pc + 1) ls st Z M) (h : wpi C X mc ms J Rt (.lmul) x K ls st Z M) : SimS p l e R s m args below meth c Qf D cT A nL ad0 n0 pc ls st Z M := by
  obtain ⟨b, st, rfl, h⟩ := pL_spec h
  obtain ⟨a, st, rfl, h⟩ := pL_spec h
  intro ad H locs als i1 i2 i3 i4 i5 i6 i7 i8 i9
  refine lv_lmul hx hb hdg ?_
  rw [jN_mul]
  exact hK _ _ _ _ h ad H locs als i1 i2 i3 i4 i5 i6 i7 i8 i9
theorem sn_ldiv (hx : p.tables.exec = Jvm.exec) (hb : c.code = cc) (hdg : decode cc pc = .ok (.ldiv, 1)) (hJ : ∀ t ls st Z M, J t ls st Z M → SimS p l e R s m args below meth c Qf D cT A nL ad0 n0 t ls st Z M) (hK : ∀ ls st Z M, K ls st Z M → SimS p l e R s m args below meth c Qf D cT A nL ad0 n0 (pc + 1) ls st Z M) (h : wpi C X mc ms J Rt (.ldiv) x K ls st Z M) : SimS p l e R s m args below meth c Qf D cT A nL ad0 n0 pc ls st Z M := by
  obtain ⟨b, st, rfl, h⟩ := pL_spec h
  obtain ⟨a, st, rfl, h⟩ := pL_spec h
  obtain ⟨hr, h⟩ := h
  intro ad H locs als i1 i2 i3 i4 i5 i6 i7 i8 i9
  refine lv_ldiv hx hb hdg (jN_ne0 hr.2.2.1 hr.2.2.2) ?_
  rw [jN_div hr]
  exact hK _ _ _ _ h ad H locs als i1 i2 i3 i4 i5 i6 i7 i8 i9
theorem sn_lrem (hx : p.tables.exec = Jvm.exec) (hb : c.code = cc) (hdg : decode cc pc = .ok (.lrem, 1)) (hJ : ∀ t ls st Z M, J t ls st Z M → SimS p l e R s m args below meth c Qf D cT A nL ad0 n0 t ls st Z M) (hK : ∀ ls st Z M, K ls st Z M → SimS p l e R s m args below meth c Qf D cT A nL ad0 n0 (pc + 1) ls st Z M) (h : wpi C X mc ms J Rt (.lrem) x K ls st Z M) : SimS p l e R s m args below meth c Qf D cT A nL ad0 n0 pc ls st Z M := by
  obtain ⟨b, st, rfl, h⟩ := pL_spec h
  obtain ⟨a, st, rfl, h⟩ := pL_spec h
  obtain ⟨hr, h⟩ := h
  intro ad H locs als i1 i2 i3 i4 i5 i6 i7 i8 i9
  refine lv_lrem hx hb hdg (jN_ne0 hr.2.2.1 hr.2.2.2) ?_
  rw [jN_rem hr]
  exact hK _ _ _ _ h ad H locs als i1 i2 i3 i4 i5 i6 i7 i8 i9
theorem sn_land (hx : p.tables.exec = Jvm.exec) (hb : c.code = cc) (hdg : decode cc pc = .ok (.land, 1)) (hJ : ∀ t ls st Z M, J t ls st Z M → SimS p l e R s m args below meth c Qf D cT A nL ad0 n0 t ls st Z M) (hK : ∀ ls st Z M, K ls st Z M → SimS p l e R s m args below meth c Qf D cT A nL ad0 n0 (pc + 1) ls st Z M) (h : wpi C X mc ms J Rt (.land) x K ls st Z M) : SimS p l e R s m args below meth c Qf D cT A nL ad0 n0 pc ls st Z M := by
  obtain ⟨b, st, rfl, h⟩ := pL_spec h
  obtain ⟨a, st, rfl, h⟩ := pL_spec h
  intro ad H locs als i1 i2 i3 i4 i5 i6 i7 i8 i9
  refine lv_land hx hb hdg ?_
  have h2 := hK _ _ _ _ h ad H locs als i1 i2 i3 i4 i5 i6 i7 i8 i9
  simp only [List.map_cons, cvV, lAnd, jN_of] at h2
  exact h2
theorem sn_lor (hx : p.tables.exec = Jvm.exec) (hb : c.code = cc) (hdg : decode cc pc = .ok (.lor, 1)) (hJ : ∀ t ls st Z M, J t ls st Z M → SimS p l e R s m args below meth c Qf D cT A nL ad0 n0 t ls st Z M) (hK : ∀ ls st Z M, K ls st Z M → SimS p l e R s m args below meth c Qf D cT A nL ad0 n0 (pc + 1) ls st Z M) (h : wpi C X mc ms J Rt (.lor) x K ls st Z M) : SimS p l e R s m args below meth c Qf D cT A nL ad0 n0 pc ls st Z M := by
  obtain ⟨b, st, rfl, h⟩ := pL_spec h
  obtain ⟨a, st, rfl, h⟩ := pL_spec h
  intro ad H locs als i1 i2 i3 i4 i5 i6 i7 i8 i9
  refine lv_lor hx hb hdg ?_
  have h2 := hK _ _ _ _ h ad H locs als i1 i2 i3 i4 i5 i6 i7 i8 i9
  simp only [List.map_cons, cvV, lOr, jN_of] at h2
  exact h2
theorem sn_lshl (hx : p.tables.exec = Jvm.exec) (hb : c.code = cc) (hdg : decode cc pc = .ok (.lshl, 1)) (hJ : ∀ t ls st Z M, J t ls st Z M → SimS p l e R s m args below meth c Qf D cT A nL ad0 n0 t ls st Z M) (hK : ∀ ls st Z M, K ls st Z M → SimS p l e R s m args below meth c Qf D cT A nL ad0 n0 (pc + 1) ls st Z M) (h : wpi C X mc ms J Rt (.lshl) x K ls st Z M) : SimS p l e R s m args below meth c Qf D cT A nL ad0 n0 pc ls st Z M := by
  obtain ⟨b, st, rfl, h⟩ := pI_spec h
  obtain ⟨a, st, rfl, h⟩ := pL_spec h
  intro ad H locs als i1 i2 i3 i4 i5 i6 i7 i8 i9
  refine lv_lshl hx hb hdg rfl ?_
  have h2 := hK _ _ _ _ h ad H locs als i1 i2 i3 i4 i5 i6 i7 i8 i9
  simp only [List.map_cons, cvV, lShl, jN_of] at h2
  exact h2
theorem sn_lshr (hx : p.tables.exec = Jvm.exec) (hb : c.code = cc) (hdg : decode cc pc = .ok (.lshr, 1)) (hJ : ∀ t ls st Z M, J t ls st Z M → SimS p l e R s m args below meth c Qf D cT A nL ad0 n0 t ls st Z M) (hK : ∀ ls st Z M, K ls st Z M → SimS p l e R s m args below meth c Qf D cT A nL ad0 n0 (pc + 1) ls st Z M) (h : wpi C X mc ms J Rt (.lshr) x K ls st Z M) : SimS p l e R s m args below meth c Qf D cT A nL ad0 n0 pc ls st Z M := by
  obtain ⟨b, st, rfl, h⟩ := pI_spec h
  obtain ⟨a, st, rfl, h⟩ := pL_spec h
  intro ad H locs als i1 i2 i3 i4 i5 i6 i7 i8 i9
  refine lv_lshr hx hb hdg rfl ?_
  have h2 := hK _ _ _ _ h ad H locs als i1 i2 i3 i4 i5 i6 i7 i8 i9
  simp only [List.map_cons, cvV, lShr, jN_of] at h2
  exact h2
theorem sn_lushr (hx : p.tables.exec = Jvm.exec) (hb : c.code = cc) (hdg : decode cc pc = .ok (.lushr, 1)) (hJ : ∀ t ls st Z M, J t ls st Z M → SimS p l e R s m args below meth c Qf D cT A nL ad0 n0 t ls st Z M) (hK : ∀ ls st Z M, K ls st Z M → SimS p l e R s m args below meth c Qf D cT A nL ad0 n0 (pc + 1) ls st Z M) (h : wpi C X mc ms J Rt (.lushr) x K ls st Z M) : SimS p l e R s m args below meth c Qf D cT A nL ad0 n0 pc ls st Z M := by
  obtain ⟨b, st, rfl, h⟩ := pI_spec h
  obtain ⟨a, st, rfl, h⟩ := pL_spec h
  intro ad H locs als i1 i2 i3 i4 i5 i6 i7 i8 i9
  refine lv_lushr hx hb hdg rfl ?_
  have h2 := hK _ _ _ _ h ad H locs als i1 i2 i3 i4 i5 i6 i7 i8 i9
  simp only [List.map_cons, cvV, lUsr, jN_of] at h2
  exact h2
theorem sn_lcmp (hx : p.tables.exec = Jvm.exec) (hb : c.code = cc) (hdg : decode cc pc = .ok (.lcmp, 1)) (hJ : ∀ t ls st Z M, J t ls st Z M → SimS p l e R s m args below meth c Qf D cT A nL ad0 n0 t ls st Z M) (hK : ∀ ls st Z M, K ls st Z M → SimS p l e R s m args below meth c Qf D cT A nL ad0 n0 (pc + 1) ls st Z M) (h : wpi C X mc ms J Rt (.lcmp) x K ls st Z M) : SimS p l e R s m args below meth c Qf D cT A nL ad0 n0 pc ls st Z M := by
  obtain ⟨b, st, rfl, h⟩ := pL_spec h
  obtain ⟨a, st, rfl, h⟩ := pL_spec h
  obtain ⟨ha, hb2, h⟩ := h
  intro ad H locs als i1 i2 i3 i4 i5 i6 i7 i8 i9
  refine W.lcmp hx hb hdg ?_
  have e1 : lg_cmp (jN a) (jN b) = iN (if a < b then -1 else if a = b then 0 else 1) := by
    by_cases h1 : a < b
    · have h3 : ¬ jN b < jN a := fun z => by rw [jN_lt hb2 ha] at z; omega
      have h4 : ¬ jN a = jN b := fun z => by rw [jN_eq ha hb2] at z; omega
      have h5 : jN a < jN b := (jN_lt ha hb2).mpr h1
      simp [lg_cmp, h1, h3, h4, h5]
      try decide
    · by_cases h2 : a = b
      · subst h2
        have h3 : ¬ jN a < jN a := fun z => by rw [jN_lt hb2 ha] at z; omega
        simp [lg_cmp, h3]
        try decide
      · have h3 : jN b < jN a := (jN_lt hb2 ha).mpr (by omega)
        have h4 : ¬ jN a = jN b := fun z => by rw [jN_eq ha hb2] at z; omega
        have h5 : ¬ jN a < jN b := fun z => by rw [jN_lt ha hb2] at z; omega
        simp [lg_cmp, h1, h2, h3, h4, h5]
        try decide
  rw [e1]
  exact hK _ _ _ _ h ad H locs als i1 i2 i3 i4 i5 i6 i7 i8 i9
theorem sn_i2l (hx : p.tables.exec = Jvm.exec) (hb : c.code = cc) (hdg : decode cc pc = .ok (.i2l, 1)) (hJ : ∀ t ls st Z M, J t ls st Z M → SimS p l e R s m args below meth c Qf D cT A nL ad0 n0 t ls st Z M) (hK : ∀ ls st Z M, K ls st Z M → SimS p l e R s m args below meth c Qf D cT A nL ad0 n0 (pc + 1) ls st Z M) (h : wpi C X mc ms J Rt (.i2l) x K ls st Z M) : SimS p l e R s m args below meth c Qf D cT A nL ad0 n0 pc ls st Z M := by
  obtain ⟨a, st, rfl, h⟩ := pI_spec h
  obtain ⟨hr, h⟩ := h
  intro ad H locs als i1 i2 i3 i4 i5 i6 i7 i8 i9
  refine lv_i2l hx hb hdg (iN_i2l hr) ?_
  exact hK _ _ _ _ h ad H locs als i1 i2 i3 i4 i5 i6 i7 i8 i9
theorem sn_l2i (hx : p.tables.exec = Jvm.exec) (hb : c.code = cc) (hdg : decode cc pc = .ok (.l2i, 1)) (hJ : ∀ t ls st Z M, J t ls st Z M → SimS p l e R s m args below meth c Qf D cT A nL ad0 n0 t ls st Z M) (hK : ∀ ls st Z M, K ls st Z M → SimS p l e R s m args below meth c Qf D cT A nL ad0 n0 (pc + 1) ls st Z M) (h : wpi C X mc ms J Rt (.l2i) x K ls st Z M) : SimS p l e R s m args below meth c Qf D cT A nL ad0 n0 pc ls st Z M := by
  obtain ⟨a, st, rfl, h⟩ := pL_spec h
  intro ad H locs als i1 i2 i3 i4 i5 i6 i7 i8 i9
  refine lv_l2i hx hb hdg (jN_l2i a) ?_
  exact hK _ _ _ _ h ad H locs als i1 i2 i3 i4 i5 i6 i7 i8 i9
theorem sn_i2b (hx : p.tables.exec = Jvm.exec) (hb : c.code = cc) (hdg : decode cc pc = .ok (.i2b, 1)) (hJ : ∀ t ls st Z M, J t ls st Z M → SimS p l e R s m args below meth c Qf D cT A nL ad0 n0 t ls st Z M) (hK : ∀ ls st Z M, K ls st Z M → SimS p l e R s m args below meth c Qf D cT A nL ad0 n0 (pc + 1) ls st Z M) (h : wpi C X mc ms J Rt (.i2b) x K ls st Z M) : SimS p l e R s m args below meth c Qf D cT A nL ad0 n0 pc ls st Z M := by
  obtain ⟨a, st, rfl, h⟩ := pI_spec h
  intro ad H locs als i1 i2 i3 i4 i5 i6 i7 i8 i9
  refine lv_i2b hx hb hdg rfl ?_
  have h2 := hK _ _ _ _ h ad H locs als i1 i2 i3 i4 i5 i6 i7 i8 i9
  simp only [List.map_cons, cvV, bByt, iN_of] at h2
  exact h2
theorem sn_dup (hx : p.tables.exec = Jvm.exec) (hb : c.code = cc) (hdg : decode cc pc = .ok (.dup, 1)) (hJ : ∀ t ls st Z M, J t ls st Z M → SimS p l e R s m args below meth c Qf D cT A nL ad0 n0 t ls st Z M) (hK : ∀ ls st Z M, K ls st Z M → SimS p l e R s m args below meth c Qf D cT A nL ad0 n0 (pc + 1) ls st Z M) (h : wpi C X mc ms J Rt (.dup) x K ls st Z M) : SimS p l e R s m args below meth c Qf D cT A nL ad0 n0 pc ls st Z M := by
  have h : pV st (fun v st => K ls (v :: v :: st) Z M) := h
  obtain ⟨a, st, rfl, h1, h⟩ := pV_spec h
  intro ad H locs als i1 i2 i3 i4 i5 i6 i7 i8 i9
  refine lv_dup hx hb hdg (by rw [cvV_cat]; exact h1) ?_
  exact hK _ _ _ _ h ad H locs als i1 i2 i3 i4 i5 i6 i7 i8 i9
theorem sn_dup2 (hx : p.tables.exec = Jvm.exec) (hb : c.code = cc) (hdg : decode cc pc = .ok (.dup2, 1)) (hJ : ∀ t ls st Z M, J t ls st Z M → SimS p l e R s m args below meth c Qf D cT A nL ad0 n0 t ls st Z M) (hK : ∀ ls st Z M, K ls st Z M → SimS p l e R s m args below meth c Qf D cT A nL ad0 n0 (pc + 1) ls st Z M) (h : wpi C X mc ms J Rt (.dup2) x K ls st Z M) : SimS p l e R s m args below meth c Qf D cT A nL ad0 n0 pc ls st Z M := by
  have h : pV st (fun v st => pV st fun w st => K ls (v :: w :: v :: w :: st) Z M) := h
  obtain ⟨a, st, rfl, h1, h⟩ := pV_spec h
  obtain ⟨b, st, rfl, h2, h⟩ := pV_spec h
  intro ad H locs als i1 i2 i3 i4 i5 i6 i7 i8 i9
  refine lv_dup2_11 hx hb hdg (by rw [cvV_cat]; exact h1) (by rw [cvV_cat]; exact h2) ?_
  exact hK _ _ _ _ h ad H locs als i1 i2 i3 i4 i5 i6 i7 i8 i9
theorem sn_pop (hx : p.tables.exec = Jvm.exec) (hb : c.code = cc) (hdg : decode cc pc = .ok (.pop, 1)) (hJ : ∀ t ls st Z M, J t ls st Z M → SimS p l e R s m args below meth c Qf D cT A nL ad0 n0 t ls st Z M) (hK : ∀ ls st Z M, K ls st Z M → SimS p l e R s m args below meth c Qf D cT A nL ad0 n0 (pc + 1) ls st Z M) (h : wpi C X mc ms J Rt (.pop) x K ls st Z M) : SimS p l e R s m args below meth c Qf D cT A nL ad0 n0 pc ls st Z M := by
  have h : pV st (fun _ st => K ls st Z M) := h
  obtain ⟨a, st, rfl, h1, h⟩ := pV_spec h
  intro ad H locs als i1 i2 i3 i4 i5 i6 i7 i8 i9
  refine lv_pop hx hb hdg (by rw [cvV_cat]; exact h1) ?_
  exact hK _ _ _ _ h ad H locs als i1 i2 i3 i4 i5 i6 i7 i8 i9
theorem sn_iconst {n : Int} (hx : p.tables.exec = Jvm.exec) (hb : c.code = cc) (hdg : decode cc pc = .ok (.iconst n, 1)) (hJ : ∀ t ls st Z M, J t ls st Z M → SimS p l e R s m args below meth c Qf D cT A nL ad0 n0 t ls st Z M) (hK : ∀ ls st Z M, K ls st Z M → SimS p l e R s m args below meth c Qf D cT A nL ad0 n0 (pc + 1) ls st Z M) (h : wpi C X mc ms J Rt (.iconst n) x K ls st Z M) : SimS p l e R s m args below meth c Qf D cT A nL ad0 n0 pc ls st Z M := by
  intro ad H locs als i1 i2 i3 i4 i5 i6 i7 i8 i9
  exact lv_iconst hx hb hdg rfl (hK _ _ _ _ h ad H locs als i1 i2 i3 i4 i5 i6 i7 i8 i9)
theorem sn_bipush {n : Int} (hn : -128 ≤ n ∧ n ≤ 127) (hx : p.tables.exec = Jvm.exec) (hb : c.code = cc) (hdg : decode cc pc = .ok (.bipush n, 2)) (hJ : ∀ t ls st Z M, J t ls st Z M → SimS p l e R s m args below meth c Qf D cT A nL ad0 n0 t ls st Z M) (hK : ∀ ls st Z M, K ls st Z M → SimS p l e R s m args below meth c Qf D cT A nL ad0 n0 (pc + 2) ls st Z M) (h : wpi C X mc ms J Rt (.iconst n) x K ls st Z M) : SimS p l e R s m args below meth c Qf D cT A nL ad0 n0 pc ls st Z M := by
  intro ad H locs als i1 i2 i3 i4 i5 i6 i7 i8 i9
  exact lv_bipush hx hb hdg (iN_bi hn) (hK _ _ _ _ h ad H locs als i1 i2 i3 i4 i5 i6 i7 i8 i9)
theorem sn_sipush {n : Int} (hn : -32768 ≤ n ∧ n ≤ 32767) (hx : p.tables.exec = Jvm.exec) (hb : c.code = cc) (hdg : decode cc pc = .ok (.sipush n, 3)) (hJ : ∀ t ls st Z M, J t ls st Z M → SimS p l e R s m args below meth c Qf D cT A nL ad0 n0 t ls st Z M) (hK : ∀ ls st Z M, K ls st Z M → SimS p l e R s m args below meth c Qf D cT A nL ad0 n0 (pc + 3) ls st Z M) (h : wpi C X mc ms J Rt (.iconst n) x K ls st Z M) : SimS p l e R s m args below meth c Qf D cT A nL ad0 n0 pc ls st Z M := by
  intro ad H locs als i1 i2 i3 i4 i5 i6 i7 i8 i9
  exact lv_sipush hx hb hdg (iN_si hn) (hK _ _ _ _ h ad H locs als i1 i2 i3 i4 i5 i6 i7 i8 i9)
theorem sn_lconst {n : Fin 2} (hn : x = ((n : Nat) : Int)) (hx : p.tables.exec = Jvm.exec) (hb : c.code = cc) (hdg : decode cc pc = .ok (.lconst n, 1)) (hJ : ∀ t ls st Z M, J t ls st Z M → SimS p l e R s m args below meth c Qf D cT A nL ad0 n0 t ls st Z M) (hK : ∀ ls st Z M, K ls st Z M → SimS p l e R s m args below meth c Qf D cT A nL ad0 n0 (pc + 1) ls st Z M) (h : wpi C X mc ms J Rt (.ldc2_w 0) x K ls st Z M) : SimS p l e R s m args below meth c Qf D cT A nL ad0 n0 pc ls st Z M := by
  subst hn
  intro ad H locs als i1 i2 i3 i4 i5 i6 i7 i8 i9
  exact lv_lconst hx hb hdg (show Int64.ofNat (n : Nat) = jN ((n : Nat) : Int) from Int64.ofInt_eq_ofNat.symm) (hK _ _ _ _ h ad H locs als i1 i2 i3 i4 i5 i6 i7 i8 i9)
theorem sn_ldcw {ix : Nat} {own : String} {n : Int} (hown : s.vm.findClass own = some m.cls) (hcon : (Jvm.Cond.constant own ix (iN n)).before args s = true) (hx : p.tables.exec = Jvm.exec) (hb : c.code = cc) (hdg : decode cc pc = .ok (.ldc_w ix, 3)) (hJ : ∀ t ls st Z M, J t ls st Z M → SimS p l e R s m args below meth c Qf D cT A nL ad0 n0 t ls st Z M) (hK : ∀ ls st Z M, K ls st Z M → SimS p l e R s m args below meth c Qf D cT A nL ad0 n0 (pc + 3) ls st Z M) (h : wpi C X mc ms J Rt (.iconst n) x K ls st Z M) : SimS p l e R s m args below meth c Qf D cT A nL ad0 n0 pc ls st Z M := by
  intro ad H locs als i1 i2 i3 i4 i5 i6 i7 i8 i9
  exact lv_ldcw hx hb hown hcon hdg (hK _ _ _ _ h ad H locs als i1 i2 i3 i4 i5 i6 i7 i8 i9)
theorem sn_ldc2 {ix : Nat} {own : String} (hown : s.vm.findClass own = some m.cls) (hcon : (Jvm.Cond.constantLong own ix (jN x)).before args s = true) (hx : p.tables.exec = Jvm.exec) (hb : c.code = cc) (hdg : decode cc pc = .ok (.ldc2_w ix, 3)) (hJ : ∀ t ls st Z M, J t ls st Z M → SimS p l e R s m args below meth c Qf D cT A nL ad0 n0 t ls st Z M) (hK : ∀ ls st Z M, K ls st Z M → SimS p l e R s m args below meth c Qf D cT A nL ad0 n0 (pc + 3) ls st Z M) (h : wpi C X mc ms J Rt (.ldc2_w 0) x K ls st Z M) : SimS p l e R s m args below meth c Qf D cT A nL ad0 n0 pc ls st Z M := by
  intro ad H locs als i1 i2 i3 i4 i5 i6 i7 i8 i9
  exact lv_ldc2 hx hb hown hcon hdg (hK _ _ _ _ h ad H locs als i1 i2 i3 i4 i5 i6 i7 i8 i9)
theorem sn_iload_n {k : Fin 4} (hx : p.tables.exec = Jvm.exec) (hb : c.code = cc) (hdg : decode cc pc = .ok (.iload_n k, 1)) (hJ : ∀ t ls st Z M, J t ls st Z M → SimS p l e R s m args below meth c Qf D cT A nL ad0 n0 t ls st Z M) (hK : ∀ ls st Z M, K ls st Z M → SimS p l e R s m args below meth c Qf D cT A nL ad0 n0 (pc + 1) ls st Z M) (h : wpi C X mc ms J Rt (.iload k) x K ls st Z M) : SimS p l e R s m args below meth c Qf D cT A nL ad0 n0 pc ls st Z M := by
  obtain ⟨a, hg, h⟩ := gI_spec h
  intro ad H locs als i1 i2 i3 i4 i5 i6 i7 i8 i9
  exact lv_iload_n hx hb hdg rfl (i6.get hg) (hK _ _ _ _ h ad H locs als i1 i2 i3 i4 i5 i6 i7 i8 i9)
theorem sn_iload {k : Nat} (hx : p.tables.exec = Jvm.exec) (hb : c.code = cc) (hdg : decode cc pc = .ok (.iload k, 2)) (hJ : ∀ t ls st Z M, J t ls st Z M → SimS p l e R s m args below meth c Qf D cT A nL ad0 n0 t ls st Z M) (hK : ∀ ls st Z M, K ls st Z M → SimS p l e R s m args below meth c Qf D cT A nL ad0 n0 (pc + 2) ls st Z M) (h : wpi C X mc ms J Rt (.iload k) x K ls st Z M) : SimS p l e R s m args below meth c Qf D cT A nL ad0 n0 pc ls st Z M := by
  obtain ⟨a, hg, h⟩ := gI_spec h
  intro ad H locs als i1 i2 i3 i4 i5 i6 i7 i8 i9
  exact lv_iload hx hb hdg (i6.get hg) (hK _ _ _ _ h ad H locs als i1 i2 i3 i4 i5 i6 i7 i8 i9)
theorem sn_istore_n {k : Fin 4} (hx : p.tables.exec = Jvm.exec) (hb : c.code = cc) (hdg : decode cc pc = .ok (.istore_n k, 1)) (hJ : ∀ t ls st Z M, J t ls st Z M → SimS p l e R s m args below meth c Qf D cT A nL ad0 n0 t ls st Z M) (hK : ∀ ls st Z M, K ls st Z M → SimS p l e R s m args below meth c Qf D cT A nL ad0 n0 (pc + 1) ls st Z M) (h : wpi C X mc ms J Rt (.istore k) x K ls st Z M) : SimS p l e R s m args below meth c Qf D cT A nL ad0 n0 pc ls st Z M := by
  obtain ⟨a, st, rfl, h⟩ := pI_spec h
  obtain ⟨hk, h⟩ := h
  intro ad H locs als i1 i2 i3 i4 i5 i6 i7 i8 i9
  refine lv_istore_n hx hb hdg rfl i6 hk rfl (fun als2 hl => ?_)
  have := hK _ _ _ _ h ad H locs als2 i1 i2 i3 i4 (by rw [lst1_len]; exact i5) (LocR.st1 hl) i7 i8 i9
  exact this
theorem sn_istore {k : Nat} (hx : p.tables.exec = Jvm.exec) (hb : c.code = cc) (hdg : decode cc pc = .ok (.istore k, 2)) (hJ : ∀ t ls st Z M, J t ls st Z M → SimS p l e R s m args below meth c Qf D cT A nL ad0 n0 t ls st Z M) (hK : ∀ ls st Z M, K ls st Z M → SimS p l e R s m args below meth c Qf D cT A nL ad0 n0 (pc + 2) ls st Z M) (h : wpi C X mc ms J Rt (.istore k) x K ls st Z M) : SimS p l e R s m args below meth c Qf D cT A nL ad0 n0 pc ls st Z M := by
  obtain ⟨a, st, rfl, h⟩ := pI_spec h
  obtain ⟨hk, h⟩ := h
  intro ad H locs als i1 i2 i3 i4 i5 i6 i7 i8 i9
  refine lv_istore hx hb hdg i6 hk rfl (fun als2 hl => ?_)
  have := hK _ _ _ _ h ad H locs als2 i1 i2 i3 i4 (by rw [lst1_len]; exact i5) (LocR.st1 hl) i7 i8 i9
  exact this
theorem sn_lload_n {k : Fin 4} (hx : p.tables.exec = Jvm.exec) (hb : c.code = cc) (hdg : decode cc pc = .ok (.lload_n k, 1)) (hJ : ∀ t ls st Z M, J t ls st Z M → SimS p l e R s m args below meth c Qf D cT A nL ad0 n0 t ls st Z M) (hK : ∀ ls st Z M, K ls st Z M → SimS p l e R s m args below meth c Qf D cT A nL ad0 n0 (pc + 1) ls st Z M) (h : wpi C X mc ms J Rt (.lload k) x K ls st Z M) : SimS p l e R s m args below meth c Qf D cT A nL ad0 n0 pc ls st Z M := by
  obtain ⟨a, hg, h⟩ := gL_spec h
  intro ad H locs als i1 i2 i3 i4 i5 i6 i7 i8 i9
  exact lv_lload_n hx hb hdg rfl (i6.get hg) (hK _ _ _ _ h ad H locs als i1 i2 i3 i4 i5 i6 i7 i8 i9)
theorem sn_lload {k : Nat} (hx : p.tables.exec = Jvm.exec) (hb : c.code = cc) (hdg : decode cc pc = .ok (.lload k, 2)) (hJ : ∀ t ls st Z M, J t ls st Z M → SimS p l e R s m args below meth c Qf D cT A nL ad0 n0 t ls st Z M) (hK : ∀ ls st Z M, K ls st Z M → SimS p l e R s m args below meth c Qf D cT A nL ad0 n0 (pc + 2) ls st Z M) (h : wpi C X mc ms J Rt (.lload k) x K ls st Z M) : SimS p l e R s m args below meth c Qf D cT A nL ad0 n0 pc ls st Z M := by
  obtain ⟨a, hg, h⟩ := gL_spec h
  intro ad H locs als i1 i2 i3 i4 i5 i6 i7 i8 i9
  exact lv_lload hx hb hdg (i6.get hg) (hK _ _ _ _ h ad H locs als i1 i2 i3 i4 i5 i6 i7 i8 i9)
theorem sn_lstore_n {k : Fin 4} (hx : p.tables.exec = Jvm.exec) (hb : c.code = cc) (hdg : decode cc pc = .ok (.lstore_n k, 1)) (hJ : ∀ t ls st Z M, J t ls st Z M → SimS p l e R s m args below meth c Qf D cT A nL ad0 n0 t ls st Z M) (hK : ∀ ls st Z M, K ls st Z M → SimS p l e R s m args below meth c Qf D cT A nL ad0 n0 (pc + 1) ls st Z M) (h : wpi C X mc ms J Rt (.lstore k) x K ls st Z M) : SimS p l e R s m args below meth c Qf D cT A nL ad0 n0 pc ls st Z M := by
  obtain ⟨a, st, rfl, h⟩ := pL_spec h
  obtain ⟨hk, h⟩ := h
  intro ad H locs als i1 i2 i3 i4 i5 i6 i7 i8 i9
  refine lv_lstore_n hx hb hdg rfl i6 hk rfl (fun als2 hl => ?_)
  have := hK _ _ _ _ h ad H locs als2 i1 i2 i3 i4 (by rw [lst2_len]; exact i5) (LocR.st2 hl) i7 i8 i9
  exact this
theorem sn_lstore {k : Nat} (hx : p.tables.exec = Jvm.exec) (hb : c.code = cc) (hdg : decode cc pc = .ok (.lstore k, 2)) (hJ : ∀ t ls st Z M, J t ls st Z M → SimS p l e R s m args below meth c Qf D cT A nL ad0 n0 t ls st Z M) (hK : ∀ ls st Z M, K ls st Z M → SimS p l e R s m args below meth c Qf D cT A nL ad0 n0 (pc + 2) ls st Z M) (h : wpi C X mc ms J Rt (.lstore k) x K ls st Z M) : SimS p l e R s m args below meth c Qf D cT A nL ad0 n0 pc ls st Z M := by
  obtain ⟨a, st, rfl, h⟩ := pL_spec h
  obtain ⟨hk, h⟩ := h
  intro ad H locs als i1 i2 i3 i4 i5 i6 i7 i8 i9
  refine lv_lstore hx hb hdg i6 hk rfl (fun als2 hl => ?_)
  have := hK _ _ _ _ h ad H locs als2 i1 i2 i3 i4 (by rw [lst2_len]; exact i5) (LocR.st2 hl) i7 i8 i9
  exact this
theorem sn_aload_n {k : Fin 4} (hx : p.tables.exec = Jvm.exec) (hb : c.code = cc) (hdg : decode cc pc = .ok (.aload_n k, 1)) (hJ : ∀ t ls st Z M, J t ls st Z M → SimS p l e R s m args below meth c Qf D cT A nL ad0 n0 t ls st Z M) (hK : ∀ ls st Z M, K ls st Z M → SimS p l e R s m args below meth c Qf D cT A nL ad0 n0 (pc + 1) ls st Z M) (h : wpi C X mc ms J Rt (.aload k) x K ls st Z M) : SimS p l e R s m args below meth c Qf D cT A nL ad0 n0 pc ls st Z M := by
  obtain ⟨a, hg, h⟩ := gR_spec h
  intro ad H locs als i1 i2 i3 i4 i5 i6 i7 i8 i9
  exact lv_aload_n hx hb hdg rfl (i6.get hg) (hK _ _ _ _ h ad H locs als i1 i2 i3 i4 i5 i6 i7 i8 i9)
theorem sn_aload {k : Nat} (hx : p.tables.exec = Jvm.exec) (hb : c.code = cc) (hdg : decode cc pc = .ok (.aload k, 2)) (hJ : ∀ t ls st Z M, J t ls st Z M → SimS p l e R s m args below meth c Qf D cT A nL ad0 n0 t ls st Z M) (hK : ∀ ls st Z M, K ls st Z M → SimS p l e R s m args below meth c Qf D cT A nL ad0 n0 (pc + 2) ls st Z M) (h : wpi C X mc ms J Rt (.aload k) x K ls st Z M) : SimS p l e R s m args below meth c Qf D cT A nL ad0 n0 pc ls st Z M := by
  obtain ⟨a, hg, h⟩ := gR_spec h
  intro ad H locs als i1 i2 i3 i4 i5 i6 i7 i8 i9
  exact lv_aload hx hb hdg (i6.get hg) (hK _ _ _ _ h ad H locs als i1 i2 i3 i4 i5 i6 i7 i8 i9)
theorem sn_astore_n {k : Fin 4} (hx : p.tables.exec = Jvm.exec) (hb : c.code = cc) (hdg : decode cc pc = .ok (.astore_n k, 1)) (hJ : ∀ t ls st Z M, J t ls st Z M → SimS p l e R s m args below meth c Qf D cT A nL ad0 n0 t ls st Z M) (hK : ∀ ls st Z M, K ls st Z M → SimS p l e R s m args below meth c Qf D cT A nL ad0 n0 (pc + 1) ls st Z M) (h : wpi C X mc ms J Rt (.astore k) x K ls st Z M) : SimS p l e R s m args below meth c Qf D cT A nL ad0 n0 pc ls st Z M := by
  obtain ⟨a, st, rfl, h⟩ := pR_spec h
  obtain ⟨hk, h⟩ := h
  intro ad H locs als i1 i2 i3 i4 i5 i6 i7 i8 i9
  refine lv_astore_n hx hb hdg rfl i6 hk rfl (fun als2 hl => ?_)
  have := hK _ _ _ _ h ad H locs als2 i1 i2 i3 i4 (by rw [lst1_len]; exact i5) (LocR.st1 hl) i7 i8 i9
  exact this
theorem sn_astore {k : Nat} (hx : p.tables.exec = Jvm.exec) (hb : c.code = cc) (hdg : decode cc pc = .ok (.astore k, 2)) (hJ : ∀ t ls st Z M, J t ls st Z M → SimS p l e R s m args below meth c Qf D cT A nL ad0 n0 t ls st Z M) (hK : ∀ ls st Z M, K ls st Z M → SimS p l e R s m args below meth c Qf D cT A nL ad0 n0 (pc + 2) ls st Z M) (h : wpi C X mc ms J Rt (.astore k) x K ls st Z M) : SimS p l e R s m args below meth c Qf D cT A nL ad0 n0 pc ls st Z M := by
  obtain ⟨a, st, rfl, h⟩ := pR_spec h
  obtain ⟨hk, h⟩ := h
  intro ad H locs als i1 i2 i3 i4 i5 i6 i7 i8 i9
  refine lv_astore hx hb hdg i6 hk rfl (fun als2 hl => ?_)
  have := hK _ _ _ _ h ad H locs als2 i1 i2 i3 i4 (by rw [lst1_len]; exact i5) (LocR.st1 hl) i7 i8 i9
  exact this
theorem sn_iinc {k : Nat} {n : Int} (hx : p.tables.exec = Jvm.exec) (hb : c.code = cc) (hdg : decode cc pc = .ok (.iinc k n, 3)) (hJ : ∀ t ls st Z M, J t ls st Z M → SimS p l e R s m args below meth c Qf D cT A nL ad0 n0 t ls st Z M) (hK : ∀ ls st Z M, K ls st Z M → SimS p l e R s m args below meth c Qf D cT A nL ad0 n0 (pc + 3) ls st Z M) (h : wpi C X mc ms J Rt (.iinc k n) x K ls st Z M) : SimS p l e R s m args below meth c Qf D cT A nL ad0 n0 pc ls st Z M := by
  obtain ⟨a, hg, h⟩ := gI_spec h
  obtain ⟨hk, h⟩ := h
  intro ad H locs als i1 i2 i3 i4 i5 i6 i7 i8 i9
  obtain ⟨j, hj⟩ := List.getElem?_of_mem ((llst_mem ad ls 0 (k, cvV ad (vI a))).mpr ⟨k, vI a, hg, by rw [Nat.zero_add]⟩)
  refine lv_iinc (v := iN (a + n)) hx hb hdg i6 hj (iN_add a n) hk rfl (fun als2 hl => ?_)
  have := hK _ _ _ _ h ad H locs als2 i1 i2 i3 i4 (by rw [lst1_len]; exact i5) (LocR.st1 (v := vI (a + n)) hl) i7 i8 i9
  exact this
theorem sn_goto {o : Int} (ho : 0 ≤ (pc : Int) + o) (hx : p.tables.exec = Jvm.exec) (hb : c.code = cc) (hdg : decode cc pc = .ok (.goto o, 3)) (hJ : ∀ t ls st Z M, J t ls st Z M → SimS p l e R s m args below meth c Qf D cT A nL ad0 n0 t ls st Z M) (hK : ∀ ls st Z M, K ls st Z M → SimS p l e R s m args below meth c Qf D cT A nL ad0 n0 (pc + 3) ls st Z M) (h : wpi C X mc ms J Rt (.goto (pc + o)) x K ls st Z M) : SimS p l e R s m args below meth c Qf D cT A nL ad0 n0 pc ls st Z M := by
  intro ad H locs als i1 i2 i3 i4 i5 i6 i7 i8 i9
  exact lv_goto (tgt := ((pc : Int) + o).toNat) hx hb hdg (by omega) (hJ _ _ _ _ _ h ad H locs als i1 i2 i3 i4 i5 i6 i7 i8 i9)
theorem sn_icmp {cd : Jvm.ClassFile.Cond} {o : Int} (ho : 0 ≤ (pc : Int) + o) (hx : p.tables.exec = Jvm.exec) (hb : c.code = cc) (hdg : decode cc pc = .ok (.if_icmp cd o, 3)) (hJ : ∀ t ls st Z M, J t ls st Z M → SimS p l e R s m args below meth c Qf D cT A nL ad0 n0 t ls st Z M) (hK : ∀ ls st Z M, K ls st Z M → SimS p l e R s m args below meth c Qf D cT A nL ad0 n0 (pc + 3) ls st Z M) (h : wpi C X mc ms J Rt (.if_icmp cd (pc + o)) x K ls st Z M) : SimS p l e R s m args below meth c Qf D cT A nL ad0 n0 pc ls st Z M := by
  obtain ⟨b, st, rfl, h⟩ := pI_spec h
  obtain ⟨a, st, rfl, h⟩ := pI_spec h
  obtain ⟨ra, rb, hj, hk⟩ := h
  intro ad H locs als i1 i2 i3 i4 i5 i6 i7 i8 i9
  cases cd with
  | eq => exact lv_icmp_eq (tgt := ((pc : Int) + o).toNat) hx hb hdg (by omega) (fun z => hJ _ _ _ _ _ (hj ((iN_eq ra rb).mp z)) ad H locs als i1 i2 i3 i4 i5 i6 i7 i8 i9) (fun z => hK _ _ _ _ (hk (fun q => z ((iN_eq ra rb).mpr q))) ad H locs als i1 i2 i3 i4 i5 i6 i7 i8 i9)
  | ne => exact lv_icmp_ne (tgt := ((pc : Int) + o).toNat) hx hb hdg (by omega) (fun z => hJ _ _ _ _ _ (hj (fun q => z ((iN_eq ra rb).mpr q))) ad H locs als i1 i2 i3 i4 i5 i6 i7 i8 i9) (fun z => hK _ _ _ _ (hk (fun q => q ((iN_eq ra rb).mp z))) ad H locs als i1 i2 i3 i4 i5 i6 i7 i8 i9)
  | lt => exact lv_icmp_lt (tgt := ((pc : Int) + o).toNat) hx hb hdg (by omega) (fun z => hJ _ _ _ _ _ (hj ((iN_lt ra rb).mp z)) ad H locs als i1 i2 i3 i4 i5 i6 i7 i8 i9) (fun z => hK _ _ _ _ (hk (fun q => z ((iN_lt ra rb).mpr q))) ad H locs als i1 i2 i3 i4 i5 i6 i7 i8 i9)
  | ge => exact lv_icmp_ge (tgt := ((pc : Int) + o).toNat) hx hb hdg (by omega) (fun z => hJ _ _ _ _ _ (hj ((iN_le rb ra).mp z)) ad H locs als i1 i2 i3 i4 i5 i6 i7 i8 i9) (fun z => hK _ _ _ _ (hk (fun q => z ((iN_le rb ra).mpr q))) ad H locs als i1 i2 i3 i4 i5 i6 i7 i8 i9)
  | gt => exact lv_icmp_gt (tgt := ((pc : Int) + o).toNat) hx hb hdg (by omega) (fun z => hJ _ _ _ _ _ (hj ((iN_lt rb ra).mp z)) ad H locs als i1 i2 i3 i4 i5 i6 i7 i8 i9) (fun z => hK _ _ _ _ (hk (fun q => z ((iN_lt rb ra).mpr q))) ad H locs als i1 i2 i3 i4 i5 i6 i7 i8 i9)
  | le => exact lv_icmp_le (tgt := ((pc : Int) + o).toNat) hx hb hdg (by omega) (fun z => hJ _ _ _ _ _ (hj ((iN_le ra rb).mp z)) ad H locs als i1 i2 i3 i4 i5 i6 i7 i8 i9) (fun z => hK _ _ _ _ (hk (fun q => z ((iN_le ra rb).mpr q))) ad H locs als i1 i2 i3 i4 i5 i6 i7 i8 i9)
theorem sn_ifc {cd : Jvm.ClassFile.Cond} {o : Int} (ho : 0 ≤ (pc : Int) + o) (hx : p.tables.exec = Jvm.exec) (hb : c.code = cc) (hdg : decode cc pc = .ok (.ifCond cd o, 3)) (hJ : ∀ t ls st Z M, J t ls st Z M → SimS p l e R s m args below meth c Qf D cT A nL ad0 n0 t ls st Z M) (hK : ∀ ls st Z M, K ls st Z M → SimS p l e R s m args below meth c Qf D cT A nL ad0 n0 (pc + 3) ls st Z M) (h : wpi C X mc ms J Rt (.ifCond cd (pc + o)) x K ls st Z M) : SimS p l e R s m args below meth c Qf D cT A nL ad0 n0 pc ls st Z M := by
  obtain ⟨a, st, rfl, h⟩ := pI_spec h
  obtain ⟨ra, hj, hk⟩ := h
  intro ad H locs als i1 i2 i3 i4 i5 i6 i7 i8 i9
  have rb := rgI_0
  cases cd with
  | eq => exact lv_if_eq (tgt := ((pc : Int) + o).toNat) hx hb hdg (by omega) (fun z => hJ _ _ _ _ _ (hj ((iN_eq ra rb).mp (by rw [iN_0]; exact z))) ad H locs als i1 i2 i3 i4 i5 i6 i7 i8 i9) (fun z => hK _ _ _ _ (hk (fun q => z (by have := (iN_eq ra rb).mpr q; rwa [iN_0] at this))) ad H locs als i1 i2 i3 i4 i5 i6 i7 i8 i9)
  | ne => exact lv_if_ne (tgt := ((pc : Int) + o).toNat) hx hb hdg (by omega) (fun z => hJ _ _ _ _ _ (hj (fun q => z (by have := (iN_eq ra rb).mpr q; rwa [iN_0] at this))) ad H locs als i1 i2 i3 i4 i5 i6 i7 i8 i9) (fun z => hK _ _ _ _ (hk (fun q => q ((iN_eq ra rb).mp (by rw [iN_0]; exact z)))) ad H locs als i1 i2 i3 i4 i5 i6 i7 i8 i9)
  | lt => exact lv_if_lt (tgt := ((pc : Int) + o).toNat) hx hb hdg (by omega) (fun z => hJ _ _ _ _ _ (hj ((iN_lt ra rb).mp (by rw [iN_0]; exact z))) ad H locs als i1 i2 i3 i4 i5 i6 i7 i8 i9) (fun z => hK _ _ _ _ (hk (fun q => z (by have := (iN_lt ra rb).mpr q; rwa [iN_0] at this))) ad H locs als i1 i2 i3 i4 i5 i6 i7 i8 i9)
  | ge => exact lv_if_ge (tgt := ((pc : Int) + o).toNat) hx hb hdg (by omega) (fun z => hJ _ _ _ _ _ (hj ((iN_le rb ra).mp (by rw [iN_0]; exact z))) ad H locs als i1 i2 i3 i4 i5 i6 i7 i8 i9) (fun z => hK _ _ _ _ (hk (fun q => z (by have := (iN_le rb ra).mpr q; rwa [iN_0] at this))) ad H locs als i1 i2 i3 i4 i5 i6 i7 i8 i9)
  | gt => exact lv_if_gt (tgt := ((pc : Int) + o).toNat) hx hb hdg (by omega) (fun z => hJ _ _ _ _ _ (hj ((iN_lt rb ra).mp (by rw [iN_0]; exact z))) ad H locs als i1 i2 i3 i4 i5 i6 i7 i8 i9) (fun z => hK _ _ _ _ (hk (fun q => z (by have := (iN_lt rb ra).mpr q; rwa [iN_0] at this))) ad H locs als i1 i2 i3 i4 i5 i6 i7 i8 i9)
  | le => exact lv_if_le (tgt := ((pc : Int) + o).toNat) hx hb hdg (by omega) (fun z => hJ _ _ _ _ _ (hj ((iN_le ra rb).mp (by rw [iN_0]; exact z))) ad H locs als i1 i2 i3 i4 i5 i6 i7 i8 i9) (fun z => hK _ _ _ _ (hk (fun q => z (by have := (iN_le ra rb).mpr q; rwa [iN_0] at this))) ad H locs als i1 i2 i3 i4 i5 i6 i7 i8 i9)
theorem swl_get {a : Int} : ∀ {os : List Int} {lo : Int}, swl J a ls st Z M os lo → ∀ {k : Nat} {o : Int}, os[k]? = some o → a = lo + k → J o.toNat ls st Z M
  | [], _, _, k, o, ho, _ => by simp at ho
  | o1 :: t, lo, h, 0, o, ho, ha => by
    have : o1 = o := by simpa using ho
    subst this
    exact h.1 (by omega)
  | o1 :: t, lo, h, k + 1, o, ho, ha => swl_get (os := t) (lo := lo + 1) h.2 (k := k) (by simpa using ho) (by omega)
theorem lkl_get {a : Int} {d : Int} : ∀ {ps : List (Int × Int)}, lkl J a ls st Z M d ps → J (Op.lookupswitch.offset ps d a).toNat ls st Z M
  | [], h => h
  | q :: t, h => by
    unfold Op.lookupswitch.offset
    by_cases hq : a = q.1
    · have := h.1 hq
      simpa [hq] using this
    · have := lkl_get (ps := t) (h.2 hq)
      simpa [Op.lookupswitch.offset, Ne.symm hq, hq] using this
theorem off_map (pc : Int) (d a : Int) : ∀ ps : List (Int × Int), Op.lookupswitch.offset (ps.map fun o => (o.1, pc + o.2)) (pc + d) a = pc + Op.lookupswitch.offset ps d a
  | [] => rfl
  | q :: t => by
    have := off_map pc d a t
    simp only [Op.lookupswitch.offset, List.map_cons, List.find?_cons] at this ⊢
    by_cases hq : q.1 = a
    · simp [hq]
    · simp [hq] at this ⊢
      exact this
theorem off_nn (pc : Int) (d a : Int) (hd : 0 ≤ pc + d) : ∀ ps : List (Int × Int), (∀ q ∈ ps, 0 ≤ pc + q.2) → 0 ≤ pc + Op.lookupswitch.offset ps d a
  | [], _ => hd
  | q :: t, h => by
    have := off_nn pc d a hd t (fun z hz => h z (List.mem_cons_of_mem _ hz))
    have h0 := h q List.mem_cons_self
    simp only [Op.lookupswitch.offset, List.find?_cons] at this ⊢
    by_cases hq : q.1 = a
    · simp [hq]; exact h0
    · simp [hq] at this ⊢
      exact this
theorem sn_table {d lo hi : Int} {os : Array Int} (hlen : (os.toList.length : Int) = hi - lo + 1) (hd : 0 ≤ (pc : Int) + d) (hall : (os.toList.all fun o => decide (0 ≤ (pc : Int) + o)) = true) (hx : p.tables.exec = Jvm.exec) (hb : c.code = cc) (hdg : decode cc pc = .ok (.tableswitch d lo hi os, len)) (hJ : ∀ t ls st Z M, J t ls st Z M → SimS p l e R s m args below meth c Qf D cT A nL ad0 n0 t ls st Z M) (hK : ∀ ls st Z M, K ls st Z M → SimS p l e R s m args below meth c Qf D cT A nL ad0 n0 (pc + len) ls st Z M) (h : wpi C X mc ms J Rt (.tableswitch (pc + d) lo hi (os.toList.map fun o => (pc : Int) + o).toArray) x K ls st Z M) : SimS p l e R s m args below meth c Qf D cT A nL ad0 n0 pc ls st Z M := by
  obtain ⟨a, st, rfl, h⟩ := pI_spec h
  obtain ⟨ra, hd2, hs⟩ := h
  intro ad H locs als i1 i2 i3 i4 i5 i6 i7 i8 i9
  rw [List.map_cons]
  by_cases h1 : a < lo ∨ hi < a
  · exact lv_tableOut (tgt := ((pc : Int) + d).toNat) hx hb hdg (by rw [iN_toInt ra]; exact h1) (by omega) (hJ _ _ _ _ _ (hd2 h1) ad H locs als i1 i2 i3 i4 i5 i6 i7 i8 i9)
  · have h2 : lo ≤ a ∧ a ≤ hi := by omega
    have hlt : (a - lo).toNat < os.toList.length := by omega
    have hg : os.toList[(a - lo).toNat]? = some (os.toList[(a - lo).toNat]) := List.getElem?_eq_getElem hlt
    generalize os.toList[(a - lo).toNat] = o1 at hg
    have ho1 : 0 ≤ (pc : Int) + o1 := by
      have := List.all_eq_true.mp hall o1 (List.mem_of_getElem? hg)
      simpa using this
    have hs2 := swl_get hs (k := (a - lo).toNat) (o := (pc : Int) + o1) (by rw [List.toList_toArray, List.getElem?_map, hg]; rfl) (by omega)
    exact lv_tableIn (tgt := ((pc : Int) + o1).toNat) hx hb hdg (by rw [iN_toInt ra]; omega) (by rw [iN_toInt ra]; omega) (by rw [iN_toInt ra, ← Array.getElem?_toList]; exact hg) (by omega) (hJ _ _ _ _ _ hs2 ad H locs als i1 i2 i3 i4 i5 i6 i7 i8 i9)
theorem sn_lookup {d : Int} {ps : Array (Int × Int)} (hps : (ps.toList.zip (ps.toList.drop 1)).all (fun (a, next) => a.1 < next.1) = true) (hd : 0 ≤ (pc : Int) + d) (hall : (ps.toList.all fun o => decide (0 ≤ (pc : Int) + o.2)) = true) (hx : p.tables.exec = Jvm.exec) (hb : c.code = cc) (hdg : decode cc pc = .ok (.lookupswitch d ps, len)) (hJ : ∀ t ls st Z M, J t ls st Z M → SimS p l e R s m args below meth c Qf D cT A nL ad0 n0 t ls st Z M) (hK : ∀ ls st Z M, K ls st Z M → SimS p l e R s m args below meth c Qf D cT A nL ad0 n0 (pc + len) ls st Z M) (h : wpi C X mc ms J Rt (.lookupswitch (pc + d) (ps.toList.map fun o => (o.1, (pc : Int) + o.2)).toArray) x K ls st Z M) : SimS p l e R s m args below meth c Qf D cT A nL ad0 n0 pc ls st Z M := by
  obtain ⟨a, st, rfl, h⟩ := pI_spec h
  obtain ⟨ra, hs⟩ := h
  intro ad H locs als i1 i2 i3 i4 i5 i6 i7 i8 i9
  rw [List.map_cons]
  have hs2 := lkl_get hs
  rw [List.toList_toArray, off_map] at hs2
  have hnn := off_nn (pc : Int) d a hd ps.toList (fun q hq => by have := List.all_eq_true.mp hall q hq; simpa using this)
  exact lv_lookup (tgt := ((pc : Int) + Op.lookupswitch.offset ps.toList d a).toNat) hx hb hdg hps (by rw [iN_toInt ra]) (by omega) (hJ _ _ _ _ _ hs2 ad H locs als i1 i2 i3 i4 i5 i6 i7 i8 i9)
end SND
end
section
/-! what the tables give -/
theorem lk_mem {β : Type} : ∀ {l : List ((Nat × Nat) × β)} {k : Nat × Nat} {v : β}, l.lookup k = some v → (k, v) ∈ l
  | [], _, _, h => by simp at h
  | (a, b) :: t, k, v, h => by
    rw [List.lookup_cons] at h
    by_cases hk : (k == a) = true
    · rw [hk] at h
      have hka : k = a := by simpa using hk
      cases h
      rw [hka]
      exact List.mem_cons_self
    · have hk2 : (k == a) = false := by simpa using hk
      rw [hk2] at h
      exact List.mem_cons_of_mem _ (lk_mem h)
theorem mz_in : ∀ {ci : Nat} {q : vw_C}, vwCl[ci]? = some q → ∀ w ∈ u_ws q.1 q.2.1 q.2.2, w ∈ mz_GW
  | 0, _, h => by cases h; exact fun w hw => List.mem_filter.mpr (mz_inX0 w hw)
  | 1, _, h => by cases h; exact fun w hw => List.mem_filter.mpr (mz_inX1 w hw)
  | 2, _, h => by cases h; exact fun w hw => List.mem_filter.mpr (mz_inX2 w hw)
  | 3, _, h => by cases h; exact fun w hw => List.mem_filter.mpr (mz_inX3 w hw)
  | 4, _, h => by cases h; exact fun w hw => List.mem_filter.mpr (mz_inX4 w hw)
  | 5, _, h => by cases h; exact fun w hw => List.mem_filter.mpr (mz_inX5 w hw)
  | 6, _, h => by cases h; exact fun w hw => List.mem_filter.mpr (mz_inX6 w hw)
  | _ + 7, _, h => by cases h
def tyN (ci : Nat) : Nat → FieldType := match ci with
  | 0 => tyX0
  | 1 => tyX1
  | 2 => tyX2
  | 3 => tyX3
  | 4 => tyX4
  | 5 => tyX5
  | _ => tyX6
theorem mz_cl : ∀ {ci : Nat} {q : vw_C}, vwCl[ci]? = some q → (∀ k, k < q.2.2 → parseFieldDescriptor (q.2.1 k).2.2.1 = some (tyN ci k)) ∧ (∀ a, a < q.2.2 → ∀ b, b < q.2.2 → a ≠ b → (q.2.1 a).2.1 ≠ (q.2.1 b).2.1)
  | 0, _, h => by cases h; exact ⟨tyX0_ok, nmX0⟩
  | 1, _, h => by cases h; exact ⟨tyX1_ok, nmX1⟩
  | 2, _, h => by cases h; exact ⟨tyX2_ok, nmX2⟩
  | 3, _, h => by cases h; exact ⟨tyX3_ok, nmX3⟩
  | 4, _, h => by cases h; exact ⟨tyX4_ok, nmX4⟩
  | 5, _, h => by cases h; exact ⟨tyX5_ok, nmX5⟩
  | 6, _, h => by cases h; exact ⟨tyX6_ok, nmX6⟩
  | _ + 7, _, h => by cases h
theorem mz_cn_cl : ∀ {ci : Nat} {q : vw_C}, vwCl[ci]? = some q → cnOf ci = q.1
  | 0, _, h => by cases h; rfl
  | 1, _, h => by cases h; rfl
  | 2, _, h => by cases h; rfl
  | 3, _, h => by cases h; rfl
  | 4, _, h => by cases h; rfl
  | 5, _, h => by cases h; rfl
  | 6, _, h => by cases h; rfl
  | _ + 7, _, h => by cases h
theorem cnOf_of {k : Nat} {own : String} (h : mz_cn[k]? = some own) : cnOf k = own := by unfold cnOf; rw [h]; rfl
theorem mz_F_get {o ix : Nat} {q : Nat × Nat × Nat} (h : mz_F.lookup (o, ix) = some q) : ∃ r : vw_C, vwCl[q.1]? = some r ∧ q.2.1 < r.2.2 ∧ Cond.fieldLink (cnOf o) ix (r.2.1 q.2.1).1 (r.2.1 q.2.1).2.1 (r.2.1 q.2.1).2.2.1 ∈ mz_GW := by
  have h1 := List.all_eq_true.mp mz_F_ok _ (lk_mem h)
  unfold mz_okF at h1
  dsimp only at h1
  cases ho : mz_cn[o]? with
  | none => rw [ho] at h1; simp at h1
  | some own =>
    cases hr : vwCl[q.1]? with
    | none => rw [ho, hr] at h1; simp at h1
    | some r =>
      rw [ho, hr] at h1
      obtain ⟨C, T, N⟩ := r
      dsimp only at h1
      rw [Bool.and_eq_true, decide_eq_true_eq, decide_eq_true_eq] at h1
      refine ⟨_, rfl, h1.1, ?_⟩
      rw [cnOf_of ho]
      exact mz_gw h1.2 rfl
theorem mz_C_get {o ix : Nat} {q : Nat × Nat} (h : mz_C.lookup (o, ix) = some q) : (q.1 = 100 ∧ Cond.classLink (cnOf o) ix ("[" ++ (FieldType.array .int).toString) ∈ mz_GW) ∨ ∃ r : vw_C, vwCl[q.1]? = some r ∧ Cond.classLink (cnOf o) ix r.1 ∈ mz_GW := by
  have h1 := List.all_eq_true.mp mz_C_ok _ (lk_mem h)
  unfold mz_okC at h1
  dsimp only at h1
  cases ho : mz_cn[o]? with
  | none => rw [ho] at h1; simp at h1
  | some own =>
    rw [ho] at h1
    dsimp only at h1
    rw [cnOf_of ho]
    by_cases h2 : q.1 = 100
    · rw [if_pos h2, decide_eq_true_eq] at h1
      exact Or.inl ⟨h2, mz_gw h1 rfl⟩
    · rw [if_neg h2] at h1
      cases hr : vwCl[q.1]? with
      | none => rw [hr] at h1; simp at h1
      | some r =>
        rw [hr] at h1
        dsimp only at h1
        rw [decide_eq_true_eq] at h1
        exact Or.inr ⟨r, rfl, mz_gw h1 rfl⟩
set_option maxRecDepth 100000 in
theorem mz_T_len : mz_T.length = 164 := rfl
theorem mz_T_get {y : Nat} {e : mz_E} (h : mz_T[y]? = some e) (hy : y < 163) : Cond.code e.1 e.2.1 e.2.2.1 e.2.2.2.1 ∈ mz_GW ∧ mz_okM e = true := by
  have h1 : mz_T.dropLast[y]? = some e := by
    rw [List.getElem?_dropLast, if_pos (by rw [mz_T_len]; exact hy)]
    exact h
  refine ⟨?_, List.all_eq_true.mp mz_T_ok e (List.mem_of_getElem? h1)⟩
  have h2 := congrArg (fun l => l[y]?) mz_T_code
  rw [List.getElem?_map, List.getElem?_map, h1] at h2
  exact mz_gw (Option.some.inj h2) rfl
theorem mz_L_get {o ix : Nat} {q : Nat × Nat × Nat} (h : mz_L.lookup (o, ix) = some q) : (q.1 = 1000 ∧ Cond.methodLink (cnOf o) ix arraycopyName ∈ mz_GW) ∨ (q.1 = 1002 ∧ Cond.methodLink (cnOf o) ix Lib.Math.max.name ∈ mz_GW) ∨ (q.1 = 1003 ∧ Cond.methodLink (cnOf o) ix Lib.Math.min.name ∈ mz_GW) ∨ (q.1 = 1001 ∧ Cond.methodLink (cnOf o) ix objectInit ∈ mz_GW) ∨
    ∃ e, mz_T[q.1]? = some e ∧ q.1 < 163 ∧ (q.2.1 = 0 → Cond.methodLink (cnOf o) ix e.1 ∈ mz_GW) ∧ (q.2.1 ≠ 0 → Cond.methodLinkNest (cnOf o) ix e.1 "OwnSunday" ∈ lw_tbl) := by
  have h1 := List.all_eq_true.mp mz_L_ok _ (lk_mem h)
  unfold mz_okL at h1
  dsimp only at h1
  cases ho : mz_cn[o]? with
  | none => rw [ho] at h1; simp at h1
  | some own =>
    rw [ho] at h1
    dsimp only at h1
    rw [cnOf_of ho]
    by_cases h2 : q.1 = 1000
    · rw [if_pos h2, Bool.and_eq_true, decide_eq_true_eq, decide_eq_true_eq] at h1
      exact Or.inl ⟨h2, mz_gw h1.2 rfl⟩
    rw [if_neg h2] at h1
    by_cases h3 : q.1 = 1002
    · rw [if_pos h3, Bool.and_eq_true, decide_eq_true_eq, decide_eq_true_eq] at h1
      exact Or.inr (Or.inl ⟨h3, mz_gw h1.2 rfl⟩)
    rw [if_neg h3] at h1
    by_cases h4 : q.1 = 1003
    · rw [if_pos h4, Bool.and_eq_true, decide_eq_true_eq, decide_eq_true_eq] at h1
      exact Or.inr (Or.inr (Or.inl ⟨h4, mz_gw h1.2 rfl⟩))
    rw [if_neg h4] at h1
    by_cases h5 : q.1 = 1001
    · rw [if_pos h5, Bool.and_eq_true, decide_eq_true_eq, decide_eq_true_eq] at h1
      exact Or.inr (Or.inr (Or.inr (Or.inl ⟨h5, mz_gw h1.2 rfl⟩)))
    rw [if_neg h5] at h1
    cases hr : mz_T[q.1]? with
    | none => rw [hr] at h1; simp at h1
    | some e =>
      rw [hr] at h1
      dsimp only at h1
      rw [Bool.and_eq_true, decide_eq_true_eq] at h1
      refine Or.inr (Or.inr (Or.inr (Or.inr ⟨e, rfl, h1.1, fun h6 => ?_, fun h6 => ?_⟩)))
      · have h7 := h1.2
        rw [if_pos h6, decide_eq_true_eq] at h7
        exact mz_gw h7 rfl
      · have h7 := h1.2
        rw [if_neg h6, decide_eq_true_eq] at h7
        exact List.mem_of_getElem? h7
section SND2
variable {p : Program} {l : Launch} {e : Env} {R : Room} {s : State} {m : MethodId} {args : Array Value} {below : List Frame} {meth : Method} {c : Code} {Qf : State → Prop} {D : va_G} {cT : Nat → ClassId} {A : Nat → Prop} {nL : Nat} {ad0 : Nat → Nat} {n0 : Nat}
variable {cc : ByteArray} {C : CC} {X : XX} {mc ms : Nat} {J : Nat → KK} {Rt : RR} {x : Int} {K : KK} {ls : AL} {st : List AV} {Z : ZZ} {M : MM} {pc len o : Nat}
theorem fld_at {sh : List SC} {r k ci : Nat} {fs : List (Option (Option Nat))} (h : sh[r]? = some (Sum.inr (ci, fs))) : fld sh r k = fs[k]? := by unfold fld; rw [h]
theorem ws_obj {ad : Nat → Nat} {sh : List SC} {r ci : Nat} {fs : List (Option (Option Nat))} (h : sh[r]? = some (Sum.inr (ci, fs))) : (wsOf cT ad sh M)[r]? = some (ad r, .inr (ci, fs.mapIdx (fvV ad (M r)))) := wsOf_at h
theorem sn_getfield {ix : Nat} {q : Nat × Nat × Nat} (hown : s.vm.findClass (cnOf o) = some m.cls) (hts : ∀ w ∈ mz_GW, w.before args s = true) (hKK : va_K D vwCl (tyL cT) s) (hq : mz_F.lookup (o, ix) = some q) (hx : p.tables.exec = Jvm.exec) (hb : c.code = cc) (hdg : decode cc pc = .ok (.getfield ix, 3)) (hK : ∀ ls st Z M, K ls st Z M → SimS p l e R s m args below meth c Qf D cT A nL ad0 n0 (pc + 3) ls st Z M) (h : wpi C X mc ms J Rt (.getfield q.2.1) (q.1 : Int) K ls st Z M) : SimS p l e R s m args below meth c Qf D cT A nL ad0 n0 pc ls st Z M := by
  obtain ⟨r, st, rfl, h⟩ := pR_spec h
  obtain ⟨hc, h⟩ := h
  obtain ⟨fs, hsh⟩ := cls_spec hc
  rw [Int.toNat_natCast] at hsh
  obtain ⟨w, hw, hk, hlink⟩ := mz_F_get hq
  rw [fld_at hsh] at h
  intro ad H locs als i1 i2 i3 i4 i5 i6 i7 i8 i9
  rcases gF_spec h with ⟨hf, h⟩ | ⟨z, hf, h⟩
  · exact va_get hx hb hts (mz_in hw) hown hKK i7 r (ws_obj hsh) hw q.2.1 hk (hts _ hlink) (fun _ h => h) (v := .int (iN (M r q.2.1))) (by rw [List.getElem?_mapIdx, hf]; rfl) hdg (hK _ _ _ _ h ad H locs als i1 i2 i3 i4 i5 i6 i7 i8 i9)
  · exact va_get hx hb hts (mz_in hw) hown hKK i7 r (ws_obj hsh) hw q.2.1 hk (hts _ hlink) (fun _ h => h) (v := .ref (ad z)) (by rw [List.getElem?_mapIdx, hf]; rfl) hdg (hK _ _ _ _ h ad H locs als i1 i2 i3 i4 i5 i6 i7 i8 i9)
theorem map_set {ad : Nat → Nat} {g : Nat → Int} {fs : List (Option (Option Nat))} {k : Nat} {a : Int} (hf : fs[k]? = some none) : fs.mapIdx (fvV ad (fun i => if i = k then a else g i)) = (fs.mapIdx (fvV ad g)).set k (.int (iN a)) := by
  apply List.ext_getElem?
  intro j
  rw [List.getElem?_mapIdx, List.getElem?_set, List.getElem?_mapIdx, List.length_mapIdx]
  by_cases hj : k = j
  · subst hj
    rw [hf, if_pos rfl, if_pos (List.getElem?_eq_some_iff.mp hf).1]
    simp [fvV]
  · rw [if_neg hj]
    congr 1
    funext z
    rcases z with _ | _ | z
    · simp [fvV, Ne.symm hj]
    · rfl
    · rfl
theorem sn_putfield {ix y : Nat} {q : Nat × Nat × Nat} (hown : s.vm.findClass (cnOf o) = some m.cls) (hts : ∀ w ∈ mz_GW, w.before args s = true) (hKK : va_K D vwCl (tyL cT) s) (hq : mz_F.lookup (o, ix) = some q) (hpf : pfK y q = some false) (hx : p.tables.exec = Jvm.exec) (hb : c.code = cc) (hdg : decode cc pc = .ok (.putfield ix, 3)) (hK : ∀ ls st Z M, K ls st Z M → SimS p l e R s m args below meth c Qf D cT A nL ad0 n0 (pc + 3) ls st Z M) (h : wpi C X mc ms J Rt (.putfield q.2.1) (q.1 : Int) K ls st Z M) : SimS p l e R s m args below meth c Qf D cT A nL ad0 n0 pc ls st Z M := by
  obtain ⟨a, st, rfl, h⟩ := pI_spec h
  obtain ⟨r, st, rfl, h⟩ := pR_spec h
  obtain ⟨hc, h⟩ := h
  obtain ⟨fs, hsh⟩ := cls_spec hc
  rw [Int.toNat_natCast] at hsh
  obtain ⟨w, hw, hk, hlink⟩ := mz_F_get hq
  rw [fld_at hsh] at h
  unfold pfK at hpf
  rw [hw] at hpf
  dsimp only at hpf
  split at hpf
  · rename_i hfin
    intro ad H locs als i1 i2 i3 i4 i5 i6 i7 i8 i9
    rcases gF_spec h with ⟨hf, h⟩ | ⟨z, hf, h⟩
    · refine va_put (v := .int (iN a)) (ty := .int) hx hb hts (mz_in hw) (tyN q.1) (mz_cl hw).1 (mz_cl hw).2 hown hKK i7 i8 i9 r (ws_obj hsh) hw q.2.1 hk (hts _ hlink) (fun _ h => h) hfin.2 (by rw [hfin.1]; decide +kernel) rfl rfl (by rw [List.length_mapIdx]; exact (List.getElem?_eq_some_iff.mp hf).1) hdg (fun H1 locs1 j7 j8 j9 => ?_)
      have e1 : wsOf cT ad Z.1 (mset M r q.2.1 a) = (wsOf cT ad Z.1 M).set r (ad r, .inr (q.1, (fs.mapIdx (fvV ad (M r))).set q.2.1 (.int (iN a)))) := by
        refine wsOf_set' hsh (fun k hk => mset_ne k hk) ?_

        rw [← map_set hf]
        show elV cT ad (mset M r q.2.1 a r) (Sum.inr (q.1, fs)) = _
        have : mset M r q.2.1 a r = fun i => if i = q.2.1 then a else M r i := funext (fun i => mset_at M r q.2.1 a i)
        rw [this]
        rfl
      rw [← e1] at j7 j8
      exact hK _ _ _ _ h ad H1 locs1 als i1 i2 i3 i4 i5 i6 j7 j8 j9
    · exact h.elim
  · split at hpf <;> cases hpf
theorem map_setR {ad : Nat → Nat} {g : Nat → Int} {fs : List (Option (Option Nat))} {k z : Nat} : (fs.set k (some (some z))).mapIdx (fvV ad g) = (fs.mapIdx (fvV ad g)).set k (.ref (ad z)) := by
  apply List.ext_getElem?
  intro j
  rw [List.getElem?_mapIdx, List.getElem?_set, List.getElem?_set, List.getElem?_mapIdx, List.length_mapIdx]
  by_cases hj : k = j
  · subst hj
    by_cases hl : k < fs.length
    · simp [hl, fvV]
    · simp [hl]
  · rw [if_neg hj, if_neg hj]
theorem wfS_setR {sh : List SC} (h : wfS sh) {r ci k z : Nat} {fs : List (Option (Option Nat))} (hsh : sh[r]? = some (Sum.inr (ci, fs))) (hz : z < sh.length) : wfS (sh.set r (Sum.inr (ci, fs.set k (some (some z))))) := by
  intro i x hx
  rw [List.length_set]
  rw [List.getElem?_set] at hx
  by_cases hi : r = i
  · rw [if_pos hi] at hx
    split at hx
    · cases hx
      intro j q hq
      have hq : (fs.set k (some (some z)))[j]? = some (some (some q)) := hq
      rw [List.getElem?_set] at hq
      split at hq
      · split at hq
        · cases hq; exact hz
        · cases hq
      · exact h r _ hsh j q hq
    · cases hx
  · rw [if_neg hi] at hx
    exact h i x hx
theorem sn_putref {ix y : Nat} {q : Nat × Nat × Nat} (hown : s.vm.findClass (cnOf o) = some m.cls) (hmn : nmOf y = "<init>" → meth.name = "<init>") (hyo : ownOf y = o) (hts : ∀ w ∈ mz_GW, w.before args s = true) (hKK : va_K D vwCl (tyL cT) s) (hq : mz_F.lookup (o, ix) = some q) (hpf : pfK y q = some true) (hx : p.tables.exec = Jvm.exec) (hb : c.code = cc) (hdg : decode cc pc = .ok (.putfield ix, 3)) (hK : ∀ ls st Z M, K ls st Z M → SimS p l e R s m args below meth c Qf D cT A nL ad0 n0 (pc + 3) ls st Z M) (h : wpi C X mc ms J Rt (.putstatic q.2.1) (q.1 : Int) K ls st Z M) : SimS p l e R s m args below meth c Qf D cT A nL ad0 n0 pc ls st Z M := by
  obtain ⟨z, st, rfl, hq1⟩ := pR_spec h
  obtain ⟨r, st, rfl, hq2⟩ := pR_spec hq1
  replace h := hq2
  obtain ⟨w, hw, hk, hlink⟩ := mz_F_get hq
  unfold pfK at hpf
  rw [hw] at hpf
  dsimp only at hpf
  split at hpf
  · cases hpf
  · split at hpf
    · rename_i hfin
      cases hz : Z.1[r]? with
      | none => rw [hz] at h; exact h.elim
      | some ob =>
        rw [hz] at h
        match ob, hz, h with
        | Sum.inl _, _, h => exact h.elim
        | Sum.inr (ci, fs), hz, h =>
          obtain ⟨h1, ⟨zz, h2⟩, h3, h⟩ := h
          dsimp only at h1 h2 h
          rw [Int.toNat_natCast] at h1
          subst h1
          intro ad H locs als i1 i2 i3 i4 i5 i6 i7 i8 i9
          have hro : isRefD (w.2.1 q.2.1).2.2.1 = true := hfin.2.2.2.2
          have key : ∃ ty, parseFieldDescriptor (w.2.1 q.2.1).2.2.1 = some ty ∧ narrow ty (.ref (ad z)) = .ref (ad z) ∧ fits ty (.ref (ad z)) = true := by
            unfold isRefD at hro
            split at hro
            · rename_i t ht; exact ⟨_, ht, rfl, rfl⟩
            · rename_i t ht; exact ⟨_, ht, rfl, rfl⟩
            · cases hro
          obtain ⟨ty, k1, k2, k3⟩ := key
          refine va_putF (v := .ref (ad z)) (ty := ty) hx hb hts (mz_in hw) (tyN q.1) (mz_cl hw).1 (mz_cl hw).2 hown hKK i7 i8 i9 r (ws_obj hz) hw q.2.1 hk (hts _ hlink) (fun _ h => h) hfin.1 (hmn hfin.2.1) (by rw [hfin.2.2.2.1, ← mz_cn_cl hw, hfin.2.2.1, hyo]) k1 k2 k3 (by rw [List.length_mapIdx]; exact (List.getElem?_eq_some_iff.mp h2).1) hdg (fun H1 locs1 j7 j8 j9 => ?_)
          have e1 : wsOf cT ad (Z.1.set r (Sum.inr (q.1, fs.set q.2.1 (some (some z))))) M = (wsOf cT ad Z.1 M).set r (ad r, .inr (q.1, (fs.mapIdx (fvV ad (M r))).set q.2.1 (.ref (ad z)))) := by
            refine wsOf_set hz (fun _ _ => rfl) ?_
            rw [← map_setR]
            rfl
          rw [← e1] at j7 j8
          have hl2 : (Z.1.set r (Sum.inr (q.1, fs.set q.2.1 (some (some z))) : SC)).length = Z.1.length := List.length_set
          exact hK _ _ _ _ h ad H1 locs1 als (by dsimp only; rw [hl2]; exact i1) (by dsimp only; rw [hl2]; exact i2) (by dsimp only; rw [hl2]; exact i3) (wfS_setR i4 hz h3) i5 i6 j7 j8 j9
    · cases hpf
/-! arrays -/
theorem ws_ar {ad : Nat → Nat} {sh : List SC} {r n : Nat} {f : Nat → Option Nat} {t : Nat} (h : arr sh r = some (t, n, f)) : (wsOf cT ad sh M)[r]? = some (ad r, eA cT ad (M r) (t, n, f)) := wsOf_at (arr_spec h)
theorem sn_iaload {b : Nat} (hKK : va_K D vwCl (tyL cT) s) (hX : ∀ q, X = some q → va_X b q.1 (fun j => iN (q.2 j)) s s.heap ∧ b < s.heap.size ∧ ¬ A b ∧ ad0 scr = b) (hx : p.tables.exec = Jvm.exec) (hb : c.code = cc) (hdg : decode cc pc = .ok (.iaload, 1)) (hK : ∀ ls st Z M, K ls st Z M → SimS p l e R s m args below meth c Qf D cT A nL ad0 n0 (pc + 1) ls st Z M) (h : wpi C X mc ms J Rt .iaload x K ls st Z M) : SimS p l e R s m args below meth c Qf D cT A nL ad0 n0 pc ls st Z M := by
  obtain ⟨j, st, rfl, hq1⟩ := pI_spec h
  obtain ⟨r, st, rfl, hq2⟩ := pR_spec hq1
  replace h := hq2
  intro ad H locs als i1 i2 i3 i4 i5 i6 i7 i8 i9
  by_cases hr : r = scr
  · rw [if_pos hr] at h
    subst hr
    match X, h, hX with
    | none, h, _ => exact h.elim
    | some q, h, hX =>
      obtain ⟨h1, h2, h⟩ := h
      obtain ⟨x1, x2, x3, x4⟩ := hX q rfl
      have hadb : ad scr = b := by rw [i1 scr (Or.inr (Nat.le_trans i3 (by decide))), x4]
      show W p l e R s m args below meth c H locs _ _ Qf (F0 m pc als (.int (iN j) :: .ref (ad scr) :: st.map (cvV ad)))
      rw [hadb]
      refine va_sld hx hb x1 x2 x3 i9 (iN_in h1 h2) hdg ?_
      rw [iN_clamp h1 h2]
      exact hK _ _ _ _ h ad H locs als i1 i2 i3 i4 i5 i6 i7 i8 i9
  · rw [if_neg hr] at h
    obtain ⟨t, n, f, ha, h1, h2, rfl, h⟩ := gA_spec h
    refine va_iald hx hb hKK i7 r 0 (ws_ar ha) rfl (iN_in h1 h2) hdg ?_
    rw [iN_clamp h1 h2]
    exact hK _ _ _ _ h ad H locs als i1 i2 i3 i4 i5 i6 i7 i8 i9
theorem sn_baload (hKK : va_K D vwCl (tyL cT) s) (hx : p.tables.exec = Jvm.exec) (hb : c.code = cc) (hdg : decode cc pc = .ok (.baload, 1)) (hK : ∀ ls st Z M, K ls st Z M → SimS p l e R s m args below meth c Qf D cT A nL ad0 n0 (pc + 1) ls st Z M) (h : wpi C X mc ms J Rt .baload x K ls st Z M) : SimS p l e R s m args below meth c Qf D cT A nL ad0 n0 pc ls st Z M := by
  obtain ⟨j, st, rfl, h⟩ := pI_spec h
  obtain ⟨r, st, rfl, h⟩ := pR_spec h
  intro ad H locs als i1 i2 i3 i4 i5 i6 i7 i8 i9
  obtain ⟨t, n, f, ha, h1, h2, ht, h⟩ := gA_spec h
  rcases ht with rfl | rfl
  · refine va_bald hx hb hKK i7 r 1 (ws_ar ha) rfl (iN_in h1 h2) hdg ?_
    rw [iN_clamp h1 h2]
    exact hK _ _ _ _ h ad H locs als i1 i2 i3 i4 i5 i6 i7 i8 i9
  · refine va_zald hx hb hKK i7 r 2 (ws_ar ha) rfl (iN_in h1 h2) hdg ?_
    rw [iN_clamp h1 h2]
    exact hK _ _ _ _ h ad H locs als i1 i2 i3 i4 i5 i6 i7 i8 i9
theorem sn_laload (hKK : va_K D vwCl (tyL cT) s) (hx : p.tables.exec = Jvm.exec) (hb : c.code = cc) (hdg : decode cc pc = .ok (.laload, 1)) (hK : ∀ ls st Z M, K ls st Z M → SimS p l e R s m args below meth c Qf D cT A nL ad0 n0 (pc + 1) ls st Z M) (h : wpi C X mc ms J Rt .laload x K ls st Z M) : SimS p l e R s m args below meth c Qf D cT A nL ad0 n0 pc ls st Z M := by
  obtain ⟨j, st, rfl, h⟩ := pI_spec h
  obtain ⟨r, st, rfl, h⟩ := pR_spec h
  intro ad H locs als i1 i2 i3 i4 i5 i6 i7 i8 i9
  obtain ⟨t, n, f, ha, h1, h2, rfl, h⟩ := gA_spec h
  refine va_lald hx hb hKK i7 r 3 (ws_ar ha) rfl (iN_in h1 h2) hdg ?_
  rw [iN_clamp h1 h2]
  exact hK _ _ _ _ h ad H locs als i1 i2 i3 i4 i5 i6 i7 i8 i9
theorem ald_ref {ws : va_W} {a : Nat} {H : Heap} {locs : List Loc} {cells slots : Nat} {als : Array Slot} {rest : List Value} {tys : List (ClassId × FieldType)} (hexec : p.tables.exec = Jvm.exec) (hb : c.code = cc) (hK : va_K D vwCl tys s) (hP : va_P D vwCl ws H) (q0 t0 : Nat) {cA : ClassId} {ty : FieldType} (href : ty.isReference = true) {n : Nat} {f : Nat → Option Nat} (ha : ws[q0]? = some (a, .inl (cA, n, .inr (.inr (.inr (.inr f)))))) (ht : tys[t0]? = some (cA, ty)) {i : Int32} (hin : vp_in i n) (hdg : decode cc pc = .ok (.aaload, 1))
    (kk : W p l e R s m args below meth c H locs cells slots Qf (F0 m (pc + 1) als (va_rf (f i.toNatClampNeg) :: rest))) : W p l e R s m args below meth c H locs cells slots Qf (F0 m pc als (.int i :: .ref a :: rest)) := by
  have hlt : i.toNatClampNeg < n := Nat.not_le.mp fun q => hin (Or.inr q)
  exact W.aald (v := va_rf (f i.toNatClampNeg)) (ty := ty) hexec hb (hP q0 _ ha) ((hK.2 t0 _ ht).1 n (fun j => va_rf (f j))) href (fun q => by cases q) (by show ¬ (i < 0 ∨ (arrV _ _ _).slots.size ≤ _); rw [arrV_size]; exact hin) (by show (arrV _ _ _).slots[_]? = _; rw [arrV_read _ _ hlt]) rfl rfl hdg kk
theorem sn_aaload (hKK : va_K D vwCl (tyL cT) s) (hx : p.tables.exec = Jvm.exec) (hb : c.code = cc) (hdg : decode cc pc = .ok (.aaload, 1)) (hK : ∀ ls st Z M, K ls st Z M → SimS p l e R s m args below meth c Qf D cT A nL ad0 n0 (pc + 1) ls st Z M) (h : wpi C X mc ms J Rt .aaload x K ls st Z M) : SimS p l e R s m args below meth c Qf D cT A nL ad0 n0 pc ls st Z M := by
  obtain ⟨j, st, rfl, h⟩ := pI_spec h
  obtain ⟨r, st, rfl, h⟩ := pR_spec h
  intro ad H locs als i1 i2 i3 i4 i5 i6 i7 i8 i9
  obtain ⟨t, n, f, ha, h1, h2, ht, h⟩ := gA_spec h
  obtain ⟨q, hq, h⟩ := gQ_spec h
  have hv : va_rf ((fun j => (f j).map ad) (iN j).toNatClampNeg) = .ref (ad q) := by
    show va_rf ((f (iN j).toNatClampNeg).map ad) = _
    rw [iN_clamp h1 h2, hq]
    rfl
  rcases ht with rfl | rfl
  · refine ald_ref hx hb hKK i7 r 4 (ty := .object "OwnSunday$Book") rfl (ws_ar ha) rfl (iN_in h1 h2) hdg ?_
    rw [hv]
    exact hK _ _ _ _ h ad H locs als i1 i2 i3 i4 i5 i6 i7 i8 i9
  · refine ald_ref hx hb hKK i7 r 5 (ty := .array .int) rfl (ws_ar ha) rfl (iN_in h1 h2) hdg ?_
    rw [hv]
    exact hK _ _ _ _ h ad H locs als i1 i2 i3 i4 i5 i6 i7 i8 i9
theorem mset_fun (M : MM) (r j : Nat) (a : Int) : mset M r j a r = fun i => if i = j then a else M r i := funext (fun i => mset_at M r j a i)
theorem upd_iN (g : Nat → Int) (j : Nat) (a : Int) : (fun i => iN (if i = j then a else g i)) = upd (fun i => iN (g i)) j (iN a) := by
  funext i
  unfold upd
  split <;> rfl
theorem upd_jN (g : Nat → Int) (j : Nat) (a : Int) : (fun i => jN (if i = j then a else g i)) = vp_updL (fun i => jN (g i)) j (jN a) := by
  funext i
  unfold vp_updL
  split <;> rfl
theorem sn_iastore (hKK : va_K D vwCl (tyL cT) s) (hx : p.tables.exec = Jvm.exec) (hb : c.code = cc) (hdg : decode cc pc = .ok (.iastore, 1)) (hK : ∀ ls st Z M, K ls st Z M → SimS p l e R s m args below meth c Qf D cT A nL ad0 n0 (pc + 1) ls st Z M) (h : wpi C X mc ms J Rt .iastore x K ls st Z M) : SimS p l e R s m args below meth c Qf D cT A nL ad0 n0 pc ls st Z M := by
  obtain ⟨a, st, rfl, h⟩ := pI_spec h
  obtain ⟨j, st, rfl, h⟩ := pI_spec h
  obtain ⟨r, st, rfl, h⟩ := pR_spec h
  intro ad H locs als i1 i2 i3 i4 i5 i6 i7 i8 i9
  obtain ⟨t, n, f, ha, h1, h2, rfl, h⟩ := gA_spec h
  refine va_iast hx hb hKK i7 i8 i9 r 0 (ws_ar ha) rfl (iN_in h1 h2) hdg (fun H1 locs1 j7 j8 j9 => ?_)
  rw [iN_clamp h1 h2, ← upd_iN] at j7 j8
  have e1 : wsOf cT ad Z.1 (mset M r j.toNat a) = (wsOf cT ad Z.1 M).set r (ad r, .inl (cT 0, n, .inl (fun i => iN (if i = j.toNat then a else M r i)))) := by
    refine wsOf_set' (arr_spec ha) (fun k hk => mset_ne k hk) ?_
    rw [mset_fun]
    rfl
  rw [← e1] at j7 j8
  exact hK _ _ _ _ h ad H1 locs1 als i1 i2 i3 i4 i5 i6 j7 j8 j9
theorem sn_bastore (hKK : va_K D vwCl (tyL cT) s) (hx : p.tables.exec = Jvm.exec) (hb : c.code = cc) (hdg : decode cc pc = .ok (.bastore, 1)) (hK : ∀ ls st Z M, K ls st Z M → SimS p l e R s m args below meth c Qf D cT A nL ad0 n0 (pc + 1) ls st Z M) (h : wpi C X mc ms J Rt .bastore x K ls st Z M) : SimS p l e R s m args below meth c Qf D cT A nL ad0 n0 pc ls st Z M := by
  obtain ⟨a, st, rfl, h⟩ := pI_spec h
  obtain ⟨j, st, rfl, h⟩ := pI_spec h
  obtain ⟨r, st, rfl, h⟩ := pR_spec h
  intro ad H locs als i1 i2 i3 i4 i5 i6 i7 i8 i9
  obtain ⟨t, n, f, ha, h1, h2, ht, h⟩ := gA_spec h
  rcases ht with rfl | ⟨rfl, hz⟩
  · rw [if_pos rfl] at h
    refine va_bast hx hb hKK i7 i8 i9 r 1 (ws_ar ha) rfl (iN_in h1 h2) hdg (fun H1 locs1 j7 j8 j9 => ?_)
    have hbb : vp_nar .byte (iN a) = iN (bByt a) := by rw [vp_nar_byte, bByt, iN_of]
    rw [iN_clamp h1 h2, hbb, ← upd_iN] at j7 j8
    have e1 : wsOf cT ad Z.1 (mset M r j.toNat (bByt a)) = (wsOf cT ad Z.1 M).set r (ad r, .inl (cT 1, n, .inl (fun i => iN (if i = j.toNat then bByt a else M r i)))) := by
      refine wsOf_set' (arr_spec ha) (fun k hk => mset_ne k hk) ?_
      rw [mset_fun]
      rfl
    rw [← e1] at j7 j8
    exact hK _ _ _ _ h ad H1 locs1 als i1 i2 i3 i4 i5 i6 j7 j8 j9
  · rw [if_neg (by decide)] at h
    refine va_zast hx hb hKK i7 i8 i9 r 2 (ws_ar ha) rfl (iN_in h1 h2) hdg (fun H1 locs1 j7 j8 j9 => ?_)
    have hbb : vp_nar .boolean (iN a) = iN a := by rcases hz with rfl | rfl <;> decide
    rw [iN_clamp h1 h2, hbb, ← upd_iN] at j7 j8
    have e1 : wsOf cT ad Z.1 (mset M r j.toNat a) = (wsOf cT ad Z.1 M).set r (ad r, .inl (cT 2, n, .inl (fun i => iN (if i = j.toNat then a else M r i)))) := by
      refine wsOf_set' (arr_spec ha) (fun k hk => mset_ne k hk) ?_
      rw [mset_fun]
      rfl
    rw [← e1] at j7 j8
    exact hK _ _ _ _ h ad H1 locs1 als i1 i2 i3 i4 i5 i6 j7 j8 j9
theorem sn_lastore (hKK : va_K D vwCl (tyL cT) s) (hx : p.tables.exec = Jvm.exec) (hb : c.code = cc) (hdg : decode cc pc = .ok (.lastore, 1)) (hK : ∀ ls st Z M, K ls st Z M → SimS p l e R s m args below meth c Qf D cT A nL ad0 n0 (pc + 1) ls st Z M) (h : wpi C X mc ms J Rt .lastore x K ls st Z M) : SimS p l e R s m args below meth c Qf D cT A nL ad0 n0 pc ls st Z M := by
  obtain ⟨a, st, rfl, h⟩ := pL_spec h
  obtain ⟨j, st, rfl, h⟩ := pI_spec h
  obtain ⟨r, st, rfl, h⟩ := pR_spec h
  intro ad H locs als i1 i2 i3 i4 i5 i6 i7 i8 i9
  obtain ⟨t, n, f, ha, h1, h2, rfl, h⟩ := gA_spec h
  refine va_last hx hb hKK i7 i8 i9 r 3 (ws_ar ha) rfl (iN_in h1 h2) hdg (fun H1 locs1 j7 j8 j9 => ?_)
  rw [iN_clamp h1 h2, ← upd_jN] at j7 j8
  have e1 : wsOf cT ad Z.1 (mset M r j.toNat a) = (wsOf cT ad Z.1 M).set r (ad r, .inl (cT 3, n, .inr (.inl (fun i => jN (if i = j.toNat then a else M r i))))) := by
    refine wsOf_set' (arr_spec ha) (fun k hk => mset_ne k hk) ?_
    rw [mset_fun]
    rfl
  rw [← e1] at j7 j8
  exact hK _ _ _ _ h ad H1 locs1 als i1 i2 i3 i4 i5 i6 j7 j8 j9
theorem wfS_setA {sh : List SC} (h : wfS sh) {r n z j : Nat} {f : Nat → Option Nat} (hsh : sh[r]? = some (Sum.inl (4, n, f))) (hz : z < sh.length) : wfS (sh.set r (Sum.inl (4, n, fun i => if i = j then some z else f i))) := by
  intro i x hx
  rw [List.length_set]
  rw [List.getElem?_set] at hx
  by_cases hi : r = i
  · rw [if_pos hi] at hx
    split at hx
    · cases hx
      intro i2 q hq
      have hq : (if i2 = j then some z else f i2) = some q := hq
      split at hq
      · cases hq; exact hz
      · exact h r _ hsh i2 q hq
    · cases hx
  · rw [if_neg hi] at hx
    exact h i x hx
theorem sn_aastore (hKK : va_K D vwCl (tyL cT) s) (hx : p.tables.exec = Jvm.exec) (hb : c.code = cc) (hdg : decode cc pc = .ok (.aastore, 1)) (hK : ∀ ls st Z M, K ls st Z M → SimS p l e R s m args below meth c Qf D cT A nL ad0 n0 (pc + 1) ls st Z M) (h : wpi C X mc ms J Rt .aastore x K ls st Z M) : SimS p l e R s m args below meth c Qf D cT A nL ad0 n0 pc ls st Z M := by
  obtain ⟨z, st, rfl, hq1⟩ := pR_spec h
  obtain ⟨j, st, rfl, hq2⟩ := pI_spec hq1
  obtain ⟨r, st, rfl, hq3⟩ := pR_spec hq2
  replace h := hq3
  intro ad H locs als i1 i2 i3 i4 i5 i6 i7 i8 i9
  cases ha : arr Z.1 r with
  | none => rw [ha] at h; exact h.elim
  | some q =>
    obtain ⟨t, n, f⟩ := q
    rw [ha] at h
    obtain ⟨rfl, h1, h2, hz, h⟩ := h
    obtain ⟨fs, hzs⟩ := cls_spec hz
    refine va_astq (r := (RX0, TX0, 7)) hx hb hKK i7 i8 i9 r 4 z 0 (ws_ar ha) rfl (ws_obj hzs) rfl (iN_in h1 h2) hdg (fun H1 locs1 j7 j8 j9 => ?_)
    rw [iN_clamp h1 h2] at j7 j8
    have e1 : wsOf cT ad (Z.1.set r (Sum.inl (4, n, fun z1 => if z1 = j.toNat then some z else f z1))) M = (wsOf cT ad Z.1 M).set r (ad r, .inl (cT 4, n, .inr (.inr (.inr (.inr (va_up (fun i => (f i).map ad) j.toNat (some (ad z)))))))) := by
      refine wsOf_set (arr_spec ha) (fun _ _ => rfl) ?_
      have : (fun i => (if i = j.toNat then some z else f i).map ad) = va_up (fun i => (f i).map ad) j.toNat (some (ad z)) := by
        funext i
        unfold va_up
        split <;> rfl
      rw [← this]
      rfl
    rw [← e1] at j7 j8
    have hl2 : (Z.1.set r (Sum.inl (4, n, fun z1 => if z1 = j.toNat then some z else f z1) : SC)).length = Z.1.length := List.length_set
    exact hK _ _ _ _ h ad H1 locs1 als (by dsimp only; rw [hl2]; exact i1) (by dsimp only; rw [hl2]; exact i2) (by dsimp only; rw [hl2]; exact i3) (wfS_setA i4 (arr_spec ha) (List.getElem?_eq_some_iff.mp hzs).1) i5 i6 j7 j8 j9
theorem tyL_at {t : Nat} (h : t < 6) : ∃ ty, (tyL cT)[t]? = some (cT t, ty) := by
  match t, h with
  | 0, _ => exact ⟨_, rfl⟩
  | 1, _ => exact ⟨_, rfl⟩
  | 2, _ => exact ⟨_, rfl⟩
  | 3, _ => exact ⟨_, rfl⟩
  | 4, _ => exact ⟨_, rfl⟩
  | 5, _ => exact ⟨_, rfl⟩
  | n + 6, h => omega
theorem sn_alen {b : Nat} (hKK : va_K D vwCl (tyL cT) s) (hX : ∀ q, X = some q → va_X b q.1 (fun j => iN (q.2 j)) s s.heap ∧ b < s.heap.size ∧ ¬ A b ∧ ad0 scr = b) (hx : p.tables.exec = Jvm.exec) (hb : c.code = cc) (hdg : decode cc pc = .ok (.arraylength, 1)) (hK : ∀ ls st Z M, K ls st Z M → SimS p l e R s m args below meth c Qf D cT A nL ad0 n0 (pc + 1) ls st Z M) (h : wpi C X mc ms J Rt .arraylength x K ls st Z M) : SimS p l e R s m args below meth c Qf D cT A nL ad0 n0 pc ls st Z M := by
  obtain ⟨r, st, rfl, hq1⟩ := pR_spec h
  replace h := hq1
  intro ad H locs als i1 i2 i3 i4 i5 i6 i7 i8 i9
  by_cases hr : r = scr
  · rw [if_pos hr] at h
    subst hr
    match X, h, hX with
    | none, h, _ => exact h.elim
    | some q, h, hX =>
      obtain ⟨h2, h⟩ := h
      obtain ⟨x1, x2, x3, x4⟩ := hX q rfl
      have hadb : ad scr = b := by rw [i1 scr (Or.inr (Nat.le_trans i3 (by decide))), x4]
      show W p l e R s m args below meth c H locs _ _ Qf (F0 m pc als (.ref (ad scr) :: st.map (cvV ad)))
      rw [hadb]
      refine va_slen hx hb x1 x2 x3 i9 hdg ?_
      rw [← Int32.ofInt_eq_ofNat]
      exact hK _ _ _ _ h ad H locs als i1 i2 i3 i4 i5 i6 i7 i8 i9
  · rw [if_neg hr] at h
    cases ha : arr Z.1 r with
    | none => rw [ha] at h; exact h.elim
    | some q =>
      obtain ⟨t, n, f⟩ := q
      rw [ha] at h
      obtain ⟨ht, h2, h⟩ := h
      obtain ⟨ty, hty⟩ := tyL_at (cT := cT) ht
      refine va_alen hx hb hKK i7 r t (ws_ar ha) hty (v := iN n) (Int32.ofInt_eq_ofNat).symm hdg ?_
      exact hK _ _ _ _ h ad H locs als i1 i2 i3 i4 i5 i6 i7 i8 i9
end SND2
end
section
/-! what isn't among the words that ride along -/
theorem va_AOA.moved {t : FieldType} {u U : State} (hvm : u.vm.Alike U.vm) (h : va_AOA t u) : va_AOA t U := Jvm.Stand.arrayOver_alikeB hvm h
def ExW (U : State) : Prop := va_AO "OwnSunday$Book" U ∧ va_AOA .int U ∧ ∀ (o ix : Nat) (q : Nat × Nat × Nat) (e : mz_E), mz_L.lookup (o, ix) = some q → q.2.1 ≠ 0 → mz_T[q.1]? = some e → va_Nw (.methodLinkNest (cnOf o) ix e.1 "OwnSunday") U
theorem ExW.warm {s U : State} (hW : s.WarmedH U.vm) (h : ExW s) : ExW U := ⟨h.1.moved hW.alike, h.2.1.moved hW.alike, fun o ix q e h1 h2 h3 => va_Nw.warmM hW (h.2.2 o ix q e h1 h2 h3)⟩
theorem ExW.same {s U : State} (hv : s.vm = U.vm) (h : ExW s) : ExW U := ⟨h.1.moved (by rw [hv]; exact Vm.Alike.refl _), h.2.1.moved (by rw [hv]; exact Vm.Alike.refl _), fun o ix q e h1 h2 h3 => va_Nw.same rfl hv (h.2.2 o ix q e h1 h2 h3)⟩
theorem mz_mk : ∀ {ci : Nat} {q : vw_C}, vwCl[ci]? = some q → Cond.instantiable q.1 q.2.2 ∈ mz_GW ∧ Cond.initialized q.1 ∈ mz_GW ∧ (newF ci).length = q.2.2
  | 0, _, h => by cases h; exact ⟨List.mem_filter.mpr ⟨by decide +kernel, rfl⟩, List.mem_filter.mpr ⟨by decide +kernel, rfl⟩, rfl⟩
  | 1, _, h => by cases h; exact ⟨List.mem_filter.mpr ⟨by decide +kernel, rfl⟩, List.mem_filter.mpr ⟨by decide +kernel, rfl⟩, rfl⟩
  | 2, _, h => by cases h; exact ⟨List.mem_filter.mpr ⟨by decide +kernel, rfl⟩, List.mem_filter.mpr ⟨by decide +kernel, rfl⟩, rfl⟩
  | 3, _, h => by cases h; exact ⟨List.mem_filter.mpr ⟨by decide +kernel, rfl⟩, List.mem_filter.mpr ⟨by decide +kernel, rfl⟩, rfl⟩
  | 4, _, h => by cases h; exact ⟨List.mem_filter.mpr ⟨by decide +kernel, rfl⟩, List.mem_filter.mpr ⟨by decide +kernel, rfl⟩, rfl⟩
  | 5, _, h => by cases h; exact ⟨List.mem_filter.mpr ⟨by decide +kernel, rfl⟩, List.mem_filter.mpr ⟨by decide +kernel, rfl⟩, rfl⟩
  | 6, _, h => by cases h; exact ⟨List.mem_filter.mpr ⟨by decide +kernel, rfl⟩, List.mem_filter.mpr ⟨by decide +kernel, rfl⟩, rfl⟩
  | _ + 7, _, h => by cases h
def newV (ci : Nat) : List Value := (newF ci).mapIdx (fvV id (fun _ => 0))
theorem newV_eq (ad : Nat → Nat) : ∀ ci : Nat, (newF ci).mapIdx (fvV ad (fun _ => 0)) = newV ci
  | 0 => rfl
  | 1 => rfl
  | 2 => rfl
  | 3 => rfl
  | 4 => rfl
  | 5 => rfl
  | 6 => rfl
  | _ + 7 => rfl
theorem newV_ok : ∀ {ci : Nat}, ci < 7 → ∀ j, j < (newF ci).length → defaultValue (tyN ci j) = vp_V (newV ci) j
  | 0, _ => by decide +kernel
  | 1, _ => by decide +kernel
  | 2, _ => by decide +kernel
  | 3, _ => by decide +kernel
  | 4, _ => by decide +kernel
  | 5, _ => by decide +kernel
  | 6, _ => by decide +kernel
  | _ + 7, h => absurd h (by omega)
theorem newF_ref : ∀ (ci : Nat) {j q : Nat}, (newF ci)[j]? ≠ some (some (some q))
  | 0, j, q => fun h => by have := List.mem_of_getElem? h; simp [newF] at this
  | 1, j, q => fun h => by have := List.mem_of_getElem? h; simp [newF] at this
  | 2, j, q => fun h => by have := List.mem_of_getElem? h; simp [newF] at this
  | 3, j, q => fun h => by have := List.mem_of_getElem? h; simp [newF] at this
  | 4, j, q => fun h => by have := List.mem_of_getElem? h; simp [newF] at this
  | 5, j, q => fun h => by have := List.mem_of_getElem? h; simp [newF] at this
  | 6, j, q => fun h => by have := List.mem_of_getElem? h; simp [newF] at this
  | _ + 7, j, q => fun h => by have := List.mem_of_getElem? h; simp [newF] at this
theorem elV_ad {cT : Nat → ClassId} {ad ad' : Nat → Nat} {g : Nat → Int} {n : Nat} (h : ∀ q, q < n → ad' q = ad q) {x : SC} (hx : wfC n x) : elV cT ad' g x = elV cT ad g x := by
  match x, hx with
  | Sum.inl (t, k, f), hx =>
    have e1 : (fun j => (f j).map ad') = fun j => (f j).map ad := by
      funext j
      cases hf : f j with
      | none => rfl
      | some q => simp only [Option.map_some]; rw [h q (hx j q hf)]
    show eA cT ad' g (t, k, f) = eA cT ad g (t, k, f)
    unfold eA
    dsimp only
    rw [e1]
  | Sum.inr (ci, fs), hx =>
    show Sum.inr (ci, fs.mapIdx (fvV ad' g)) = (Sum.inr (ci, fs.mapIdx (fvV ad g)) : va_E)
    congr 2
    apply List.ext_getElem?
    intro j
    rw [List.getElem?_mapIdx, List.getElem?_mapIdx]
    cases hf : fs[j]? with
    | none => rfl
    | some z =>
      match z, hf with
      | none, _ => rfl
      | some none, _ => rfl
      | some (some q), hf => simp only [Option.map_some, fvV]; rw [h q (hx j q hf)]
theorem wfC_mono {n n' : Nat} (h : n ≤ n') {x : SC} (hx : wfC n x) : wfC n' x := by
  match x, hx with
  | Sum.inl a, hx => exact fun j q hq => Nat.lt_of_lt_of_le (hx j q hq) h
  | Sum.inr a, hx => exact fun j q hq => Nat.lt_of_lt_of_le (hx j q hq) h
theorem wfS_app {sh : List SC} {xs : List SC} (h : wfS sh) (hx : ∀ x ∈ xs, wfC (sh.length + xs.length) x) : wfS (sh ++ xs) := by
  intro k x hk
  rw [List.length_append]
  by_cases hl : k < sh.length
  · rw [List.getElem?_append_left hl] at hk
    exact wfC_mono (by omega) (h k x hk)
  · rw [List.getElem?_append_right (by omega)] at hk
    exact hx x (List.mem_of_getElem? hk)
def adN (ad : Nat → Nat) (n q : Nat) : Nat → Nat := fun k => if k = n then q else ad k
theorem adN_ne (ad : Nat → Nat) {n q k : Nat} (h : k ≠ n) : adN ad n q k = ad k := if_neg h
theorem adN_eq (ad : Nat → Nat) (n q : Nat) : adN ad n q n = q := if_pos rfl
theorem mnew_ne {M : MM} {n k : Nat} (h : k ≠ n) : mnew M n k = M k := by funext j; simp [mnew, h]
theorem mnew_at (M : MM) (n : Nat) : mnew M n n = fun _ => 0 := by funext j; simp [mnew]
section SND3
variable {p : Program} {l : Launch} {e : Env} {R : Room} {s : State} {m : MethodId} {args : Array Value} {below : List Frame} {meth : Method} {c : Code} {Qf : State → Prop} {D : va_G} {cT : Nat → ClassId} {A : Nat → Prop} {nL : Nat} {ad0 : Nat → Nat} {n0 : Nat}
variable {cc : ByteArray} {C : CC} {X : XX} {mc ms : Nat} {J : Nat → KK} {Rt : RR} {x : Int} {K : KK} {ls : AL} {st : List AV} {Z : ZZ} {M : MM} {pc len o : Nat}
/-- one cell more -/
theorem grow1 {ad : Nat → Nat} {sh : List SC} {y : SC} {el : va_E} {q : Nat} (hwf : wfS sh) (he : elV cT (adN ad sh.length q) (fun _ => 0) y = el) : wsOf cT (adN ad sh.length q) (sh ++ [y]) (mnew M sh.length) = wsOf cT ad sh M ++ [(q, el)] :=
  wsOf_app (fun k hk => mnew_ne (by omega)) (fun k hk => adN_ne ad (by omega)) (adN_eq ad _ q) (by rw [mnew_at]; exact he) (fun k x hx => elV_ad (n := sh.length) (fun z hz => adN_ne ad (by omega)) (hwf k x hx))
/-- on with one cell more -/
theorem on1 {k' : Nat} {y : SC} {el : va_E} {ad : Nat → Nat} {H1 : Heap} {locs : List Loc} {als : Array Slot} {q a b : Nat} (hK : ∀ ls st Z M, K ls st Z M → SimS p l e R s m args below meth c Qf D cT A nL ad0 n0 (pc + k') ls st Z M) (h : K ls (vR Z.1.length :: st) (Z.1 ++ [y], a, b) (mnew M Z.1.length))
    (i1 : ∀ k, k < n0 ∨ Z.1.length ≤ k → ad k = ad0 k) (i2 : n0 ≤ Z.1.length) (i3 : Z.1.length < 100000) (i4 : wfS Z.1) (i5 : ls.length = nL) (i6 : LocR ad ls als) (hrs : rfs st Z.1.length (Z.1.length + 1)) (hrl : rfq ls Z.1.length (Z.1.length + 1)) (hy : wfC (Z.1.length + 1) y)
    (he : elV cT (adN ad Z.1.length q) (fun _ => 0) y = el) (j7 : va_P D vwCl (wsOf cT ad Z.1 M ++ [(q, el)]) H1) (j8 : va_D A (wsOf cT ad Z.1 M ++ [(q, el)])) (j9 : va_S A s.heap H1 locs) :
    W p l e R s m args below meth c H1 locs a b Qf (F0 m (pc + k') als (.ref q :: st.map (cvV ad))) := by
  rw [← grow1 i4 he] at j7 j8
  have hag : ∀ k, k < Z.1.length ∨ Z.1.length + 1 ≤ k → adN ad Z.1.length q k = ad k := fun k hk => adN_ne ad (by omega)
  have := hK _ _ _ _ h (adN ad Z.1.length q) H1 locs als (fun k hk => by
    dsimp only at hk
    rw [List.length_append, List.length_singleton] at hk
    rw [adN_ne ad (by omega)]
    exact i1 k (by omega)) (by dsimp only; rw [List.length_append]; omega) (by dsimp only; rw [List.length_append, List.length_singleton]; omega) (wfS_app i4 (fun x hx => by rw [List.mem_singleton.mp hx]; exact hy)) i5 (i6.mv hag hrl) j7 j8 j9
  rw [List.map_cons, rfs_mv hag hrs] at this
  simp only [cvV, adN_eq] at this
  exact this
theorem sn_new {ix : Nat} {q : Nat × Nat} (hown : s.vm.findClass (cnOf o) = some m.cls) (hts : ∀ w ∈ mz_GW, w.before args s = true) (hKK : va_K D vwCl (tyL cT) s) (hA : ∀ q, s.heap.size ≤ q → A q) (hRc : R.cells = mc) (hRs : R.slots = ms) (hq : mz_C.lookup (o, ix) = some q) (hlt : q.1 < 7) (hx : p.tables.exec = Jvm.exec) (hb : c.code = cc) (hdg : decode cc pc = .ok (.new ix, 3)) (hK : ∀ ls st Z M, K ls st Z M → SimS p l e R s m args below meth c Qf D cT A nL ad0 n0 (pc + 3) ls st Z M) (h : wpi C X mc ms J Rt (.new q.1) x K ls st Z M) : SimS p l e R s m args below meth c Qf D cT A nL ad0 n0 pc ls st Z M := by
  obtain ⟨h1, h2, h3, h4, h5, hk⟩ := h
  rcases mz_C_get hq with ⟨h6, -⟩ | ⟨r, hr, hlink⟩
  · omega
  obtain ⟨m1, m2, m3⟩ := mz_mk hr
  intro ad H locs als i1 i2 i3 i4 i5 i6 i7 i8 i9
  rw [m3] at h2 hk
  refine va_new (ci := q.1) (fs := newV q.1) hx hb hts (mz_in hr) (tyN q.1) (mz_cl hr).1 hown (hts _ hlink) (hts _ m1) (hts _ m2) hKK i7 i8 i9 hA hr (fun j hj => newV_ok hlt j (by rw [m3]; exact hj)) (by rw [hRc]; exact h1) (by rw [hRs]; exact h2) hdg (fun q5 H1 j7 j8 j9 => ?_)
  refine on1 hK hk i1 i2 h5 i4 i5 i6 h3 h4 ?_ ?_ j7 j8 j9
  · exact fun j z hz => absurd hz (newF_ref q.1)
  · show eO _ _ _ = _
    unfold eO
    rw [newV_eq]
theorem arr_cls {cA : ClassId} {t : Nat} {ty : FieldType} (hKK : va_K D vwCl (tyL cT) s) (hty : (tyL cT)[t]? = some (cT t, ty)) (hK2 : va_K D vwCl (tyL cT ++ [(cA, ty)]) s) : cA = cT t := by
  have h1 := (hKK.2 t _ hty).2
  have h2 := (hK2.2 6 (cA, ty) rfl).2
  unfold va_RA at h1 h2
  cases ty with
  | object C =>
    obtain ⟨_, _, _, _, _, h1⟩ := h1
    obtain ⟨_, _, _, _, _, h2⟩ := h2
    exact Option.some.inj (h2.symm.trans h1)
  | _ => exact Option.some.inj (h2.symm.trans h1)
theorem iN_nn {n : Int} (h0 : 0 ≤ n) (h1 : n ≤ 100000) : ¬ iN n < 0 ∧ (iN n).toNatClampNeg = n.toNat := by
  refine ⟨fun h => ?_, Int32.toNatClampNeg_ofInt_of_le (by omega) (by omega)⟩
  rw [← iN_0, iN_lt ⟨by omega, by omega⟩ rgI_0] at h
  omega
theorem mz_ac : Cond.arrayClass .int ∈ mz_GW ∧ Cond.arrayClass .byte ∈ mz_GW ∧ Cond.arrayClass .boolean ∈ mz_GW ∧ Cond.arrayClass .long ∈ mz_GW :=
  ⟨List.mem_filter.mpr ⟨by decide +kernel, rfl⟩, List.mem_filter.mpr ⟨by decide +kernel, rfl⟩, List.mem_filter.mpr ⟨by decide +kernel, rfl⟩, List.mem_filter.mpr ⟨by decide +kernel, rfl⟩⟩
theorem sn_newarray {t : ArrayType} (hts : ∀ w ∈ mz_GW, w.before args s = true) (hKK : va_K D vwCl (tyL cT) s) (hA : ∀ q, s.heap.size ≤ q → A q) (hRc : R.cells = mc) (hRs : R.slots = ms) (hx : p.tables.exec = Jvm.exec) (hb : c.code = cc) (hdg : decode cc pc = .ok (.newarray t, 2)) (hK : ∀ ls st Z M, K ls st Z M → SimS p l e R s m args below meth c Qf D cT A nL ad0 n0 (pc + 2) ls st Z M) (h : wpi C X mc ms J Rt (.newarray t) x K ls st Z M) : SimS p l e R s m args below meth c Qf D cT A nL ad0 n0 pc ls st Z M := by
  obtain ⟨n, st, rfl, hq1⟩ := pI_spec h
  replace h := hq1
  obtain ⟨h0, hn0, hn1, h1, h2, h3, h4, h5, hk⟩ := h
  obtain ⟨hm1, hm2, hm3, hm4⟩ := mz_ac
  intro ad H locs als i1 i2 i3 i4 i5 i6 i7 i8 i9
  obtain ⟨hnn, hcl⟩ := iN_nn hn0 hn1
  have hsub : n.toNat ≤ 100000 := by omega
  cases t with
  | int =>
    refine va_newa (atype := .int) (a0 := (n.toNat, .inl (fun _ => 0))) hx hb (hts _ hm1) rfl hKK i7 i8 i9 hA (fun _ => rfl) hnn hcl (by show n.toNat * 4 ≤ _; omega) (by rw [hRc]; exact h1) (by rw [hRs]; exact h2) hdg (fun q cA H1 hK2 j7 j8 j9 => ?_)
    rw [arr_cls (t := 0) hKK rfl hK2] at j7 j8
    exact on1 hK hk i1 i2 h5 i4 i5 i6 h3 h4 (fun j z hz => by cases hz) rfl j7 j8 j9
  | byte =>
    refine va_newa (atype := .byte) (a0 := (n.toNat, .inl (fun _ => 0))) hx hb (hts _ hm2) rfl hKK i7 i8 i9 hA (fun _ => rfl) hnn hcl (by show n.toNat * 1 ≤ _; omega) (by rw [hRc]; exact h1) (by rw [hRs]; exact h2) hdg (fun q cA H1 hK2 j7 j8 j9 => ?_)
    rw [arr_cls (t := 1) hKK rfl hK2] at j7 j8
    exact on1 hK hk i1 i2 h5 i4 i5 i6 h3 h4 (fun j z hz => by cases hz) rfl j7 j8 j9
  | boolean =>
    refine va_newa (atype := .boolean) (a0 := (n.toNat, .inl (fun _ => 0))) hx hb (hts _ hm3) rfl hKK i7 i8 i9 hA (fun _ => rfl) hnn hcl (by show n.toNat * 1 ≤ _; omega) (by rw [hRc]; exact h1) (by rw [hRs]; exact h2) hdg (fun q cA H1 hK2 j7 j8 j9 => ?_)
    rw [arr_cls (t := 2) hKK rfl hK2] at j7 j8
    exact on1 hK hk i1 i2 h5 i4 i5 i6 h3 h4 (fun j z hz => by cases hz) rfl j7 j8 j9
  | long =>
    refine va_newa (atype := .long) (a0 := (n.toNat, .inr (.inl (fun _ => 0)))) hx hb (hts _ hm4) rfl hKK i7 i8 i9 hA (fun _ => rfl) hnn hcl (by show n.toNat * 8 ≤ _; omega) (by rw [hRc]; exact h1) (by rw [hRs]; exact h2) hdg (fun q cA H1 hK2 j7 j8 j9 => ?_)
    rw [arr_cls (t := 3) hKK rfl hK2] at j7 j8
    exact on1 hK hk i1 i2 h5 i4 i5 i6 h3 h4 (fun j z hz => by cases hz) rfl j7 j8 j9
  | _ => exact absurd h0 (by decide)
theorem sn_anewarray {ix k0 : Nat} {q : Nat × Nat} (hE : ExW s) (hown : s.vm.findClass (cnOf o) = some m.cls) (hts : ∀ w ∈ mz_GW, w.before args s = true) (hKK : va_K D vwCl (tyL cT) s) (hA : ∀ q, s.heap.size ≤ q → A q) (hRc : R.cells = mc) (hRs : R.slots = ms) (hq : mz_C.lookup (o, ix) = some q) (hlt : q.1 = 0) (hx : p.tables.exec = Jvm.exec) (hb : c.code = cc) (hdg : decode cc pc = .ok (.anewarray ix, 3)) (hK : ∀ ls st Z M, K ls st Z M → SimS p l e R s m args below meth c Qf D cT A nL ad0 n0 (pc + 3) ls st Z M) (h : wpi C X mc ms J Rt (.anewarray k0) x K ls st Z M) : SimS p l e R s m args below meth c Qf D cT A nL ad0 n0 pc ls st Z M := by
  obtain ⟨n, st, rfl, hq1⟩ := pI_spec h
  replace h := hq1
  obtain ⟨hn0, hn1, h1, h2, h3, h4, h5, hk⟩ := h
  rcases mz_C_get hq with ⟨h6, -⟩ | ⟨r, hr, hlink⟩
  · omega
  rw [hlt] at hr
  cases hr
  intro ad H locs als i1 i2 i3 i4 i5 i6 i7 i8 i9
  obtain ⟨hnn, hcl⟩ := iN_nn hn0 hn1
  refine va_newq (C := "OwnSunday$Book") hx hb hown (hts _ hlink) hE.1 hKK i7 i8 i9 hA hnn hcl (by omega) (by rw [hRc]; exact h1) (by rw [hRs]; exact h2) hdg (fun q cA H1 hK2 j7 j8 j9 => ?_)
  rw [arr_cls (t := 4) hKK rfl hK2] at j7 j8
  exact on1 hK hk i1 i2 h5 i4 i5 i6 h3 h4 (fun j z hz => by cases hz) rfl j7 j8 j9
theorem sn_multi {ix k0 k1 : Nat} {q : Nat × Nat} (hE : ExW s) (hown : s.vm.findClass (cnOf o) = some m.cls) (hts : ∀ w ∈ mz_GW, w.before args s = true) (hKK : va_K D vwCl (tyL cT) s) (hA : ∀ q, s.heap.size ≤ q → A q) (hRc : R.cells = mc) (hRs : R.slots = ms) (hq : mz_C.lookup (o, ix) = some q) (hlt : q.1 = 100) (hx : p.tables.exec = Jvm.exec) (hb : c.code = cc) (hdg : decode cc pc = .ok (.multianewarray ix 2, 4)) (hK : ∀ ls st Z M, K ls st Z M → SimS p l e R s m args below meth c Qf D cT A nL ad0 n0 (pc + 4) ls st Z M) (h : wpi C X mc ms J Rt (.multianewarray k0 k1) x K ls st Z M) : SimS p l e R s m args below meth c Qf D cT A nL ad0 n0 pc ls st Z M := by
  obtain ⟨k, st, rfl, hq1⟩ := pI_spec h
  obtain ⟨n, st, rfl, hq2⟩ := pI_spec hq1
  replace h := hq2
  obtain ⟨rfl, hn0, hn1, h1, h2, h3, h4, h5, hk⟩ := h
  have hlink : Cond.classLink (cnOf o) ix ("[" ++ (FieldType.array .int).toString) ∈ mz_GW := by
    rcases mz_C_get hq with ⟨h6, h7⟩ | ⟨r, hr, -⟩
    · exact h7
    · rw [hlt] at hr; cases hr
  intro ad H locs als i1 i2 i3 i4 i5 i6 i7 i8 i9
  obtain ⟨hnn, hcl⟩ := iN_nn hn0 hn1
  have hcy : s.vm.findClass (FieldType.array .int).toString = some (cT 0) := (hKK.2 0 _ rfl).2
  refine va_mna (X := wsOf cT ad Z.1 M) (L := []) (f := fun _ => .inl (cT 0, 0, .inl (fun _ => 0))) (ty := .int) (cy := cT 0) (N' := 2) (K' := k.toNat) (z := (k.toNat, .inl (fun _ => 0))) hx hb hown (hts _ hlink) hE.2.1 (hts _ mz_ac.1) hcy hKK (by rw [show va_pl [] _ = [] from rfl, List.append_nil]; exact i7) (by rw [show va_pl [] _ = [] from rfl, List.append_nil]; exact i8) i9 hA (by decide) hnn (by decide) hcl (by omega) (by show k.toNat * 4 ≤ _; omega) (by omega) rfl rfl (by rw [hRc]; exact h1) (by rw [hRs]; exact h2) (fun c => arrV_new _ _ _) hdg (fun q r cA H1 hr1 hr2 hK2 j7 j8 j9 => ?_)
  rw [arr_cls (t := 5) hKK rfl hK2] at j7 j8
  have hw : (wsOf cT ad Z.1 M ++ [(q, .inl (cT 5, 2, .inr (.inr (.inr (.inr (fun i => if i < 2 then some (r i) else none))))))]) ++ va_pl ([] ++ (List.range 2).map r) (vr_up (fun _ => .inl (cT 0, 0, .inl (fun _ => 0))) ((List.range 2).map r) (.inl (cT 0, k.toNat, .inl (fun _ => 0))))
      = wsOf cT (adN (adN (adN ad Z.1.length q) (Z.1.length + 1) (r 0)) (Z.1.length + 2) (r 1)) (Z.1 ++ [Sum.inl (5, 2, fun j => if j < 2 then some (Z.1.length + 1 + j) else none), Sum.inl (0, k.toNat, mz_nul), Sum.inl (0, k.toNat, mz_nul)]) (mnew (mnew (mnew M Z.1.length) (Z.1.length + 1)) (Z.1.length + 2)) := by
    have hpl : va_pl ([] ++ (List.range 2).map r) (vr_up (fun _ => .inl (cT 0, 0, .inl (fun _ => 0))) ((List.range 2).map r) (.inl (cT 0, k.toNat, .inl (fun _ => 0)))) = [(r 0, (.inl (cT 0, k.toNat, .inl (fun _ => 0)) : va_E)), (r 1, .inl (cT 0, k.toNat, .inl (fun _ => 0)))] := by
      simp [va_pl, List.range, List.range.loop, vr_up]
    rw [hpl]
    generalize hA2 : adN (adN (adN ad Z.1.length q) (Z.1.length + 1) (r 0)) (Z.1.length + 2) (r 1) = ad2
    have b0 : ∀ z, z < Z.1.length → ad2 z = ad z := fun z hz => by rw [← hA2, adN_ne _ (by omega), adN_ne _ (by omega), adN_ne _ (by omega)]
    have b1 : ad2 Z.1.length = q := by rw [← hA2, adN_ne _ (by omega), adN_ne _ (by omega), adN_eq]
    have b2 : ad2 (Z.1.length + 1) = r 0 := by rw [← hA2, adN_ne _ (by omega), adN_eq]
    have b3 : ad2 (Z.1.length + 2) = r 1 := by rw [← hA2, adN_eq]
    apply List.ext_getElem?
    intro z
    rw [wsOf_get, List.append_assoc, List.singleton_append]
    by_cases hz : z < Z.1.length
    · rw [List.getElem?_append_left (by rw [wsOf_len]; exact hz), List.getElem?_append_left hz, wsOf_get, mnew_ne (by omega), mnew_ne (by omega), mnew_ne (by omega), b0 z hz]
      cases hzx : Z.1[z]? with
      | none => rfl
      | some y => simp only [Option.map_some]; rw [elV_ad (n := Z.1.length) b0 (i4 z y hzx)]
    · rw [List.getElem?_append_right (by rw [wsOf_len]; omega), List.getElem?_append_right (by omega), wsOf_len]
      by_cases z0 : z = Z.1.length
      · subst z0
        rw [Nat.sub_self, b1]
        show some (q, _) = some (q, _)
        congr 2
        show (Sum.inl _ : va_E) = eA cT ad2 _ _
        unfold eA
        dsimp only
        rw [if_neg (by decide), if_neg (by decide)]
        congr 7
        funext i
        by_cases hi : i < 2
        · rw [if_pos hi, if_pos hi]
          match i, hi with
          | 0, _ => show _ = some (ad2 (Z.1.length + 1)); rw [b2]
          | 1, _ => show _ = some (ad2 (Z.1.length + 2)); rw [b3]
        · rw [if_neg hi, if_neg hi]; rfl
      · by_cases z1 : z = Z.1.length + 1
        · subst z1
          rw [show Z.1.length + 1 - Z.1.length = 1 by omega, b2, mnew_ne (by omega), mnew_at]
          rfl
        · by_cases z2 : z = Z.1.length + 2
          · subst z2
            rw [show Z.1.length + 2 - Z.1.length = 2 by omega, b3, mnew_at]
            rfl
          · rw [List.getElem?_eq_none (by simp; omega), List.getElem?_eq_none (by simp; omega)]
            rfl
  rw [hw] at j7 j8
  have hag : ∀ z, z < Z.1.length ∨ Z.1.length + 3 ≤ z → (adN (adN (adN ad Z.1.length q) (Z.1.length + 1) (r 0)) (Z.1.length + 2) (r 1)) z = ad z := fun z hz => by rw [adN_ne _ (by omega), adN_ne _ (by omega), adN_ne _ (by omega)]
  have := hK _ _ _ _ hk _ H1 locs als (fun z hz => by
    dsimp only at hz
    rw [List.length_append] at hz
    rw [hag z (by simp at hz; omega)]
    exact i1 z (by simp at hz; omega)) (by dsimp only; rw [List.length_append]; omega) (by dsimp only; rw [List.length_append]; exact h5) (wfS_app i4 (fun x hx => by
      rcases List.mem_cons.mp hx with rfl | hx
      · intro j z hz
        have hz : (if j < 2 then some (Z.1.length + 1 + j) else none) = some z := hz
        split at hz
        · cases hz; simp; omega
        · cases hz
      · rcases List.mem_cons.mp hx with rfl | hx
        · exact fun j z hz => by cases hz
        · rw [List.mem_singleton.mp hx]
          exact fun j z hz => by cases hz)) i5 (i6.mv hag h4) j7 j8 j9
  rw [List.map_cons, rfs_mv hag h3] at this
  have hq0 : cvV (adN (adN (adN ad Z.1.length q) (Z.1.length + 1) (r 0)) (Z.1.length + 2) (r 1)) (vR Z.1.length) = .ref q := by
    show Value.ref _ = _
    rw [adN_ne _ (by omega), adN_ne _ (by omega), adN_eq]
  rw [hq0] at this
  rw [show Z.2.2 + 2 + 2 * k.toNat = Z.2.2 + (2 + 2 * k.toNat) by omega]
  exact this
end SND3
end
section
/-! natives, Math, Object(), calls -/
theorem mz_sys : Cond.native arraycopyName ∈ mz_GW ∧ Cond.static arraycopyName ∈ mz_GW ∧ Cond.initialized "java/lang/System" ∈ mz_GW ∧ Cond.initialized "java/lang/Math" ∈ mz_GW :=
  ⟨List.mem_filter.mpr ⟨by decide +kernel, rfl⟩, List.mem_filter.mpr ⟨by decide +kernel, rfl⟩, List.mem_filter.mpr ⟨by decide +kernel, rfl⟩, List.mem_filter.mpr ⟨by decide +kernel, rfl⟩⟩
theorem mz_math : Cond.static Lib.Math.max.name ∈ mz_GW ∧ Cond.code Lib.Math.max.name Lib.Math.max.code 2 (some .int) ∈ mz_GW ∧ Cond.static Lib.Math.min.name ∈ mz_GW ∧ Cond.code Lib.Math.min.name Lib.Math.min.code 2 (some .int) ∈ mz_GW :=
  ⟨List.mem_filter.mpr ⟨by decide +kernel, rfl⟩, List.mem_filter.mpr ⟨by decide +kernel, rfl⟩, List.mem_filter.mpr ⟨by decide +kernel, rfl⟩, List.mem_filter.mpr ⟨by decide +kernel, rfl⟩⟩
theorem mz_obj : Cond.instanceMethod objectInit ∈ mz_GW ∧ Cond.code objectInit ⟨#[0xb1]⟩ 1 none ∈ mz_GW :=
  ⟨List.mem_filter.mpr ⟨by decide +kernel, rfl⟩, List.mem_filter.mpr ⟨by decide +kernel, rfl⟩⟩
theorem mcpy_ne {M : MM} {sk dk sp dp n : Nat} (k : Nat) (h : k ≠ dk) : mcpy M sk dk sp dp n k = M k := by funext j; simp [mcpy, h]
theorem mcpy_at (M : MM) (sk dk sp dp n : Nat) : mcpy M sk dk sp dp n dk = fun j => if dp ≤ j ∧ j < dp + n then M sk (sp + (j - dp)) else M dk j := by funext j; simp [mcpy]
theorem cpy_iN (f g : Nat → Int) (sp dp n : Nat) : (fun j => iN (if dp ≤ j ∧ j < dp + n then f (sp + (j - dp)) else g j)) = va_cpy (fun j => iN (f j)) (fun j => iN (g j)) sp dp n := by
  funext j
  unfold va_cpy
  split <;> rfl
theorem cpy_jN (f g : Nat → Int) (sp dp n : Nat) : (fun j => jN (if dp ≤ j ∧ j < dp + n then f (sp + (j - dp)) else g j)) = va_cpy (fun j => jN (f j)) (fun j => jN (g j)) sp dp n := by
  funext j
  unfold va_cpy
  split <;> rfl
/-- a method's start and end in the machine itself -/
def PM (D : va_G) (cT : Nat → ClassId) (sh : List SC) (M : MM) (ad : Nat → Nat) (sz : Nat) : State → Prop := fun U =>
  U.heap.size = sz ∧ sh.length ≤ 100000 ∧ wfS sh ∧ va_P D vwCl (wsOf cT ad sh M) U.heap ∧ va_K D vwCl (tyL cT) U ∧ va_D (fun _ => True) (wsOf cT ad sh M) ∧ ExW U
def QM (D : va_G) (cT : Nat → ClassId) (ret : Option FieldType) (Post : PP) (sh : List SC) (ad : Nat → Nat) (A1 : Nat → Prop) : Array Value → State → Outcome → State → Prop := fun _ st oc t =>
  (∃ (r : Option AV) (sh' : List SC) (M' : MM) (ad' : Nat → Nat), oc = .returned (r.map (cvV ad')) ∧ rok ret r ∧ Post r sh' M' ∧ (∀ k, k < sh.length ∨ sh'.length ≤ k → ad' k = ad k) ∧ sh.length ≤ sh'.length ∧ sh'.length ≤ 100000 ∧ wfS sh' ∧ va_P D vwCl (wsOf cT ad' sh' M') t.heap ∧ va_D A1 (wsOf cT ad' sh' M')) ∧ va_F A1 st t
def MetS (l : Launch) (D : va_G) (cT : Nat → ClassId) (d : Nat) (C : CC) : Prop := ∀ (z : Nat) (a : List AV) (sh : List SC) (M : MM) (k n : Nat) (Post : PP), C z a sh M k n Post → ∀ e : mz_E, mz_T[z]? = some e → z < 163 → ∀ (ad : Nat → Nat) (sz : Nat),
  Met l e.1 (Cond.code e.1 e.2.1 e.2.2.1 e.2.2.2.1 :: mz_GW) ({ frames := d, cells := k, slots := n, locals := 33 * d }) (va_Pc (a.map (cvV ad)) (PM D cT sh M ad sz)) (QM D cT e.2.2.2.1 Post sh ad (va_A (wsOf cT ad sh M) sz)) k n (va_A (wsOf cT ad sh M) sz)
theorem PM_blind {D : va_G} {cT : Nat → ClassId} {sh : List SC} {M : MM} {ad : Nat → Nat} {sz : Nat} {av : List Value} : FrameBlind (va_Pc av (PM D cT sh M ad sz)) := by
  intro a U g mk h
  obtain ⟨q0, q1, q2, q3, qP, qK, qD, qE⟩ := h
  exact ⟨q0, q1, q2, q3, qP, va_K.moved (u := U) (U := U.calling g mk a) (Vm.Alike.refl U.vm) qK, qD, qE.same rfl⟩
theorem okM_spec {e : mz_E} (h : mz_okM e = true) : Cond.initialized e.1.cls ∈ mz_GW ∧ e.1.cls ≠ "java/lang/invoke/MethodHandle" ∧ e.1.cls ≠ "java/lang/invoke/VarHandle" ∧ (parseMethodDescriptor e.1.desc).map (fun d => d.parameters.length) = some e.2.2.2.2.2.2.1 ∧ plainName e.1.cls = true ∧ e.2.2.1 ≤ 14 ∧ mz_cn[e.2.2.2.2.2.1]? = some e.1.cls ∧
    (e.2.2.2.2.1 = 0 → Cond.static e.1 ∈ mz_GW) ∧ (e.2.2.2.2.1 = 1 → Cond.instanceMethod e.1 ∈ mz_GW ∧ Cond.selects e.1.cls e.1 e.1 ∈ mz_GW ∧ ∃ q : vw_C, vwCl[e.2.2.2.2.2.1]? = some q ∧ q.1 = e.1.cls) ∧ (e.2.2.2.2.1 = 2 → Cond.instanceMethod e.1 ∈ mz_GW ∧ e.1.name = "<init>" ∧ e.2.2.2.1 = none) := by
  obtain ⟨y, b, L, r, kd, ow, n, p1, p2, p3, p4⟩ := e
  simp only [mz_okM, Bool.and_eq_true, decide_eq_true_eq] at h
  obtain ⟨⟨⟨⟨⟨⟨⟨h1, h2⟩, h3⟩, h4⟩, h5⟩, h6⟩, h7⟩, h8⟩ := h
  refine ⟨mz_gw h1 rfl, h2, h3, h4, h5, h6, h7, fun h9 => ?_, fun h9 => ?_, fun h9 => ?_⟩
  · dsimp only at h9
    subst h9
    rw [if_pos rfl, decide_eq_true_eq] at h8
    exact mz_gw h8 rfl
  · dsimp only at h9
    subst h9
    rw [if_neg (by decide), if_pos rfl] at h8
    simp only [Bool.and_eq_true, decide_eq_true_eq] at h8
    refine ⟨mz_gw h8.1.1 rfl, mz_gw h8.1.2 rfl, ?_⟩
    have h9 := h8.2
    cases hq : vwCl[ow]? with
    | none => rw [hq] at h9; cases h9
    | some q => rw [hq] at h9; exact ⟨q, rfl, Option.some.inj h9⟩
  · dsimp only at h9
    subst h9
    rw [if_neg (by decide), if_neg (by decide)] at h8
    simp only [Bool.and_eq_true, decide_eq_true_eq] at h8
    exact ⟨mz_gw h8.1.1.2 rfl, h8.1.2, h8.2⟩
section SND4
variable {p : Program} {l : Launch} {e : Env} {R : Room} {s : State} {m : MethodId} {args : Array Value} {below : List Frame} {meth : Method} {c : Code} {Qf : State → Prop} {D : va_G} {cT : Nat → ClassId} {A : Nat → Prop} {nL : Nat} {ad0 : Nat → Nat} {n0 : Nat}
variable {cc : ByteArray} {C : CC} {X : XX} {mc ms : Nat} {J : Nat → KK} {Rt : RR} {x : Int} {K : KK} {ls : AL} {st : List AV} {Z : ZZ} {M : MM} {pc len o d : Nat}
theorem sn_copy {ix : Nat} (hlink : Cond.methodLink (cnOf o) ix arraycopyName ∈ mz_GW) (hml : c.maxLocals = nL) (hR : 1 ≤ R.frames ∧ 33 ≤ R.locals) (hown : s.vm.findClass (cnOf o) = some m.cls) (hts : ∀ w ∈ mz_GW, w.before args s = true) (hKK : va_K D vwCl (tyL cT) s) (hx : p.tables.exec = Jvm.exec) (hb : c.code = cc) (hdg : decode cc pc = .ok (.invokestatic ix, 3)) (hK : ∀ ls st Z M, K ls st Z M → SimS p l e R s m args below meth c Qf D cT A nL ad0 n0 (pc + 3) ls st Z M) (h : wpi C X mc ms J Rt (.invokestatic 1000) x K ls st Z M) : SimS p l e R s m args below meth c Qf D cT A nL ad0 n0 pc ls st Z M := by
  obtain ⟨n, st, rfl, hq1⟩ := pI_spec h
  obtain ⟨dp, st, rfl, hq2⟩ := pI_spec hq1
  obtain ⟨dk, st, rfl, hq3⟩ := pR_spec hq2
  obtain ⟨sp, st, rfl, hq4⟩ := pI_spec hq3
  obtain ⟨sk, st, rfl, hq5⟩ := pR_spec hq4
  clear hq1 hq2 hq3 hq4 h
  intro ad H locs als i1 i2 i3 i4 i5 i6 i7 i8 i9
  cases ha : arr Z.1 sk with
  | none => rw [ha] at hq5; exact hq5.elim
  | some a =>
    cases hd : arr Z.1 dk with
    | none => rw [ha, hd] at hq5; obtain ⟨_, _, _⟩ := a; exact hq5.elim
    | some b =>
      obtain ⟨t, n0', f⟩ := a
      obtain ⟨t1, n1, f1⟩ := b
      rw [ha, hd] at hq5
      obtain ⟨rfl, ht, k1, k2, k3, k4, k5, k6, k7, rfl, h⟩ := hq5
      have hsz : c.maxLocals = als.size := by rw [hml, i6.1, i5]
      have c1 := iN_nn k1 (by omega)
      have c2 := iN_nn k2 (by omega)
      have c3 := iN_nn k3 (by omega)
      have hloc : (List.map (fun v : Value => v.category) (List.map (cvV ad) [])).sum + (nativeFrameWords "java/lang/System" "arraycopy" 5 + 11) ≤ R.locals := by
        show 0 + (nativeFrameWords "java/lang/System" "arraycopy" 5 + 11) ≤ R.locals
        exact Nat.le_trans (by decide) hR.2
      rcases ht with rfl | rfl
      · refine va_copyi (ty := .int) (n0 := n0') (n1 := n1) hx hb hsz hown (hts _ hlink) (hts _ mz_sys.1) (hts _ mz_sys.2.1) (hts _ mz_sys.2.2.1) hKK i7 i8 i9 sk dk 0 0 (ws_ar ha) (ws_ar hd) rfl rfl rfl c1.1 c2.1 c3.1 (by rw [c1.2, c3.2]; omega) (by rw [c2.2, c3.2]; omega) (fun _ _ => rfl) hR.1 hloc hdg (fun H1 locs1 j7 j8 j9 => ?_)
        rw [c1.2, c2.2, c3.2, ← cpy_iN] at j7 j8
        have e1 : wsOf cT ad Z.1 (mcpy M sk dk sp.toNat dp.toNat n.toNat) = (wsOf cT ad Z.1 M).set dk (ad dk, .inl (cT 0, n1, .inl (fun j => iN (if dp.toNat ≤ j ∧ j < dp.toNat + n.toNat then M sk (sp.toNat + (j - dp.toNat)) else M dk j)))) := by
          refine wsOf_set' (arr_spec hd) (fun k hk => mcpy_ne k hk) ?_
          rw [mcpy_at]
          rfl
        rw [← e1] at j7 j8
        exact hK _ _ _ _ h ad H1 locs1 als i1 i2 i3 i4 i5 i6 j7 j8 j9
      · refine va_copyl (ty := .long) (n0 := n0') (n1 := n1) hx hb hsz hown (hts _ hlink) (hts _ mz_sys.1) (hts _ mz_sys.2.1) (hts _ mz_sys.2.2.1) hKK i7 i8 i9 sk dk 3 3 (ws_ar ha) (ws_ar hd) rfl rfl rfl c1.1 c2.1 c3.1 (by rw [c1.2, c3.2]; omega) (by rw [c2.2, c3.2]; omega) (fun _ _ => rfl) hR.1 hloc hdg (fun H1 locs1 j7 j8 j9 => ?_)
        rw [c1.2, c2.2, c3.2, ← cpy_jN] at j7 j8
        have e1 : wsOf cT ad Z.1 (mcpy M sk dk sp.toNat dp.toNat n.toNat) = (wsOf cT ad Z.1 M).set dk (ad dk, .inl (cT 3, n1, .inr (.inl (fun j => jN (if dp.toNat ≤ j ∧ j < dp.toNat + n.toNat then M sk (sp.toNat + (j - dp.toNat)) else M dk j))))) := by
          refine wsOf_set' (arr_spec hd) (fun k hk => mcpy_ne k hk) ?_
          rw [mcpy_at]
          rfl
        rw [← e1] at j7 j8
        exact hK _ _ _ _ h ad H1 locs1 als i1 i2 i3 i4 i5 i6 j7 j8 j9
theorem sn_max {ix : Nat} (hlink : Cond.methodLink (cnOf o) ix Lib.Math.max.name ∈ mz_GW) (hml : c.maxLocals = nL) (hR : 1 ≤ R.frames ∧ 33 ≤ R.locals) (hRc : R.cells = mc) (hRs : R.slots = ms) (hown : s.vm.findClass (cnOf o) = some m.cls) (hts : ∀ w ∈ mz_GW, w.before args s = true) (hx : p.tables.exec = Jvm.exec) (hb : c.code = cc) (hdg : decode cc pc = .ok (.invokestatic ix, 3)) (hK : ∀ ls st Z M, K ls st Z M → SimS p l e R s m args below meth c Qf D cT A nL ad0 n0 (pc + 3) ls st Z M) (h : wpi C X mc ms J Rt (.invokestatic 1002) x K ls st Z M) : SimS p l e R s m args below meth c Qf D cT A nL ad0 n0 pc ls st Z M := by
  have h : pI st fun b st => pI st fun a st => rgI a ∧ rgI b ∧ cats st ≤ 8 ∧ Z.2.1 ≤ mc ∧ Z.2.2 ≤ ms ∧ K ls (vI (max a b) :: st) Z M := h
  obtain ⟨b, st, rfl, hq1⟩ := pI_spec h
  obtain ⟨a, st, rfl, hq2⟩ := pI_spec hq1
  clear hq1 h
  obtain ⟨ra, rb, k1, k2, k3, h⟩ := hq2
  intro ad H locs als i1 i2 i3 i4 i5 i6 i7 i8 i9
  have hsz : c.maxLocals = als.size := by rw [hml, i6.1, i5]
  refine va_mmax hx hb hsz hown (hts _ hlink) (hts _ mz_math.1) (hts _ mz_sys.2.2.2) (hts _ mz_math.2.1) hR.1 (by rw [cvV_cats]; omega) (by rw [hRc]; exact k2) (by rw [hRs]; exact k3) hdg ?_
  have e1 : (if iN a < iN b then iN b else iN a) = iN (max a b) := by
    by_cases hab : a < b
    · rw [if_pos ((iN_lt ra rb).mpr hab), Int.max_eq_right (by omega)]
    · rw [if_neg (fun z => hab ((iN_lt ra rb).mp z)), Int.max_eq_left (by omega)]
  rw [e1]
  exact hK _ _ _ _ h ad H locs als i1 i2 i3 i4 i5 i6 i7 i8 i9
theorem sn_min {ix : Nat} (hlink : Cond.methodLink (cnOf o) ix Lib.Math.min.name ∈ mz_GW) (hml : c.maxLocals = nL) (hR : 1 ≤ R.frames ∧ 33 ≤ R.locals) (hRc : R.cells = mc) (hRs : R.slots = ms) (hown : s.vm.findClass (cnOf o) = some m.cls) (hts : ∀ w ∈ mz_GW, w.before args s = true) (hx : p.tables.exec = Jvm.exec) (hb : c.code = cc) (hdg : decode cc pc = .ok (.invokestatic ix, 3)) (hK : ∀ ls st Z M, K ls st Z M → SimS p l e R s m args below meth c Qf D cT A nL ad0 n0 (pc + 3) ls st Z M) (h : wpi C X mc ms J Rt (.invokestatic 1003) x K ls st Z M) : SimS p l e R s m args below meth c Qf D cT A nL ad0 n0 pc ls st Z M := by
  have h : pI st fun b st => pI st fun a st => rgI a ∧ rgI b ∧ cats st ≤ 8 ∧ Z.2.1 ≤ mc ∧ Z.2.2 ≤ ms ∧ K ls (vI (min a b) :: st) Z M := h
  obtain ⟨b, st, rfl, hq1⟩ := pI_spec h
  obtain ⟨a, st, rfl, hq2⟩ := pI_spec hq1
  clear hq1 h
  obtain ⟨ra, rb, k1, k2, k3, h⟩ := hq2
  intro ad H locs als i1 i2 i3 i4 i5 i6 i7 i8 i9
  have hsz : c.maxLocals = als.size := by rw [hml, i6.1, i5]
  refine va_mmin hx hb hsz hown (hts _ hlink) (hts _ mz_math.2.2.1) (hts _ mz_sys.2.2.2) (hts _ mz_math.2.2.2) hR.1 (by rw [cvV_cats]; omega) (by rw [hRc]; exact k2) (by rw [hRs]; exact k3) hdg ?_
  have e1 : (if iN b < iN a then iN b else iN a) = iN (min a b) := by
    by_cases hab : b < a
    · rw [if_pos ((iN_lt rb ra).mpr hab), Int.min_eq_right (by omega)]
    · rw [if_neg (fun z => hab ((iN_lt rb ra).mp z)), Int.min_eq_left (by omega)]
  rw [e1]
  exact hK _ _ _ _ h ad H locs als i1 i2 i3 i4 i5 i6 i7 i8 i9
theorem sn_objinit {ix : Nat} (hlink : Cond.methodLink (cnOf o) ix objectInit ∈ mz_GW) (hml : c.maxLocals = nL) (hR : 1 ≤ R.frames ∧ 33 ≤ R.locals) (hown : s.vm.findClass (cnOf o) = some m.cls) (hts : ∀ w ∈ mz_GW, w.before args s = true) (hx : p.tables.exec = Jvm.exec) (hb : c.code = cc) (hdg : decode cc pc = .ok (.invokespecial ix, 3)) (hK : ∀ ls st Z M, K ls st Z M → SimS p l e R s m args below meth c Qf D cT A nL ad0 n0 (pc + 3) ls st Z M) (h : wpi C X mc ms J Rt (.invokespecial 1001) x K ls st Z M) : SimS p l e R s m args below meth c Qf D cT A nL ad0 n0 pc ls st Z M := by
  have h : pR st fun _ st => cats st ≤ 8 ∧ K ls st Z M := h
  obtain ⟨r, st, rfl, hq1⟩ := pR_spec h
  clear h
  obtain ⟨k1, h⟩ := hq1
  intro ad H locs als i1 i2 i3 i4 i5 i6 i7 i8 i9
  refine W.objInit hx hb hown (hts _ hlink) (hts _ mz_obj.1) (hts _ mz_obj.2) rfl (by show als.size = _; rw [hml, i6.1, i5]) rfl hdg hR.1 (by show 2 * 0 + _ + 12 ≤ _; rw [cvV_cats]; omega) ?_
  exact hK _ _ _ _ h ad H locs als i1 i2 i3 i4 i5 i6 i7 i8 i9
/-- behind a call -/
theorem call_go {z n k1 n1 : Nat} {ad : Nat → Nat} {H : Heap} {locs : List Loc} {als : Array Slot} {a : Array Value} {st0 : List Value} {ret : Option FieldType} (hA : ∀ q, s.heap.size ≤ q → A q) (hK : ∀ ls st Z M, K ls st Z M → SimS p l e R s m args below meth c Qf D cT A nL ad0 n0 (pc + 3) ls st Z M)
    (hrun : va_Run p l e R s m args below meth c H locs Z.2.1 Z.2.2 k1 n1 (F0 m pc als st0) ((st.drop n).map (cvV ad)) (QM D cT ret (fun r sh M' => (sh.length = Z.1.length ∨ (rfs (st.drop n) Z.1.length sh.length ∧ rfq ls Z.1.length sh.length)) ∧ K ls (r.toList ++ st.drop n) (sh, Z.2.1 + k1, Z.2.2 + n1) M') Z.1 ad (va_A (wsOf cT ad Z.1 M) H.size) a) (va_A (wsOf cT ad Z.1 M) H.size))
    (i1 : ∀ k, k < n0 ∨ Z.1.length ≤ k → ad k = ad0 k) (i2 : n0 ≤ Z.1.length) (i5 : ls.length = nL) (i6 : LocR ad ls als) (i8 : va_D A (wsOf cT ad Z.1 M)) (i9 : va_S A s.heap H locs) : W p l e R s m args below meth c H locs Z.2.1 Z.2.2 Qf (F0 m pc als st0) := by
  intro T hT XX
  obtain ⟨v, st₀, t, T', L, h0, X', hL, e1, e2, ⟨⟨r, sh', M', ad', hv, -, ⟨hlen, hk⟩, hag, hle, hmax, hwf, hP, hD⟩, hz, hkk⟩, hst⟩ := hrun T hT XX
  have hfree : ∀ q, va_A (wsOf cT ad Z.1 M) H.size q → A q := fun q hq => by
    rcases hq with ⟨k, el, hq⟩ | hq
    · exact i8.2 k _ hq
    · exact hA q (Nat.le_trans i9.1 hq)
  cases hv
  rw [h0] at hz hkk
  have hag2 : ∀ k, k < Z.1.length ∨ sh'.length ≤ k → ad' k = ad k := hag
  have hmv : (st.drop n).map (cvV ad') = (st.drop n).map (cvV ad) ∧ LocR ad' ls als := by
    rcases hlen with hlen | ⟨h1, h2⟩
    · have : ad' = ad := funext (fun k => hag k (by omega))
      rw [this]
      exact ⟨rfl, i6⟩
    · exact ⟨rfs_mv hag2 h1, i6.mv hag2 h2⟩
  have := hK _ _ _ _ hk ad' T'.heap (locs ++ L) als (fun k hk => by
    dsimp only at hk
    rw [hag k (by omega)]
    exact i1 k (by omega)) (by dsimp only; omega) hmax hwf i5 hmv.2 (by rw [e1]; exact hP) (hD.weaken (fun k q _ h => hfree q.1 h)) ⟨Nat.le_trans i9.1 (by rw [e1]; exact hz), fun q h1 h2 => by rw [e1, hkk q (Nat.lt_of_lt_of_le h1 i9.1) (fun z => h2 (hfree q z))]; exact i9.2.1 q h1 h2, fun q hq => by
      rcases List.mem_append.mp hq with h | h
      · exact i9.2.2 q h
      · exact hfree _ (hL q h)⟩ T' rfl X'
  obtain ⟨t2, a1, b1⟩ := this
  refine ⟨t2, hst t2 ?_, b1⟩
  have hstk : (r.toList ++ st.drop n).map (cvV ad') = (r.map (cvV ad')).toList ++ (st.drop n).map (cvV ad) := by
    rw [List.map_append, hmv.1]
    cases r <;> rfl
  rw [hstk] at a1
  exact a1
/-- the stack at a call -/
theorem take_rev {n : Nat} {a : List AV} (h : (st.take n).reverse = a) : st = a.reverse ++ st.drop n := by
  rw [← h, List.reverse_reverse, List.take_append_drop]
theorem call_pre {sh : List SC} {ad : Nat → Nat} {H : Heap} {av : List Value} {a : Array Value} (hKK : va_K D vwCl (tyL cT) s) (hE : ExW s) (hav : a = av.toArray) (i3 : sh.length ≤ 100000) (i4 : wfS sh) (i7 : va_P D vwCl (wsOf cT ad sh M) H) (i8 : va_D A (wsOf cT ad sh M)) : ∀ U : State, U.heap = H → s.WarmedH U.vm → va_Pc av (PM D cT sh M ad H.size) a U := by
  intro U hU hW
  exact ⟨hav, by rw [hU], i3, i4, by rw [hU]; exact i7, va_K.moved hW.alike hKK, i8.weaken (fun _ _ _ _ => trivial), hE.warm hW⟩
theorem good_ws {e : mz_E} (h : Cond.code e.1 e.2.1 e.2.2.1 e.2.2.2.1 ∈ mz_GW) : GoodIn mz_GW (Cond.code e.1 e.2.1 e.2.2.1 e.2.2.2.1 :: mz_GW) := by
  intro w hw
  rcases List.mem_cons.mp hw with rfl | hw
  · exact ⟨h, good_of_word rfl⟩
  · exact mz_goodIn w hw
theorem np_of {z : Nat} {ez : mz_E} (h : mz_T[z]? = some ez) : npOf z = if ez.2.2.2.2.1 = 0 then ez.2.2.2.2.2.2.1 else ez.2.2.2.2.2.2.1 + 1 := by unfold npOf; rw [h]
theorem kd_of {z : Nat} {ez : mz_E} (h : mz_T[z]? = some ez) : kdOf z = ez.2.2.2.2.1 := by unfold kdOf; rw [h]
theorem sn_static {ix z : Nat} {ez : mz_E} (hC : MetS l D cT d C) (hz : mz_T[z]? = some ez) (hlt : z < 163) (hkd : kdOf z = 0) (hlink : Cond.methodLink (cnOf o) ix ez.1 ∈ mz_GW) (hE : ExW s) (hml : c.maxLocals = nL) (hRc : R.cells = mc) (hRs : R.slots = ms) (hR : d + 1 ≤ R.frames ∧ 33 * (d + 1) ≤ R.locals) (hown : s.vm.findClass (cnOf o) = some m.cls) (hts : ∀ w ∈ mz_GW, w.before args s = true) (hKK : va_K D vwCl (tyL cT) s) (hA : ∀ q, s.heap.size ≤ q → A q) (hx : p.tables.exec = Jvm.exec) (hb : c.code = cc) (hdg : decode cc pc = .ok (.invokestatic ix, 3)) (hK : ∀ ls st Z M, K ls st Z M → SimS p l e R s m args below meth c Qf D cT A nL ad0 n0 (pc + 3) ls st Z M) (h : wpc C mc ms z (npOf z) K ls st Z M) : SimS p l e R s m args below meth c Qf D cT A nL ad0 n0 pc ls st Z M := by
  obtain ⟨h1, h2, k1, n1, h3, h4, h⟩ := h
  obtain ⟨hcode, hok⟩ := mz_T_get hz hlt
  obtain ⟨w1, w2, w3, w4, w5, w6, w7, w8, w9, w10⟩ := okM_spec hok
  rw [kd_of hz] at hkd
  have hnp : npOf z = ez.2.2.2.2.2.2.1 := by rw [np_of hz, if_pos hkd]
  intro ad H locs als i1 i2 i3 i4 i5 i6 i7 i8 i9
  have hM := hC z _ Z.1 M k1 n1 _ h ez hz hlt ad H.size
  refine call_go (n := npOf z) (z := z) hA hK (va_runS (As := ((st.take (npOf z)).reverse).map (cvV ad)) (nL := nL) (Ts := mz_GW) (n := npOf z) ⟨hx, hb, hml, hown, hts⟩ hM ⟨callB_of _ hts (good_ws hcode) rfl rfl rfl (hts _ w1) (hts _ hlink) ⟨w2, w3, by rw [w4, hnp]⟩ ⟨hR.1, by dsimp only; omega⟩, hts _ (w8 hkd)⟩ ⟨PM_blind, call_pre hKK hE rfl i3 i4 i7 i8⟩ rfl (by rw [List.length_map, List.length_reverse, List.length_take]; omega) (by show als.size = nL; rw [i6.1, i5]) ?_ (by show 2 * 0 + _ ≤ 8; rw [cvV_cats]; omega) hdg ⟨by rw [hRc]; exact h3, by rw [hRs]; exact h4⟩) i1 i2 i5 i6 i8 i9
  show st.map (cvV ad) = _
  rw [← List.map_reverse, ← List.map_append, List.reverse_reverse, List.take_append_drop]
theorem rev_cons {n : Nat} (hn : 1 ≤ n) (hl : n ≤ st.length) : ∃ v as, (st.take n).reverse = v :: as ∧ as.length = n - 1 ∧ st[n - 1]? = some v ∧ st = as.reverse ++ v :: st.drop n := by
  cases hr : (st.take n).reverse with
  | nil =>
    have := congrArg List.length hr
    rw [List.length_reverse, List.length_take] at this
    have h0 : min n st.length = 0 := this
    omega
  | cons v as =>
    have hlen : as.length = n - 1 := by
      have := congrArg List.length hr
      rw [List.length_reverse, List.length_take, List.length_cons] at this
      omega
    have hst := take_rev hr
    rw [List.reverse_cons, List.append_assoc, List.singleton_append] at hst
    refine ⟨v, as, rfl, hlen, ?_, hst⟩
    rw [hst, List.getElem?_append_right (by rw [List.length_reverse]; omega), List.length_reverse, hlen, Nat.sub_self]
    rfl
theorem sn_virtual {ix z : Nat} {ez : mz_E} (hC : MetS l D cT d C) (hz : mz_T[z]? = some ez) (hlt : z < 163) (hkd : kdOf z = 1) (hlink : Cond.methodLink (cnOf o) ix ez.1 ∈ mz_GW) (hE : ExW s) (hml : c.maxLocals = nL) (hRc : R.cells = mc) (hRs : R.slots = ms) (hR : d + 1 ≤ R.frames ∧ 33 * (d + 1) ≤ R.locals) (hown : s.vm.findClass (cnOf o) = some m.cls) (hts : ∀ w ∈ mz_GW, w.before args s = true) (hKK : va_K D vwCl (tyL cT) s) (hA : ∀ q, s.heap.size ≤ q → A q) (hx : p.tables.exec = Jvm.exec) (hb : c.code = cc) (hdg : decode cc pc = .ok (.invokevirtual ix, 3)) (hK : ∀ ls st Z M, K ls st Z M → SimS p l e R s m args below meth c Qf D cT A nL ad0 n0 (pc + 3) ls st Z M) (hrc : rcv Z.1 st (npOf z - 1) z) (h : wpc C mc ms z (npOf z) K ls st Z M) : SimS p l e R s m args below meth c Qf D cT A nL ad0 n0 pc ls st Z M := by
  obtain ⟨h1, h2, k1, n1, h3, h4, h⟩ := h
  obtain ⟨hcode, hok⟩ := mz_T_get hz hlt
  obtain ⟨w1, w2, w3, w4, w5, w6, w7, w8, w9, w10⟩ := okM_spec hok
  rw [kd_of hz] at hkd
  obtain ⟨w11, w12, cq, w13, w14⟩ := w9 hkd
  have hnp : npOf z = ez.2.2.2.2.2.2.1 + 1 := by rw [np_of hz, if_neg (by omega)]
  obtain ⟨v, as, r1, r2, r3, r4⟩ := rev_cons (st := st) (n := npOf z) (by omega) h1
  unfold rcv at hrc
  rw [r3, hz] at hrc
  obtain ⟨r, hv, hcl⟩ := gR_spec hrc
  cases hv
  obtain ⟨fs, hsh⟩ := cls_spec hcl
  rw [r1] at h
  intro ad H locs als i1 i2 i3 i4 i5 i6 i7 i8 i9
  have hM := hC z _ Z.1 M k1 n1 _ h ez hz hlt ad H.size
  refine call_go (n := npOf z) (z := z) hA hK (va_runV (As := as.map (cvV ad)) (b := ad r) (C := ez.1.cls) (nL := nL) (Ts := mz_GW) (n := ez.2.2.2.2.2.2.1) ⟨hx, hb, hml, hown, hts⟩ hM ⟨callB_of _ hts (good_ws hcode) rfl rfl rfl (hts _ w1) (hts _ hlink) ⟨w2, w3, w4⟩ ⟨hR.1, by dsimp only; omega⟩, hts _ w11, hts _ w12⟩ ⟨PM_blind, ?_, call_pre hKK hE rfl i3 i4 i7 i8⟩ rfl (by rw [List.length_map]; omega) (by show als.size = nL; rw [i6.1, i5]) ?_ (by show 2 * 0 + _ ≤ 8; rw [cvV_cats]; omega) hdg ⟨by rw [hRc]; exact h3, by rw [hRs]; exact h4⟩) i1 i2 i5 i6 i8 i9
  · rw [← w14]
    exact va_recv hKK i7 w13 (ws_obj hsh)
  · show st.map (cvV ad) = _
    rw [← List.map_reverse]
    conv => lhs; rw [r4]
    rw [List.map_append]
    rfl
theorem sn_special {ix z : Nat} {ez : mz_E} {qn : Nat} (hC : MetS l D cT d C) (hz : mz_T[z]? = some ez) (hlt : z < 163) (hkd : kdOf z = 2) (hlink : qn = 0 → Cond.methodLink (cnOf o) ix ez.1 ∈ mz_GW) (hnest : qn ≠ 0 → va_Nw (.methodLinkNest (cnOf o) ix ez.1 "OwnSunday") s) (hE : ExW s) (hml : c.maxLocals = nL) (hRc : R.cells = mc) (hRs : R.slots = ms) (hR : d + 1 ≤ R.frames ∧ 33 * (d + 1) ≤ R.locals) (hown : s.vm.findClass (cnOf o) = some m.cls) (hts : ∀ w ∈ mz_GW, w.before args s = true) (hKK : va_K D vwCl (tyL cT) s) (hA : ∀ q, s.heap.size ≤ q → A q) (hx : p.tables.exec = Jvm.exec) (hb : c.code = cc) (hdg : decode cc pc = .ok (.invokespecial ix, 3)) (hK : ∀ ls st Z M, K ls st Z M → SimS p l e R s m args below meth c Qf D cT A nL ad0 n0 (pc + 3) ls st Z M) (hrc : gR st[npOf z - 1]? (fun _ => True)) (h : wpc C mc ms z (npOf z) K ls st Z M) : SimS p l e R s m args below meth c Qf D cT A nL ad0 n0 pc ls st Z M := by
  obtain ⟨h1, h2, k1, n1, h3, h4, h⟩ := h
  obtain ⟨hcode, hok⟩ := mz_T_get hz hlt
  obtain ⟨w1, w2, w3, w4, w5, w6, w7, w8, w9, w10⟩ := okM_spec hok
  rw [kd_of hz] at hkd
  obtain ⟨w11, w12, w13⟩ := w10 hkd
  have hnp : npOf z = ez.2.2.2.2.2.2.1 + 1 := by rw [np_of hz, if_neg (by omega)]
  obtain ⟨v, as, r1, r2, r3, r4⟩ := rev_cons (st := st) (n := npOf z) (by omega) h1
  rw [r3] at hrc
  obtain ⟨r, hv, -⟩ := gR_spec hrc
  cases hv
  rw [r1] at h
  intro ad H locs als i1 i2 i3 i4 i5 i6 i7 i8 i9
  have hM := hC z _ Z.1 M k1 n1 _ h ez hz hlt ad H.size
  have hg := good_ws hcode
  rw [w13] at hM hg
  have hstk : (F0 m pc als (st.map (cvV ad))).stack = (as.map (cvV ad)).reverse ++ .ref (ad r) :: (st.drop (npOf z)).map (cvV ad) := by
    show st.map (cvV ad) = _
    rw [← List.map_reverse]
    conv => lhs; rw [r4]
    rw [List.map_append]
    rfl
  by_cases hqn : qn = 0
  · exact call_go (n := npOf z) (z := z) hA hK (va_runI (As := as.map (cvV ad)) (b := ad r) (nL := nL) (Ts := mz_GW) (n := ez.2.2.2.2.2.2.1) ⟨hx, hb, hml, hown, hts⟩ hM ⟨callB_of _ hts hg rfl rfl rfl (hts _ w1) (hts _ (hlink hqn)) ⟨w2, w3, w4⟩ ⟨hR.1, by dsimp only; omega⟩, w12, hts _ w11⟩ ⟨PM_blind, call_pre hKK hE rfl i3 i4 i7 i8⟩ rfl (by rw [List.length_map]; omega) (by show als.size = nL; rw [i6.1, i5]) hstk (by show 2 * 0 + _ ≤ 8; rw [cvV_cats]; omega) hdg ⟨by rw [hRc]; exact h3, by rw [hRs]; exact h4⟩) i1 i2 i5 i6 i8 i9
  · exact call_go (n := npOf z) (z := z) hA hK (va_runIN (As := as.map (cvV ad)) (b := ad r) (nL := nL) (Ts := mz_GW) (n := ez.2.2.2.2.2.2.1) (host := "OwnSunday") ⟨hx, hb, hml, hown, hts⟩ hM ⟨va_cnB _ hts hg rfl rfl rfl (hnest hqn) (hts _ w1) ⟨w2, w3, w4⟩ ⟨hR.1, by dsimp only; omega⟩, w12, hts _ w11⟩ ⟨PM_blind, call_pre hKK hE rfl i3 i4 i7 i8⟩ rfl (by rw [List.length_map]; omega) (by show als.size = nL; rw [i6.1, i5]) hstk (by show 2 * 0 + _ ≤ 8; rw [cvV_cats]; omega) hdg ⟨by rw [hRc]; exact h3, by rw [hRs]; exact h4⟩) i1 i2 i5 i6 i8 i9
end SND4
end
section
/-! every instruction: S is closed; a method that runs in the small machine meets its contract -/
def mz_okK1 (q : (Nat × Nat) × (Int × Nat)) : Bool := match mz_cn[q.1.1]? with
  | some own => if q.1.1 = 8 then decide (lw_tbl[q.2.2]? = some (Cond.constant own q.1.2 (iN q.2.1))) else decide (lw_tbl[q.2.2]? = some (Cond.constantLong own q.1.2 (jN q.2.1)))
  | none => false
set_option maxRecDepth 100000 in
theorem mz_K1_ok : mz_K.all mz_okK1 = true := by decide +kernel
theorem mz_K_get1 {o ix : Nat} {q : Int × Nat} (h : mz_K.lookup (o, ix) = some q) (ho : o = 8) : Jvm.Cond.constant (cnOf o) ix (iN q.1) ∈ mz_GW := by
  have h1 := List.all_eq_true.mp mz_K1_ok _ (lk_mem h)
  unfold mz_okK1 at h1
  dsimp only at h1
  cases hc : mz_cn[o]? with
  | none => rw [hc] at h1; simp at h1
  | some own =>
    rw [hc] at h1
    dsimp only at h1
    rw [if_pos ho, decide_eq_true_eq] at h1
    rw [cnOf_of hc]
    exact mz_gw h1 rfl
theorem mz_K_get2 {o ix : Nat} {q : Int × Nat} (h : mz_K.lookup (o, ix) = some q) (ho : o ≠ 8) : Jvm.Cond.constantLong (cnOf o) ix (jN q.1) ∈ mz_GW := by
  have h1 := List.all_eq_true.mp mz_K1_ok _ (lk_mem h)
  unfold mz_okK1 at h1
  dsimp only at h1
  cases hc : mz_cn[o]? with
  | none => rw [hc] at h1; simp at h1
  | some own =>
    rw [hc] at h1
    dsimp only at h1
    rw [if_neg ho, decide_eq_true_eq] at h1
    rw [cnOf_of hc]
    exact mz_gw h1 rfl
def Inv (s : State) (D : va_G) (cT : Nat → ClassId) (A : Nat → Prop) (ad0 : Nat → Nat) (n0 : Nat) (Z : ZZ) (M : MM) (ad : Nat → Nat) (H : Heap) (locs : List Loc) : Prop :=
  (∀ k, k < n0 ∨ Z.1.length ≤ k → ad k = ad0 k) ∧ n0 ≤ Z.1.length ∧ Z.1.length ≤ 100000 ∧ wfS Z.1 ∧ va_P D vwCl (wsOf cT ad Z.1 M) H ∧ va_D A (wsOf cT ad Z.1 M) ∧ va_S A s.heap H locs
theorem lk_np {q : Nat} : ((npOf q : Int)).toNat = npOf q := Int.toNat_natCast _
set_option maxHeartbeats 4000000 in
theorem clo_ok {p : Program} {l : Launch} {e : Env} {R : Room} {s : State} {m : MethodId} {args : Array Value} {below : List Frame} {meth : Method} {c : Code} {Qf : State → Prop} {D : va_G} {cT : Nat → ClassId} {A : Nat → Prop} {ad0 : Nat → Nat} {n0 : Nat} {C : CC} {X : XX} {mc ms y d b : Nat} {Rt : RR}
    (hx : p.tables.exec = Jvm.exec) (hb : c.code = mbOf y) (hml : c.maxLocals = mlOf y) (hown : s.vm.findClass (cnOf (ownOf y)) = some m.cls) (hts : ∀ w ∈ mz_GW, w.before args s = true) (hKK : va_K D vwCl (tyL cT) s) (hA : ∀ q, s.heap.size ≤ q → A q) (hE : ExW s) (hRc : R.cells = mc) (hRs : R.slots = ms) (hR : d + 1 ≤ R.frames ∧ 33 * (d + 1) ≤ R.locals) (hmn : nmOf y = "<init>" → meth.name = "<init>")
    (hX : ∀ q, X = some q → va_X b q.1 (fun j => iN (q.2 j)) s s.heap ∧ b < s.heap.size ∧ ¬ A b ∧ ad0 scr = b) (hC : MetS l D cT d C)
    (hrI : ∀ (a : Int) (Z : ZZ) (M : MM) (pc : Nat) (ad : Nat → Nat) (H : Heap) (locs : List Loc) (als : Array Slot), Rt (some (vI a)) Z M → Inv s D cT A ad0 n0 Z M ad H locs → decode (mbOf y) pc = .ok (.ireturn, 1) → W p l e R s m args below meth c H locs Z.2.1 Z.2.2 Qf (F0 m pc als [.int (iN a)]))
    (hrL : ∀ (a : Int) (Z : ZZ) (M : MM) (pc : Nat) (ad : Nat → Nat) (H : Heap) (locs : List Loc) (als : Array Slot), Rt (some (vL a)) Z M → Inv s D cT A ad0 n0 Z M ad H locs → decode (mbOf y) pc = .ok (.lreturn, 1) → W p l e R s m args below meth c H locs Z.2.1 Z.2.2 Qf (F0 m pc als [.long (jN a)]))
    (hrV : ∀ (Z : ZZ) (M : MM) (pc : Nat) (ad : Nat → Nat) (H : Heap) (locs : List Loc) (als : Array Slot), Rt none Z M → Inv s D cT A ad0 n0 Z M ad H locs → decode (mbOf y) pc = .ok (.return_, 1) → W p l e R s m args below meth c H locs Z.2.1 Z.2.2 Qf (F0 m pc als [])) :
    Clo C y X mc ms Rt (SimS p l e R s m args below meth c Qf D cT A (mlOf y) ad0 n0) := by
  intro C' J R' K pc i len i' x ls st Z M hCC hJ hR2 hK hdec hres hw
  have hC' : MetS l D cT d C' := fun z a sh M k n P h => hC z a sh M k n P (hCC _ _ _ _ _ _ _ h)
  have hR1 : 1 ≤ R.frames ∧ 33 ≤ R.locals := ⟨by omega, by omega⟩
  unfold res at hres
  split at hres
  case isFalse => cases hres
  rename_i hlen
  unfold res0 at hres
  split at hres
  · cases hres
    obtain rfl : len = 1 := by simpa [lenOK] using hlen
    exact sn_iload_n hx hb hdec hJ hK hw
  · cases hres
    obtain rfl : len = 1 := by simpa [lenOK] using hlen
    exact sn_lload_n hx hb hdec hJ hK hw
  · cases hres
    obtain rfl : len = 1 := by simpa [lenOK] using hlen
    exact sn_aload_n hx hb hdec hJ hK hw
  · cases hres
    obtain rfl : len = 1 := by simpa [lenOK] using hlen
    exact sn_istore_n hx hb hdec hJ hK hw
  · cases hres
    obtain rfl : len = 1 := by simpa [lenOK] using hlen
    exact sn_lstore_n hx hb hdec hJ hK hw
  · cases hres
    obtain rfl : len = 1 := by simpa [lenOK] using hlen
    exact sn_astore_n hx hb hdec hJ hK hw
  · cases hres
    obtain rfl : len = 2 := by simpa [lenOK] using hlen
    exact sn_iload hx hb hdec hJ hK hw
  · cases hres
    obtain rfl : len = 2 := by simpa [lenOK] using hlen
    exact sn_lload hx hb hdec hJ hK hw
  · cases hres
    obtain rfl : len = 2 := by simpa [lenOK] using hlen
    exact sn_aload hx hb hdec hJ hK hw
  · cases hres
    obtain rfl : len = 2 := by simpa [lenOK] using hlen
    exact sn_istore hx hb hdec hJ hK hw
  · cases hres
    obtain rfl : len = 2 := by simpa [lenOK] using hlen
    exact sn_lstore hx hb hdec hJ hK hw
  · cases hres
    obtain rfl : len = 2 := by simpa [lenOK] using hlen
    exact sn_astore hx hb hdec hJ hK hw
  · cases hres
    obtain rfl : len = 3 := by simpa [lenOK] using hlen
    exact sn_iinc hx hb hdec hJ hK hw
  · cases hres
    obtain rfl : len = 1 := by simpa [lenOK] using hlen
    exact sn_iconst hx hb hdec hJ hK hw
  · split at hres
    · rename_i hh
      cases hres
      obtain rfl : len = 2 := by simpa [lenOK] using hlen
      exact sn_bipush hh hx hb hdec hJ hK hw
    · cases hres
  · split at hres
    · rename_i hh
      cases hres
      obtain rfl : len = 3 := by simpa [lenOK] using hlen
      exact sn_sipush hh hx hb hdec hJ hK hw
    · cases hres
  · cases hres
    obtain rfl : len = 1 := by simpa [lenOK] using hlen
    exact sn_lconst rfl hx hb hdec hJ hK hw
  · split at hres
    · rename_i q hq
      split at hres
      · rename_i hh
        cases hres
        obtain rfl : len = 3 := by simpa [lenOK] using hlen
        exact sn_ldcw hown (hts _ (mz_K_get1 hq hh)) hx hb hdec hJ hK hw
      · cases hres
    · cases hres
  · split at hres
    · rename_i q hq
      split at hres
      · rename_i hh
        cases hres
        obtain rfl : len = 3 := by simpa [lenOK] using hlen
        exact sn_ldc2 hown (hts _ (mz_K_get2 hq hh)) hx hb hdec hJ hK hw
      · cases hres
    · cases hres
  · split at hres
    · rename_i hh
      cases hres
      obtain rfl : len = 3 := by simpa [lenOK] using hlen
      exact sn_goto hh hx hb hdec hJ hK hw
    · cases hres
  · split at hres
    · rename_i hh
      cases hres
      obtain rfl : len = 3 := by simpa [lenOK] using hlen
      exact sn_icmp hh hx hb hdec hJ hK hw
    · cases hres
  · split at hres
    · rename_i hh
      cases hres
      obtain rfl : len = 3 := by simpa [lenOK] using hlen
      exact sn_ifc hh hx hb hdec hJ hK hw
    · cases hres
  · split at hres
    · rename_i hh
      cases hres
      exact sn_table hh.1 hh.2.1 hh.2.2 hx hb hdec hJ hK hw
    · cases hres
  · split at hres
    · rename_i hh
      cases hres
      exact sn_lookup hh.1 hh.2.1 hh.2.2 hx hb hdec hJ hK hw
    · cases hres
  · split at hres
    · rename_i q hq
      cases hres
      obtain rfl : len = 3 := by simpa [lenOK] using hlen
      exact sn_getfield hown hts hKK hq hx hb hdec hK hw
    · cases hres
  · split at hres
    · rename_i q hq
      obtain rfl : len = 3 := by simpa [lenOK] using hlen
      split at hres
      · rename_i hpf
        cases hres
        exact sn_putfield hown hts hKK hq hpf hx hb hdec hK hw
      · rename_i hpf
        cases hres
        exact sn_putref hown hmn rfl hts hKK hq hpf hx hb hdec hK hw
      · cases hres
    · cases hres
  · split at hres
    · rename_i q hq
      split at hres
      · rename_i hh
        cases hres
        obtain rfl : len = 3 := by simpa [lenOK] using hlen
        exact sn_new hown hts hKK hA hRc hRs hq hh hx hb hdec hK hw
      · cases hres
    · cases hres
  · cases hres
    obtain rfl : len = 2 := by simpa [lenOK] using hlen
    exact sn_newarray hts hKK hA hRc hRs hx hb hdec hK hw
  · split at hres
    · rename_i q hq
      split at hres
      · rename_i hh
        cases hres
        obtain rfl : len = 3 := by simpa [lenOK] using hlen
        exact sn_anewarray hE hown hts hKK hA hRc hRs hq hh hx hb hdec hK hw
      · cases hres
    · cases hres
  · split at hres
    · rename_i q hq
      split at hres
      · rename_i hh
        obtain ⟨hh1, rfl⟩ := hh
        cases hres
        obtain rfl : len = 4 := by simpa [lenOK] using hlen
        exact sn_multi hE hown hts hKK hA hRc hRs hq hh1 hx hb hdec hK hw
      · cases hres
    · cases hres
  · split at hres
    · rename_i q hq
      split at hres
      · rename_i hh
        obtain ⟨hn, hh⟩ := hh
        cases hres
        obtain rfl : len = 3 := by simpa [lenOK] using hlen
        rcases mz_L_get hq with ⟨h1, h2⟩ | ⟨h1, h2⟩ | ⟨h1, h2⟩ | ⟨h1, h2⟩ | ⟨ez, h1, h2, h3, h4⟩
        · rw [h1] at hw
          exact sn_copy h2 hml hR1 hown hts hKK hx hb hdec hK hw
        · rw [h1] at hw
          exact sn_max h2 hml hR1 hRc hRs hown hts hx hb hdec hK hw
        · rw [h1] at hw
          exact sn_min h2 hml hR1 hRc hRs hown hts hx hb hdec hK hw
        · rw [h1] at hw
          exact absurd hw (fun h => h)
        · have hw2 : wpc C' mc ms q.1 (npOf q.1) K ls st Z M := by
            have : (if q.1 < 1000 then wpc C' mc ms q.1 ((npOf q.1 : Int)).toNat K ls st Z M else _) := hw
            rw [if_pos (by omega), lk_np] at this
            exact this
          exact sn_static hC' h1 h2 (by rcases hh with hh | hh | hh | hh <;> omega) (h3 hn) hE hml hRc hRs hR hown hts hKK hA hx hb hdec hK hw2
      · cases hres
    · cases hres
  · split at hres
    · rename_i q hq
      split at hres
      · rename_i hh
        obtain ⟨hn, hh, hlt⟩ := hh
        cases hres
        obtain rfl : len = 3 := by simpa [lenOK] using hlen
        rcases mz_L_get hq with ⟨h1, h2⟩ | ⟨h1, h2⟩ | ⟨h1, h2⟩ | ⟨h1, h2⟩ | ⟨ez, h1, h2, h3, h4⟩
        · omega
        · omega
        · omega
        · omega
        · have hw2 : rcv Z.1 st (((npOf q.1 : Int)).toNat - 1) q.1 ∧ wpc C' mc ms q.1 ((npOf q.1 : Int)).toNat K ls st Z M := hw
          rw [lk_np] at hw2
          exact sn_virtual hC' h1 h2 hh (h3 hn) hE hml hRc hRs hR hown hts hKK hA hx hb hdec hK hw2.1 hw2.2
      · cases hres
    · cases hres
  · split at hres
    · rename_i q hq
      split at hres
      · rename_i hh
        cases hres
        obtain rfl : len = 3 := by simpa [lenOK] using hlen
        rcases mz_L_get hq with ⟨h1, h2⟩ | ⟨h1, h2⟩ | ⟨h1, h2⟩ | ⟨h1, h2⟩ | ⟨ez, h1, h2, h3, h4⟩
        · omega
        · omega
        · omega
        · rw [h1] at hw
          exact sn_objinit h2 hml hR1 hown hts hx hb hdec hK hw
        · have hw2 : gR st[npOf q.1 - 1]? (fun _ => True) ∧ wpc C' mc ms q.1 (npOf q.1) K ls st Z M := by
            have : (if q.1 = 1001 then _ else gR st[((npOf q.1 : Int)).toNat - 1]? (fun _ => True) ∧ wpc C' mc ms q.1 ((npOf q.1 : Int)).toNat K ls st Z M) := hw
            rw [if_neg (by omega), lk_np] at this
            exact this
          exact sn_special (qn := q.2.1) hC' h1 h2 (by omega) h3 (fun hn => hE.2.2 _ _ q ez hq hn h1) hE hml hRc hRs hR hown hts hKK hA hx hb hdec hK hw2.1 hw2.2
      · cases hres
    · cases hres
  · cases hres
    obtain rfl : len = 1 := by simpa [lenOK] using hlen
    exact sn_iadd hx hb hdec hJ hK hw
  · cases hres
    obtain rfl : len = 1 := by simpa [lenOK] using hlen
    exact sn_isub hx hb hdec hJ hK hw
  · cases hres
    obtain rfl : len = 1 := by simpa [lenOK] using hlen
    exact sn_imul hx hb hdec hJ hK hw
  · cases hres
    obtain rfl : len = 1 := by simpa [lenOK] using hlen
    exact sn_idiv hx hb hdec hJ hK hw
  · cases hres
    obtain rfl : len = 1 := by simpa [lenOK] using hlen
    exact sn_irem hx hb hdec hJ hK hw
  · cases hres
    obtain rfl : len = 1 := by simpa [lenOK] using hlen
    exact sn_iand hx hb hdec hJ hK hw
  · cases hres
    obtain rfl : len = 1 := by simpa [lenOK] using hlen
    exact sn_ior hx hb hdec hJ hK hw
  · cases hres
    obtain rfl : len = 1 := by simpa [lenOK] using hlen
    exact sn_ixor hx hb hdec hJ hK hw
  · cases hres
    obtain rfl : len = 1 := by simpa [lenOK] using hlen
    exact sn_ishl hx hb hdec hJ hK hw
  · cases hres
    obtain rfl : len = 1 := by simpa [lenOK] using hlen
    exact sn_ishr hx hb hdec hJ hK hw
  · cases hres
    obtain rfl : len = 1 := by simpa [lenOK] using hlen
    exact sn_iushr hx hb hdec hJ hK hw
  · cases hres
    obtain rfl : len = 1 := by simpa [lenOK] using hlen
    exact sn_ladd hx hb hdec hJ hK hw
  · cases hres
    obtain rfl : len = 1 := by simpa [lenOK] using hlen
    exact sn_lsub hx hb hdec hJ hK hw
  · cases hres
    obtain rfl : len = 1 := by simpa [lenOK] using hlen
    exact sn_lmul hx hb hdec hJ hK hw
  · cases hres
    obtain rfl : len = 1 := by simpa [lenOK] using hlen
    exact sn_ldiv hx hb hdec hJ hK hw
  · cases hres
    obtain rfl : len = 1 := by simpa [lenOK] using hlen
    exact sn_lrem hx hb hdec hJ hK hw
  · cases hres
    obtain rfl : len = 1 := by simpa [lenOK] using hlen
    exact sn_land hx hb hdec hJ hK hw
  · cases hres
    obtain rfl : len = 1 := by simpa [lenOK] using hlen
    exact sn_lor hx hb hdec hJ hK hw
  · cases hres
    obtain rfl : len = 1 := by simpa [lenOK] using hlen
    exact sn_lshl hx hb hdec hJ hK hw
  · cases hres
    obtain rfl : len = 1 := by simpa [lenOK] using hlen
    exact sn_lshr hx hb hdec hJ hK hw
  · cases hres
    obtain rfl : len = 1 := by simpa [lenOK] using hlen
    exact sn_lushr hx hb hdec hJ hK hw
  · cases hres
    obtain rfl : len = 1 := by simpa [lenOK] using hlen
    exact sn_lcmp hx hb hdec hJ hK hw
  · cases hres
    obtain rfl : len = 1 := by simpa [lenOK] using hlen
    exact sn_i2l hx hb hdec hJ hK hw
  · cases hres
    obtain rfl : len = 1 := by simpa [lenOK] using hlen
    exact sn_l2i hx hb hdec hJ hK hw
  · cases hres
    obtain rfl : len = 1 := by simpa [lenOK] using hlen
    exact sn_i2b hx hb hdec hJ hK hw
  · cases hres
    obtain rfl : len = 1 := by simpa [lenOK] using hlen
    exact sn_dup hx hb hdec hJ hK hw
  · cases hres
    obtain rfl : len = 1 := by simpa [lenOK] using hlen
    exact sn_dup2 hx hb hdec hJ hK hw
  · cases hres
    obtain rfl : len = 1 := by simpa [lenOK] using hlen
    exact sn_pop hx hb hdec hJ hK hw
  · cases hres
    obtain rfl : len = 1 := by simpa [lenOK] using hlen
    exact sn_iaload hKK hX hx hb hdec hK hw
  · cases hres
    obtain rfl : len = 1 := by simpa [lenOK] using hlen
    exact sn_baload hKK hx hb hdec hK hw
  · cases hres
    obtain rfl : len = 1 := by simpa [lenOK] using hlen
    exact sn_laload hKK hx hb hdec hK hw
  · cases hres
    obtain rfl : len = 1 := by simpa [lenOK] using hlen
    exact sn_aaload hKK hx hb hdec hK hw
  · cases hres
    obtain rfl : len = 1 := by simpa [lenOK] using hlen
    exact sn_iastore hKK hx hb hdec hK hw
  · cases hres
    obtain rfl : len = 1 := by simpa [lenOK] using hlen
    exact sn_bastore hKK hx hb hdec hK hw
  · cases hres
    obtain rfl : len = 1 := by simpa [lenOK] using hlen
    exact sn_lastore hKK hx hb hdec hK hw
  · cases hres
    obtain rfl : len = 1 := by simpa [lenOK] using hlen
    exact sn_aastore hKK hx hb hdec hK hw
  · cases hres
    obtain rfl : len = 1 := by simpa [lenOK] using hlen
    exact sn_alen hKK hX hx hb hdec hK hw
  · cases hres
    obtain rfl : len = 1 := by simpa [lenOK] using hlen
    obtain ⟨a, st, rfl, hq1⟩ := pI_spec hw
    clear hw
    obtain ⟨rfl, hw⟩ := hq1
    intro ad H locs als i1 i2 i3 i4 i5 i6 i7 i8 i9
    exact hrI a Z M pc ad H locs als (hR2 _ _ _ hw) ⟨i1, i2, i3, i4, i7, i8, i9⟩ hdec
  · cases hres
    obtain rfl : len = 1 := by simpa [lenOK] using hlen
    obtain ⟨a, st, rfl, hq1⟩ := pL_spec hw
    clear hw
    obtain ⟨rfl, hw⟩ := hq1
    intro ad H locs als i1 i2 i3 i4 i5 i6 i7 i8 i9
    exact hrL a Z M pc ad H locs als (hR2 _ _ _ hw) ⟨i1, i2, i3, i4, i7, i8, i9⟩ hdec
  · cases hres
    obtain rfl : len = 1 := by simpa [lenOK] using hlen
    have hw2 : st = [] ∧ R' none Z M := hw
    clear hw
    obtain ⟨rfl, hw⟩ := hw2
    intro ad H locs als i1 i2 i3 i4 i5 i6 i7 i8 i9
    exact hrV Z M pc ad H locs als (hR2 _ _ _ hw) ⟨i1, i2, i3, i4, i7, i8, i9⟩ hdec
  · cases hres
end
section
/-! a method that runs in the small machine meets its contract in the machine itself -/
theorem lg_len (ad : Nat → Nat) : ∀ a : List AV, (lg_sl (a.map (cvV ad))).length = cats a
  | [] => rfl
  | v :: t => by
    have := lg_len ad t
    unfold lg_sl at this ⊢
    rw [List.map_cons, List.flatMap_cons, List.length_append, this, cats]
    congr 1
    rcases v with a | a | a <;> rfl
theorem sls_len : ∀ a : List AV, (sls a).length = cats a
  | [] => rfl
  | v :: t => by
    have := sls_len t
    rcases v with a | a | a <;> simp [sls, cats, cat, is2, this] <;> omega
theorem sls_args (ad : Nat → Nat) : ∀ (a : List AV) (n i k : Nat) (u : AV), lget (sls a ++ List.replicate n none) k = some u → (i + k, cvV ad u) ∈ lv_args i (a.map (cvV ad))
  | [], n, i, k, u, h => by
    exfalso
    have : ∀ (n k : Nat), lget (List.replicate n none) k = none := by
      intro n
      induction n with
      | zero => intro k; rfl
      | succ n ih => intro k; cases k with
        | zero => rfl
        | succ k => exact ih k
    rw [show sls [] = [] from rfl, List.nil_append, this] at h
    cases h
  | Sum.inl a :: t, n, i, 0, u, h => by cases h; exact List.mem_cons_self
  | Sum.inl a :: t, n, i, k + 1, u, h => by
    have := sls_args ad t n (i + 1) k u h
    rw [show i + 1 + k = i + (k + 1) by omega] at this
    exact List.mem_cons_of_mem _ this
  | Sum.inr (Sum.inr a) :: t, n, i, 0, u, h => by cases h; exact List.mem_cons_self
  | Sum.inr (Sum.inr a) :: t, n, i, k + 1, u, h => by
    have := sls_args ad t n (i + 1) k u h
    rw [show i + 1 + k = i + (k + 1) by omega] at this
    exact List.mem_cons_of_mem _ this
  | Sum.inr (Sum.inl a) :: t, n, i, 0, u, h => by cases h; exact List.mem_cons_self
  | Sum.inr (Sum.inl a) :: t, n, i, 1, u, h => by cases h
  | Sum.inr (Sum.inl a) :: t, n, i, k + 2, u, h => by
    have := sls_args ad t n (i + 2) k u h
    rw [show i + 2 + k = i + (k + 2) by omega] at this
    exact List.mem_cons_of_mem _ this
theorem ent_loc (ad : Nat → Nat) (a : List AV) {n : Nat} (h : cats a ≤ n) : LocR ad (entL n a) ((lg_sl (a.map (cvV ad)) ++ List.replicate (n - (lg_sl (a.map (cvV ad))).length) Slot.unset).toArray) := by
  have h1 := lv_entry (a.map (cvV ad)) (n := n) (by rw [lg_len]; exact h)
  refine ⟨?_, h1.2.1, fun q hq => ?_⟩
  · rw [h1.1]
    unfold entL
    rw [List.length_append, List.length_replicate, sls_len]
    omega
  · obtain ⟨k, u, h2, rfl⟩ := (llst_mem ad _ 0 q).mp hq
    exact h1.2.2 _ (sls_args ad a _ 0 k u h2)
theorem ent_len (a : List AV) {n : Nat} (h : cats a ≤ n) : (entL n a).length = n := by
  unfold entL
  rw [List.length_append, List.length_replicate, sls_len]
  omega
theorem rok_I {t : Option FieldType} {a : Int} (h : rok t (some (vI a))) : t = some .int ∨ (t = some .boolean ∧ (a = 0 ∨ a = 1)) := by
  match t, h with
  | none, h => exact h.elim
  | some .int, h => exact Or.inl rfl
  | some .boolean, h => exact Or.inr ⟨rfl, h⟩
  | some .byte, h => exact h.elim
  | some .char, h => exact h.elim
  | some .short, h => exact h.elim
  | some .long, h => exact h.elim
  | some .float, h => exact h.elim
  | some .double, h => exact h.elim
  | some (.object _), h => exact h.elim
  | some (.array _), h => exact h.elim
theorem rok_L {t : Option FieldType} {a : Int} (h : rok t (some (vL a))) : t = some .long := by
  match t, h with
  | none, h => exact h.elim
  | some .int, h => exact h.elim
  | some .boolean, h => exact h.elim
  | some .byte, h => exact h.elim
  | some .char, h => exact h.elim
  | some .short, h => exact h.elim
  | some .long, h => rfl
  | some .float, h => exact h.elim
  | some .double, h => exact h.elim
  | some (.object _), h => exact h.elim
  | some (.array _), h => exact h.elim
theorem rok_V {t : Option FieldType} (h : rok t none) : t = none := by
  match t, h with
  | none, h => rfl
  | some .int, h => exact h.elim
  | some .boolean, h => exact h.elim
  | some .byte, h => exact h.elim
  | some .char, h => exact h.elim
  | some .short, h => exact h.elim
  | some .long, h => exact h.elim
  | some .float, h => exact h.elim
  | some .double, h => exact h.elim
  | some (.object _), h => exact h.elim
  | some (.array _), h => exact h.elim
set_option maxHeartbeats 4000000 in
theorem met_run (l : Launch) (D : va_G) (cT : Nat → ClassId) : ∀ d : Nat, MetS l D cT d (Run d)
  | 0 => fun _ _ _ _ _ _ _ h => h.elim
  | d + 1 => by
    intro z a sh M k n Post hrun e he hz ad sz
    obtain ⟨hcode, hok⟩ := mz_T_get he hz
    obtain ⟨w1, w2, w3, w4, w5, w6, w7, w8, w9, w10⟩ := okM_spec hok
    have hmb : mbOf z = e.2.1 := by unfold mbOf; rw [he]
    have hml0 : mlOf z = e.2.2.1 := by unfold mlOf; rw [he]
    have hmr : mrOf z = e.2.2.2.1 := by unfold mrOf; rw [he]
    have hmo : ownOf z = e.2.2.2.2.2.1 := by unfold ownOf; rw [he]
    have hmn : nmOf z = e.1.name := by unfold nmOf; rw [he]
    refine Met.ofW (cc := e.2.1) (maxL := e.2.2.1) (ret := e.2.2.2.1) w5 rfl ?_
    intro p en s m args below meth c s₁ B hml hv
    obtain ⟨rfl, hsz, hlen, hwf, hP, hK, hD0, hE⟩ := hv
    have hx := B.exec
    have hb := B.bytes
    have hr := B.returns
    have hts0 := atoms_spec (ws := Cond.code e.1 e.2.1 e.2.2.1 e.2.2.2.1 :: mz_GW) B.pre
    have hts : ∀ w ∈ mz_GW, w.before (a.map (cvV ad)).toArray s = true := fun w hw => hts0 w (List.mem_cons_of_mem _ hw)
    have hown : s.vm.findClass (cnOf (ownOf z)) = some m.cls := by
      rw [hmo, cnOf_of w7]
      exact findClass_of_methodNamed B.named
    have hlocks := B.notSynchronized
    have hnm : nmOf z = "<init>" → meth.name = "<init>" := fun h => by
      rw [hmn] at h
      rw [← h]
      exact (name_of_methodNamed B.named B.method).1
    subst hsz
    have hD := hD0.self (sz := s.heap.size)
    generalize hAe : va_A (wsOf cT ad sh M) s.heap.size = A at hD ⊢
    have hA : ∀ q : Nat, s.heap.size ≤ q → A q := fun q h => by rw [← hAe]; exact Or.inr h
    have hS : va_S A s.heap s.heap [] := va_S.rf
    have hr2 : meth.sig.returnType = mrOf z := by rw [hmr]; exact hr
    have hclo : Clo (Run d) z none k n (Rtn z k n Post) (SimS p l en (headSpec (Cond.code e.1 e.2.1 e.2.2.1 e.2.2.2.1 :: mz_GW) { frames := d + 1, cells := k, slots := n, locals := 33 * (d + 1) }).room s m (a.map (cvV ad)).toArray below meth c (MQ below (QM D cT e.2.2.2.1 Post sh ad A) (a.map (cvV ad)).toArray s k n A) D cT A (mlOf z) ad sh.length) := by
      refine clo_ok (b := 0) hx (by rw [hmb]; exact hb) (by rw [hml0]; exact hml) hown hts hK hA hE rfl rfl ⟨Nat.le_refl _, Nat.le_refl _⟩ hnm (fun q hq => by cases hq) (met_run l D cT d) ?_ ?_ ?_
      · intro v Z M' pc ad' H locs als hR hI hdg
        obtain ⟨g1, g2, g3, g4⟩ := hR
        obtain ⟨j1, j2, j3, j4, j7, j8, j9⟩ := hI
        refine W.widen g1 g2 ?_
        have hq : ∀ t : State, t.heap = H → s.WarmedH t.vm → QM D cT e.2.2.2.1 Post sh ad A (a.map (cvV ad)).toArray s (.returned (some (.int (iN v)))) t := fun t ht hW => ⟨⟨some (vI v), Z.1, M', ad', rfl, by rw [← hmr]; exact g3, g4, j1, j2, j3, j4, by rw [ht]; exact j7, j8⟩, j9.F ht⟩
        rcases rok_I g3 with g5 | ⟨g5, g6⟩
        · exact W.iret hx (by rw [hmb]; exact hb) (by rw [hr2, g5]) hq j9.2.2 hdg
        · exact W.zret (ty := .boolean) hx (by rw [hmb]; exact hb) (by rw [hr2, g5]) (by rcases g6 with rfl | rfl <;> decide) hq j9.2.2 hdg
      · intro v Z M' pc ad' H locs als hR hI hdg
        obtain ⟨g1, g2, g3, g4⟩ := hR
        obtain ⟨j1, j2, j3, j4, j7, j8, j9⟩ := hI
        refine W.widen g1 g2 ?_
        have hq : ∀ t : State, t.heap = H → s.WarmedH t.vm → QM D cT e.2.2.2.1 Post sh ad A (a.map (cvV ad)).toArray s (.returned (some (.long (jN v)))) t := fun t ht hW => ⟨⟨some (vL v), Z.1, M', ad', rfl, by rw [← hmr]; exact g3, g4, j1, j2, j3, j4, by rw [ht]; exact j7, j8⟩, j9.F ht⟩
        exact W.lret hx (by rw [hmb]; exact hb) (by rw [hr2, rok_L g3]) hq j9.2.2 hdg
      · intro Z M' pc ad' H locs als hR hI hdg
        obtain ⟨g1, g2, g3, g4⟩ := hR
        obtain ⟨j1, j2, j3, j4, j7, j8, j9⟩ := hI
        refine W.widen g1 g2 ?_
        have hq : ∀ t : State, t.heap = H → s.WarmedH t.vm → QM D cT e.2.2.2.1 Post sh ad A (a.map (cvV ad)).toArray s (.returned none) t := fun t ht hW => ⟨⟨none, Z.1, M', ad', rfl, by rw [← hmr]; exact g3, g4, j1, j2, j3, j4, by rw [ht]; exact j7, j8⟩, j9.F ht⟩
        exact W.vret hx (by rw [hmb]; exact hb) (by rw [hr2, rok_V g3]) hq j9.2.2 hdg
    have hS0 := hrun.2 _ hclo ad s.heap [] ((lg_sl (a.map (cvV ad)) ++ List.replicate (e.2.2.1 - (lg_sl (a.map (cvV ad))).length) Slot.unset).toArray) (fun k _ => rfl) (Nat.le_refl _) hlen hwf (ent_len a hrun.1) (by rw [← hml0]; exact ent_loc ad a hrun.1) hP hD hS
    rw [lg_entry_eq]
    exact hS0
end
section
/-! THE CLAIM OUT OF ONE WALK OF THE LAW'S BODY. Your part is whole_start (and what it stands on); all else here is the same for every law, but numbers. -/
def R_law : String := "OwnSundayLaw"
def lw_P (b : Addr) (xs : List Int32) (args : Array Value) (s : State) : Prop := args = #[.ref b] ∧ s.IntsAt b xs ∧ xs.length ≤ 3072 ∧ (Jvm.Cond.and given_1 narrow_1).before args s = true
def lw_Q (_ : Array Value) (s : State) (o : Outcome) (t : State) : Prop := o = .returned (some (.int 1)) ∧ Framed s o t [] 600000 7302250
def lw_Z (below : List Frame) (a : Array Value) (s : State) : State → Prop := fun t => ∃ o, t.status = .running ∧ Ended t below o ∧ lw_Q a s o t
/-- the law's own end, with 1 on the stack, nothing written that was there before, its room as the claim has it -/
theorem lw_ret {p : Program} {l : Launch} {e : Env} {s : State} {m : MethodId} {below : List Frame} {meth : Method} {c : Code} {b : Nat} (hx : p.tables.exec = Jvm.exec) (hb : c.code = code) (hr : meth.sig.returnType = ret) (hlocks : meth.locks = false) {pc : Nat} {H : Heap} {ls : Array Slot} (hdg : decode code pc = .ok (.ireturn, 1)) : W p l e room_1 s m #[Value.ref b] below meth c H [] 600000 7302250 (lw_Z below #[Value.ref b] s) (F0 m pc ls [.int 1]) := by
  intro T hT X
  obtain ⟨fs, hret, hrun, hended, hW, hframe⟩ := X.leave (v := some (.int 1)) (hlocks := hlocks) (fun h => by rw [hr] at h; cases h)
  have hmeth' : T.vm.method? m = some meth := X.method'
  refine ⟨T.setFrames fs, ?_, .returned (some (.int 1)), hrun, hended, rfl, ⟨_, rfl⟩, hW, hframe⟩
  jvm_step X.here [X.here.top, hx, hb, hdg, hmeth', hr, ret, narrow_b1]
  (try refine ⟨rfl, ?_⟩); (try refine ⟨rfl, ?_⟩)
  first | (intro acts; rw [hret _ acts rfl rfl rfl]) | rw [hret _ _ rfl rfl rfl]
  exact Steps.refl _
/-- what holds at the law's entry: the machine, the code, the tables' words (any of lw_tbl by 'hts w (by decide +kernel)'), the script of L ints xs at the cell b, what the Statement gives of the start (any of its parts by flat_of_before) -/
def lw_At (p : Program) (s : State) (m : MethodId) (meth : Method) (c : Code) (b L : Nat) (xs : Nat → Int32) : Prop :=
  p.tables.exec = Jvm.exec ∧ c.code = code ∧ meth.sig.returnType = ret ∧ c.maxLocals = 4 ∧ s.vm.findClass R_law = some m.cls ∧ (∀ w ∈ lw_tbl, w.before #[Value.ref b] s = true) ∧ va_X b L xs s s.heap ∧ b < s.heap.size ∧ meth.locks = false ∧ (Jvm.Cond.and given_1 narrow_1).before #[Value.ref b] s = true
def RtL : RR := fun r Z _ => r = some (vI 1) ∧ Z.2.1 ≤ 600000 ∧ Z.2.2 ≤ 7302250
/-- the law in the small machine, from its entry -/
def LawOK (L : Nat) (xs : Nat → Int) : Prop := ∀ S : Nat → KK, Clo (Run 10) 163 (some (L, xs)) 600000 7302250 RtL S → S 0 [some (vR scr), none, none, none] [] ([], 0, 0) (fun _ _ => 0)
set_option maxRecDepth 100000 in
theorem mz_law : mz_T[163]? = some (yL_law, cL_law, 4, some .boolean, 0, 7, 1, 0, 0, 0, 62) := rfl
theorem cn_7 : cnOf 7 = R_law := rfl
set_option maxHeartbeats 4000000 in
set_option maxRecDepth 100000 in
theorem start_of {p : Program} {e : Env} {s : State} {m : MethodId} {below : List Frame} {meth : Method} {c : Code} (l : Launch) {b L : Nat} {xs : Nat → Int32} (hrun : LawOK L (fun j => (xs j).toInt)) (C0 : lw_At p s m meth c b L xs) : W p l e room_1 s m #[Value.ref b] below meth c s.heap [] 0 0 (lw_Z below #[Value.ref b] s) (entryFrame m ([Value.ref b] : List Value).toArray 4) := by
  obtain ⟨hx, hb, hr, hml, hown, hts0, hX, hbl, hlocks, hgv⟩ := id C0
  have hts : ∀ w ∈ mz_GW, w.before #[Value.ref b] s = true := fun w hw => hts0 w (List.mem_filter.mp hw).1
  have hA : ∀ q : Nat, s.heap.size ≤ q → (fun q : Nat => s.heap.size ≤ q) q := fun _ h => h
  have hbA : ¬ (fun q : Nat => s.heap.size ≤ q) b := Nat.not_le.mpr hbl
  have hKn : ∀ (ci : Nat), ∃ (cC : ClassId) (iS : Nat → Nat), ∀ q : vw_C, vwCl[ci]? = some q → u_Kn s q.1 q.2.1 q.2.2 cC iS := by
    intro ci
    cases hq : vwCl[ci]? with
    | none => exact ⟨0, fun _ => 0, fun q h => by cases h⟩
    | some q =>
      obtain ⟨cC, iS, h⟩ := u_known (C := q.1) (T := q.2.1) (N := q.2.2) (n := q.2.2) hts (mz_in hq) (hts _ (mz_mk hq).1)
      exact ⟨cC, iS, fun q2 h2 => by cases h2; exact h⟩
  have hArr : ∀ (k : Nat), ∃ cA : ClassId, ∀ ty : FieldType, (tyL (fun _ => 0))[k]? = some (0, ty) → ArrOfT s cA ty ∧ va_RA s cA ty := by
    intro k
    match k with
    | 0 =>
      obtain ⟨cA, kA, comp, h1, h2, h3⟩ := Cond.arrayClass_spec (hts _ mz_ac.1)
      exact ⟨cA, fun ty h => by cases h; exact ⟨fun n z => ⟨fun k h => (by cases h), kA, h2, comp, h3⟩, h1⟩⟩
    | 1 =>
      obtain ⟨cA, kA, comp, h1, h2, h3⟩ := Cond.arrayClass_spec (hts _ mz_ac.2.1)
      exact ⟨cA, fun ty h => by cases h; exact ⟨fun n z => ⟨fun k h => (by cases h), kA, h2, comp, h3⟩, h1⟩⟩
    | 2 =>
      obtain ⟨cA, kA, comp, h1, h2, h3⟩ := Cond.arrayClass_spec (hts _ mz_ac.2.2.1)
      exact ⟨cA, fun ty h => by cases h; exact ⟨fun n z => ⟨fun k h => (by cases h), kA, h2, comp, h3⟩, h1⟩⟩
    | 3 =>
      obtain ⟨cA, kA, comp, h1, h2, h3⟩ := Cond.arrayClass_spec (hts _ mz_ac.2.2.2)
      exact ⟨cA, fun ty h => by cases h; exact ⟨fun n z => ⟨fun k h => (by cases h), kA, h2, comp, h3⟩, h1⟩⟩
    | 4 =>
      obtain ⟨comp, cA, kA, h1, h2, h3, h4, h5⟩ := Cond.arrayOver_spec (hts0 (Cond.arrayOver (.object "OwnSunday$Book")) (by decide +kernel))
      exact ⟨cA, fun ty h => by cases h; exact ⟨fun n z => ⟨fun k h => (by cases h), kA, h3, comp, h4⟩, kA, comp, h3, h4, h1, h5⟩⟩
    | 5 =>
      obtain ⟨comp, cA, kA, h1, h2, h3, h4, h5⟩ := Jvm.Stand.arrayOver_specB (hts0 (Cond.arrayOver (.array .int)) (by decide +kernel))
      exact ⟨cA, fun ty h => by cases h; exact ⟨fun n z => ⟨fun k h => (by cases h), kA, h3, comp, h4⟩, h5⟩⟩
    | k + 6 => exact ⟨0, fun ty h => by cases h⟩
  obtain ⟨D, hD1⟩ : ∃ D : va_G, ∀ (ci : Nat) (q : vw_C), vwCl[ci]? = some q → u_Kn s q.1 q.2.1 q.2.2 (D.1 ci) (D.2 ci) :=
    ⟨(fun ci => Classical.choose (hKn ci), fun ci => Classical.choose (Classical.choose_spec (hKn ci))), fun ci q hq => Classical.choose_spec (Classical.choose_spec (hKn ci)) q hq⟩
  obtain ⟨cT, hcT⟩ : ∃ cT : Nat → ClassId, ∀ (k : Nat) (ty : FieldType), (tyL (fun _ => 0))[k]? = some (0, ty) → ArrOfT s (cT k) ty ∧ va_RA s (cT k) ty :=
    ⟨fun k => Classical.choose (hArr k), fun k ty h => Classical.choose_spec (hArr k) ty h⟩
  have hKK : va_K D vwCl (tyL cT) s := by
    refine ⟨hD1, fun k q hq => ?_⟩
    match k, hq with
    | 0, hq => cases hq; exact hcT 0 _ rfl
    | 1, hq => cases hq; exact hcT 1 _ rfl
    | 2, hq => cases hq; exact hcT 2 _ rfl
    | 3, hq => cases hq; exact hcT 3 _ rfl
    | 4, hq => cases hq; exact hcT 4 _ rfl
    | 5, hq => cases hq; exact hcT 5 _ rfl
    | k + 6, hq => cases hq
  have hE : ExW s := ⟨va_AO.of (hts0 (Cond.arrayOver (.object "OwnSunday$Book")) (by decide +kernel)), va_AOA.of (hts0 (Cond.arrayOver (.array .int)) (by decide +kernel)), fun o ix q e h1 h2 h3 => by
    rcases mz_L_get h1 with ⟨g1, g2⟩ | ⟨g1, g2⟩ | ⟨g1, g2⟩ | ⟨g1, g2⟩ | ⟨ez, g1, g2, g3, g4⟩
    · rw [g1] at h3; cases h3
    · rw [g1] at h3; cases h3
    · rw [g1] at h3; cases h3
    · rw [g1] at h3; cases h3
    · rw [g1] at h3
      cases h3
      exact va_Nw.of rfl (hts0 _ (g4 h2))⟩
  have hmb : mbOf 163 = code := by unfold mbOf; rw [mz_law]
  have hml0 : mlOf 163 = 4 := by unfold mlOf; rw [mz_law]
  have hmo : ownOf 163 = 7 := by unfold ownOf; rw [mz_law]
  have hclo : Clo (Run 10) 163 (some (L, fun j => (xs j).toInt)) 600000 7302250 RtL (SimS p l e room_1 s m #[Value.ref b] below meth c (lw_Z below #[Value.ref b] s) D cT (fun q : Nat => s.heap.size ≤ q) (mlOf 163) (fun _ => b) 0) := by
    refine clo_ok (b := b) (d := 10) hx (by rw [hmb]; exact hb) (by rw [hml0]; exact hml) (by rw [hmo, cn_7]; exact hown) hts hKK hA hE rfl rfl ⟨by decide, by decide⟩ (fun h => by
      unfold nmOf at h
      rw [mz_law] at h
      exact absurd h (by decide)) (fun q hq => by
      cases hq
      refine ⟨?_, hbl, hbA, rfl⟩
      have : (fun j => iN ((xs j).toInt)) = xs := funext (fun j => iN_of _)
      show va_X b L (fun j => iN ((xs j).toInt)) s s.heap
      rw [this]
      exact hX) (met_run l D cT 10) ?_ ?_ ?_
    · intro v Z M' pc ad' H locs als hR hI hdg
      obtain ⟨g1, g2, g3⟩ := hR
      cases g1
      obtain ⟨j1, j2, j3, j4, j7, j8, j9⟩ := hI
      refine va_forget (fun q hq => j9.2.2 q hq) ?_
      refine W.widen g2 g3 ?_
      rw [hmb] at hdg
      exact lw_ret hx hb hr hlocks hdg
    · intro v Z M' pc ad' H locs als hR
      cases hR.1
    · intro Z M' pc ad' H locs als hR
      cases hR.1
  have hS0 := hrun _ hclo (fun _ => b) s.heap [] ((lg_sl [Value.ref b] ++ List.replicate (4 - (lg_sl [Value.ref b]).length) Slot.unset).toArray) (fun k _ => rfl) (Nat.le_refl _) (by decide) (fun k x h => by simp at h) (by rw [hml0]; rfl) (ent_loc (fun _ => b) [vR scr] (n := 4) (by decide)) (fun k q h => by simp [wsOf] at h) ⟨fun i j p q h => by simp [wsOf] at h, fun k q h => by simp [wsOf] at h⟩ va_S.rf
  rw [lg_entry_eq]
  exact hS0
end
section
/-! the heap behind both constructors, and what the small machine does, row by row -/
def sh0 : List SC := [Sum.inr (5, [some (some 1), none, some (some 2), some (some 5), some (some 13), some (some 18), some (some 26), some (some 31), none, some (some 32), some (some 37), some (some 44)]),
  Sum.inl (1, 400, mz_nul),
  Sum.inr (1, [some (some 3), some (some 4)]),
  Sum.inl (0, 4, mz_nul),
  Sum.inl (0, 10, mz_nul),
  Sum.inr (3, [some (some 6), none, some (some 7), some (some 8), some (some 9), none, some (some 10), some (some 11), some (some 12), none]),
  Sum.inl (0, 2, mz_nul),
  Sum.inl (0, 10, mz_nul),
  Sum.inl (0, 10, mz_nul),
  Sum.inl (0, 5, mz_nul),
  Sum.inl (0, 6, mz_nul),
  Sum.inl (0, 6, mz_nul),
  Sum.inl (0, 6, mz_nul),
  Sum.inr (0, [some (some 14), some (some 15), none, none, some (some 16), some (some 17), none]),
  Sum.inl (0, 10, mz_nul),
  Sum.inl (0, 10, mz_nul),
  Sum.inl (3, 20, mz_nul),
  Sum.inl (0, 20, mz_nul),
  Sum.inr (3, [some (some 19), none, some (some 20), some (some 21), some (some 22), none, some (some 23), some (some 24), some (some 25), none]),
  Sum.inl (0, 2, mz_nul),
  Sum.inl (0, 10, mz_nul),
  Sum.inl (0, 10, mz_nul),
  Sum.inl (0, 5, mz_nul),
  Sum.inl (0, 6, mz_nul),
  Sum.inl (0, 6, mz_nul),
  Sum.inl (0, 6, mz_nul),
  Sum.inr (0, [some (some 27), some (some 28), none, none, some (some 29), some (some 30), none]),
  Sum.inl (0, 10, mz_nul),
  Sum.inl (0, 10, mz_nul),
  Sum.inl (3, 20, mz_nul),
  Sum.inl (0, 20, mz_nul),
  Sum.inl (4, 2, (fun z => if z = 1 then some 50 else if z = 0 then some 45 else none)),
  Sum.inr (2, [some (some 33), some (some 34), none]),
  Sum.inl (0, 2, mz_nul),
  Sum.inl (5, 2, (fun z => if z = 1 then some 36 else if z = 0 then some 35 else none)),
  Sum.inl (0, 12, mz_nul),
  Sum.inl (0, 12, mz_nul),
  Sum.inr (4, [none, some (some 38), some (some 39), some (some 40), some (some 41), none, none, none, some (some 42), some (some 43)]),
  Sum.inl (0, 3, mz_nul),
  Sum.inl (0, 3, mz_nul),
  Sum.inl (0, 3, mz_nul),
  Sum.inl (0, 3, mz_nul),
  Sum.inl (0, 3, mz_nul),
  Sum.inl (0, 3, mz_nul),
  Sum.inl (0, 5, mz_nul),
  Sum.inr (0, [some (some 46), some (some 47), none, none, some (some 48), some (some 49), none]),
  Sum.inl (0, 10, mz_nul),
  Sum.inl (0, 10, mz_nul),
  Sum.inl (3, 20, mz_nul),
  Sum.inl (0, 20, mz_nul),
  Sum.inr (0, [some (some 51), some (some 52), none, none, some (some 53), some (some 54), none]),
  Sum.inl (0, 10, mz_nul),
  Sum.inl (0, 10, mz_nul),
  Sum.inl (3, 20, mz_nul),
  Sum.inl (0, 20, mz_nul),
  Sum.inr (6, [none, some (some 56), none, some (some 57), some (some 58), some (some 59), some (some 60), some (some 61), some (some 62), some (some 63), some (some 64), none, some (some 65), some (some 66), some (some 67), none, some (some 68), some (some 69), some (some 70), some (some 71), some (some 72), some (some 73), some (some 74), some (some 75), some (some 76), none, none, some (some 77), some (some 78), none]),
  Sum.inl (1, 400, mz_nul),
  Sum.inl (0, 4, mz_nul),
  Sum.inl (0, 2, mz_nul),
  Sum.inl (0, 2, mz_nul),
  Sum.inl (0, 2, mz_nul),
  Sum.inl (0, 80, mz_nul),
  Sum.inl (0, 10, mz_nul),
  Sum.inl (0, 36, mz_nul),
  Sum.inl (2, 20, mz_nul),
  Sum.inl (3, 20, mz_nul),
  Sum.inl (0, 20, mz_nul),
  Sum.inl (2, 20, mz_nul),
  Sum.inl (0, 40, mz_nul),
  Sum.inl (2, 20, mz_nul),
  Sum.inl (0, 2, mz_nul),
  Sum.inl (3, 40, mz_nul),
  Sum.inl (0, 40, mz_nul),
  Sum.inl (2, 40, mz_nul),
  Sum.inl (0, 10, mz_nul),
  Sum.inl (0, 10, mz_nul),
  Sum.inl (0, 10, mz_nul),
  Sum.inl (0, 5, mz_nul),
  Sum.inl (0, 4, mz_nul)]
theorem CLS : cls sh0 0 = some 5 ∧
    cls sh0 2 = some 1 ∧
    cls sh0 5 = some 3 ∧
    cls sh0 13 = some 0 ∧
    cls sh0 18 = some 3 ∧
    cls sh0 26 = some 0 ∧
    cls sh0 32 = some 2 ∧
    cls sh0 37 = some 4 ∧
    cls sh0 45 = some 0 ∧
    cls sh0 50 = some 0 ∧
    cls sh0 55 = some 6 := by
  refine ⟨?_, ?_, ?_, ?_, ?_, ?_, ?_, ?_, ?_, ?_, ?_⟩
  all_goals rfl
theorem FLD : fld sh0 0 0 = some (some (some 1)) ∧
    fld sh0 0 1 = some none ∧
    fld sh0 0 2 = some (some (some 2)) ∧
    fld sh0 0 3 = some (some (some 5)) ∧
    fld sh0 0 4 = some (some (some 13)) ∧
    fld sh0 0 5 = some (some (some 18)) ∧
    fld sh0 0 6 = some (some (some 26)) ∧
    fld sh0 0 7 = some (some (some 31)) ∧
    fld sh0 0 8 = some none ∧
    fld sh0 0 9 = some (some (some 32)) ∧
    fld sh0 0 10 = some (some (some 37)) ∧
    fld sh0 0 11 = some (some (some 44)) ∧
    fld sh0 2 0 = some (some (some 3)) ∧
    fld sh0 2 1 = some (some (some 4)) ∧
    fld sh0 5 0 = some (some (some 6)) ∧
    fld sh0 5 1 = some none ∧
    fld sh0 5 2 = some (some (some 7)) ∧
    fld sh0 5 3 = some (some (some 8)) ∧
    fld sh0 5 4 = some (some (some 9)) ∧
    fld sh0 5 5 = some none ∧
    fld sh0 5 6 = some (some (some 10)) ∧
    fld sh0 5 7 = some (some (some 11)) ∧
    fld sh0 5 8 = some (some (some 12)) ∧
    fld sh0 5 9 = some none ∧
    fld sh0 13 0 = some (some (some 14)) ∧
    fld sh0 13 1 = some (some (some 15)) ∧
    fld sh0 13 2 = some none ∧
    fld sh0 13 3 = some none ∧
    fld sh0 13 4 = some (some (some 16)) ∧
    fld sh0 13 5 = some (some (some 17)) ∧
    fld sh0 13 6 = some none ∧
    fld sh0 18 0 = some (some (some 19)) ∧
    fld sh0 18 1 = some none ∧
    fld sh0 18 2 = some (some (some 20)) ∧
    fld sh0 18 3 = some (some (some 21)) ∧
    fld sh0 18 4 = some (some (some 22)) ∧
    fld sh0 18 5 = some none ∧
    fld sh0 18 6 = some (some (some 23)) ∧
    fld sh0 18 7 = some (some (some 24)) ∧
    fld sh0 18 8 = some (some (some 25)) ∧
    fld sh0 18 9 = some none ∧
    fld sh0 26 0 = some (some (some 27)) ∧
    fld sh0 26 1 = some (some (some 28)) ∧
    fld sh0 26 2 = some none ∧
    fld sh0 26 3 = some none ∧
    fld sh0 26 4 = some (some (some 29)) ∧
    fld sh0 26 5 = some (some (some 30)) ∧
    fld sh0 26 6 = some none ∧
    fld sh0 32 0 = some (some (some 33)) ∧
    fld sh0 32 1 = some (some (some 34)) ∧
    fld sh0 32 2 = some none ∧
    fld sh0 37 0 = some none ∧
    fld sh0 37 1 = some (some (some 38)) ∧
    fld sh0 37 2 = some (some (some 39)) ∧
    fld sh0 37 3 = some (some (some 40)) ∧
    fld sh0 37 4 = some (some (some 41)) ∧
    fld sh0 37 5 = some none ∧
    fld sh0 37 6 = some none ∧
    fld sh0 37 7 = some none ∧
    fld sh0 37 8 = some (some (some 42)) ∧
    fld sh0 37 9 = some (some (some 43)) ∧
    fld sh0 45 0 = some (some (some 46)) ∧
    fld sh0 45 1 = some (some (some 47)) ∧
    fld sh0 45 2 = some none ∧
    fld sh0 45 3 = some none ∧
    fld sh0 45 4 = some (some (some 48)) ∧
    fld sh0 45 5 = some (some (some 49)) ∧
    fld sh0 45 6 = some none ∧
    fld sh0 50 0 = some (some (some 51)) ∧
    fld sh0 50 1 = some (some (some 52)) ∧
    fld sh0 50 2 = some none ∧
    fld sh0 50 3 = some none ∧
    fld sh0 50 4 = some (some (some 53)) ∧
    fld sh0 50 5 = some (some (some 54)) ∧
    fld sh0 50 6 = some none ∧
    fld sh0 55 0 = some none ∧
    fld sh0 55 1 = some (some (some 56)) ∧
    fld sh0 55 2 = some none ∧
    fld sh0 55 3 = some (some (some 57)) ∧
    fld sh0 55 4 = some (some (some 58)) ∧
    fld sh0 55 5 = some (some (some 59)) ∧
    fld sh0 55 6 = some (some (some 60)) ∧
    fld sh0 55 7 = some (some (some 61)) ∧
    fld sh0 55 8 = some (some (some 62)) ∧
    fld sh0 55 9 = some (some (some 63)) ∧
    fld sh0 55 10 = some (some (some 64)) ∧
    fld sh0 55 11 = some none ∧
    fld sh0 55 12 = some (some (some 65)) ∧
    fld sh0 55 13 = some (some (some 66)) ∧
    fld sh0 55 14 = some (some (some 67)) ∧
    fld sh0 55 15 = some none ∧
    fld sh0 55 16 = some (some (some 68)) ∧
    fld sh0 55 17 = some (some (some 69)) ∧
    fld sh0 55 18 = some (some (some 70)) ∧
    fld sh0 55 19 = some (some (some 71)) ∧
    fld sh0 55 20 = some (some (some 72)) ∧
    fld sh0 55 21 = some (some (some 73)) ∧
    fld sh0 55 22 = some (some (some 74)) ∧
    fld sh0 55 23 = some (some (some 75)) ∧
    fld sh0 55 24 = some (some (some 76)) ∧
    fld sh0 55 25 = some none ∧
    fld sh0 55 26 = some none ∧
    fld sh0 55 27 = some (some (some 77)) ∧
    fld sh0 55 28 = some (some (some 78)) ∧
    fld sh0 55 29 = some none := by
  refine ⟨?_, ?_, ?_, ?_, ?_, ?_, ?_, ?_, ?_, ?_, ?_, ?_, ?_, ?_, ?_, ?_, ?_, ?_, ?_, ?_, ?_, ?_, ?_, ?_, ?_, ?_, ?_, ?_, ?_, ?_, ?_, ?_, ?_, ?_, ?_, ?_, ?_, ?_, ?_, ?_, ?_, ?_, ?_, ?_, ?_, ?_, ?_, ?_, ?_, ?_, ?_, ?_, ?_, ?_, ?_, ?_, ?_, ?_, ?_, ?_, ?_, ?_, ?_, ?_, ?_, ?_, ?_, ?_, ?_, ?_, ?_, ?_, ?_, ?_, ?_, ?_, ?_, ?_, ?_, ?_, ?_, ?_, ?_, ?_, ?_, ?_, ?_, ?_, ?_, ?_, ?_, ?_, ?_, ?_, ?_, ?_, ?_, ?_, ?_, ?_, ?_, ?_, ?_, ?_, ?_⟩
  all_goals rfl
theorem ARR : arr sh0 1 = some (1, 400, mz_nul) ∧
    arr sh0 3 = some (0, 4, mz_nul) ∧
    arr sh0 4 = some (0, 10, mz_nul) ∧
    arr sh0 6 = some (0, 2, mz_nul) ∧
    arr sh0 7 = some (0, 10, mz_nul) ∧
    arr sh0 8 = some (0, 10, mz_nul) ∧
    arr sh0 9 = some (0, 5, mz_nul) ∧
    arr sh0 10 = some (0, 6, mz_nul) ∧
    arr sh0 11 = some (0, 6, mz_nul) ∧
    arr sh0 12 = some (0, 6, mz_nul) ∧
    arr sh0 14 = some (0, 10, mz_nul) ∧
    arr sh0 15 = some (0, 10, mz_nul) ∧
    arr sh0 16 = some (3, 20, mz_nul) ∧
    arr sh0 17 = some (0, 20, mz_nul) ∧
    arr sh0 19 = some (0, 2, mz_nul) ∧
    arr sh0 20 = some (0, 10, mz_nul) ∧
    arr sh0 21 = some (0, 10, mz_nul) ∧
    arr sh0 22 = some (0, 5, mz_nul) ∧
    arr sh0 23 = some (0, 6, mz_nul) ∧
    arr sh0 24 = some (0, 6, mz_nul) ∧
    arr sh0 25 = some (0, 6, mz_nul) ∧
    arr sh0 27 = some (0, 10, mz_nul) ∧
    arr sh0 28 = some (0, 10, mz_nul) ∧
    arr sh0 29 = some (3, 20, mz_nul) ∧
    arr sh0 30 = some (0, 20, mz_nul) ∧
    arr sh0 31 = some (4, 2, (fun z => if z = 1 then some 50 else if z = 0 then some 45 else none)) ∧
    arr sh0 33 = some (0, 2, mz_nul) ∧
    arr sh0 34 = some (5, 2, (fun z => if z = 1 then some 36 else if z = 0 then some 35 else none)) ∧
    arr sh0 35 = some (0, 12, mz_nul) ∧
    arr sh0 36 = some (0, 12, mz_nul) ∧
    arr sh0 38 = some (0, 3, mz_nul) ∧
    arr sh0 39 = some (0, 3, mz_nul) ∧
    arr sh0 40 = some (0, 3, mz_nul) ∧
    arr sh0 41 = some (0, 3, mz_nul) ∧
    arr sh0 42 = some (0, 3, mz_nul) ∧
    arr sh0 43 = some (0, 3, mz_nul) ∧
    arr sh0 44 = some (0, 5, mz_nul) ∧
    arr sh0 46 = some (0, 10, mz_nul) ∧
    arr sh0 47 = some (0, 10, mz_nul) ∧
    arr sh0 48 = some (3, 20, mz_nul) ∧
    arr sh0 49 = some (0, 20, mz_nul) ∧
    arr sh0 51 = some (0, 10, mz_nul) ∧
    arr sh0 52 = some (0, 10, mz_nul) ∧
    arr sh0 53 = some (3, 20, mz_nul) ∧
    arr sh0 54 = some (0, 20, mz_nul) ∧
    arr sh0 56 = some (1, 400, mz_nul) ∧
    arr sh0 57 = some (0, 4, mz_nul) ∧
    arr sh0 58 = some (0, 2, mz_nul) ∧
    arr sh0 59 = some (0, 2, mz_nul) ∧
    arr sh0 60 = some (0, 2, mz_nul) ∧
    arr sh0 61 = some (0, 80, mz_nul) ∧
    arr sh0 62 = some (0, 10, mz_nul) ∧
    arr sh0 63 = some (0, 36, mz_nul) ∧
    arr sh0 64 = some (2, 20, mz_nul) ∧
    arr sh0 65 = some (3, 20, mz_nul) ∧
    arr sh0 66 = some (0, 20, mz_nul) ∧
    arr sh0 67 = some (2, 20, mz_nul) ∧
    arr sh0 68 = some (0, 40, mz_nul) ∧
    arr sh0 69 = some (2, 20, mz_nul) ∧
    arr sh0 70 = some (0, 2, mz_nul) ∧
    arr sh0 71 = some (3, 40, mz_nul) ∧
    arr sh0 72 = some (0, 40, mz_nul) ∧
    arr sh0 73 = some (2, 40, mz_nul) ∧
    arr sh0 74 = some (0, 10, mz_nul) ∧
    arr sh0 75 = some (0, 10, mz_nul) ∧
    arr sh0 76 = some (0, 10, mz_nul) ∧
    arr sh0 77 = some (0, 5, mz_nul) ∧
    arr sh0 78 = some (0, 4, mz_nul) := by
  refine ⟨?_, ?_, ?_, ?_, ?_, ?_, ?_, ?_, ?_, ?_, ?_, ?_, ?_, ?_, ?_, ?_, ?_, ?_, ?_, ?_, ?_, ?_, ?_, ?_, ?_, ?_, ?_, ?_, ?_, ?_, ?_, ?_, ?_, ?_, ?_, ?_, ?_, ?_, ?_, ?_, ?_, ?_, ?_, ?_, ?_, ?_, ?_, ?_, ?_, ?_, ?_, ?_, ?_, ?_, ?_, ?_, ?_, ?_, ?_, ?_, ?_, ?_, ?_, ?_, ?_, ?_, ?_, ?_⟩
  all_goals rfl
theorem sh0_len : sh0.length = 79 := rfl
theorem WA : (∀ (C : CC) (X : XX) (mc ms : Nat) (J : Nat → KK) (Rt : RR) (t : BL) (pc n : Nat) (x : Int) (ls : AL) (st : List AV) (Z : ZZ) (M : MM) (k : Int), wpl C X mc ms J Rt ((.iconst k, x, n) :: t) pc ls st Z M = (wpl C X mc ms J Rt t (pc + n) ls (Sum.inl k :: st) Z M)) ∧
    (∀ (C : CC) (X : XX) (mc ms : Nat) (J : Nat → KK) (Rt : RR) (t : BL) (pc n : Nat) (x : Int) (ls : AL) (st : List AV) (Z : ZZ) (M : MM) (k : Nat), wpl C X mc ms J Rt ((.ldc2_w k, x, n) :: t) pc ls st Z M = (wpl C X mc ms J Rt t (pc + n) ls (Sum.inr (Sum.inl x) :: st) Z M)) ∧
    (∀ (C : CC) (X : XX) (mc ms : Nat) (J : Nat → KK) (Rt : RR) (t : BL) (pc n : Nat) (x : Int) (ls : AL) (st : List AV) (Z : ZZ) (M : MM) (k : Nat), wpl C X mc ms J Rt ((.iload k, x, n) :: t) pc ls st Z M = (gI (lget ls k) fun a => wpl C X mc ms J Rt t (pc + n) ls (Sum.inl a :: st) Z M)) ∧
    (∀ (C : CC) (X : XX) (mc ms : Nat) (J : Nat → KK) (Rt : RR) (t : BL) (pc n : Nat) (x : Int) (ls : AL) (st : List AV) (Z : ZZ) (M : MM) (k : Nat), wpl C X mc ms J Rt ((.lload k, x, n) :: t) pc ls st Z M = (gL (lget ls k) fun a => wpl C X mc ms J Rt t (pc + n) ls (Sum.inr (Sum.inl a) :: st) Z M)) ∧
    (∀ (C : CC) (X : XX) (mc ms : Nat) (J : Nat → KK) (Rt : RR) (t : BL) (pc n : Nat) (x : Int) (ls : AL) (st : List AV) (Z : ZZ) (M : MM) (k : Nat), wpl C X mc ms J Rt ((.aload k, x, n) :: t) pc ls st Z M = (gR (lget ls k) fun a => wpl C X mc ms J Rt t (pc + n) ls (Sum.inr (Sum.inr a) :: st) Z M)) ∧
    (∀ (C : CC) (X : XX) (mc ms : Nat) (J : Nat → KK) (Rt : RR) (t : BL) (pc n : Nat) (x : Int) (ls : AL) (st : List AV) (Z : ZZ) (M : MM) (k : Nat) (a : Int), wpl C X mc ms J Rt ((.istore k, x, n) :: t) pc ls (Sum.inl a :: st) Z M = (k < ls.length ∧ wpl C X mc ms J Rt t (pc + n) (lst1 ls k (Sum.inl a)) st Z M)) ∧
    (∀ (C : CC) (X : XX) (mc ms : Nat) (J : Nat → KK) (Rt : RR) (t : BL) (pc n : Nat) (x : Int) (ls : AL) (st : List AV) (Z : ZZ) (M : MM) (k : Nat) (a : Nat), wpl C X mc ms J Rt ((.astore k, x, n) :: t) pc ls (Sum.inr (Sum.inr a) :: st) Z M = (k < ls.length ∧ wpl C X mc ms J Rt t (pc + n) (lst1 ls k (Sum.inr (Sum.inr a))) st Z M)) ∧
    (∀ (C : CC) (X : XX) (mc ms : Nat) (J : Nat → KK) (Rt : RR) (t : BL) (pc n : Nat) (x : Int) (ls : AL) (st : List AV) (Z : ZZ) (M : MM) (k : Nat) (a : Int), wpl C X mc ms J Rt ((.lstore k, x, n) :: t) pc ls (Sum.inr (Sum.inl a) :: st) Z M = (k + 1 < ls.length ∧ wpl C X mc ms J Rt t (pc + n) (lst2 ls k (Sum.inr (Sum.inl a))) st Z M)) ∧
    (∀ (C : CC) (X : XX) (mc ms : Nat) (J : Nat → KK) (Rt : RR) (t : BL) (pc n : Nat) (x : Int) (ls : AL) (st : List AV) (Z : ZZ) (M : MM) (k : Nat) (c : Int), wpl C X mc ms J Rt ((.iinc k c, x, n) :: t) pc ls st Z M = (gI (lget ls k) fun a => k < ls.length ∧ wpl C X mc ms J Rt t (pc + n) (lst1 ls k (Sum.inl (a + c))) st Z M)) ∧
    (∀ (C : CC) (X : XX) (mc ms : Nat) (J : Nat → KK) (Rt : RR) (t : BL) (pc n : Nat) (x : Int) (ls : AL) (st : List AV) (Z : ZZ) (M : MM) (a b : Int), wpl C X mc ms J Rt ((.iadd, x, n) :: t) pc ls (Sum.inl b :: Sum.inl a :: st) Z M = (wpl C X mc ms J Rt t (pc + n) ls (Sum.inl (a + b) :: st) Z M)) ∧
    (∀ (C : CC) (X : XX) (mc ms : Nat) (J : Nat → KK) (Rt : RR) (t : BL) (pc n : Nat) (x : Int) (ls : AL) (st : List AV) (Z : ZZ) (M : MM) (a b : Int), wpl C X mc ms J Rt ((.isub, x, n) :: t) pc ls (Sum.inl b :: Sum.inl a :: st) Z M = (wpl C X mc ms J Rt t (pc + n) ls (Sum.inl (a - b) :: st) Z M)) ∧
    (∀ (C : CC) (X : XX) (mc ms : Nat) (J : Nat → KK) (Rt : RR) (t : BL) (pc n : Nat) (x : Int) (ls : AL) (st : List AV) (Z : ZZ) (M : MM) (a b : Int), wpl C X mc ms J Rt ((.imul, x, n) :: t) pc ls (Sum.inl b :: Sum.inl a :: st) Z M = (wpl C X mc ms J Rt t (pc + n) ls (Sum.inl (a * b) :: st) Z M)) ∧
    (∀ (C : CC) (X : XX) (mc ms : Nat) (J : Nat → KK) (Rt : RR) (t : BL) (pc n : Nat) (x : Int) (ls : AL) (st : List AV) (Z : ZZ) (M : MM) (a b : Int), wpl C X mc ms J Rt ((.iand, x, n) :: t) pc ls (Sum.inl b :: Sum.inl a :: st) Z M = (wpl C X mc ms J Rt t (pc + n) ls (Sum.inl (bAnd a b) :: st) Z M)) ∧
    (∀ (C : CC) (X : XX) (mc ms : Nat) (J : Nat → KK) (Rt : RR) (t : BL) (pc n : Nat) (x : Int) (ls : AL) (st : List AV) (Z : ZZ) (M : MM) (a b : Int), wpl C X mc ms J Rt ((.ior, x, n) :: t) pc ls (Sum.inl b :: Sum.inl a :: st) Z M = (wpl C X mc ms J Rt t (pc + n) ls (Sum.inl (bOr a b) :: st) Z M)) ∧
    (∀ (C : CC) (X : XX) (mc ms : Nat) (J : Nat → KK) (Rt : RR) (t : BL) (pc n : Nat) (x : Int) (ls : AL) (st : List AV) (Z : ZZ) (M : MM) (a b : Int), wpl C X mc ms J Rt ((.ixor, x, n) :: t) pc ls (Sum.inl b :: Sum.inl a :: st) Z M = (wpl C X mc ms J Rt t (pc + n) ls (Sum.inl (bXor a b) :: st) Z M)) ∧
    (∀ (C : CC) (X : XX) (mc ms : Nat) (J : Nat → KK) (Rt : RR) (t : BL) (pc n : Nat) (x : Int) (ls : AL) (st : List AV) (Z : ZZ) (M : MM) (a b : Int), wpl C X mc ms J Rt ((.ishl, x, n) :: t) pc ls (Sum.inl b :: Sum.inl a :: st) Z M = (wpl C X mc ms J Rt t (pc + n) ls (Sum.inl (bShl a b) :: st) Z M)) ∧
    (∀ (C : CC) (X : XX) (mc ms : Nat) (J : Nat → KK) (Rt : RR) (t : BL) (pc n : Nat) (x : Int) (ls : AL) (st : List AV) (Z : ZZ) (M : MM) (a b : Int), wpl C X mc ms J Rt ((.ishr, x, n) :: t) pc ls (Sum.inl b :: Sum.inl a :: st) Z M = (wpl C X mc ms J Rt t (pc + n) ls (Sum.inl (bShr a b) :: st) Z M)) ∧
    (∀ (C : CC) (X : XX) (mc ms : Nat) (J : Nat → KK) (Rt : RR) (t : BL) (pc n : Nat) (x : Int) (ls : AL) (st : List AV) (Z : ZZ) (M : MM) (a b : Int), wpl C X mc ms J Rt ((.iushr, x, n) :: t) pc ls (Sum.inl b :: Sum.inl a :: st) Z M = (wpl C X mc ms J Rt t (pc + n) ls (Sum.inl (bUsr a b) :: st) Z M)) ∧
    (∀ (C : CC) (X : XX) (mc ms : Nat) (J : Nat → KK) (Rt : RR) (t : BL) (pc n : Nat) (x : Int) (ls : AL) (st : List AV) (Z : ZZ) (M : MM) (a b : Int), wpl C X mc ms J Rt ((.idiv, x, n) :: t) pc ls (Sum.inl b :: Sum.inl a :: st) Z M = ((0 ≤ a ∧ a ≤ 2147483647 ∧ 0 < b ∧ b ≤ 2147483647) ∧ wpl C X mc ms J Rt t (pc + n) ls (Sum.inl (a / b) :: st) Z M)) ∧
    (∀ (C : CC) (X : XX) (mc ms : Nat) (J : Nat → KK) (Rt : RR) (t : BL) (pc n : Nat) (x : Int) (ls : AL) (st : List AV) (Z : ZZ) (M : MM) (a b : Int), wpl C X mc ms J Rt ((.irem, x, n) :: t) pc ls (Sum.inl b :: Sum.inl a :: st) Z M = ((0 ≤ a ∧ a ≤ 2147483647 ∧ 0 < b ∧ b ≤ 2147483647) ∧ wpl C X mc ms J Rt t (pc + n) ls (Sum.inl (a % b) :: st) Z M)) ∧
    (∀ (C : CC) (X : XX) (mc ms : Nat) (J : Nat → KK) (Rt : RR) (t : BL) (pc n : Nat) (x : Int) (ls : AL) (st : List AV) (Z : ZZ) (M : MM) (a b : Int), wpl C X mc ms J Rt ((.ladd, x, n) :: t) pc ls (Sum.inr (Sum.inl b) :: Sum.inr (Sum.inl a) :: st) Z M = (wpl C X mc ms J Rt t (pc + n) ls (Sum.inr (Sum.inl (a + b)) :: st) Z M)) ∧
    (∀ (C : CC) (X : XX) (mc ms : Nat) (J : Nat → KK) (Rt : RR) (t : BL) (pc n : Nat) (x : Int) (ls : AL) (st : List AV) (Z : ZZ) (M : MM) (a b : Int), wpl C X mc ms J Rt ((.lsub, x, n) :: t) pc ls (Sum.inr (Sum.inl b) :: Sum.inr (Sum.inl a) :: st) Z M = (wpl C X mc ms J Rt t (pc + n) ls (Sum.inr (Sum.inl (a - b)) :: st) Z M)) ∧
    (∀ (C : CC) (X : XX) (mc ms : Nat) (J : Nat → KK) (Rt : RR) (t : BL) (pc n : Nat) (x : Int) (ls : AL) (st : List AV) (Z : ZZ) (M : MM) (a b : Int), wpl C X mc ms J Rt ((.lmul, x, n) :: t) pc ls (Sum.inr (Sum.inl b) :: Sum.inr (Sum.inl a) :: st) Z M = (wpl C X mc ms J Rt t (pc + n) ls (Sum.inr (Sum.inl (a * b)) :: st) Z M)) ∧
    (∀ (C : CC) (X : XX) (mc ms : Nat) (J : Nat → KK) (Rt : RR) (t : BL) (pc n : Nat) (x : Int) (ls : AL) (st : List AV) (Z : ZZ) (M : MM) (a b : Int), wpl C X mc ms J Rt ((.land, x, n) :: t) pc ls (Sum.inr (Sum.inl b) :: Sum.inr (Sum.inl a) :: st) Z M = (wpl C X mc ms J Rt t (pc + n) ls (Sum.inr (Sum.inl (lAnd a b)) :: st) Z M)) ∧
    (∀ (C : CC) (X : XX) (mc ms : Nat) (J : Nat → KK) (Rt : RR) (t : BL) (pc n : Nat) (x : Int) (ls : AL) (st : List AV) (Z : ZZ) (M : MM) (a b : Int), wpl C X mc ms J Rt ((.lor, x, n) :: t) pc ls (Sum.inr (Sum.inl b) :: Sum.inr (Sum.inl a) :: st) Z M = (wpl C X mc ms J Rt t (pc + n) ls (Sum.inr (Sum.inl (lOr a b)) :: st) Z M)) ∧
    (∀ (C : CC) (X : XX) (mc ms : Nat) (J : Nat → KK) (Rt : RR) (t : BL) (pc n : Nat) (x : Int) (ls : AL) (st : List AV) (Z : ZZ) (M : MM) (a b : Int), wpl C X mc ms J Rt ((.ldiv, x, n) :: t) pc ls (Sum.inr (Sum.inl b) :: Sum.inr (Sum.inl a) :: st) Z M = ((0 ≤ a ∧ a ≤ 9223372036854775807 ∧ 0 < b ∧ b ≤ 9223372036854775807) ∧ wpl C X mc ms J Rt t (pc + n) ls (Sum.inr (Sum.inl (a / b)) :: st) Z M)) ∧
    (∀ (C : CC) (X : XX) (mc ms : Nat) (J : Nat → KK) (Rt : RR) (t : BL) (pc n : Nat) (x : Int) (ls : AL) (st : List AV) (Z : ZZ) (M : MM) (a b : Int), wpl C X mc ms J Rt ((.lrem, x, n) :: t) pc ls (Sum.inr (Sum.inl b) :: Sum.inr (Sum.inl a) :: st) Z M = ((0 ≤ a ∧ a ≤ 9223372036854775807 ∧ 0 < b ∧ b ≤ 9223372036854775807) ∧ wpl C X mc ms J Rt t (pc + n) ls (Sum.inr (Sum.inl (a % b)) :: st) Z M)) ∧
    (∀ (C : CC) (X : XX) (mc ms : Nat) (J : Nat → KK) (Rt : RR) (t : BL) (pc n : Nat) (x : Int) (ls : AL) (st : List AV) (Z : ZZ) (M : MM) (a b : Int), wpl C X mc ms J Rt ((.lshl, x, n) :: t) pc ls (Sum.inl b :: Sum.inr (Sum.inl a) :: st) Z M = (wpl C X mc ms J Rt t (pc + n) ls (Sum.inr (Sum.inl (lShl a b)) :: st) Z M)) ∧
    (∀ (C : CC) (X : XX) (mc ms : Nat) (J : Nat → KK) (Rt : RR) (t : BL) (pc n : Nat) (x : Int) (ls : AL) (st : List AV) (Z : ZZ) (M : MM) (a b : Int), wpl C X mc ms J Rt ((.lshr, x, n) :: t) pc ls (Sum.inl b :: Sum.inr (Sum.inl a) :: st) Z M = (wpl C X mc ms J Rt t (pc + n) ls (Sum.inr (Sum.inl (lShr a b)) :: st) Z M)) ∧
    (∀ (C : CC) (X : XX) (mc ms : Nat) (J : Nat → KK) (Rt : RR) (t : BL) (pc n : Nat) (x : Int) (ls : AL) (st : List AV) (Z : ZZ) (M : MM) (a b : Int), wpl C X mc ms J Rt ((.lushr, x, n) :: t) pc ls (Sum.inl b :: Sum.inr (Sum.inl a) :: st) Z M = (wpl C X mc ms J Rt t (pc + n) ls (Sum.inr (Sum.inl (lUsr a b)) :: st) Z M)) :=
  ⟨by intros; rfl,
   by intros; rfl,
   by intros; rfl,
   by intros; rfl,
   by intros; rfl,
   by intros; rfl,
   by intros; rfl,
   by intros; rfl,
   by intros; rfl,
   by intros; rfl,
   by intros; rfl,
   by intros; rfl,
   by intros; rfl,
   by intros; rfl,
   by intros; rfl,
   by intros; rfl,
   by intros; rfl,
   by intros; rfl,
   by intros; rfl,
   by intros; rfl,
   by intros; rfl,
   by intros; rfl,
   by intros; rfl,
   by intros; rfl,
   by intros; rfl,
   by intros; rfl,
   by intros; rfl,
   by intros; rfl,
   by intros; rfl,
   by intros; rfl⟩
theorem WB : (∀ (C : CC) (X : XX) (mc ms : Nat) (J : Nat → KK) (Rt : RR) (t : BL) (pc n : Nat) (x : Int) (ls : AL) (st : List AV) (Z : ZZ) (M : MM) (a b : Int), wpl C X mc ms J Rt ((.lcmp, x, n) :: t) pc ls (Sum.inr (Sum.inl b) :: Sum.inr (Sum.inl a) :: st) Z M = (rgL a ∧ rgL b ∧ wpl C X mc ms J Rt t (pc + n) ls (Sum.inl (if a < b then -1 else if a = b then 0 else 1) :: st) Z M)) ∧
    (∀ (C : CC) (X : XX) (mc ms : Nat) (J : Nat → KK) (Rt : RR) (t : BL) (pc n : Nat) (x : Int) (ls : AL) (st : List AV) (Z : ZZ) (M : MM) (a : Int), wpl C X mc ms J Rt ((.i2l, x, n) :: t) pc ls (Sum.inl a :: st) Z M = (rgI a ∧ wpl C X mc ms J Rt t (pc + n) ls (Sum.inr (Sum.inl a) :: st) Z M)) ∧
    (∀ (C : CC) (X : XX) (mc ms : Nat) (J : Nat → KK) (Rt : RR) (t : BL) (pc n : Nat) (x : Int) (ls : AL) (st : List AV) (Z : ZZ) (M : MM) (a : Int), wpl C X mc ms J Rt ((.l2i, x, n) :: t) pc ls (Sum.inr (Sum.inl a) :: st) Z M = (wpl C X mc ms J Rt t (pc + n) ls (Sum.inl a :: st) Z M)) ∧
    (∀ (C : CC) (X : XX) (mc ms : Nat) (J : Nat → KK) (Rt : RR) (t : BL) (pc n : Nat) (x : Int) (ls : AL) (st : List AV) (Z : ZZ) (M : MM) (a : Int), wpl C X mc ms J Rt ((.i2b, x, n) :: t) pc ls (Sum.inl a :: st) Z M = (wpl C X mc ms J Rt t (pc + n) ls (Sum.inl (bByt a) :: st) Z M)) ∧
    (∀ (C : CC) (X : XX) (mc ms : Nat) (J : Nat → KK) (Rt : RR) (t : BL) (pc n : Nat) (x : Int) (ls : AL) (st : List AV) (Z : ZZ) (M : MM) (a : Int), wpl C X mc ms J Rt ((.dup, x, n) :: t) pc ls (Sum.inl a :: st) Z M = (wpl C X mc ms J Rt t (pc + n) ls (Sum.inl a :: Sum.inl a :: st) Z M)) ∧
    (∀ (C : CC) (X : XX) (mc ms : Nat) (J : Nat → KK) (Rt : RR) (t : BL) (pc n : Nat) (x : Int) (ls : AL) (st : List AV) (Z : ZZ) (M : MM) (a : Nat), wpl C X mc ms J Rt ((.dup, x, n) :: t) pc ls (Sum.inr (Sum.inr a) :: st) Z M = (wpl C X mc ms J Rt t (pc + n) ls (Sum.inr (Sum.inr a) :: Sum.inr (Sum.inr a) :: st) Z M)) ∧
    (∀ (C : CC) (X : XX) (mc ms : Nat) (J : Nat → KK) (Rt : RR) (t : BL) (pc n : Nat) (x : Int) (ls : AL) (st : List AV) (Z : ZZ) (M : MM) (a : Int) (b : Nat), wpl C X mc ms J Rt ((.dup2, x, n) :: t) pc ls (Sum.inl a :: Sum.inr (Sum.inr b) :: st) Z M = (wpl C X mc ms J Rt t (pc + n) ls (Sum.inl a :: Sum.inr (Sum.inr b) :: Sum.inl a :: Sum.inr (Sum.inr b) :: st) Z M)) ∧
    (∀ (C : CC) (X : XX) (mc ms : Nat) (J : Nat → KK) (Rt : RR) (t : BL) (pc n : Nat) (x : Int) (ls : AL) (st : List AV) (Z : ZZ) (M : MM) (a : Int), wpl C X mc ms J Rt ((.pop, x, n) :: t) pc ls (Sum.inl a :: st) Z M = (wpl C X mc ms J Rt t (pc + n) ls st Z M)) ∧
    (∀ (C : CC) (X : XX) (mc ms : Nat) (J : Nat → KK) (Rt : RR) (t : BL) (pc n : Nat) (x : Int) (ls : AL) (st : List AV) (Z : ZZ) (M : MM) (g : Int), wpl C X mc ms J Rt ((.goto g, x, n) :: t) pc ls st Z M = (J g.toNat ls st Z M)) ∧
    (∀ (C : CC) (X : XX) (mc ms : Nat) (J : Nat → KK) (Rt : RR) (t : BL) (pc n : Nat) (x : Int) (ls : AL) (st : List AV) (Z : ZZ) (M : MM) (a b g : Int), wpl C X mc ms J Rt ((.if_icmp .eq g, x, n) :: t) pc ls (Sum.inl b :: Sum.inl a :: st) Z M = ((rgI a ∧ rgI b) ∧ (a = b → J g.toNat ls st Z M) ∧ (¬ a = b → wpl C X mc ms J Rt t (pc + n) ls st Z M))) ∧
    (∀ (C : CC) (X : XX) (mc ms : Nat) (J : Nat → KK) (Rt : RR) (t : BL) (pc n : Nat) (x : Int) (ls : AL) (st : List AV) (Z : ZZ) (M : MM) (a g : Int), wpl C X mc ms J Rt ((.ifCond .eq g, x, n) :: t) pc ls (Sum.inl a :: st) Z M = (rgI a ∧ (a = 0 → J g.toNat ls st Z M) ∧ (¬ a = 0 → wpl C X mc ms J Rt t (pc + n) ls st Z M))) ∧
    (∀ (C : CC) (X : XX) (mc ms : Nat) (J : Nat → KK) (Rt : RR) (t : BL) (pc n : Nat) (x : Int) (ls : AL) (st : List AV) (Z : ZZ) (M : MM) (a b g : Int), wpl C X mc ms J Rt ((.if_icmp .ne g, x, n) :: t) pc ls (Sum.inl b :: Sum.inl a :: st) Z M = ((rgI a ∧ rgI b) ∧ (¬ a = b → J g.toNat ls st Z M) ∧ (a = b → wpl C X mc ms J Rt t (pc + n) ls st Z M))) ∧
    (∀ (C : CC) (X : XX) (mc ms : Nat) (J : Nat → KK) (Rt : RR) (t : BL) (pc n : Nat) (x : Int) (ls : AL) (st : List AV) (Z : ZZ) (M : MM) (a g : Int), wpl C X mc ms J Rt ((.ifCond .ne g, x, n) :: t) pc ls (Sum.inl a :: st) Z M = (rgI a ∧ (¬ a = 0 → J g.toNat ls st Z M) ∧ (a = 0 → wpl C X mc ms J Rt t (pc + n) ls st Z M))) ∧
    (∀ (C : CC) (X : XX) (mc ms : Nat) (J : Nat → KK) (Rt : RR) (t : BL) (pc n : Nat) (x : Int) (ls : AL) (st : List AV) (Z : ZZ) (M : MM) (a b g : Int), wpl C X mc ms J Rt ((.if_icmp .lt g, x, n) :: t) pc ls (Sum.inl b :: Sum.inl a :: st) Z M = ((rgI a ∧ rgI b) ∧ (a < b → J g.toNat ls st Z M) ∧ (b ≤ a → wpl C X mc ms J Rt t (pc + n) ls st Z M))) ∧
    (∀ (C : CC) (X : XX) (mc ms : Nat) (J : Nat → KK) (Rt : RR) (t : BL) (pc n : Nat) (x : Int) (ls : AL) (st : List AV) (Z : ZZ) (M : MM) (a g : Int), wpl C X mc ms J Rt ((.ifCond .lt g, x, n) :: t) pc ls (Sum.inl a :: st) Z M = (rgI a ∧ (a < 0 → J g.toNat ls st Z M) ∧ (0 ≤ a → wpl C X mc ms J Rt t (pc + n) ls st Z M))) ∧
    (∀ (C : CC) (X : XX) (mc ms : Nat) (J : Nat → KK) (Rt : RR) (t : BL) (pc n : Nat) (x : Int) (ls : AL) (st : List AV) (Z : ZZ) (M : MM) (a b g : Int), wpl C X mc ms J Rt ((.if_icmp .ge g, x, n) :: t) pc ls (Sum.inl b :: Sum.inl a :: st) Z M = ((rgI a ∧ rgI b) ∧ (b ≤ a → J g.toNat ls st Z M) ∧ (a < b → wpl C X mc ms J Rt t (pc + n) ls st Z M))) ∧
    (∀ (C : CC) (X : XX) (mc ms : Nat) (J : Nat → KK) (Rt : RR) (t : BL) (pc n : Nat) (x : Int) (ls : AL) (st : List AV) (Z : ZZ) (M : MM) (a g : Int), wpl C X mc ms J Rt ((.ifCond .ge g, x, n) :: t) pc ls (Sum.inl a :: st) Z M = (rgI a ∧ (0 ≤ a → J g.toNat ls st Z M) ∧ (a < 0 → wpl C X mc ms J Rt t (pc + n) ls st Z M))) ∧
    (∀ (C : CC) (X : XX) (mc ms : Nat) (J : Nat → KK) (Rt : RR) (t : BL) (pc n : Nat) (x : Int) (ls : AL) (st : List AV) (Z : ZZ) (M : MM) (a b g : Int), wpl C X mc ms J Rt ((.if_icmp .gt g, x, n) :: t) pc ls (Sum.inl b :: Sum.inl a :: st) Z M = ((rgI a ∧ rgI b) ∧ (b < a → J g.toNat ls st Z M) ∧ (a ≤ b → wpl C X mc ms J Rt t (pc + n) ls st Z M))) ∧
    (∀ (C : CC) (X : XX) (mc ms : Nat) (J : Nat → KK) (Rt : RR) (t : BL) (pc n : Nat) (x : Int) (ls : AL) (st : List AV) (Z : ZZ) (M : MM) (a g : Int), wpl C X mc ms J Rt ((.ifCond .gt g, x, n) :: t) pc ls (Sum.inl a :: st) Z M = (rgI a ∧ (0 < a → J g.toNat ls st Z M) ∧ (a ≤ 0 → wpl C X mc ms J Rt t (pc + n) ls st Z M))) ∧
    (∀ (C : CC) (X : XX) (mc ms : Nat) (J : Nat → KK) (Rt : RR) (t : BL) (pc n : Nat) (x : Int) (ls : AL) (st : List AV) (Z : ZZ) (M : MM) (a b g : Int), wpl C X mc ms J Rt ((.if_icmp .le g, x, n) :: t) pc ls (Sum.inl b :: Sum.inl a :: st) Z M = ((rgI a ∧ rgI b) ∧ (a ≤ b → J g.toNat ls st Z M) ∧ (b < a → wpl C X mc ms J Rt t (pc + n) ls st Z M))) ∧
    (∀ (C : CC) (X : XX) (mc ms : Nat) (J : Nat → KK) (Rt : RR) (t : BL) (pc n : Nat) (x : Int) (ls : AL) (st : List AV) (Z : ZZ) (M : MM) (a g : Int), wpl C X mc ms J Rt ((.ifCond .le g, x, n) :: t) pc ls (Sum.inl a :: st) Z M = (rgI a ∧ (a ≤ 0 → J g.toNat ls st Z M) ∧ (0 < a → wpl C X mc ms J Rt t (pc + n) ls st Z M))) ∧
    (∀ (C : CC) (X : XX) (mc ms : Nat) (J : Nat → KK) (Rt : RR) (t : BL) (pc n : Nat) (x : Int) (ls : AL) (st : List AV) (Z : ZZ) (M : MM) (a d lo hi : Int) (os : Array Int), wpl C X mc ms J Rt ((.tableswitch d lo hi os, x, n) :: t) pc ls (Sum.inl a :: st) Z M = (rgI a ∧ (a < lo ∨ hi < a → J d.toNat ls st Z M) ∧ swl J a ls st Z M os.toList lo)) ∧
    (∀ (C : CC) (X : XX) (mc ms : Nat) (J : Nat → KK) (Rt : RR) (t : BL) (pc n : Nat) (x : Int) (ls : AL) (st : List AV) (Z : ZZ) (M : MM) (a d : Int) (ps : Array (Int × Int)), wpl C X mc ms J Rt ((.lookupswitch d ps, x, n) :: t) pc ls (Sum.inl a :: st) Z M = (rgI a ∧ lkl J a ls st Z M d ps.toList)) ∧
    (∀ (C : CC) (X : XX) (mc ms : Nat) (J : Nat → KK) (Rt : RR) (t : BL) (pc n : Nat) (x : Int) (ls : AL) (st : List AV) (Z : ZZ) (M : MM) (k r : Nat), wpl C X mc ms J Rt ((.getfield k, x, n) :: t) pc ls (Sum.inr (Sum.inr r) :: st) Z M = (cls Z.1 r = some x.toNat ∧ gF (fld Z.1 r k) (wpl C X mc ms J Rt t (pc + n) ls (Sum.inl (M r k) :: st) Z M) (fun q => wpl C X mc ms J Rt t (pc + n) ls (Sum.inr (Sum.inr q) :: st) Z M))) ∧
    (∀ (C : CC) (X : XX) (mc ms : Nat) (J : Nat → KK) (Rt : RR) (t : BL) (pc n : Nat) (x : Int) (ls : AL) (st : List AV) (Z : ZZ) (M : MM) (k r : Nat) (a : Int), wpl C X mc ms J Rt ((.putfield k, x, n) :: t) pc ls (Sum.inl a :: Sum.inr (Sum.inr r) :: st) Z M = (cls Z.1 r = some x.toNat ∧ gF (fld Z.1 r k) (wpl C X mc ms J Rt t (pc + n) ls st Z (mset M r k a)) (fun _ => False))) ∧
    (∀ (C : CC) (X : XX) (mc ms : Nat) (J : Nat → KK) (Rt : RR) (t : BL) (pc n : Nat) (x : Int) (ls : AL) (st : List AV) (Z : ZZ) (M : MM) (r : Nat) (j : Int), wpl C X mc ms J Rt ((.baload, x, n) :: t) pc ls (Sum.inl j :: Sum.inr (Sum.inr r) :: st) Z M = (gA (arr Z.1 r) j fun t1 _ => (t1 = 1 ∨ t1 = 2) ∧ wpl C X mc ms J Rt t (pc + n) ls (Sum.inl (M r j.toNat) :: st) Z M)) ∧
    (∀ (C : CC) (X : XX) (mc ms : Nat) (J : Nat → KK) (Rt : RR) (t : BL) (pc n : Nat) (x : Int) (ls : AL) (st : List AV) (Z : ZZ) (M : MM) (r : Nat) (j : Int), wpl C X mc ms J Rt ((.iaload, x, n) :: t) pc ls (Sum.inl j :: Sum.inr (Sum.inr r) :: st) Z M = (if r = scr then (match X with | some q => (0 ≤ j ∧ j < q.1) ∧ q.1 ≤ 100000 ∧ wpl C X mc ms J Rt t (pc + n) ls (Sum.inl (q.2 j.toNat) :: st) Z M | none => False) else gA (arr Z.1 r) j fun t1 _ => t1 = 0 ∧ wpl C X mc ms J Rt t (pc + n) ls (Sum.inl (M r j.toNat) :: st) Z M)) ∧
    (∀ (C : CC) (X : XX) (mc ms : Nat) (J : Nat → KK) (Rt : RR) (t : BL) (pc n : Nat) (x : Int) (ls : AL) (st : List AV) (Z : ZZ) (M : MM) (r : Nat) (j : Int), wpl C X mc ms J Rt ((.laload, x, n) :: t) pc ls (Sum.inl j :: Sum.inr (Sum.inr r) :: st) Z M = (gA (arr Z.1 r) j fun t1 _ => t1 = 3 ∧ wpl C X mc ms J Rt t (pc + n) ls (Sum.inr (Sum.inl (M r j.toNat)) :: st) Z M)) ∧
    (∀ (C : CC) (X : XX) (mc ms : Nat) (J : Nat → KK) (Rt : RR) (t : BL) (pc n : Nat) (x : Int) (ls : AL) (st : List AV) (Z : ZZ) (M : MM) (r : Nat) (j : Int), wpl C X mc ms J Rt ((.aaload, x, n) :: t) pc ls (Sum.inl j :: Sum.inr (Sum.inr r) :: st) Z M = (gA (arr Z.1 r) j fun t1 f => (t1 = 4 ∨ t1 = 5) ∧ gQ (f j.toNat) fun q => wpl C X mc ms J Rt t (pc + n) ls (Sum.inr (Sum.inr q) :: st) Z M)) ∧
    (∀ (C : CC) (X : XX) (mc ms : Nat) (J : Nat → KK) (Rt : RR) (t : BL) (pc n : Nat) (x : Int) (ls : AL) (st : List AV) (Z : ZZ) (M : MM) (r : Nat) (j a : Int), wpl C X mc ms J Rt ((.iastore, x, n) :: t) pc ls (Sum.inl a :: Sum.inl j :: Sum.inr (Sum.inr r) :: st) Z M = (gA (arr Z.1 r) j fun t1 _ => t1 = 0 ∧ wpl C X mc ms J Rt t (pc + n) ls st Z (mset M r j.toNat a))) ∧
    (∀ (C : CC) (X : XX) (mc ms : Nat) (J : Nat → KK) (Rt : RR) (t : BL) (pc n : Nat) (x : Int) (ls : AL) (st : List AV) (Z : ZZ) (M : MM) (r : Nat) (j a : Int), wpl C X mc ms J Rt ((.bastore, x, n) :: t) pc ls (Sum.inl a :: Sum.inl j :: Sum.inr (Sum.inr r) :: st) Z M = (gA (arr Z.1 r) j fun t1 _ => (t1 = 1 ∨ (t1 = 2 ∧ (a = 0 ∨ a = 1))) ∧ wpl C X mc ms J Rt t (pc + n) ls st Z (mset M r j.toNat (if t1 = 1 then bByt a else a)))) ∧
    (∀ (C : CC) (X : XX) (mc ms : Nat) (J : Nat → KK) (Rt : RR) (t : BL) (pc n : Nat) (x : Int) (ls : AL) (st : List AV) (Z : ZZ) (M : MM) (r : Nat) (j a : Int), wpl C X mc ms J Rt ((.lastore, x, n) :: t) pc ls (Sum.inr (Sum.inl a) :: Sum.inl j :: Sum.inr (Sum.inr r) :: st) Z M = (gA (arr Z.1 r) j fun t1 _ => t1 = 3 ∧ wpl C X mc ms J Rt t (pc + n) ls st Z (mset M r j.toNat a))) ∧
    (∀ (C : CC) (X : XX) (mc ms : Nat) (J : Nat → KK) (Rt : RR) (t : BL) (pc n : Nat) (x : Int) (ls : AL) (st : List AV) (Z : ZZ) (M : MM) (r : Nat), wpl C X mc ms J Rt ((.arraylength, x, n) :: t) pc ls (Sum.inr (Sum.inr r) :: st) Z M = (if r = scr then (match X with | some q => q.1 ≤ 100000 ∧ wpl C X mc ms J Rt t (pc + n) ls (Sum.inl q.1 :: st) Z M | none => False) else (match arr Z.1 r with | some (t1, n1, _) => t1 < 6 ∧ n1 ≤ 100000 ∧ wpl C X mc ms J Rt t (pc + n) ls (Sum.inl n1 :: st) Z M | _ => False))) ∧
    (∀ (C : CC) (X : XX) (mc ms : Nat) (J : Nat → KK) (Rt : RR) (t : BL) (pc n : Nat) (x : Int) (ls : AL) (st : List AV) (Z : ZZ) (M : MM) (y : Nat), wpl C X mc ms J Rt ((.invokestatic y, x, n) :: t) pc ls st Z M = (if y < 1000 then wpc C mc ms y x.toNat (wpl C X mc ms J Rt t (pc + n)) ls st Z M
      else if y = 1000 then pI st fun n2 st => pI st fun dp st => pR st fun dk st => pI st fun sp st => pR st fun sk st => (match arr Z.1 sk, arr Z.1 dk with
          | some (t2, n0, _), some (t1, n1, _) => t2 = t1 ∧ (t2 = 0 ∨ t2 = 3) ∧ 0 ≤ sp ∧ 0 ≤ dp ∧ 0 ≤ n2 ∧ sp + n2 ≤ n0 ∧ dp + n2 ≤ n1 ∧ n0 ≤ 100000 ∧ n1 ≤ 100000 ∧ st = [] ∧ wpl C X mc ms J Rt t (pc + n) ls st Z (mcpy M sk dk sp.toNat dp.toNat n2.toNat)
          | _, _ => False)
      else if y = 1002 then pI st fun b st => pI st fun a st => rgI a ∧ rgI b ∧ cats st ≤ 8 ∧ Z.2.1 ≤ mc ∧ Z.2.2 ≤ ms ∧ wpl C X mc ms J Rt t (pc + n) ls (Sum.inl (max a b) :: st) Z M
      else if y = 1003 then pI st fun b st => pI st fun a st => rgI a ∧ rgI b ∧ cats st ≤ 8 ∧ Z.2.1 ≤ mc ∧ Z.2.2 ≤ ms ∧ wpl C X mc ms J Rt t (pc + n) ls (Sum.inl (min a b) :: st) Z M
      else False)) ∧
    (∀ (C : CC) (X : XX) (mc ms : Nat) (J : Nat → KK) (Rt : RR) (t : BL) (pc n : Nat) (x : Int) (ls : AL) (st : List AV) (Z : ZZ) (M : MM) (y : Nat), wpl C X mc ms J Rt ((.invokevirtual y, x, n) :: t) pc ls st Z M = (rcv Z.1 st (x.toNat - 1) y ∧ wpc C mc ms y x.toNat (wpl C X mc ms J Rt t (pc + n)) ls st Z M)) ∧
    (∀ (C : CC) (X : XX) (mc ms : Nat) (J : Nat → KK) (Rt : RR) (t : BL) (pc n : Nat) (x : Int) (ls : AL) (Z : ZZ) (M : MM) (a : Int), wpl C X mc ms J Rt ((.ireturn, x, n) :: t) pc ls [Sum.inl a] Z M = (True ∧ Rt (some (Sum.inl a)) Z M)) ∧
    (∀ (C : CC) (X : XX) (mc ms : Nat) (J : Nat → KK) (Rt : RR) (t : BL) (pc n : Nat) (x : Int) (ls : AL) (Z : ZZ) (M : MM) (a : Int), wpl C X mc ms J Rt ((.lreturn, x, n) :: t) pc ls [Sum.inr (Sum.inl a)] Z M = (True ∧ Rt (some (Sum.inr (Sum.inl a))) Z M)) ∧
    (∀ (C : CC) (X : XX) (mc ms : Nat) (J : Nat → KK) (Rt : RR) (t : BL) (pc n : Nat) (x : Int) (ls : AL) (Z : ZZ) (M : MM), wpl C X mc ms J Rt ((.return_, x, n) :: t) pc ls [] Z M = (True ∧ Rt none Z M)) ∧
    (∀ (C : CC) (X : XX) (mc ms : Nat) (J : Nat → KK) (Rt : RR) (pc : Nat) (ls : AL) (st : List AV) (Z : ZZ) (M : MM), wpl C X mc ms J Rt [] pc ls st Z M = J pc ls st Z M) :=
  ⟨by intros; rfl,
   by intros; rfl,
   by intros; rfl,
   by intros; rfl,
   by intros; rfl,
   by intros; rfl,
   by intros; rfl,
   by intros; rfl,
   by intros; rfl,
   by intros; exact propext ⟨fun h => ⟨⟨h.1, h.2.1⟩, h.2.2.1, fun z => h.2.2.2 (by have := z; unfold cnd; omega)⟩, fun h => ⟨h.1.1, h.1.2, h.2.1, fun z => h.2.2 (by have := z; unfold cnd at this; omega)⟩⟩,
   by intros; exact propext ⟨fun h => ⟨h.1, h.2.1, fun z => h.2.2 (by have := z; unfold cnd; omega)⟩, fun h => ⟨h.1, h.2.1, fun z => h.2.2 (by have := z; unfold cnd at this; omega)⟩⟩,
   by intros; exact propext ⟨fun h => ⟨⟨h.1, h.2.1⟩, h.2.2.1, fun z => h.2.2.2 (by have := z; unfold cnd; omega)⟩, fun h => ⟨h.1.1, h.1.2, h.2.1, fun z => h.2.2 (by have := z; unfold cnd at this; omega)⟩⟩,
   by intros; exact propext ⟨fun h => ⟨h.1, h.2.1, fun z => h.2.2 (by have := z; unfold cnd; omega)⟩, fun h => ⟨h.1, h.2.1, fun z => h.2.2 (by have := z; unfold cnd at this; omega)⟩⟩,
   by intros; exact propext ⟨fun h => ⟨⟨h.1, h.2.1⟩, h.2.2.1, fun z => h.2.2.2 (by have := z; unfold cnd; omega)⟩, fun h => ⟨h.1.1, h.1.2, h.2.1, fun z => h.2.2 (by have := z; unfold cnd at this; omega)⟩⟩,
   by intros; exact propext ⟨fun h => ⟨h.1, h.2.1, fun z => h.2.2 (by have := z; unfold cnd; omega)⟩, fun h => ⟨h.1, h.2.1, fun z => h.2.2 (by have := z; unfold cnd at this; omega)⟩⟩,
   by intros; exact propext ⟨fun h => ⟨⟨h.1, h.2.1⟩, h.2.2.1, fun z => h.2.2.2 (by have := z; unfold cnd; omega)⟩, fun h => ⟨h.1.1, h.1.2, h.2.1, fun z => h.2.2 (by have := z; unfold cnd at this; omega)⟩⟩,
   by intros; exact propext ⟨fun h => ⟨h.1, h.2.1, fun z => h.2.2 (by have := z; unfold cnd; omega)⟩, fun h => ⟨h.1, h.2.1, fun z => h.2.2 (by have := z; unfold cnd at this; omega)⟩⟩,
   by intros; exact propext ⟨fun h => ⟨⟨h.1, h.2.1⟩, h.2.2.1, fun z => h.2.2.2 (by have := z; unfold cnd; omega)⟩, fun h => ⟨h.1.1, h.1.2, h.2.1, fun z => h.2.2 (by have := z; unfold cnd at this; omega)⟩⟩,
   by intros; exact propext ⟨fun h => ⟨h.1, h.2.1, fun z => h.2.2 (by have := z; unfold cnd; omega)⟩, fun h => ⟨h.1, h.2.1, fun z => h.2.2 (by have := z; unfold cnd at this; omega)⟩⟩,
   by intros; exact propext ⟨fun h => ⟨⟨h.1, h.2.1⟩, h.2.2.1, fun z => h.2.2.2 (by have := z; unfold cnd; omega)⟩, fun h => ⟨h.1.1, h.1.2, h.2.1, fun z => h.2.2 (by have := z; unfold cnd at this; omega)⟩⟩,
   by intros; exact propext ⟨fun h => ⟨h.1, h.2.1, fun z => h.2.2 (by have := z; unfold cnd; omega)⟩, fun h => ⟨h.1, h.2.1, fun z => h.2.2 (by have := z; unfold cnd at this; omega)⟩⟩,
   by intros; rfl,
   by intros; rfl,
   by intros; rfl,
   by intros; rfl,
   by intros; rfl,
   by intros; rfl,
   by intros; rfl,
   by intros; rfl,
   by intros; rfl,
   by intros; rfl,
   by intros; rfl,
   by intros; rfl,
   by intros; rfl,
   by intros; rfl,
   by intros; exact propext ⟨fun h => ⟨trivial, h.2⟩, fun h => ⟨rfl, h.2⟩⟩,
   by intros; exact propext ⟨fun h => ⟨trivial, h.2⟩, fun h => ⟨rfl, h.2⟩⟩,
   by intros; exact propext ⟨fun h => ⟨trivial, h.2⟩, fun h => ⟨rfl, h.2⟩⟩,
   by intros; rfl⟩
theorem WX (C : CC) (X : XX) (mc ms : Nat) (S : Nat → KK) (Rt : RR) (bt : Nat → BL) (sp : Nat → Bool) (f pc : Nat) (ls : AL) (st : List AV) (Z : ZZ) (M : MM) : wpx C X mc ms S Rt bt sp (f + 1) pc ls st Z M = wpl C X mc ms (fun t => cond (sp t) (S t) (wpx C X mc ms S Rt bt sp f t)) Rt (bt pc) pc ls st Z M := rfl
theorem GS : (∀ (a : Int) (k : Int → Prop), gI (some (Sum.inl a)) k = k a) ∧ (∀ (a : Int) (k : Int → Prop), gL (some (Sum.inr (Sum.inl a))) k = k a) ∧ (∀ (a : Nat) (k : Nat → Prop), gR (some (Sum.inr (Sum.inr a))) k = k a) ∧ (∀ (kn : Prop) (kr : Nat → Prop), gF (some none) kn kr = kn) ∧ (∀ (q : Nat) (kn : Prop) (kr : Nat → Prop), gF (some (some (some q))) kn kr = kr q) ∧
    (∀ (t n : Nat) (f : Nat → Option Nat) (j : Int) (k : Nat → (Nat → Option Nat) → Prop), gA (some (t, n, f)) j k = ((0 ≤ j ∧ j < n) ∧ n ≤ 100000 ∧ k t f)) ∧ (∀ (q : Nat) (k : Nat → Prop), gQ (some q) k = k q) ∧
    (∀ (a : Int) (t : List AV) (k : Int → List AV → Prop), pI (Sum.inl a :: t) k = k a t) ∧ (∀ (a : Nat) (t : List AV) (k : Nat → List AV → Prop), pR (Sum.inr (Sum.inr a) :: t) k = k a t) :=
  ⟨fun _ _ => rfl, fun _ _ => rfl, fun _ _ => rfl, fun _ _ => rfl, fun _ _ _ => rfl, fun _ _ _ _ _ => rfl, fun _ _ => rfl, fun _ _ _ => rfl, fun _ _ _ => rfl⟩
theorem LOC : (∀ (x : Option AV) (t : AL), lget (x :: t) 0 = x) ∧ (∀ (x : Option AV) (t : AL) (i : Nat), lget (x :: t) (i + 1) = lget t i) ∧ (∀ (x : Option AV) (t : AL) (v : AV), lst1 (x :: t) 0 v = some v :: t) ∧ (∀ (x : Option AV) (t : AL) (v : AV), lst1 (x :: t) 1 v = lclr x :: lst1 t 0 v) ∧ (∀ (x : Option AV) (t : AL) (i : Nat) (v : AV), lst1 (x :: t) (i + 2) v = x :: lst1 t (i + 1) v) ∧
    (∀ (x y : Option AV) (t : AL) (v : AV), lst2 (x :: y :: t) 0 v = some v :: none :: t) ∧ (∀ (x y : Option AV) (t : AL) (v : AV), lst2 (x :: y :: t) 1 v = lclr x :: lst2 (y :: t) 0 v) ∧ (∀ (x : Option AV) (t : AL) (i : Nat) (v : AV), lst2 (x :: t) (i + 2) v = x :: lst2 t (i + 1) v) ∧
    lclr none = none ∧ (∀ a : Int, lclr (some (Sum.inl a)) = some (Sum.inl a)) ∧ (∀ a : Nat, lclr (some (Sum.inr (Sum.inr a))) = some (Sum.inr (Sum.inr a))) ∧ (∀ a : Int, lclr (some (Sum.inr (Sum.inl a))) = none) :=
  ⟨fun _ _ => rfl, fun _ _ _ => rfl, fun _ _ _ => rfl, fun _ _ _ => rfl, fun _ _ _ _ => rfl, fun _ _ _ _ => rfl, fun _ _ _ _ => by simp [lst2], fun x t i v => by cases t <;> simp [lst2], rfl, fun _ => rfl, fun _ => rfl, fun _ => rfl⟩
end
