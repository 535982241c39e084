-- ===== PART A: goes FIRST, ahead of the names: the tables' words, and 'selects' of the private methods out of them =====
/-- a private method of a class that the tables say can be made, by its rows of tables_1 -/
def lw_okq (q : MethodName × Nat) : Prop := (q.1.cls ≠ "java/lang/invoke/MethodHandle" ∧ q.1.cls ≠ "java/lang/invoke/VarHandle") ∧ Cond.instantiable q.1.cls q.2 ∈ tables_1 ∧ Cond.privateMethod q.1 ∈ tables_1 ∧ Cond.instanceMethod q.1 ∈ tables_1
theorem lw_p0 : lw_okq (⟨"CupFountain", "recorded", "(I)I"⟩, 10) := ⟨⟨by decide +kernel, by decide +kernel⟩, List.mem_of_getElem? (i := 8) (by decide +kernel), List.mem_of_getElem? (i := 212) (by decide +kernel), List.mem_of_getElem? (i := 213) (by decide +kernel)⟩
theorem lw_p1 : lw_okq (⟨"CupFountain", "dropOldest", "()V"⟩, 10) := ⟨⟨by decide +kernel, by decide +kernel⟩, List.mem_of_getElem? (i := 8) (by decide +kernel), List.mem_of_getElem? (i := 216) (by decide +kernel), List.mem_of_getElem? (i := 217) (by decide +kernel)⟩
theorem lw_p2 : lw_okq (⟨"CupFountain$State", "tellSetting", "(I)I"⟩, 9) := ⟨⟨by decide +kernel, by decide +kernel⟩, List.mem_of_getElem? (i := 16) (by decide +kernel), List.mem_of_getElem? (i := 261) (by decide +kernel), List.mem_of_getElem? (i := 262) (by decide +kernel)⟩
theorem lw_p3 : lw_okq (⟨"CupFountain$State", "openGuarded", "(I)V"⟩, 9) := ⟨⟨by decide +kernel, by decide +kernel⟩, List.mem_of_getElem? (i := 16) (by decide +kernel), List.mem_of_getElem? (i := 286) (by decide +kernel), List.mem_of_getElem? (i := 287) (by decide +kernel)⟩
theorem lw_p4 : lw_okq (⟨"CupFountain$State", "springs", "()V"⟩, 9) := ⟨⟨by decide +kernel, by decide +kernel⟩, List.mem_of_getElem? (i := 16) (by decide +kernel), List.mem_of_getElem? (i := 290) (by decide +kernel), List.mem_of_getElem? (i := 291) (by decide +kernel)⟩
theorem lw_p5 : lw_okq (⟨"CupFountain$State", "tipOrKeep", "(LCupFountain$Cup;I)I"⟩, 9) := ⟨⟨by decide +kernel, by decide +kernel⟩, List.mem_of_getElem? (i := 16) (by decide +kernel), List.mem_of_getElem? (i := 297) (by decide +kernel), List.mem_of_getElem? (i := 298) (by decide +kernel)⟩
theorem lw_p6 : lw_okq (⟨"CupFountain$State", "shutGuarded", "()V"⟩, 9) := ⟨⟨by decide +kernel, by decide +kernel⟩, List.mem_of_getElem? (i := 16) (by decide +kernel), List.mem_of_getElem? (i := 314) (by decide +kernel), List.mem_of_getElem? (i := 315) (by decide +kernel)⟩
theorem lw_p7 : lw_okq (⟨"CupFountain$Plan", "readThing", "(I)Z"⟩, 7) := ⟨⟨by decide +kernel, by decide +kernel⟩, List.mem_of_getElem? (i := 116) (by decide +kernel), List.mem_of_getElem? (i := 342) (by decide +kernel), List.mem_of_getElem? (i := 343) (by decide +kernel)⟩
theorem lw_p8 : lw_okq (⟨"CupFountain$Plan", "look", "()I"⟩, 7) := ⟨⟨by decide +kernel, by decide +kernel⟩, List.mem_of_getElem? (i := 116) (by decide +kernel), List.mem_of_getElem? (i := 346) (by decide +kernel), List.mem_of_getElem? (i := 347) (by decide +kernel)⟩
theorem lw_p9 : lw_okq (⟨"CupFountain$Plan", "startThing", "(II)Z"⟩, 7) := ⟨⟨by decide +kernel, by decide +kernel⟩, List.mem_of_getElem? (i := 116) (by decide +kernel), List.mem_of_getElem? (i := 350) (by decide +kernel), List.mem_of_getElem? (i := 351) (by decide +kernel)⟩
theorem lw_p10 : lw_okq (⟨"CupFountain$Plan", "readCup", "(I)Z"⟩, 7) := ⟨⟨by decide +kernel, by decide +kernel⟩, List.mem_of_getElem? (i := 116) (by decide +kernel), List.mem_of_getElem? (i := 355) (by decide +kernel), List.mem_of_getElem? (i := 356) (by decide +kernel)⟩
theorem lw_p11 : lw_okq (⟨"CupFountain$Plan", "lookForDigit", "()I"⟩, 7) := ⟨⟨by decide +kernel, by decide +kernel⟩, List.mem_of_getElem? (i := 116) (by decide +kernel), List.mem_of_getElem? (i := 359) (by decide +kernel), List.mem_of_getElem? (i := 360) (by decide +kernel)⟩
theorem lw_p12 : lw_okq (⟨"CupFountain$Plan", "skip", "(C)Z"⟩, 7) := ⟨⟨by decide +kernel, by decide +kernel⟩, List.mem_of_getElem? (i := 116) (by decide +kernel), List.mem_of_getElem? (i := 363) (by decide +kernel), List.mem_of_getElem? (i := 364) (by decide +kernel)⟩
theorem lw_p13 : lw_okq (⟨"CupFountain$Plan", "readNumber", "(III)Z"⟩, 7) := ⟨⟨by decide +kernel, by decide +kernel⟩, List.mem_of_getElem? (i := 116) (by decide +kernel), List.mem_of_getElem? (i := 367) (by decide +kernel), List.mem_of_getElem? (i := 368) (by decide +kernel)⟩
theorem lw_p14 : lw_okq (⟨"CupFountain", "ticksTillTip", "(I)I"⟩, 10) := ⟨⟨by decide +kernel, by decide +kernel⟩, List.mem_of_getElem? (i := 8) (by decide +kernel), List.mem_of_getElem? (i := 416) (by decide +kernel), List.mem_of_getElem? (i := 417) (by decide +kernel)⟩
theorem lw_p15 : lw_okq (⟨"CupFountain", "hourOfTip", "(I)I"⟩, 10) := ⟨⟨by decide +kernel, by decide +kernel⟩, List.mem_of_getElem? (i := 8) (by decide +kernel), List.mem_of_getElem? (i := 424) (by decide +kernel), List.mem_of_getElem? (i := 425) (by decide +kernel)⟩
def lw_privs_1 : List (MethodName × Nat) := [(⟨"CupFountain", "recorded", "(I)I"⟩, 10), (⟨"CupFountain", "dropOldest", "()V"⟩, 10), (⟨"CupFountain$State", "tellSetting", "(I)I"⟩, 9), (⟨"CupFountain$State", "openGuarded", "(I)V"⟩, 9), (⟨"CupFountain$State", "springs", "()V"⟩, 9), (⟨"CupFountain$State", "tipOrKeep", "(LCupFountain$Cup;I)I"⟩, 9), (⟨"CupFountain$State", "shutGuarded", "()V"⟩, 9), (⟨"CupFountain$Plan", "readThing", "(I)Z"⟩, 7), (⟨"CupFountain$Plan", "look", "()I"⟩, 7), (⟨"CupFountain$Plan", "startThing", "(II)Z"⟩, 7), (⟨"CupFountain$Plan", "readCup", "(I)Z"⟩, 7), (⟨"CupFountain$Plan", "lookForDigit", "()I"⟩, 7), (⟨"CupFountain$Plan", "skip", "(C)Z"⟩, 7), (⟨"CupFountain$Plan", "readNumber", "(III)Z"⟩, 7), (⟨"CupFountain", "ticksTillTip", "(I)I"⟩, 10), (⟨"CupFountain", "hourOfTip", "(I)I"⟩, 10)]
theorem lw_r1 : ∀ q ∈ lw_privs_1, lw_okq q := List.forall_mem_cons.mpr ⟨lw_p0, List.forall_mem_cons.mpr ⟨lw_p1, List.forall_mem_cons.mpr ⟨lw_p2, List.forall_mem_cons.mpr ⟨lw_p3, List.forall_mem_cons.mpr ⟨lw_p4, List.forall_mem_cons.mpr ⟨lw_p5, List.forall_mem_cons.mpr ⟨lw_p6, List.forall_mem_cons.mpr ⟨lw_p7, List.forall_mem_cons.mpr ⟨lw_p8, List.forall_mem_cons.mpr ⟨lw_p9, List.forall_mem_cons.mpr ⟨lw_p10, List.forall_mem_cons.mpr ⟨lw_p11, List.forall_mem_cons.mpr ⟨lw_p12, List.forall_mem_cons.mpr ⟨lw_p13, List.forall_mem_cons.mpr ⟨lw_p14, List.forall_mem_cons.mpr ⟨lw_p15, fun _ h => absurd h List.not_mem_nil⟩⟩⟩⟩⟩⟩⟩⟩⟩⟩⟩⟩⟩⟩⟩⟩
theorem lw_p16 : lw_okq (⟨"CupFountain$State", "sumFull", "()I"⟩, 9) := ⟨⟨by decide +kernel, by decide +kernel⟩, List.mem_of_getElem? (i := 16) (by decide +kernel), List.mem_of_getElem? (i := 461) (by decide +kernel), List.mem_of_getElem? (i := 462) (by decide +kernel)⟩
theorem lw_p17 : lw_okq (⟨"CupFountainModel", "lay", "(III)V"⟩, 17) := ⟨⟨by decide +kernel, by decide +kernel⟩, List.mem_of_getElem? (i := 469) (by decide +kernel), List.mem_of_getElem? (i := 475) (by decide +kernel), List.mem_of_getElem? (i := 476) (by decide +kernel)⟩
theorem lw_p18 : lw_okq (⟨"CupFountainModel", "begin", "()V"⟩, 17) := ⟨⟨by decide +kernel, by decide +kernel⟩, List.mem_of_getElem? (i := 469) (by decide +kernel), List.mem_of_getElem? (i := 536) (by decide +kernel), List.mem_of_getElem? (i := 537) (by decide +kernel)⟩
theorem lw_p19 : lw_okq (⟨"CupFountainModel", "doSetCup", "(III)I"⟩, 17) := ⟨⟨by decide +kernel, by decide +kernel⟩, List.mem_of_getElem? (i := 469) (by decide +kernel), List.mem_of_getElem? (i := 543) (by decide +kernel), List.mem_of_getElem? (i := 544) (by decide +kernel)⟩
theorem lw_p20 : lw_okq (⟨"CupFountainModel", "of", "(II)I"⟩, 17) := ⟨⟨by decide +kernel, by decide +kernel⟩, List.mem_of_getElem? (i := 469) (by decide +kernel), List.mem_of_getElem? (i := 556) (by decide +kernel), List.mem_of_getElem? (i := 557) (by decide +kernel)⟩
theorem lw_p21 : lw_okq (⟨"CupFountainModel", "act", "(I)I"⟩, 17) := ⟨⟨by decide +kernel, by decide +kernel⟩, List.mem_of_getElem? (i := 469) (by decide +kernel), List.mem_of_getElem? (i := 560) (by decide +kernel), List.mem_of_getElem? (i := 561) (by decide +kernel)⟩
theorem lw_p22 : lw_okq (⟨"CupFountainModel", "recordFrom", "([I)V"⟩, 17) := ⟨⟨by decide +kernel, by decide +kernel⟩, List.mem_of_getElem? (i := 469) (by decide +kernel), List.mem_of_getElem? (i := 564) (by decide +kernel), List.mem_of_getElem? (i := 565) (by decide +kernel)⟩
theorem lw_p23 : lw_okq (⟨"CupFountainModel", "doTurn", "(I)I"⟩, 17) := ⟨⟨by decide +kernel, by decide +kernel⟩, List.mem_of_getElem? (i := 469) (by decide +kernel), List.mem_of_getElem? (i := 572) (by decide +kernel), List.mem_of_getElem? (i := 573) (by decide +kernel)⟩
theorem lw_p24 : lw_okq (⟨"CupFountainModel", "doSetHour", "(II)I"⟩, 17) := ⟨⟨by decide +kernel, by decide +kernel⟩, List.mem_of_getElem? (i := 469) (by decide +kernel), List.mem_of_getElem? (i := 580) (by decide +kernel), List.mem_of_getElem? (i := 581) (by decide +kernel)⟩
theorem lw_p25 : lw_okq (⟨"CupFountainModel", "doGuard", "(I)I"⟩, 17) := ⟨⟨by decide +kernel, by decide +kernel⟩, List.mem_of_getElem? (i := 469) (by decide +kernel), List.mem_of_getElem? (i := 588) (by decide +kernel), List.mem_of_getElem? (i := 589) (by decide +kernel)⟩
theorem lw_p26 : lw_okq (⟨"CupFountainModel", "doFill", "(II)I"⟩, 17) := ⟨⟨by decide +kernel, by decide +kernel⟩, List.mem_of_getElem? (i := 469) (by decide +kernel), List.mem_of_getElem? (i := 596) (by decide +kernel), List.mem_of_getElem? (i := 597) (by decide +kernel)⟩
theorem lw_p27 : lw_okq (⟨"CupFountainModel", "doSet", "(II)I"⟩, 17) := ⟨⟨by decide +kernel, by decide +kernel⟩, List.mem_of_getElem? (i := 469) (by decide +kernel), List.mem_of_getElem? (i := 604) (by decide +kernel), List.mem_of_getElem? (i := 605) (by decide +kernel)⟩
theorem lw_p28 : lw_okq (⟨"CupFountainModel", "doPass", "(I)I"⟩, 17) := ⟨⟨by decide +kernel, by decide +kernel⟩, List.mem_of_getElem? (i := 469) (by decide +kernel), List.mem_of_getElem? (i := 612) (by decide +kernel), List.mem_of_getElem? (i := 613) (by decide +kernel)⟩
theorem lw_p29 : lw_okq (⟨"CupFountainModel", "sumOf", "(I)I"⟩, 17) := ⟨⟨by decide +kernel, by decide +kernel⟩, List.mem_of_getElem? (i := 469) (by decide +kernel), List.mem_of_getElem? (i := 617) (by decide +kernel), List.mem_of_getElem? (i := 618) (by decide +kernel)⟩
theorem lw_p30 : lw_okq (⟨"CupFountainModel", "tick", "()V"⟩, 17) := ⟨⟨by decide +kernel, by decide +kernel⟩, List.mem_of_getElem? (i := 469) (by decide +kernel), List.mem_of_getElem? (i := 621) (by decide +kernel), List.mem_of_getElem? (i := 622) (by decide +kernel)⟩
theorem lw_p31 : lw_okq (⟨"CupFountainModel", "hourOf", "(I)I"⟩, 17) := ⟨⟨by decide +kernel, by decide +kernel⟩, List.mem_of_getElem? (i := 469) (by decide +kernel), List.mem_of_getElem? (i := 625) (by decide +kernel), List.mem_of_getElem? (i := 626) (by decide +kernel)⟩
def lw_privs_2 : List (MethodName × Nat) := [(⟨"CupFountain$State", "sumFull", "()I"⟩, 9), (⟨"CupFountainModel", "lay", "(III)V"⟩, 17), (⟨"CupFountainModel", "begin", "()V"⟩, 17), (⟨"CupFountainModel", "doSetCup", "(III)I"⟩, 17), (⟨"CupFountainModel", "of", "(II)I"⟩, 17), (⟨"CupFountainModel", "act", "(I)I"⟩, 17), (⟨"CupFountainModel", "recordFrom", "([I)V"⟩, 17), (⟨"CupFountainModel", "doTurn", "(I)I"⟩, 17), (⟨"CupFountainModel", "doSetHour", "(II)I"⟩, 17), (⟨"CupFountainModel", "doGuard", "(I)I"⟩, 17), (⟨"CupFountainModel", "doFill", "(II)I"⟩, 17), (⟨"CupFountainModel", "doSet", "(II)I"⟩, 17), (⟨"CupFountainModel", "doPass", "(I)I"⟩, 17), (⟨"CupFountainModel", "sumOf", "(I)I"⟩, 17), (⟨"CupFountainModel", "tick", "()V"⟩, 17), (⟨"CupFountainModel", "hourOf", "(I)I"⟩, 17)]
theorem lw_r2 : ∀ q ∈ lw_privs_2, lw_okq q := List.forall_mem_cons.mpr ⟨lw_p16, List.forall_mem_cons.mpr ⟨lw_p17, List.forall_mem_cons.mpr ⟨lw_p18, List.forall_mem_cons.mpr ⟨lw_p19, List.forall_mem_cons.mpr ⟨lw_p20, List.forall_mem_cons.mpr ⟨lw_p21, List.forall_mem_cons.mpr ⟨lw_p22, List.forall_mem_cons.mpr ⟨lw_p23, List.forall_mem_cons.mpr ⟨lw_p24, List.forall_mem_cons.mpr ⟨lw_p25, List.forall_mem_cons.mpr ⟨lw_p26, List.forall_mem_cons.mpr ⟨lw_p27, List.forall_mem_cons.mpr ⟨lw_p28, List.forall_mem_cons.mpr ⟨lw_p29, List.forall_mem_cons.mpr ⟨lw_p30, List.forall_mem_cons.mpr ⟨lw_p31, fun _ h => absurd h List.not_mem_nil⟩⟩⟩⟩⟩⟩⟩⟩⟩⟩⟩⟩⟩⟩⟩⟩
theorem lw_p32 : lw_okq (⟨"CupFountainModel", "pour", "(II)V"⟩, 17) := ⟨⟨by decide +kernel, by decide +kernel⟩, List.mem_of_getElem? (i := 469) (by decide +kernel), List.mem_of_getElem? (i := 629) (by decide +kernel), List.mem_of_getElem? (i := 630) (by decide +kernel)⟩
theorem lw_p33 : lw_okq (⟨"CupFountainModel", "tipOrKeep", "(II)V"⟩, 17) := ⟨⟨by decide +kernel, by decide +kernel⟩, List.mem_of_getElem? (i := 469) (by decide +kernel), List.mem_of_getElem? (i := 633) (by decide +kernel), List.mem_of_getElem? (i := 634) (by decide +kernel)⟩
theorem lw_p34 : lw_okq (⟨"CupFountainModel", "isFull", "(I)Z"⟩, 17) := ⟨⟨by decide +kernel, by decide +kernel⟩, List.mem_of_getElem? (i := 469) (by decide +kernel), List.mem_of_getElem? (i := 637) (by decide +kernel), List.mem_of_getElem? (i := 638) (by decide +kernel)⟩
theorem lw_p35 : lw_okq (⟨"CupFountainModel", "countTip", "(II)V"⟩, 17) := ⟨⟨by decide +kernel, by decide +kernel⟩, List.mem_of_getElem? (i := 469) (by decide +kernel), List.mem_of_getElem? (i := 641) (by decide +kernel), List.mem_of_getElem? (i := 642) (by decide +kernel)⟩
theorem lw_p36 : lw_okq (⟨"CupFountainModel", "readText", "(Z)Z"⟩, 17) := ⟨⟨by decide +kernel, by decide +kernel⟩, List.mem_of_getElem? (i := 469) (by decide +kernel), List.mem_of_getElem? (i := 657) (by decide +kernel), List.mem_of_getElem? (i := 658) (by decide +kernel)⟩
theorem lw_p37 : lw_okq (⟨"CupFountainModel", "readThing", "()Z"⟩, 17) := ⟨⟨by decide +kernel, by decide +kernel⟩, List.mem_of_getElem? (i := 469) (by decide +kernel), List.mem_of_getElem? (i := 661) (by decide +kernel), List.mem_of_getElem? (i := 662) (by decide +kernel)⟩
theorem lw_p38 : lw_okq (⟨"CupFountainModel", "readCup", "()Z"⟩, 17) := ⟨⟨by decide +kernel, by decide +kernel⟩, List.mem_of_getElem? (i := 469) (by decide +kernel), List.mem_of_getElem? (i := 665) (by decide +kernel), List.mem_of_getElem? (i := 666) (by decide +kernel)⟩
theorem lw_p39 : lw_okq (⟨"CupFountainModel", "isNext", "(II)Z"⟩, 17) := ⟨⟨by decide +kernel, by decide +kernel⟩, List.mem_of_getElem? (i := 469) (by decide +kernel), List.mem_of_getElem? (i := 669) (by decide +kernel), List.mem_of_getElem? (i := 670) (by decide +kernel)⟩
theorem lw_p40 : lw_okq (⟨"CupFountainModel", "takes", "(I)Z"⟩, 17) := ⟨⟨by decide +kernel, by decide +kernel⟩, List.mem_of_getElem? (i := 469) (by decide +kernel), List.mem_of_getElem? (i := 673) (by decide +kernel), List.mem_of_getElem? (i := 674) (by decide +kernel)⟩
theorem lw_p41 : lw_okq (⟨"CupFountainModel", "readNumber", "(II)Z"⟩, 17) := ⟨⟨by decide +kernel, by decide +kernel⟩, List.mem_of_getElem? (i := 469) (by decide +kernel), List.mem_of_getElem? (i := 677) (by decide +kernel), List.mem_of_getElem? (i := 678) (by decide +kernel)⟩
theorem lw_p42 : lw_okq (⟨"CupFountainModel", "does", "()I"⟩, 17) := ⟨⟨by decide +kernel, by decide +kernel⟩, List.mem_of_getElem? (i := 469) (by decide +kernel), List.mem_of_getElem? (i := 681) (by decide +kernel), List.mem_of_getElem? (i := 682) (by decide +kernel)⟩
theorem lw_p43 : lw_okq (⟨"CupFountainModel", "untilTip", "(II)I"⟩, 17) := ⟨⟨by decide +kernel, by decide +kernel⟩, List.mem_of_getElem? (i := 469) (by decide +kernel), List.mem_of_getElem? (i := 709) (by decide +kernel), List.mem_of_getElem? (i := 710) (by decide +kernel)⟩
theorem lw_p44 : lw_okq (⟨"CupFountainModel", "hourOfTip", "(I)I"⟩, 17) := ⟨⟨by decide +kernel, by decide +kernel⟩, List.mem_of_getElem? (i := 469) (by decide +kernel), List.mem_of_getElem? (i := 721) (by decide +kernel), List.mem_of_getElem? (i := 722) (by decide +kernel)⟩
theorem lw_p45 : lw_okq (⟨"CupFountainModel", "full", "()I"⟩, 17) := ⟨⟨by decide +kernel, by decide +kernel⟩, List.mem_of_getElem? (i := 469) (by decide +kernel), List.mem_of_getElem? (i := 745) (by decide +kernel), List.mem_of_getElem? (i := 746) (by decide +kernel)⟩
def lw_privs_3 : List (MethodName × Nat) := [(⟨"CupFountainModel", "pour", "(II)V"⟩, 17), (⟨"CupFountainModel", "tipOrKeep", "(II)V"⟩, 17), (⟨"CupFountainModel", "isFull", "(I)Z"⟩, 17), (⟨"CupFountainModel", "countTip", "(II)V"⟩, 17), (⟨"CupFountainModel", "readText", "(Z)Z"⟩, 17), (⟨"CupFountainModel", "readThing", "()Z"⟩, 17), (⟨"CupFountainModel", "readCup", "()Z"⟩, 17), (⟨"CupFountainModel", "isNext", "(II)Z"⟩, 17), (⟨"CupFountainModel", "takes", "(I)Z"⟩, 17), (⟨"CupFountainModel", "readNumber", "(II)Z"⟩, 17), (⟨"CupFountainModel", "does", "()I"⟩, 17), (⟨"CupFountainModel", "untilTip", "(II)I"⟩, 17), (⟨"CupFountainModel", "hourOfTip", "(I)I"⟩, 17), (⟨"CupFountainModel", "full", "()I"⟩, 17)]
theorem lw_r3 : ∀ q ∈ lw_privs_3, lw_okq q := List.forall_mem_cons.mpr ⟨lw_p32, List.forall_mem_cons.mpr ⟨lw_p33, List.forall_mem_cons.mpr ⟨lw_p34, List.forall_mem_cons.mpr ⟨lw_p35, List.forall_mem_cons.mpr ⟨lw_p36, List.forall_mem_cons.mpr ⟨lw_p37, List.forall_mem_cons.mpr ⟨lw_p38, List.forall_mem_cons.mpr ⟨lw_p39, List.forall_mem_cons.mpr ⟨lw_p40, List.forall_mem_cons.mpr ⟨lw_p41, List.forall_mem_cons.mpr ⟨lw_p42, List.forall_mem_cons.mpr ⟨lw_p43, List.forall_mem_cons.mpr ⟨lw_p44, List.forall_mem_cons.mpr ⟨lw_p45, fun _ h => absurd h List.not_mem_nil⟩⟩⟩⟩⟩⟩⟩⟩⟩⟩⟩⟩⟩⟩
def lw_privs : List (MethodName × Nat) := lw_privs_1 ++ (lw_privs_2 ++ (lw_privs_3))
def lw_tbl : List Cond := k2_sels lw_privs ++ tables_1
theorem lw_privs_ok : ∀ q ∈ lw_privs, lw_okq q := by
  show ∀ q ∈ lw_privs_1 ++ (lw_privs_2 ++ (lw_privs_3)), lw_okq q
  exact List.forall_mem_append.mpr ⟨lw_r1, List.forall_mem_append.mpr ⟨lw_r2, lw_r3⟩⟩
-- ===== end of PART A =====
/-! ===== BEGIN words of one list among another's, by their places ===== -/
theorem goodIn_r {big : List Cond} (ws : List Cond) (ps : List Nat) (hp : ws = ps.filterMap (fun i => big[i]?)) (h : ws.all goodWord = true) : GoodIn big ws := by
  intro w hw
  have h1 := List.all_eq_true.mp h w hw
  rw [hp] at hw
  obtain ⟨i, -, hi⟩ := List.mem_filterMap.mp hw
  have hm : w ∈ big := by first | exact List.mem_of_getElem? hi | exact List.getElem?_mem hi
  exact ⟨hm, good_of_word h1⟩
theorem goodIn_app {big a b : List Cond} (ha : GoodIn big a) (hb : GoodIn big b) : GoodIn big (a ++ b) := fun w h => (List.mem_append.mp h).elim (ha w) (hb w)
theorem goodIn_ca {big a b : List Cond} {c : Cond} (ha : GoodIn big (c :: a)) (hb : GoodIn big b) : GoodIn big (c :: (a ++ b)) := fun w h => (List.mem_cons.mp h).elim (fun e => ha w (List.mem_cons.mpr (Or.inl e))) (fun h => (List.mem_append.mp h).elim (fun h => ha w (List.mem_cons.mpr (Or.inr h))) (hb w))
theorem goodIn_sub {big ws : List Cond} (hm : ∀ w ∈ ws, w ∈ big) (h : ws.all goodWord = true) : GoodIn big ws := fun w hw => ⟨hm w hw, good_of_word (List.all_eq_true.mp h w hw)⟩
/-! ===== END ===== -/

/-! ===== BEGIN printed: names, fields, word lists, decode rows ===== -/
def RX0 : String := "CupFountain$Cup"
def TX0 : u_T := fun k => match k with
  | 0 => ("CupFountain$Cup", "size", "I", false)
  | 1 => ("CupFountain$Cup", "leak", "I", false)
  | 2 => ("CupFountain$Cup", "next", "I", false)
  | 3 => ("CupFountain$Cup", "water", "I", false)
  | 4 => ("CupFountain$Cup", "hour", "I", false)
  | 5 => ("CupFountain$Cup", "open", "Z", false)
  | 6 => ("CupFountain$Cup", "guarded", "Z", false)
  | 7 => ("CupFountain$Cup", "jet", "I", false)
  | 8 => ("CupFountain$Cup", "tips", "I", false)
  | 9 => ("CupFountain$Cup", "onTime", "I", false)
  | 10 => ("CupFountain$Cup", "early", "I", false)
  | 11 => ("CupFountain$Cup", "late", "I", false)
  | _ => ("CupFountain$Cup", "ready", "I", false)
def tyX0 : Nat → FieldType := fun k => match k with
  | 0 => .int
  | 1 => .int
  | 2 => .int
  | 3 => .int
  | 4 => .int
  | 5 => .boolean
  | 6 => .boolean
  | 7 => .int
  | 8 => .int
  | 9 => .int
  | 10 => .int
  | 11 => .int
  | _ => .int
abbrev wsX00 : List Cond := u_ws RX0 TX0 13
theorem nmX0 : ∀ a, a < 13 → ∀ b, b < 13 → a ≠ b → (TX0 a).2.1 ≠ (TX0 b).2.1 := by decide +kernel
theorem tyX0_ok : ∀ k, k < 13 → parseFieldDescriptor (TX0 k).2.2.1 = some (tyX0 k) := by decide +kernel
abbrev cX0_init : ByteArray := prog_2_method_1_code
def yX0_init : MethodName := ⟨RX0, "<init>", "(I)V"⟩
abbrev cX0_copyFrom : ByteArray := prog_2_method_2_code
def yX0_copyFrom : MethodName := ⟨RX0, "copyFrom", "(LCupFountain$Cup;)V"⟩
abbrev cX0_isFull : ByteArray := prog_2_method_3_code
def yX0_isFull : MethodName := ⟨RX0, "isFull", "()Z"⟩
abbrev cX0_tip : ByteArray := prog_2_method_4_code
def yX0_tip : MethodName := ⟨RX0, "tip", "(I)I"⟩
abbrev cX0_runOver : ByteArray := prog_2_method_5_code
def yX0_runOver : MethodName := ⟨RX0, "runOver", "()I"⟩
abbrev cX0_drip : ByteArray := prog_2_method_6_code
def yX0_drip : MethodName := ⟨RX0, "drip", "()I"⟩
abbrev cX0_tell : ByteArray := prog_2_method_7_code
def yX0_tell : MethodName := ⟨RX0, "tell", "(I)I"⟩
def RX1 : String := "CupFountain$Plan"
def TX1 : u_T := fun k => match k with
  | 0 => ("CupFountain$Plan", "text", "[C", true)
  | 1 => ("CupFountain$Plan", "length", "I", false)
  | 2 => ("CupFountain$Plan", "kinds", "[I", true)
  | 3 => ("CupFountain$Plan", "whose", "[I", true)
  | 4 => ("CupFountain$Plan", "numbers", "[I", true)
  | 5 => ("CupFountain$Plan", "things", "I", false)
  | _ => ("CupFountain$Plan", "place", "I", false)
def tyX1 : Nat → FieldType := fun k => match k with
  | 0 => .array .char
  | 1 => .int
  | 2 => .array .int
  | 3 => .array .int
  | 4 => .array .int
  | 5 => .int
  | _ => .int
abbrev wsX10 : List Cond := u_ws RX1 TX1 7
theorem nmX1 : ∀ a, a < 7 → ∀ b, b < 7 → a ≠ b → (TX1 a).2.1 ≠ (TX1 b).2.1 := by decide +kernel
theorem tyX1_ok : ∀ k, k < 7 → parseFieldDescriptor (TX1 k).2.2.1 = some (tyX1 k) := by decide +kernel
abbrev cX1_init : ByteArray := prog_3_method_1_code
def yX1_init : MethodName := ⟨RX1, "<init>", "()V"⟩
abbrev cX1_append : ByteArray := prog_3_method_2_code
def yX1_append : MethodName := ⟨RX1, "append", "(C)I"⟩
abbrev cX1_empty : ByteArray := prog_3_method_3_code
def yX1_empty : MethodName := ⟨RX1, "empty", "()I"⟩
abbrev cX1_read : ByteArray := prog_3_method_4_code
def yX1_read : MethodName := ⟨RX1, "read", "()I"⟩
abbrev cX1_readThing : ByteArray := prog_3_method_5_code
def yX1_readThing : MethodName := ⟨RX1, "readThing", "(I)Z"⟩
abbrev cX1_startThing : ByteArray := prog_3_method_6_code
def yX1_startThing : MethodName := ⟨RX1, "startThing", "(II)Z"⟩
abbrev cX1_readCup : ByteArray := prog_3_method_7_code
def yX1_readCup : MethodName := ⟨RX1, "readCup", "(I)Z"⟩
abbrev cX1_readNumber : ByteArray := prog_3_method_8_code
def yX1_readNumber : MethodName := ⟨RX1, "readNumber", "(III)Z"⟩
abbrev cX1_skip : ByteArray := prog_3_method_9_code
def yX1_skip : MethodName := ⟨RX1, "skip", "(C)Z"⟩
abbrev cX1_look : ByteArray := prog_3_method_10_code
def yX1_look : MethodName := ⟨RX1, "look", "()I"⟩
abbrev cX1_lookForDigit : ByteArray := prog_3_method_11_code
def yX1_lookForDigit : MethodName := ⟨RX1, "lookForDigit", "()I"⟩
abbrev cX1_doThing : ByteArray := prog_3_method_12_code
def yX1_doThing : MethodName := ⟨RX1, "doThing", "(ILCupFountain$State;)I"⟩
def RX2 : String := "CupFountain$State"
def TX2 : u_T := fun k => match k with
  | 0 => ("CupFountain$State", "cups", "[LCupFountain$Cup;", true)
  | 1 => ("CupFountain$State", "tick", "I", false)
  | 2 => ("CupFountain$State", "spring", "I", false)
  | 3 => ("CupFountain$State", "comesBack", "I", false)
  | 4 => ("CupFountain$State", "day", "I", false)
  | 5 => ("CupFountain$State", "basin", "I", false)
  | 6 => ("CupFountain$State", "lost", "I", false)
  | 7 => ("CupFountain$State", "sprung", "I", false)
  | _ => ("CupFountain$State", "filled", "I", false)
def tyX2 : Nat → FieldType := fun k => match k with
  | 0 => .array (.object "CupFountain$Cup")
  | 1 => .int
  | 2 => .int
  | 3 => .int
  | 4 => .int
  | 5 => .int
  | 6 => .int
  | 7 => .int
  | _ => .int
abbrev wsX20 : List Cond := u_ws RX2 TX2 9
theorem nmX2 : ∀ a, a < 9 → ∀ b, b < 9 → a ≠ b → (TX2 a).2.1 ≠ (TX2 b).2.1 := by decide +kernel
theorem tyX2_ok : ∀ k, k < 9 → parseFieldDescriptor (TX2 k).2.2.1 = some (tyX2 k) := by decide +kernel
abbrev cX2_init : ByteArray := prog_4_method_1_code
def yX2_init : MethodName := ⟨RX2, "<init>", "()V"⟩
abbrev cX2_copyFrom : ByteArray := prog_4_method_2_code
def yX2_copyFrom : MethodName := ⟨RX2, "copyFrom", "(LCupFountain$State;)V"⟩
abbrev cX2_find : ByteArray := prog_4_method_3_code
def yX2_find : MethodName := ⟨RX2, "find", "(I)LCupFountain$Cup;"⟩
abbrev cX2_hourOf : ByteArray := prog_4_method_4_code
def yX2_hourOf : MethodName := ⟨RX2, "hourOf", "(I)I"⟩
abbrev cX2_changeCup : ByteArray := prog_4_method_5_code
def yX2_changeCup : MethodName := ⟨RX2, "changeCup", "(III)I"⟩
abbrev cX2_isCupValue : ByteArray := prog_4_method_6_code
def yX2_isCupValue : MethodName := ⟨RX2, "isCupValue", "(III)Z"⟩
abbrev cX2_changeLock : ByteArray := prog_4_method_7_code
def yX2_changeLock : MethodName := ⟨RX2, "changeLock", "(I)I"⟩
abbrev cX2_changeHour : ByteArray := prog_4_method_8_code
def yX2_changeHour : MethodName := ⟨RX2, "changeHour", "(II)I"⟩
abbrev cX2_changeGuard : ByteArray := prog_4_method_9_code
def yX2_changeGuard : MethodName := ⟨RX2, "changeGuard", "(I)I"⟩
abbrev cX2_pour : ByteArray := prog_4_method_10_code
def yX2_pour : MethodName := ⟨RX2, "pour", "(II)I"⟩
abbrev cX2_changeSetting : ByteArray := prog_4_method_11_code
def yX2_changeSetting : MethodName := ⟨RX2, "changeSetting", "(II)I"⟩
abbrev cX2_tellSetting : ByteArray := prog_4_method_12_code
def yX2_tellSetting : MethodName := ⟨RX2, "tellSetting", "(I)I"⟩
abbrev cX2_letPass : ByteArray := prog_4_method_13_code
def yX2_letPass : MethodName := ⟨RX2, "letPass", "(I)I"⟩
abbrev cX2_tickOn : ByteArray := prog_4_method_14_code
def yX2_tickOn : MethodName := ⟨RX2, "tickOn", "(I)I"⟩
abbrev cX2_tickOnce : ByteArray := prog_4_method_15_code
def yX2_tickOnce : MethodName := ⟨RX2, "tickOnce", "()I"⟩
abbrev cX2_openGuarded : ByteArray := prog_4_method_16_code
def yX2_openGuarded : MethodName := ⟨RX2, "openGuarded", "(I)V"⟩
abbrev cX2_shutGuarded : ByteArray := prog_4_method_17_code
def yX2_shutGuarded : MethodName := ⟨RX2, "shutGuarded", "()V"⟩
abbrev cX2_springs : ByteArray := prog_4_method_18_code
def yX2_springs : MethodName := ⟨RX2, "springs", "()V"⟩
abbrev cX2_tipOrKeep : ByteArray := prog_4_method_19_code
def yX2_tipOrKeep : MethodName := ⟨RX2, "tipOrKeep", "(LCupFountain$Cup;I)I"⟩
abbrev cX2_tell : ByteArray := prog_4_method_20_code
def yX2_tell : MethodName := ⟨RX2, "tell", "(I)I"⟩
abbrev cX2_sumOf : ByteArray := prog_4_method_21_code
def yX2_sumOf : MethodName := ⟨RX2, "sumOf", "(I)I"⟩
abbrev cX2_sumFull : ByteArray := prog_4_method_22_code
def yX2_sumFull : MethodName := ⟨RX2, "sumFull", "()I"⟩
def RX3 : String := "CupFountain"
def TX3 : u_T := fun k => match k with
  | 0 => ("CupFountain", "now", "LCupFountain$State;", true)
  | 1 => ("CupFountain", "ahead", "LCupFountain$State;", true)
  | 2 => ("CupFountain", "before", "LCupFountain$State;", true)
  | 3 => ("CupFountain", "snapshot", "LCupFountain$State;", true)
  | 4 => ("CupFountain", "past", "[LCupFountain$State;", true)
  | 5 => ("CupFountain", "plan", "LCupFountain$Plan;", true)
  | 6 => ("CupFountain", "pastCount", "I", false)
  | 7 => ("CupFountain", "hasSnapshot", "Z", false)
  | 8 => ("CupFountain", "stopNumber", "I", false)
  | _ => ("CupFountain", "stopError", "I", false)
def tyX3 : Nat → FieldType := fun k => match k with
  | 0 => .object "CupFountain$State"
  | 1 => .object "CupFountain$State"
  | 2 => .object "CupFountain$State"
  | 3 => .object "CupFountain$State"
  | 4 => .array (.object "CupFountain$State")
  | 5 => .object "CupFountain$Plan"
  | 6 => .int
  | 7 => .boolean
  | 8 => .int
  | _ => .int
abbrev wsX30 : List Cond := u_ws RX3 TX3 10
theorem nmX3 : ∀ a, a < 10 → ∀ b, b < 10 → a ≠ b → (TX3 a).2.1 ≠ (TX3 b).2.1 := by decide +kernel
theorem tyX3_ok : ∀ k, k < 10 → parseFieldDescriptor (TX3 k).2.2.1 = some (tyX3 k) := by decide +kernel
abbrev cX3_init : ByteArray := prog_1_method_1_code
def yX3_init : MethodName := ⟨RX3, "<init>", "()V"⟩
abbrev cX3_setCup : ByteArray := prog_1_method_2_code
def yX3_setCup : MethodName := ⟨RX3, "setCup", "(III)I"⟩
abbrev cX3_turnLock : ByteArray := prog_1_method_3_code
def yX3_turnLock : MethodName := ⟨RX3, "turnLock", "(I)I"⟩
abbrev cX3_setHour : ByteArray := prog_1_method_4_code
def yX3_setHour : MethodName := ⟨RX3, "setHour", "(II)I"⟩
abbrev cX3_guard : ByteArray := prog_1_method_5_code
def yX3_guard : MethodName := ⟨RX3, "guard", "(I)I"⟩
abbrev cX3_fill : ByteArray := prog_1_method_6_code
def yX3_fill : MethodName := ⟨RX3, "fill", "(II)I"⟩
abbrev cX3_set : ByteArray := prog_1_method_7_code
def yX3_set : MethodName := ⟨RX3, "set", "(II)I"⟩
abbrev cX3_pass : ByteArray := prog_1_method_8_code
def yX3_pass : MethodName := ⟨RX3, "pass", "(I)I"⟩
abbrev cX3_type : ByteArray := prog_1_method_9_code
def yX3_type : MethodName := ⟨RX3, "type", "(C)I"⟩
abbrev cX3_clearText : ByteArray := prog_1_method_10_code
def yX3_clearText : MethodName := ⟨RX3, "clearText", "()I"⟩
abbrev cX3_perform : ByteArray := prog_1_method_11_code
def yX3_perform : MethodName := ⟨RX3, "perform", "()I"⟩
abbrev cX3_stopped : ByteArray := prog_1_method_12_code
def yX3_stopped : MethodName := ⟨RX3, "stopped", "(I)I"⟩
abbrev cX3_undo : ByteArray := prog_1_method_13_code
def yX3_undo : MethodName := ⟨RX3, "undo", "()I"⟩
abbrev cX3_keep : ByteArray := prog_1_method_14_code
def yX3_keep : MethodName := ⟨RX3, "keep", "()I"⟩
abbrev cX3_restore : ByteArray := prog_1_method_15_code
def yX3_restore : MethodName := ⟨RX3, "restore", "()I"⟩
abbrev cX3_cup : ByteArray := prog_1_method_16_code
def yX3_cup : MethodName := ⟨RX3, "cup", "(II)I"⟩
abbrev cX3_reason : ByteArray := prog_1_method_17_code
def yX3_reason : MethodName := ⟨RX3, "reason", "(I)I"⟩
abbrev cX3_tipsIn : ByteArray := prog_1_method_18_code
def yX3_tipsIn : MethodName := ⟨RX3, "tipsIn", "(I)I"⟩
abbrev cX3_tipsAt : ByteArray := prog_1_method_19_code
def yX3_tipsAt : MethodName := ⟨RX3, "tipsAt", "(I)I"⟩
abbrev cX3_starving : ByteArray := prog_1_method_20_code
def yX3_starving : MethodName := ⟨RX3, "starving", "()I"⟩
abbrev cX3_bestSize : ByteArray := prog_1_method_21_code
def yX3_bestSize : MethodName := ⟨RX3, "bestSize", "(I)I"⟩
abbrev cX3_ifTicks : ByteArray := prog_1_method_22_code
def yX3_ifTicks : MethodName := ⟨RX3, "ifTicks", "(II)I"⟩
abbrev cX3_highest : ByteArray := prog_1_method_23_code
def yX3_highest : MethodName := ⟨RX3, "highest", "()I"⟩
abbrev cX3_count : ByteArray := prog_1_method_24_code
def yX3_count : MethodName := ⟨RX3, "count", "(I)I"⟩
abbrev cX3_recorded : ByteArray := prog_1_method_25_code
def yX3_recorded : MethodName := ⟨RX3, "recorded", "(I)I"⟩
abbrev cX3_dropOldest : ByteArray := prog_1_method_26_code
def yX3_dropOldest : MethodName := ⟨RX3, "dropOldest", "()V"⟩
abbrev cX3_ticksTillTip : ByteArray := prog_1_method_27_code
def yX3_ticksTillTip : MethodName := ⟨RX3, "ticksTillTip", "(I)I"⟩
abbrev cX3_hourOfTip : ByteArray := prog_1_method_28_code
def yX3_hourOfTip : MethodName := ⟨RX3, "hourOfTip", "(I)I"⟩
abbrev cX3_isWithin : ByteArray := prog_1_method_29_code
def yX3_isWithin : MethodName := ⟨RX3, "isWithin", "(III)Z"⟩
abbrev cX3_isError : ByteArray := prog_1_method_30_code
def yX3_isError : MethodName := ⟨RX3, "isError", "(I)Z"⟩
abbrev cX3_asNumber : ByteArray := prog_1_method_31_code
def yX3_asNumber : MethodName := ⟨RX3, "asNumber", "(Z)I"⟩
def RX4 : String := "CupFountainModel"
def TX4 : u_T := fun k => match k with
  | 0 => ("CupFountainModel", "s", "[I", true)
  | 1 => ("CupFountainModel", "history", "[I", true)
  | 2 => ("CupFountainModel", "kept", "I", false)
  | 3 => ("CupFountainModel", "snapshot", "[I", true)
  | 4 => ("CupFountainModel", "isTaken", "Z", false)
  | 5 => ("CupFountainModel", "before", "[I", true)
  | 6 => ("CupFountainModel", "text", "[C", true)
  | 7 => ("CupFountainModel", "length", "I", false)
  | 8 => ("CupFountainModel", "stoppedAt", "I", false)
  | 9 => ("CupFountainModel", "stoppedBy", "I", false)
  | 10 => ("CupFountainModel", "tipped", "[Z", true)
  | 11 => ("CupFountainModel", "place", "I", false)
  | 12 => ("CupFountainModel", "letter", "I", false)
  | 13 => ("CupFountainModel", "itsCup", "I", false)
  | 14 => ("CupFountainModel", "number", "I", false)
  | 15 => ("CupFountainModel", "done", "I", false)
  | _ => ("CupFountainModel", "error", "I", false)
def tyX4 : Nat → FieldType := fun k => match k with
  | 0 => .array .int
  | 1 => .array .int
  | 2 => .int
  | 3 => .array .int
  | 4 => .boolean
  | 5 => .array .int
  | 6 => .array .char
  | 7 => .int
  | 8 => .int
  | 9 => .int
  | 10 => .array .boolean
  | 11 => .int
  | 12 => .int
  | 13 => .int
  | 14 => .int
  | 15 => .int
  | _ => .int
abbrev wsX40 : List Cond := u_ws RX4 TX4 17
theorem nmX4 : ∀ a, a < 17 → ∀ b, b < 17 → a ≠ b → (TX4 a).2.1 ≠ (TX4 b).2.1 := by decide +kernel
theorem tyX4_ok : ∀ k, k < 17 → parseFieldDescriptor (TX4 k).2.2.1 = some (tyX4 k) := by decide +kernel
abbrev cX4_init : ByteArray := prog_6_method_1_code
def yX4_init : MethodName := ⟨RX4, "<init>", "()V"⟩
abbrev cX4_in : ByteArray := prog_6_method_3_code
def yX4_in : MethodName := ⟨RX4, "in", "(III)Z"⟩
abbrev cX4_isCup : ByteArray := prog_6_method_4_code
def yX4_isCup : MethodName := ⟨RX4, "isCup", "(I)Z"⟩
abbrev cX4_of : ByteArray := prog_6_method_5_code
def yX4_of : MethodName := ⟨RX4, "of", "(II)I"⟩
abbrev cX4_lay : ByteArray := prog_6_method_6_code
def yX4_lay : MethodName := ⟨RX4, "lay", "(III)V"⟩
abbrev cX4_copy : ByteArray := prog_6_method_7_code
def yX4_copy : MethodName := ⟨RX4, "copy", "([II[II)V"⟩
abbrev cX4_recordFrom : ByteArray := prog_6_method_8_code
def yX4_recordFrom : MethodName := ⟨RX4, "recordFrom", "([I)V"⟩
abbrev cX4_hourOf : ByteArray := prog_6_method_9_code
def yX4_hourOf : MethodName := ⟨RX4, "hourOf", "(I)I"⟩
abbrev cX4_isFull : ByteArray := prog_6_method_10_code
def yX4_isFull : MethodName := ⟨RX4, "isFull", "(I)Z"⟩
abbrev cX4_pour : ByteArray := prog_6_method_11_code
def yX4_pour : MethodName := ⟨RX4, "pour", "(II)V"⟩
abbrev cX4_countTip : ByteArray := prog_6_method_12_code
def yX4_countTip : MethodName := ⟨RX4, "countTip", "(II)V"⟩
abbrev cX4_tipOrKeep : ByteArray := prog_6_method_13_code
def yX4_tipOrKeep : MethodName := ⟨RX4, "tipOrKeep", "(II)V"⟩
abbrev cX4_tick : ByteArray := prog_6_method_14_code
def yX4_tick : MethodName := ⟨RX4, "tick", "()V"⟩
abbrev cX4_sumOf : ByteArray := prog_6_method_15_code
def yX4_sumOf : MethodName := ⟨RX4, "sumOf", "(I)I"⟩
abbrev cX4_isValue : ByteArray := prog_6_method_16_code
def yX4_isValue : MethodName := ⟨RX4, "isValue", "(III)Z"⟩
abbrev cX4_doSetCup : ByteArray := prog_6_method_17_code
def yX4_doSetCup : MethodName := ⟨RX4, "doSetCup", "(III)I"⟩
abbrev cX4_doTurn : ByteArray := prog_6_method_18_code
def yX4_doTurn : MethodName := ⟨RX4, "doTurn", "(I)I"⟩
abbrev cX4_doSetHour : ByteArray := prog_6_method_19_code
def yX4_doSetHour : MethodName := ⟨RX4, "doSetHour", "(II)I"⟩
abbrev cX4_doGuard : ByteArray := prog_6_method_20_code
def yX4_doGuard : MethodName := ⟨RX4, "doGuard", "(I)I"⟩
abbrev cX4_doFill : ByteArray := prog_6_method_21_code
def yX4_doFill : MethodName := ⟨RX4, "doFill", "(II)I"⟩
abbrev cX4_doSet : ByteArray := prog_6_method_22_code
def yX4_doSet : MethodName := ⟨RX4, "doSet", "(II)I"⟩
abbrev cX4_doPass : ByteArray := prog_6_method_23_code
def yX4_doPass : MethodName := ⟨RX4, "doPass", "(I)I"⟩
abbrev cX4_act : ByteArray := prog_6_method_24_code
def yX4_act : MethodName := ⟨RX4, "act", "(I)I"⟩
abbrev cX4_begin : ByteArray := prog_6_method_25_code
def yX4_begin : MethodName := ⟨RX4, "begin", "()V"⟩
abbrev cX4_setCup : ByteArray := prog_6_method_26_code
def yX4_setCup : MethodName := ⟨RX4, "setCup", "(III)I"⟩
abbrev cX4_turnLock : ByteArray := prog_6_method_27_code
def yX4_turnLock : MethodName := ⟨RX4, "turnLock", "(I)I"⟩
abbrev cX4_setHour : ByteArray := prog_6_method_28_code
def yX4_setHour : MethodName := ⟨RX4, "setHour", "(II)I"⟩
abbrev cX4_guard : ByteArray := prog_6_method_29_code
def yX4_guard : MethodName := ⟨RX4, "guard", "(I)I"⟩
abbrev cX4_fill : ByteArray := prog_6_method_30_code
def yX4_fill : MethodName := ⟨RX4, "fill", "(II)I"⟩
abbrev cX4_set : ByteArray := prog_6_method_31_code
def yX4_set : MethodName := ⟨RX4, "set", "(II)I"⟩
abbrev cX4_pass : ByteArray := prog_6_method_32_code
def yX4_pass : MethodName := ⟨RX4, "pass", "(I)I"⟩
abbrev cX4_type : ByteArray := prog_6_method_33_code
def yX4_type : MethodName := ⟨RX4, "type", "(C)I"⟩
abbrev cX4_clearText : ByteArray := prog_6_method_34_code
def yX4_clearText : MethodName := ⟨RX4, "clearText", "()I"⟩
abbrev cX4_isNext : ByteArray := prog_6_method_35_code
def yX4_isNext : MethodName := ⟨RX4, "isNext", "(II)Z"⟩
abbrev cX4_takes : ByteArray := prog_6_method_36_code
def yX4_takes : MethodName := ⟨RX4, "takes", "(I)Z"⟩
abbrev cX4_readCup : ByteArray := prog_6_method_37_code
def yX4_readCup : MethodName := ⟨RX4, "readCup", "()Z"⟩
abbrev cX4_readNumber : ByteArray := prog_6_method_38_code
def yX4_readNumber : MethodName := ⟨RX4, "readNumber", "(II)Z"⟩
abbrev cX4_readThing : ByteArray := prog_6_method_39_code
def yX4_readThing : MethodName := ⟨RX4, "readThing", "()Z"⟩
abbrev cX4_does : ByteArray := prog_6_method_40_code
def yX4_does : MethodName := ⟨RX4, "does", "()I"⟩
abbrev cX4_readText : ByteArray := prog_6_method_41_code
def yX4_readText : MethodName := ⟨RX4, "readText", "(Z)Z"⟩
abbrev cX4_perform : ByteArray := prog_6_method_42_code
def yX4_perform : MethodName := ⟨RX4, "perform", "()I"⟩
abbrev cX4_stopped : ByteArray := prog_6_method_43_code
def yX4_stopped : MethodName := ⟨RX4, "stopped", "(I)I"⟩
abbrev cX4_undo : ByteArray := prog_6_method_44_code
def yX4_undo : MethodName := ⟨RX4, "undo", "()I"⟩
abbrev cX4_keep : ByteArray := prog_6_method_45_code
def yX4_keep : MethodName := ⟨RX4, "keep", "()I"⟩
abbrev cX4_restore : ByteArray := prog_6_method_46_code
def yX4_restore : MethodName := ⟨RX4, "restore", "()I"⟩
abbrev cX4_cup : ByteArray := prog_6_method_47_code
def yX4_cup : MethodName := ⟨RX4, "cup", "(II)I"⟩
abbrev cX4_reason : ByteArray := prog_6_method_48_code
def yX4_reason : MethodName := ⟨RX4, "reason", "(I)I"⟩
abbrev cX4_untilTip : ByteArray := prog_6_method_49_code
def yX4_untilTip : MethodName := ⟨RX4, "untilTip", "(II)I"⟩
abbrev cX4_hourOfTip : ByteArray := prog_6_method_50_code
def yX4_hourOfTip : MethodName := ⟨RX4, "hourOfTip", "(I)I"⟩
abbrev cX4_tipsIn : ByteArray := prog_6_method_51_code
def yX4_tipsIn : MethodName := ⟨RX4, "tipsIn", "(I)I"⟩
abbrev cX4_tipsAt : ByteArray := prog_6_method_52_code
def yX4_tipsAt : MethodName := ⟨RX4, "tipsAt", "(I)I"⟩
abbrev cX4_starving : ByteArray := prog_6_method_53_code
def yX4_starving : MethodName := ⟨RX4, "starving", "()I"⟩
abbrev cX4_bestSize : ByteArray := prog_6_method_54_code
def yX4_bestSize : MethodName := ⟨RX4, "bestSize", "(I)I"⟩
abbrev cX4_ifTicks : ByteArray := prog_6_method_55_code
def yX4_ifTicks : MethodName := ⟨RX4, "ifTicks", "(II)I"⟩
abbrev cX4_highest : ByteArray := prog_6_method_56_code
def yX4_highest : MethodName := ⟨RX4, "highest", "()I"⟩
abbrev cX4_full : ByteArray := prog_6_method_57_code
def yX4_full : MethodName := ⟨RX4, "full", "()I"⟩
abbrev cX4_count : ByteArray := prog_6_method_58_code
def yX4_count : MethodName := ⟨RX4, "count", "(I)I"⟩
def RJ9 : String := "java/lang/Math"
def TJ9 : u_T := fun k => match k with
  | _ => ("", "", "", false)
def tyJ9 : Nat → FieldType := fun k => match k with
  | _ => .int
abbrev wsJ90 : List Cond := u_ws RJ9 TJ9 0
theorem nmJ9 : ∀ a, a < 0 → ∀ b, b < 0 → a ≠ b → (TJ9 a).2.1 ≠ (TJ9 b).2.1 := by decide +kernel
theorem tyJ9_ok : ∀ k, k < 0 → parseFieldDescriptor (TJ9 k).2.2.1 = some (tyJ9 k) := by decide +kernel
abbrev cJ9_max_7cf53 : ByteArray := prog_7_method_65_code
def yJ9_max_7cf53 : MethodName := ⟨RJ9, "max", "(II)I"⟩
abbrev cJ9_min_7cf53 : ByteArray := prog_7_method_69_code
def yJ9_min_7cf53 : MethodName := ⟨RJ9, "min", "(II)I"⟩
def RL : String := "CupFountainLaw"
abbrev cL_law : ByteArray := code
def yL_law : MethodName := ⟨RL, "law", "([I)Z"⟩
def wsL_law_r1 : List Cond := [Cond.classLink RL 7 RX3, Cond.instantiable RX3 10, Cond.initialized RX3, Cond.classLink RL 10 RX4, Cond.instantiable RX4 17, Cond.initialized RX4, Cond.methodLink RL 9 yX3_init, Cond.instanceMethod yX3_init, Cond.code yX3_init cX3_init 2 none, Cond.methodLink RX3 1 objectInit, Cond.instanceMethod objectInit, Cond.code objectInit ⟨#[0xb1]⟩ 1 none, Cond.classLink RX3 7 RX2, Cond.instantiable RX2 9, Cond.initialized RX2, Cond.fieldLink RX3 10 "CupFountain" "now" "LCupFountain$State;", Cond.fieldLink RX3 16 "CupFountain" "ahead" "LCupFountain$State;", Cond.fieldLink RX3 19 "CupFountain" "before" "LCupFountain$State;", Cond.fieldLink RX3 22 "CupFountain" "snapshot" "LCupFountain$State;", Cond.fieldLink RX3 25 "CupFountain" "past" "[LCupFountain$State;", Cond.classLink RX3 29 RX1, Cond.instantiable RX1 7, Cond.initialized RX1, Cond.fieldLink RX3 32 "CupFountain" "plan" "LCupFountain$Plan;"]
def wsL_law_r2 : List Cond := [Cond.fieldLink RX3 36 "CupFountain" "pastCount" "I", Cond.fieldLink RX3 40 "CupFountain" "hasSnapshot" "Z", Cond.fieldLink RX3 44 "CupFountain" "stopNumber" "I", Cond.fieldLink RX3 47 "CupFountain" "stopError" "I", Cond.methodLink RX3 9 yX2_init, Cond.instanceMethod yX2_init, Cond.code yX2_init cX2_init 2 none, Cond.methodLink RX2 3 objectInit, Cond.classLink RX2 9 RX0, Cond.fieldLink RX2 11 "CupFountain$State" "cups" "[LCupFountain$Cup;", Cond.fieldLink RX2 17 "CupFountain$State" "tick" "I", Cond.fieldLink RX2 21 "CupFountain$State" "spring" "I", Cond.fieldLink RX2 24 "CupFountain$State" "comesBack" "I", Cond.fieldLink RX2 27 "CupFountain$State" "day" "I", Cond.fieldLink RX2 30 "CupFountain$State" "basin" "I", Cond.fieldLink RX2 33 "CupFountain$State" "lost" "I", Cond.fieldLink RX2 36 "CupFountain$State" "sprung" "I", Cond.fieldLink RX2 39 "CupFountain$State" "filled" "I", Cond.instantiable RX0 13, Cond.initialized RX0, Cond.methodLink RX2 42 yX0_init, Cond.instanceMethod yX0_init, Cond.code yX0_init cX0_init 2 none, Cond.methodLink RX0 3 objectInit]
def wsL_law_r3 : List Cond := [Cond.fieldLink RX0 9 "CupFountain$Cup" "size" "I", Cond.fieldLink RX0 15 "CupFountain$Cup" "leak" "I", Cond.fieldLink RX0 18 "CupFountain$Cup" "water" "I", Cond.fieldLink RX0 21 "CupFountain$Cup" "hour" "I", Cond.fieldLink RX0 24 "CupFountain$Cup" "open" "Z", Cond.fieldLink RX0 28 "CupFountain$Cup" "guarded" "Z", Cond.fieldLink RX0 31 "CupFountain$Cup" "jet" "I", Cond.fieldLink RX0 34 "CupFountain$Cup" "tips" "I", Cond.fieldLink RX0 37 "CupFountain$Cup" "onTime" "I", Cond.fieldLink RX0 40 "CupFountain$Cup" "early" "I", Cond.fieldLink RX0 43 "CupFountain$Cup" "late" "I", Cond.fieldLink RX0 46 "CupFountain$Cup" "ready" "I", Cond.fieldLink RX0 49 "CupFountain$Cup" "next" "I", Cond.instanceMethod yX1_init, Cond.code yX1_init cX1_init 1 none, Cond.methodLink RX1 3 objectInit, Cond.arrayClass .char, Cond.fieldLink RX1 9 "CupFountain$Plan" "text" "[C", Cond.fieldLink RX1 15 "CupFountain$Plan" "length" "I", Cond.arrayClass .int, Cond.fieldLink RX1 19 "CupFountain$Plan" "kinds" "[I", Cond.fieldLink RX1 23 "CupFountain$Plan" "whose" "[I", Cond.fieldLink RX1 26 "CupFountain$Plan" "numbers" "[I", Cond.fieldLink RX1 29 "CupFountain$Plan" "things" "I"]
def wsL_law_r4 : List Cond := [Cond.fieldLink RX1 32 "CupFountain$Plan" "place" "I", Cond.methodLink RL 12 yX4_init, Cond.instanceMethod yX4_init, Cond.code yX4_init cX4_init 2 none, Cond.methodLink RX4 1 objectInit, Cond.fieldLink RX4 7 "CupFountainModel" "s" "[I", Cond.fieldLink RX4 13 "CupFountainModel" "history" "[I", Cond.fieldLink RX4 16 "CupFountainModel" "snapshot" "[I", Cond.fieldLink RX4 19 "CupFountainModel" "before" "[I", Cond.fieldLink RX4 22 "CupFountainModel" "text" "[C", Cond.fieldLink RX4 26 "CupFountainModel" "stoppedAt" "I", Cond.arrayClass .boolean, Cond.fieldLink RX4 30 "CupFountainModel" "tipped" "[Z", Cond.methodLink RX4 34 yX4_lay, Cond.instanceMethod yX4_lay, Cond.selects RX4 yX4_lay yX4_lay, Cond.code yX4_lay cX4_lay 4 none, Cond.methodLink RL 13 yX3_setCup, Cond.instanceMethod yX3_setCup, Cond.selects RX3 yX3_setCup yX3_setCup, Cond.code yX3_setCup cX3_setCup 4 (some .int), Cond.methodLink RX3 50 yX2_copyFrom, Cond.instanceMethod yX2_copyFrom, Cond.selects RX2 yX2_copyFrom yX2_copyFrom]
def wsL_law_r5 : List Cond := [Cond.code yX2_copyFrom cX2_copyFrom 3 none, Cond.methodLink RX2 45 yX0_copyFrom, Cond.instanceMethod yX0_copyFrom, Cond.selects RX0 yX0_copyFrom yX0_copyFrom, Cond.code yX0_copyFrom cX0_copyFrom 2 none, Cond.methodLink RX3 54 yX2_changeCup, Cond.instanceMethod yX2_changeCup, Cond.selects RX2 yX2_changeCup yX2_changeCup, Cond.code yX2_changeCup cX2_changeCup 6 (some .int), Cond.fieldLink RX2 61 "CupFountain$Cup" "size" "I", Cond.fieldLink RX2 64 "CupFountain$Cup" "leak" "I", Cond.fieldLink RX2 67 "CupFountain$Cup" "next" "I", Cond.methodLink RX2 49 yX2_find, Cond.instanceMethod yX2_find, Cond.selects RX2 yX2_find yX2_find, Cond.code yX2_find cX2_find 2 (some (.object "CupFountain$Cup")), Cond.methodLink RX2 53 yX2_isCupValue, Cond.static yX2_isCupValue, Cond.code yX2_isCupValue cX2_isCupValue 3 (some .boolean), Cond.static yX3_isWithin, Cond.code yX3_isWithin cX3_isWithin 3 (some .boolean), Cond.methodLink RX2 57 yX0_tell, Cond.instanceMethod yX0_tell, Cond.selects RX0 yX0_tell yX0_tell]
def wsL_law_r6 : List Cond := [Cond.code yX0_tell cX0_tell 2 (some .int), Cond.static yX3_asNumber, Cond.code yX3_asNumber cX3_asNumber 1 (some .int), Cond.methodLink RX3 58 yX3_recorded, Cond.instanceMethod yX3_recorded, Cond.selects RX3 yX3_recorded yX3_recorded, Cond.code yX3_recorded cX3_recorded 2 (some .int), Cond.methodLink RX3 171 yX3_dropOldest, Cond.instanceMethod yX3_dropOldest, Cond.selects RX3 yX3_dropOldest yX3_dropOldest, Cond.code yX3_dropOldest cX3_dropOldest 3 none, Cond.methodLink RL 17 yX4_setCup, Cond.instanceMethod yX4_setCup, Cond.selects RX4 yX4_setCup yX4_setCup, Cond.code yX4_setCup cX4_setCup 4 (some .int), Cond.methodLink RX4 88 yX4_begin, Cond.instanceMethod yX4_begin, Cond.selects RX4 yX4_begin yX4_begin, Cond.code yX4_begin cX4_begin 1 none, Cond.methodLink RX4 45 yX4_copy, Cond.static yX4_copy, Cond.code yX4_copy cX4_copy 5 none, Cond.methodLink RX4 91 yX4_doSetCup, Cond.instanceMethod yX4_doSetCup]
def wsL_law_r7 : List Cond := [Cond.selects RX4 yX4_doSetCup yX4_doSetCup, Cond.code yX4_doSetCup cX4_doSetCup 5 (some .int), Cond.methodLink RX4 71 yX4_isCup, Cond.static yX4_isCup, Cond.code yX4_isCup cX4_isCup 1 (some .boolean), Cond.methodLink RX4 38 yX4_in, Cond.static yX4_in, Cond.code yX4_in cX4_in 3 (some .boolean), Cond.methodLink RX4 74 yX4_isValue, Cond.static yX4_isValue, Cond.code yX4_isValue cX4_isValue 3 (some .boolean), Cond.methodLink RX4 49 yX4_of, Cond.instanceMethod yX4_of, Cond.selects RX4 yX4_of yX4_of, Cond.code yX4_of cX4_of 3 (some .int), Cond.methodLink RX4 95 yX4_act, Cond.instanceMethod yX4_act, Cond.selects RX4 yX4_act yX4_act, Cond.code yX4_act cX4_act 2 (some .int), Cond.methodLink RX4 84 yX4_recordFrom, Cond.instanceMethod yX4_recordFrom, Cond.selects RX4 yX4_recordFrom yX4_recordFrom, Cond.code yX4_recordFrom cX4_recordFrom 3 none, Cond.fieldLink RX4 42 "CupFountainModel" "kept" "I"]
def wsL_law_r8 : List Cond := [Cond.methodLink RL 18 yX3_turnLock, Cond.instanceMethod yX3_turnLock, Cond.selects RX3 yX3_turnLock yX3_turnLock, Cond.code yX3_turnLock cX3_turnLock 2 (some .int), Cond.methodLink RX3 62 yX2_changeLock, Cond.instanceMethod yX2_changeLock, Cond.selects RX2 yX2_changeLock yX2_changeLock, Cond.code yX2_changeLock cX2_changeLock 3 (some .int), Cond.fieldLink RX2 73 "CupFountain$Cup" "guarded" "Z", Cond.fieldLink RX2 77 "CupFountain$Cup" "open" "Z", Cond.methodLink RL 22 yX4_turnLock, Cond.instanceMethod yX4_turnLock, Cond.selects RX4 yX4_turnLock yX4_turnLock, Cond.code yX4_turnLock cX4_turnLock 2 (some .int), Cond.methodLink RX4 98 yX4_doTurn, Cond.instanceMethod yX4_doTurn, Cond.selects RX4 yX4_doTurn yX4_doTurn, Cond.code yX4_doTurn cX4_doTurn 2 (some .int), Cond.methodLink RL 23 yX3_setHour, Cond.instanceMethod yX3_setHour, Cond.selects RX3 yX3_setHour yX3_setHour, Cond.code yX3_setHour cX3_setHour 3 (some .int), Cond.methodLink RX3 65 yX2_changeHour, Cond.instanceMethod yX2_changeHour]
def wsL_law_r9 : List Cond := [Cond.selects RX2 yX2_changeHour yX2_changeHour, Cond.code yX2_changeHour cX2_changeHour 5 (some .int), Cond.fieldLink RX2 84 "CupFountain$Cup" "hour" "I", Cond.methodLink RL 27 yX4_setHour, Cond.instanceMethod yX4_setHour, Cond.selects RX4 yX4_setHour yX4_setHour, Cond.code yX4_setHour cX4_setHour 3 (some .int), Cond.methodLink RX4 101 yX4_doSetHour, Cond.instanceMethod yX4_doSetHour, Cond.selects RX4 yX4_doSetHour yX4_doSetHour, Cond.code yX4_doSetHour cX4_doSetHour 4 (some .int), Cond.methodLink RL 28 yX3_guard, Cond.instanceMethod yX3_guard, Cond.selects RX3 yX3_guard yX3_guard, Cond.code yX3_guard cX3_guard 2 (some .int), Cond.methodLink RX3 69 yX2_changeGuard, Cond.instanceMethod yX2_changeGuard, Cond.selects RX2 yX2_changeGuard yX2_changeGuard, Cond.code yX2_changeGuard cX2_changeGuard 3 (some .int), Cond.methodLink RL 31 yX4_guard, Cond.instanceMethod yX4_guard, Cond.selects RX4 yX4_guard yX4_guard, Cond.code yX4_guard cX4_guard 2 (some .int), Cond.methodLink RX4 104 yX4_doGuard]
def wsL_law_r10 : List Cond := [Cond.instanceMethod yX4_doGuard, Cond.selects RX4 yX4_doGuard yX4_doGuard, Cond.code yX4_doGuard cX4_doGuard 2 (some .int), Cond.methodLink RL 32 yX3_fill, Cond.instanceMethod yX3_fill, Cond.selects RX3 yX3_fill yX3_fill, Cond.code yX3_fill cX3_fill 3 (some .int), Cond.methodLink RX3 72 yX2_pour, Cond.instanceMethod yX2_pour, Cond.selects RX2 yX2_pour yX2_pour, Cond.code yX2_pour cX2_pour 4 (some .int), Cond.fieldLink RX2 87 "CupFountain$Cup" "water" "I", Cond.methodLink RL 35 yX4_fill, Cond.instanceMethod yX4_fill, Cond.selects RX4 yX4_fill yX4_fill, Cond.code yX4_fill cX4_fill 3 (some .int), Cond.methodLink RX4 107 yX4_doFill, Cond.instanceMethod yX4_doFill, Cond.selects RX4 yX4_doFill yX4_doFill, Cond.code yX4_doFill cX4_doFill 3 (some .int), Cond.methodLink RL 36 yX3_set, Cond.instanceMethod yX3_set, Cond.selects RX3 yX3_set yX3_set, Cond.code yX3_set cX3_set 3 (some .int)]
def wsL_law_r11 : List Cond := [Cond.methodLink RX3 75 yX2_changeSetting, Cond.instanceMethod yX2_changeSetting, Cond.selects RX2 yX2_changeSetting yX2_changeSetting, Cond.code yX2_changeSetting cX2_changeSetting 4 (some .int), Cond.methodLink RX2 90 yX2_tellSetting, Cond.instanceMethod yX2_tellSetting, Cond.selects RX2 yX2_tellSetting yX2_tellSetting, Cond.code yX2_tellSetting cX2_tellSetting 2 (some .int), Cond.methodLink RL 39 yX4_set, Cond.instanceMethod yX4_set, Cond.selects RX4 yX4_set yX4_set, Cond.code yX4_set cX4_set 3 (some .int), Cond.methodLink RX4 110 yX4_doSet, Cond.instanceMethod yX4_doSet, Cond.selects RX4 yX4_doSet yX4_doSet, Cond.code yX4_doSet cX4_doSet 4 (some .int), Cond.methodLink RL 40 yX3_pass, Cond.instanceMethod yX3_pass, Cond.selects RX3 yX3_pass yX3_pass, Cond.code yX3_pass cX3_pass 2 (some .int), Cond.methodLink RX3 78 yX2_letPass, Cond.instanceMethod yX2_letPass, Cond.selects RX2 yX2_letPass yX2_letPass, Cond.code yX2_letPass cX2_letPass 2 (some .int)]
def wsL_law_r12 : List Cond := [Cond.constant RX2 93 (99999), Cond.methodLink RX2 94 yX2_tickOn, Cond.instanceMethod yX2_tickOn, Cond.selects RX2 yX2_tickOn yX2_tickOn, Cond.code yX2_tickOn cX2_tickOn 4 (some .int), Cond.methodLink RX2 97 yX2_tickOnce, Cond.instanceMethod yX2_tickOnce, Cond.selects RX2 yX2_tickOnce yX2_tickOnce, Cond.code yX2_tickOnce cX2_tickOnce 4 (some .int), Cond.methodLink RX2 101 yX2_hourOf, Cond.instanceMethod yX2_hourOf, Cond.selects RX2 yX2_hourOf yX2_hourOf, Cond.code yX2_hourOf cX2_hourOf 2 (some .int), Cond.methodLink RX2 104 yX2_openGuarded, Cond.instanceMethod yX2_openGuarded, Cond.selects RX2 yX2_openGuarded yX2_openGuarded, Cond.code yX2_openGuarded cX2_openGuarded 3 none, Cond.methodLink RX2 107 yX2_springs, Cond.instanceMethod yX2_springs, Cond.selects RX2 yX2_springs yX2_springs, Cond.code yX2_springs cX2_springs 2 none, Cond.methodLink RX2 120 Lib.Math.min.name, Cond.static Lib.Math.min.name, Cond.initialized "java/lang/Math"]
def wsL_law_r13 : List Cond := [Cond.code Lib.Math.min.name Lib.Math.min.code 2 (some .int), Cond.methodLink RX2 110 yX2_tipOrKeep, Cond.instanceMethod yX2_tipOrKeep, Cond.selects RX2 yX2_tipOrKeep yX2_tipOrKeep, Cond.code yX2_tipOrKeep cX2_tipOrKeep 5 (some .int), Cond.fieldLink RX2 126 "CupFountain$Cup" "ready" "I", Cond.fieldLink RX2 129 "CupFountain$Cup" "jet" "I", Cond.methodLink RX2 132 yX0_runOver, Cond.instanceMethod yX0_runOver, Cond.selects RX0 yX0_runOver yX0_runOver, Cond.code yX0_runOver cX0_runOver 2 (some .int), Cond.methodLink RX2 135 yX0_tip, Cond.instanceMethod yX0_tip, Cond.selects RX0 yX0_tip yX0_tip, Cond.code yX0_tip cX0_tip 4 (some .int), Cond.methodLink RX2 114 yX0_drip, Cond.instanceMethod yX0_drip, Cond.selects RX0 yX0_drip yX0_drip, Cond.code yX0_drip cX0_drip 2 (some .int), Cond.methodLink RX0 52 Lib.Math.min.name, Cond.methodLink RX2 117 yX2_shutGuarded, Cond.instanceMethod yX2_shutGuarded, Cond.selects RX2 yX2_shutGuarded yX2_shutGuarded, Cond.code yX2_shutGuarded cX2_shutGuarded 2 none]
def wsL_law_r14 : List Cond := [Cond.methodLink RL 43 yX4_pass, Cond.instanceMethod yX4_pass, Cond.selects RX4 yX4_pass yX4_pass, Cond.code yX4_pass cX4_pass 2 (some .int), Cond.methodLink RX4 113 yX4_doPass, Cond.instanceMethod yX4_doPass, Cond.selects RX4 yX4_doPass yX4_doPass, Cond.code yX4_doPass cX4_doPass 4 (some .int), Cond.constant RX4 77 (99999), Cond.methodLink RX4 78 yX4_sumOf, Cond.instanceMethod yX4_sumOf, Cond.selects RX4 yX4_sumOf yX4_sumOf, Cond.code yX4_sumOf cX4_sumOf 4 (some .int), Cond.methodLink RX4 81 yX4_tick, Cond.instanceMethod yX4_tick, Cond.selects RX4 yX4_tick yX4_tick, Cond.code yX4_tick cX4_tick 5 none, Cond.methodLink RX4 64 yX4_hourOf, Cond.instanceMethod yX4_hourOf, Cond.selects RX4 yX4_hourOf yX4_hourOf, Cond.code yX4_hourOf cX4_hourOf 2 (some .int), Cond.methodLink RX4 57 yX4_pour, Cond.instanceMethod yX4_pour, Cond.selects RX4 yX4_pour yX4_pour]
def wsL_law_r15 : List Cond := [Cond.code yX4_pour cX4_pour 3 none, Cond.methodLink RX4 68 yX4_tipOrKeep, Cond.instanceMethod yX4_tipOrKeep, Cond.selects RX4 yX4_tipOrKeep yX4_tipOrKeep, Cond.code yX4_tipOrKeep cX4_tipOrKeep 6 none, Cond.methodLink RX4 53 yX4_isFull, Cond.instanceMethod yX4_isFull, Cond.selects RX4 yX4_isFull yX4_isFull, Cond.code yX4_isFull cX4_isFull 2 (some .boolean), Cond.methodLink RX4 61 yX4_countTip, Cond.instanceMethod yX4_countTip, Cond.selects RX4 yX4_countTip yX4_countTip, Cond.code yX4_countTip cX4_countTip 5 none, Cond.methodLink RL 44 yX3_type, Cond.instanceMethod yX3_type, Cond.selects RX3 yX3_type yX3_type, Cond.code yX3_type cX3_type 2 (some .int), Cond.methodLink RX3 81 yX1_append, Cond.instanceMethod yX1_append, Cond.selects RX1 yX1_append yX1_append, Cond.code yX1_append cX1_append 2 (some .int), Cond.methodLink RL 48 yX4_type, Cond.instanceMethod yX4_type, Cond.selects RX4 yX4_type yX4_type]
def wsL_law_r16 : List Cond := [Cond.code yX4_type cX4_type 2 (some .int), Cond.fieldLink RX4 116 "CupFountainModel" "length" "I", Cond.methodLink RL 49 yX3_clearText, Cond.instanceMethod yX3_clearText, Cond.selects RX3 yX3_clearText yX3_clearText, Cond.code yX3_clearText cX3_clearText 1 (some .int), Cond.methodLink RX3 85 yX1_empty, Cond.instanceMethod yX1_empty, Cond.selects RX1 yX1_empty yX1_empty, Cond.code yX1_empty cX1_empty 2 (some .int), Cond.methodLink RL 53 yX4_clearText, Cond.instanceMethod yX4_clearText, Cond.selects RX4 yX4_clearText yX4_clearText, Cond.code yX4_clearText cX4_clearText 2 (some .int), Cond.methodLink RL 54 yX3_perform, Cond.instanceMethod yX3_perform, Cond.selects RX3 yX3_perform yX3_perform, Cond.code yX3_perform cX3_perform 4 (some .int), Cond.fieldLink RX3 92 "CupFountain$Plan" "things" "I", Cond.methodLink RX3 89 yX1_read, Cond.instanceMethod yX1_read, Cond.selects RX1 yX1_read yX1_read, Cond.code yX1_read cX1_read 2 (some .int), Cond.methodLink RX1 35 yX1_readThing]
def wsL_law_r17 : List Cond := [Cond.instanceMethod yX1_readThing, Cond.selects RX1 yX1_readThing yX1_readThing, Cond.code yX1_readThing cX1_readThing 3 (some .boolean), Cond.methodLink RX1 43 yX1_look, Cond.instanceMethod yX1_look, Cond.selects RX1 yX1_look yX1_look, Cond.code yX1_look cX1_look 1 (some .int), Cond.methodLink RX1 47 yX1_startThing, Cond.instanceMethod yX1_startThing, Cond.selects RX1 yX1_startThing yX1_startThing, Cond.code yX1_startThing cX1_startThing 3 (some .boolean), Cond.methodLink RX1 51 yX1_readCup, Cond.instanceMethod yX1_readCup, Cond.selects RX1 yX1_readCup yX1_readCup, Cond.code yX1_readCup cX1_readCup 3 (some .boolean), Cond.methodLink RX1 61 yX1_lookForDigit, Cond.instanceMethod yX1_lookForDigit, Cond.selects RX1 yX1_lookForDigit yX1_lookForDigit, Cond.code yX1_lookForDigit cX1_lookForDigit 2 (some .int), Cond.methodLink RX1 39 yX1_skip, Cond.instanceMethod yX1_skip, Cond.selects RX1 yX1_skip yX1_skip, Cond.code yX1_skip cX1_skip 2 (some .boolean), Cond.methodLink RX1 54 yX1_readNumber]
def wsL_law_r18 : List Cond := [Cond.instanceMethod yX1_readNumber, Cond.selects RX1 yX1_readNumber yX1_readNumber, Cond.code yX1_readNumber cX1_readNumber 7 (some .boolean), Cond.methodLink RX3 95 yX1_doThing, Cond.instanceMethod yX1_doThing, Cond.selects RX1 yX1_doThing yX1_doThing, Cond.code yX1_doThing cX1_doThing 3 (some .int), Cond.methodLink RX1 64 yX2_changeHour, Cond.methodLink RX1 70 yX2_changeCup, Cond.methodLink RX1 74 yX2_pour, Cond.methodLink RX1 77 yX2_changeGuard, Cond.methodLink RX1 81 yX2_letPass, Cond.methodLink RX3 99 yX3_isError, Cond.static yX3_isError, Cond.code yX3_isError cX3_isError 1 (some .boolean), Cond.methodLink RL 57 yX4_perform, Cond.instanceMethod yX4_perform, Cond.selects RX4 yX4_perform yX4_perform, Cond.code yX4_perform cX4_perform 2 (some .int), Cond.fieldLink RX4 119 "CupFountainModel" "place" "I", Cond.fieldLink RX4 148 "CupFountainModel" "error" "I", Cond.fieldLink RX4 145 "CupFountainModel" "done" "I", Cond.fieldLink RX4 162 "CupFountainModel" "stoppedBy" "I", Cond.methodLink RX4 158 yX4_readText]
def wsL_law_r19 : List Cond := [Cond.instanceMethod yX4_readText, Cond.selects RX4 yX4_readText yX4_readText, Cond.code yX4_readText cX4_readText 4 (some .boolean), Cond.methodLink RX4 151 yX4_readThing, Cond.instanceMethod yX4_readThing, Cond.selects RX4 yX4_readThing yX4_readThing, Cond.code yX4_readThing cX4_readThing 1 (some .boolean), Cond.fieldLink RX4 132 "CupFountainModel" "letter" "I", Cond.methodLink RX4 135 yX4_readCup, Cond.instanceMethod yX4_readCup, Cond.selects RX4 yX4_readCup yX4_readCup, Cond.code yX4_readCup cX4_readCup 2 (some .boolean), Cond.fieldLink RX4 126 "CupFountainModel" "itsCup" "I", Cond.methodLink RX4 122 yX4_isNext, Cond.instanceMethod yX4_isNext, Cond.selects RX4 yX4_isNext yX4_isNext, Cond.code yX4_isNext cX4_isNext 3 (some .boolean), Cond.methodLink RX4 139 yX4_takes, Cond.instanceMethod yX4_takes, Cond.selects RX4 yX4_takes yX4_takes, Cond.code yX4_takes cX4_takes 3 (some .boolean), Cond.methodLink RX4 142 yX4_readNumber, Cond.instanceMethod yX4_readNumber, Cond.selects RX4 yX4_readNumber yX4_readNumber]
def wsL_law_r20 : List Cond := [Cond.code yX4_readNumber cX4_readNumber 3 (some .boolean), Cond.fieldLink RX4 129 "CupFountainModel" "number" "I", Cond.methodLink RX4 154 yX4_does, Cond.instanceMethod yX4_does, Cond.selects RX4 yX4_does yX4_does, Cond.code yX4_does cX4_does 1 (some .int), Cond.methodLink RL 58 yX3_stopped, Cond.instanceMethod yX3_stopped, Cond.selects RX3 yX3_stopped yX3_stopped, Cond.code yX3_stopped cX3_stopped 2 (some .int), Cond.methodLink RX3 103 yX3_isWithin, Cond.methodLink RL 61 yX4_stopped, Cond.instanceMethod yX4_stopped, Cond.selects RX4 yX4_stopped yX4_stopped, Cond.code yX4_stopped cX4_stopped 2 (some .int), Cond.methodLink RL 62 yX3_undo, Cond.instanceMethod yX3_undo, Cond.selects RX3 yX3_undo yX3_undo, Cond.code yX3_undo cX3_undo 1 (some .int), Cond.methodLink RL 65 yX4_undo, Cond.instanceMethod yX4_undo, Cond.selects RX4 yX4_undo yX4_undo, Cond.code yX4_undo cX4_undo 1 (some .int), Cond.methodLink RL 66 yX3_keep]
def wsL_law_r21 : List Cond := [Cond.instanceMethod yX3_keep, Cond.selects RX3 yX3_keep yX3_keep, Cond.code yX3_keep cX3_keep 1 (some .int), Cond.fieldLink RX3 107 "CupFountain$State" "tick" "I", Cond.methodLink RL 69 yX4_keep, Cond.instanceMethod yX4_keep, Cond.selects RX4 yX4_keep yX4_keep, Cond.code yX4_keep cX4_keep 1 (some .int), Cond.fieldLink RX4 165 "CupFountainModel" "isTaken" "Z", Cond.methodLink RL 70 yX3_restore, Cond.instanceMethod yX3_restore, Cond.selects RX3 yX3_restore yX3_restore, Cond.code yX3_restore cX3_restore 1 (some .int), Cond.methodLink RL 73 yX4_restore, Cond.instanceMethod yX4_restore, Cond.selects RX4 yX4_restore yX4_restore, Cond.code yX4_restore cX4_restore 1 (some .int), Cond.methodLink RL 74 yX3_cup, Cond.instanceMethod yX3_cup, Cond.selects RX3 yX3_cup yX3_cup, Cond.code yX3_cup cX3_cup 4 (some .int), Cond.methodLink RX3 110 yX2_find, Cond.methodLink RX3 114 yX0_tell, Cond.methodLink RL 77 yX4_cup]
def wsL_law_r22 : List Cond := [Cond.instanceMethod yX4_cup, Cond.selects RX4 yX4_cup yX4_cup, Cond.code yX4_cup cX4_cup 3 (some .int), Cond.methodLink RL 78 yX3_reason, Cond.instanceMethod yX3_reason, Cond.selects RX3 yX3_reason yX3_reason, Cond.code yX3_reason cX3_reason 4 (some .int), Cond.fieldLink RX3 122 "CupFountain$Cup" "tips" "I", Cond.fieldLink RX3 125 "CupFountain$Cup" "guarded" "Z", Cond.fieldLink RX3 128 "CupFountain$Cup" "hour" "I", Cond.fieldLink RX3 134 "CupFountain$Cup" "open" "Z", Cond.methodLink RX3 119 yX2_tickOnce, Cond.methodLink RX3 131 yX2_hourOf, Cond.methodLink RL 81 yX4_reason, Cond.instanceMethod yX4_reason, Cond.selects RX4 yX4_reason yX4_reason, Cond.code yX4_reason cX4_reason 2 (some .int), Cond.methodLink RX4 169 yX4_untilTip, Cond.instanceMethod yX4_untilTip, Cond.selects RX4 yX4_untilTip yX4_untilTip, Cond.code yX4_untilTip cX4_untilTip 5 (some .int), Cond.methodLink RL 82 yX3_tipsIn, Cond.instanceMethod yX3_tipsIn, Cond.selects RX3 yX3_tipsIn yX3_tipsIn]
def wsL_law_r23 : List Cond := [Cond.code yX3_tipsIn cX3_tipsIn 2 (some .int), Cond.methodLink RX3 137 yX3_ticksTillTip, Cond.instanceMethod yX3_ticksTillTip, Cond.selects RX3 yX3_ticksTillTip yX3_ticksTillTip, Cond.code yX3_ticksTillTip cX3_ticksTillTip 5 (some .int), Cond.methodLink RL 85 yX4_tipsIn, Cond.instanceMethod yX4_tipsIn, Cond.selects RX4 yX4_tipsIn yX4_tipsIn, Cond.code yX4_tipsIn cX4_tipsIn 2 (some .int), Cond.methodLink RL 86 yX3_tipsAt, Cond.instanceMethod yX3_tipsAt, Cond.selects RX3 yX3_tipsAt yX3_tipsAt, Cond.code yX3_tipsAt cX3_tipsAt 2 (some .int), Cond.methodLink RX3 140 yX3_hourOfTip, Cond.instanceMethod yX3_hourOfTip, Cond.selects RX3 yX3_hourOfTip yX3_hourOfTip, Cond.code yX3_hourOfTip cX3_hourOfTip 3 (some .int), Cond.methodLink RL 89 yX4_tipsAt, Cond.instanceMethod yX4_tipsAt, Cond.selects RX4 yX4_tipsAt yX4_tipsAt, Cond.code yX4_tipsAt cX4_tipsAt 2 (some .int), Cond.methodLink RX4 172 yX4_hourOfTip, Cond.instanceMethod yX4_hourOfTip, Cond.selects RX4 yX4_hourOfTip yX4_hourOfTip]
def wsL_law_r24 : List Cond := [Cond.code yX4_hourOfTip cX4_hourOfTip 3 (some .int), Cond.methodLink RL 90 yX3_starving, Cond.instanceMethod yX3_starving, Cond.selects RX3 yX3_starving yX3_starving, Cond.code yX3_starving cX3_starving 2 (some .int), Cond.fieldLink RX3 146 "CupFountain$State" "cups" "[LCupFountain$Cup;", Cond.methodLink RX3 143 yX2_tickOn, Cond.methodLink RL 93 yX4_starving, Cond.instanceMethod yX4_starving, Cond.selects RX4 yX4_starving yX4_starving, Cond.code yX4_starving cX4_starving 3 (some .int), Cond.methodLink RL 94 yX3_bestSize, Cond.instanceMethod yX3_bestSize, Cond.selects RX3 yX3_bestSize yX3_bestSize, Cond.code yX3_bestSize cX3_bestSize 6 (some .int), Cond.fieldLink RX3 150 "CupFountain$Cup" "size" "I", Cond.fieldLink RX3 153 "CupFountain$Cup" "ready" "I", Cond.methodLink RX3 156 Lib.Math.max.name, Cond.static Lib.Math.max.name, Cond.code Lib.Math.max.name Lib.Math.max.code 2 (some .int), Cond.methodLink RL 97 yX4_bestSize, Cond.instanceMethod yX4_bestSize, Cond.selects RX4 yX4_bestSize yX4_bestSize, Cond.code yX4_bestSize cX4_bestSize 5 (some .int)]
def wsL_law_r25 : List Cond := [Cond.methodLink RL 98 yX3_ifTicks, Cond.instanceMethod yX3_ifTicks, Cond.selects RX3 yX3_ifTicks yX3_ifTicks, Cond.code yX3_ifTicks cX3_ifTicks 4 (some .int), Cond.methodLink RX3 161 yX2_sumOf, Cond.instanceMethod yX2_sumOf, Cond.selects RX2 yX2_sumOf yX2_sumOf, Cond.code yX2_sumOf cX2_sumOf 4 (some .int), Cond.methodLink RL 101 yX4_ifTicks, Cond.instanceMethod yX4_ifTicks, Cond.selects RX4 yX4_ifTicks yX4_ifTicks, Cond.code yX4_ifTicks cX4_ifTicks 6 (some .int), Cond.methodLink RL 102 yX3_highest, Cond.instanceMethod yX3_highest, Cond.selects RX3 yX3_highest yX3_highest, Cond.code yX3_highest cX3_highest 4 (some .int), Cond.fieldLink RX3 164 "CupFountain$Cup" "jet" "I", Cond.methodLink RL 105 yX4_highest, Cond.instanceMethod yX4_highest, Cond.selects RX4 yX4_highest yX4_highest, Cond.code yX4_highest cX4_highest 3 (some .int), Cond.methodLink RL 106 yX3_count, Cond.instanceMethod yX3_count, Cond.selects RX3 yX3_count yX3_count]
def wsL_law_r26 : List Cond := [Cond.code yX3_count cX3_count 2 (some .int), Cond.fieldLink RX3 167 "CupFountain$Plan" "length" "I", Cond.methodLink RX3 170 yX2_tell, Cond.instanceMethod yX2_tell, Cond.selects RX2 yX2_tell yX2_tell, Cond.code yX2_tell cX2_tell 2 (some .int), Cond.methodLink RX2 138 yX2_sumOf, Cond.methodLink RX2 141 yX2_sumFull, Cond.instanceMethod yX2_sumFull, Cond.selects RX2 yX2_sumFull yX2_sumFull, Cond.code yX2_sumFull cX2_sumFull 3 (some .int), Cond.methodLink RX2 144 yX0_isFull, Cond.instanceMethod yX0_isFull, Cond.selects RX0 yX0_isFull yX0_isFull, Cond.code yX0_isFull cX0_isFull 1 (some .boolean), Cond.methodLink RL 109 yX4_count, Cond.instanceMethod yX4_count, Cond.selects RX4 yX4_count yX4_count, Cond.code yX4_count cX4_count 2 (some .int), Cond.methodLink RX4 175 yX4_full, Cond.instanceMethod yX4_full, Cond.selects RX4 yX4_full yX4_full, Cond.code yX4_full cX4_full 3 (some .int)]
def wsL_law : List Cond := (wsL_law_r1 ++ (wsL_law_r2 ++ (wsL_law_r3 ++ (wsL_law_r4 ++ (wsL_law_r5 ++ (wsL_law_r6 ++ (wsL_law_r7 ++ (wsL_law_r8 ++ (wsL_law_r9 ++ (wsL_law_r10 ++ (wsL_law_r11 ++ (wsL_law_r12 ++ (wsL_law_r13 ++ (wsL_law_r14 ++ (wsL_law_r15 ++ (wsL_law_r16 ++ (wsL_law_r17 ++ (wsL_law_r18 ++ (wsL_law_r19 ++ (wsL_law_r20 ++ (wsL_law_r21 ++ (wsL_law_r22 ++ (wsL_law_r23 ++ (wsL_law_r24 ++ (wsL_law_r25 ++ wsL_law_r26))))))))))))))))))))))))) ++ wsX30 ++ wsX40 ++ wsX20 ++ wsX10 ++ wsX00 ++ ([] : List Cond)
theorem dJ9_max_7cf53_0 : decode cJ9_max_7cf53 0 = .ok (.iload_n 0, 1) := by decide +kernel
theorem dJ9_max_7cf53_1 : decode cJ9_max_7cf53 1 = .ok (.iload_n 1, 1) := by decide +kernel
theorem dJ9_max_7cf53_2 : decode cJ9_max_7cf53 2 = .ok (.if_icmp .lt 7, 3) := by decide +kernel
theorem dJ9_max_7cf53_5 : decode cJ9_max_7cf53 5 = .ok (.iload_n 0, 1) := by decide +kernel
theorem dJ9_max_7cf53_6 : decode cJ9_max_7cf53 6 = .ok (.goto 4, 3) := by decide +kernel
theorem dJ9_max_7cf53_9 : decode cJ9_max_7cf53 9 = .ok (.iload_n 1, 1) := by decide +kernel
theorem dJ9_max_7cf53_10 : decode cJ9_max_7cf53 10 = .ok (.ireturn, 1) := by decide +kernel
theorem dJ9_min_7cf53_0 : decode cJ9_min_7cf53 0 = .ok (.iload_n 0, 1) := by decide +kernel
theorem dJ9_min_7cf53_1 : decode cJ9_min_7cf53 1 = .ok (.iload_n 1, 1) := by decide +kernel
theorem dJ9_min_7cf53_2 : decode cJ9_min_7cf53 2 = .ok (.if_icmp .gt 7, 3) := by decide +kernel
theorem dJ9_min_7cf53_5 : decode cJ9_min_7cf53 5 = .ok (.iload_n 0, 1) := by decide +kernel
theorem dJ9_min_7cf53_6 : decode cJ9_min_7cf53 6 = .ok (.goto 4, 3) := by decide +kernel
theorem dJ9_min_7cf53_9 : decode cJ9_min_7cf53 9 = .ok (.iload_n 1, 1) := by decide +kernel
theorem dJ9_min_7cf53_10 : decode cJ9_min_7cf53 10 = .ok (.ireturn, 1) := by decide +kernel
abbrev vwCl : List vw_C := [(RX0, TX0, 13), (RX1, TX1, 7), (RX2, TX2, 9), (RX3, TX3, 10), (RX4, TX4, 17)]
theorem zin_r {big : List Cond} (ws : List Cond) (ps : List Nat) (hp : ws = ps.filterMap (fun i => big[i]?)) : ∀ w ∈ ws, w ∈ big := by
  intro w hw
  rw [hp] at hw
  obtain ⟨i, -, hi⟩ := List.mem_filterMap.mp hw
  exact List.mem_of_getElem? hi
set_option maxRecDepth 20000 in
theorem wsL_law_r1_in : ∀ w ∈ wsL_law_r1, w ∈ lw_tbl := zin_r _ [53, 54, 47, 514, 515, 51, 55, 56, 57, 58, 59, 60, 61, 62, 48, 193, 194, 195, 196, 197, 161, 162, 50, 198] (by decide +kernel)
set_option maxRecDepth 20000 in
theorem wsL_law_r2_in : ∀ w ∈ wsL_law_r2, w ∈ lw_tbl := zin_r _ [199, 200, 201, 202, 63, 64, 65, 66, 67, 130, 132, 134, 135, 136, 137, 138, 139, 140, 69, 49, 70, 71, 72, 73] (by decide +kernel)
set_option maxRecDepth 20000 in
theorem wsL_law_r3_in : ∀ w ∈ wsL_law_r3, w ∈ lw_tbl := zin_r _ [74, 77, 81, 83, 86, 89, 92, 95, 97, 98, 99, 100, 79, 164, 165, 166, 191, 167, 168, 192, 170, 171, 172, 173] (by decide +kernel)
set_option maxRecDepth 20000 in
theorem wsL_law_r4_in : ∀ w ∈ wsL_law_r4, w ∈ lw_tbl := zin_r _ [175, 516, 517, 518, 519, 524, 525, 527, 529, 530, 532, 576, 534, 520, 522, 17, 523, 224, 225, 226, 227, 228, 229, 230] (by decide +kernel)
set_option maxRecDepth 20000 in
theorem wsL_law_r5_in : ∀ w ∈ wsL_law_r5, w ∈ lw_tbl := zin_r _ [231, 232, 233, 234, 235, 236, 237, 238, 239, 75, 78, 80, 240, 241, 242, 243, 244, 245, 246, 248, 249, 250, 251, 252] (by decide +kernel)
set_option maxRecDepth 20000 in
theorem wsL_law_r6_in : ∀ w ∈ wsL_law_r6, w ∈ lw_tbl := zin_r _ [253, 255, 256, 257, 259, 0, 260, 261, 263, 1, 264, 577, 578, 579, 580, 581, 583, 18, 584, 585, 586, 587, 588, 590] (by decide +kernel)
set_option maxRecDepth 20000 in
theorem wsL_law_r7_in : ∀ w ∈ wsL_law_r7, w ∈ lw_tbl := zin_r _ [19, 591, 592, 593, 594, 595, 596, 597, 598, 599, 600, 601, 603, 20, 604, 605, 607, 21, 608, 609, 611, 22, 612, 526] (by decide +kernel)
set_option maxRecDepth 20000 in
theorem wsL_law_r8_in : ∀ w ∈ wsL_law_r8, w ∈ lw_tbl := zin_r _ [265, 266, 267, 268, 269, 270, 271, 272, 90, 87, 613, 614, 615, 616, 617, 619, 23, 620, 274, 275, 276, 277, 278, 279] (by decide +kernel)
set_option maxRecDepth 20000 in
theorem wsL_law_r9_in : ∀ w ∈ wsL_law_r9, w ∈ lw_tbl := zin_r _ [280, 281, 84, 621, 622, 623, 624, 625, 627, 24, 628, 282, 283, 284, 285, 286, 287, 288, 289, 629, 630, 631, 632, 633] (by decide +kernel)
set_option maxRecDepth 20000 in
theorem wsL_law_r10_in : ∀ w ∈ wsL_law_r10, w ∈ lw_tbl := zin_r _ [635, 25, 636, 290, 291, 292, 293, 294, 295, 296, 297, 82, 637, 638, 639, 640, 641, 643, 26, 644, 298, 299, 300, 301] (by decide +kernel)
set_option maxRecDepth 20000 in
theorem wsL_law_r11_in : ∀ w ∈ wsL_law_r11, w ∈ lw_tbl := zin_r _ [302, 303, 304, 305, 306, 308, 2, 309, 645, 646, 647, 648, 649, 651, 27, 652, 310, 311, 312, 313, 314, 315, 316, 317] (by decide +kernel)
set_option maxRecDepth 20000 in
theorem wsL_law_r12_in : ∀ w ∈ wsL_law_r12, w ∈ lw_tbl := zin_r _ [318, 319, 320, 321, 322, 323, 324, 325, 326, 327, 328, 329, 330, 331, 333, 3, 334, 335, 337, 4, 338, 339, 340, 52] (by decide +kernel)
set_option maxRecDepth 20000 in
theorem wsL_law_r13_in : ∀ w ∈ wsL_law_r13, w ∈ lw_tbl := zin_r _ [341, 342, 344, 5, 345, 101, 93, 346, 347, 348, 349, 350, 351, 352, 353, 354, 355, 356, 357, 358, 359, 361, 6, 362] (by decide +kernel)
set_option maxRecDepth 20000 in
theorem wsL_law_r14_in : ∀ w ∈ wsL_law_r14, w ∈ lw_tbl := zin_r _ [653, 654, 655, 656, 657, 659, 28, 660, 661, 662, 664, 29, 665, 666, 668, 30, 669, 670, 672, 31, 673, 674, 676, 32] (by decide +kernel)
set_option maxRecDepth 20000 in
theorem wsL_law_r15_in : ∀ w ∈ wsL_law_r15, w ∈ lw_tbl := zin_r _ [677, 678, 680, 33, 681, 682, 684, 34, 685, 686, 688, 35, 689, 363, 364, 365, 366, 367, 368, 369, 370, 690, 691, 692] (by decide +kernel)
set_option maxRecDepth 20000 in
theorem wsL_law_r16_in : ∀ w ∈ wsL_law_r16, w ∈ lw_tbl := zin_r _ [693, 531, 371, 372, 373, 374, 375, 376, 377, 378, 694, 695, 696, 697, 379, 380, 381, 382, 174, 383, 384, 385, 386, 387] (by decide +kernel)
set_option maxRecDepth 20000 in
theorem wsL_law_r17_in : ∀ w ∈ wsL_law_r17, w ∈ lw_tbl := zin_r _ [389, 7, 390, 391, 393, 8, 394, 395, 397, 9, 398, 400, 402, 10, 403, 404, 406, 11, 407, 408, 410, 12, 411, 412] (by decide +kernel)
set_option maxRecDepth 20000 in
theorem wsL_law_r18_in : ∀ w ∈ wsL_law_r18, w ∈ lw_tbl := zin_r _ [414, 13, 415, 416, 417, 418, 419, 420, 421, 422, 423, 424, 425, 426, 427, 698, 699, 700, 701, 535, 540, 539, 533, 702] (by decide +kernel)
set_option maxRecDepth 20000 in
theorem wsL_law_r19_in : ∀ w ∈ wsL_law_r19, w ∈ lw_tbl := zin_r _ [704, 36, 705, 706, 708, 37, 709, 536, 710, 712, 38, 713, 537, 714, 716, 39, 717, 718, 720, 40, 721, 722, 724, 41] (by decide +kernel)
set_option maxRecDepth 20000 in
theorem wsL_law_r20_in : ∀ w ∈ wsL_law_r20, w ∈ lw_tbl := zin_r _ [725, 538, 726, 728, 42, 729, 428, 429, 430, 431, 432, 730, 731, 732, 733, 433, 434, 435, 436, 734, 735, 736, 737, 437] (by decide +kernel)
set_option maxRecDepth 20000 in
theorem wsL_law_r21_in : ∀ w ∈ wsL_law_r21, w ∈ lw_tbl := zin_r _ [438, 439, 440, 133, 738, 739, 740, 741, 528, 441, 442, 443, 444, 742, 743, 744, 745, 445, 446, 447, 448, 449, 450, 746] (by decide +kernel)
set_option maxRecDepth 20000 in
theorem wsL_law_r22_in : ∀ w ∈ wsL_law_r22, w ∈ lw_tbl := zin_r _ [747, 748, 749, 451, 452, 453, 454, 96, 91, 85, 88, 455, 456, 750, 751, 752, 753, 754, 756, 43, 757, 457, 458, 459] (by decide +kernel)
set_option maxRecDepth 20000 in
theorem wsL_law_r23_in : ∀ w ∈ wsL_law_r23, w ∈ lw_tbl := zin_r _ [460, 461, 463, 14, 464, 758, 759, 760, 761, 465, 466, 467, 468, 469, 471, 15, 472, 762, 763, 764, 765, 766, 768, 44] (by decide +kernel)
set_option maxRecDepth 20000 in
theorem wsL_law_r24_in : ∀ w ∈ wsL_law_r24, w ∈ lw_tbl := zin_r _ [769, 473, 474, 475, 476, 131, 477, 770, 771, 772, 773, 478, 479, 480, 481, 76, 102, 482, 483, 484, 774, 775, 776, 777] (by decide +kernel)
set_option maxRecDepth 20000 in
theorem wsL_law_r25_in : ∀ w ∈ wsL_law_r25, w ∈ lw_tbl := zin_r _ [485, 486, 487, 488, 489, 490, 491, 492, 778, 779, 780, 781, 493, 494, 495, 496, 94, 782, 783, 784, 785, 497, 498, 499] (by decide +kernel)
set_option maxRecDepth 20000 in
theorem wsL_law_r26_in : ∀ w ∈ wsL_law_r26, w ∈ lw_tbl := zin_r _ [500, 169, 501, 502, 503, 504, 505, 506, 508, 16, 509, 510, 511, 512, 513, 786, 787, 788, 789, 790, 792, 45, 793] (by decide +kernel)
set_option maxRecDepth 20000 in
theorem wsX00_in : ∀ w ∈ wsX00, w ∈ lw_tbl := zin_r _ [103, 105, 107, 109, 111, 113, 115, 117, 119, 121, 123, 125, 127] (by decide +kernel)
set_option maxRecDepth 20000 in
theorem wsX10_in : ∀ w ∈ wsX10, w ∈ lw_tbl := zin_r _ [176, 178, 180, 182, 184, 186, 188] (by decide +kernel)
set_option maxRecDepth 20000 in
theorem wsX20_in : ∀ w ∈ wsX20, w ∈ lw_tbl := zin_r _ [141, 143, 145, 147, 149, 151, 153, 155, 157] (by decide +kernel)
set_option maxRecDepth 20000 in
theorem wsX30_in : ∀ w ∈ wsX30, w ∈ lw_tbl := zin_r _ [203, 205, 207, 209, 211, 213, 215, 217, 219, 221] (by decide +kernel)
set_option maxRecDepth 20000 in
theorem wsX40_in : ∀ w ∈ wsX40, w ∈ lw_tbl := zin_r _ [541, 543, 545, 547, 549, 551, 553, 555, 557, 559, 561, 563, 565, 567, 569, 571, 573] (by decide +kernel)
set_option maxRecDepth 20000 in
theorem wsL_law_in : ∀ w ∈ wsL_law, w ∈ lw_tbl := by
  unfold wsL_law
  exact List.forall_mem_append.mpr ⟨List.forall_mem_append.mpr ⟨List.forall_mem_append.mpr ⟨List.forall_mem_append.mpr ⟨List.forall_mem_append.mpr ⟨List.forall_mem_append.mpr ⟨List.forall_mem_append.mpr ⟨wsL_law_r1_in, List.forall_mem_append.mpr ⟨wsL_law_r2_in, List.forall_mem_append.mpr ⟨wsL_law_r3_in, List.forall_mem_append.mpr ⟨wsL_law_r4_in, List.forall_mem_append.mpr ⟨wsL_law_r5_in, List.forall_mem_append.mpr ⟨wsL_law_r6_in, List.forall_mem_append.mpr ⟨wsL_law_r7_in, List.forall_mem_append.mpr ⟨wsL_law_r8_in, List.forall_mem_append.mpr ⟨wsL_law_r9_in, List.forall_mem_append.mpr ⟨wsL_law_r10_in, List.forall_mem_append.mpr ⟨wsL_law_r11_in, List.forall_mem_append.mpr ⟨wsL_law_r12_in, List.forall_mem_append.mpr ⟨wsL_law_r13_in, List.forall_mem_append.mpr ⟨wsL_law_r14_in, List.forall_mem_append.mpr ⟨wsL_law_r15_in, List.forall_mem_append.mpr ⟨wsL_law_r16_in, List.forall_mem_append.mpr ⟨wsL_law_r17_in, List.forall_mem_append.mpr ⟨wsL_law_r18_in, List.forall_mem_append.mpr ⟨wsL_law_r19_in, List.forall_mem_append.mpr ⟨wsL_law_r20_in, List.forall_mem_append.mpr ⟨wsL_law_r21_in, List.forall_mem_append.mpr ⟨wsL_law_r22_in, List.forall_mem_append.mpr ⟨wsL_law_r23_in, List.forall_mem_append.mpr ⟨wsL_law_r24_in, List.forall_mem_append.mpr ⟨wsL_law_r25_in, wsL_law_r26_in⟩⟩⟩⟩⟩⟩⟩⟩⟩⟩⟩⟩⟩⟩⟩⟩⟩⟩⟩⟩⟩⟩⟩⟩⟩, wsX30_in⟩, wsX40_in⟩, wsX20_in⟩, wsX10_in⟩, wsX00_in⟩, (fun _ h => absurd h List.not_mem_nil)⟩
