section
-- ===== PART A: goes FIRST, ahead of the names: the tables' words, and 'selects' of the private methods out of them =====
/-- a private method of a class that the tables say can be made, by its rows of tables_1 -/
def lw_okq (q : MethodName × Nat) : Prop := (q.1.cls ≠ "java/lang/invoke/MethodHandle" ∧ q.1.cls ≠ "java/lang/invoke/VarHandle") ∧ Cond.instantiable q.1.cls q.2 ∈ tables_1 ∧ Cond.privateMethod q.1 ∈ tables_1 ∧ Cond.instanceMethod q.1 ∈ tables_1
theorem lw_p0 : lw_okq (⟨"CupFountain", "recorded", "(I)I"⟩, 10) := ⟨⟨by decide +kernel, by decide +kernel⟩, List.mem_of_getElem? (i := 8) (by decide +kernel), List.mem_of_getElem? (i := 206) (by decide +kernel), List.mem_of_getElem? (i := 207) (by decide +kernel)⟩
theorem lw_p1 : lw_okq (⟨"CupFountain", "dropOldest", "()V"⟩, 10) := ⟨⟨by decide +kernel, by decide +kernel⟩, List.mem_of_getElem? (i := 8) (by decide +kernel), List.mem_of_getElem? (i := 210) (by decide +kernel), List.mem_of_getElem? (i := 211) (by decide +kernel)⟩
theorem lw_p2 : lw_okq (⟨"CupFountain$State", "tellSetting", "(I)I"⟩, 9) := ⟨⟨by decide +kernel, by decide +kernel⟩, List.mem_of_getElem? (i := 16) (by decide +kernel), List.mem_of_getElem? (i := 255) (by decide +kernel), List.mem_of_getElem? (i := 256) (by decide +kernel)⟩
theorem lw_p3 : lw_okq (⟨"CupFountain$State", "openGuarded", "(I)V"⟩, 9) := ⟨⟨by decide +kernel, by decide +kernel⟩, List.mem_of_getElem? (i := 16) (by decide +kernel), List.mem_of_getElem? (i := 280) (by decide +kernel), List.mem_of_getElem? (i := 281) (by decide +kernel)⟩
theorem lw_p4 : lw_okq (⟨"CupFountain$State", "springs", "()V"⟩, 9) := ⟨⟨by decide +kernel, by decide +kernel⟩, List.mem_of_getElem? (i := 16) (by decide +kernel), List.mem_of_getElem? (i := 284) (by decide +kernel), List.mem_of_getElem? (i := 285) (by decide +kernel)⟩
theorem lw_p5 : lw_okq (⟨"CupFountain$State", "tipOrKeep", "(LCupFountain$Cup;I)I"⟩, 9) := ⟨⟨by decide +kernel, by decide +kernel⟩, List.mem_of_getElem? (i := 16) (by decide +kernel), List.mem_of_getElem? (i := 291) (by decide +kernel), List.mem_of_getElem? (i := 292) (by decide +kernel)⟩
theorem lw_p6 : lw_okq (⟨"CupFountain$State", "shutGuarded", "()V"⟩, 9) := ⟨⟨by decide +kernel, by decide +kernel⟩, List.mem_of_getElem? (i := 16) (by decide +kernel), List.mem_of_getElem? (i := 312) (by decide +kernel), List.mem_of_getElem? (i := 313) (by decide +kernel)⟩
theorem lw_p7 : lw_okq (⟨"CupFountain$Plan", "readThing", "(I)Z"⟩, 7) := ⟨⟨by decide +kernel, by decide +kernel⟩, List.mem_of_getElem? (i := 110) (by decide +kernel), List.mem_of_getElem? (i := 340) (by decide +kernel), List.mem_of_getElem? (i := 341) (by decide +kernel)⟩
theorem lw_p8 : lw_okq (⟨"CupFountain$Plan", "look", "()I"⟩, 7) := ⟨⟨by decide +kernel, by decide +kernel⟩, List.mem_of_getElem? (i := 110) (by decide +kernel), List.mem_of_getElem? (i := 344) (by decide +kernel), List.mem_of_getElem? (i := 345) (by decide +kernel)⟩
theorem lw_p9 : lw_okq (⟨"CupFountain$Plan", "startThing", "(II)Z"⟩, 7) := ⟨⟨by decide +kernel, by decide +kernel⟩, List.mem_of_getElem? (i := 110) (by decide +kernel), List.mem_of_getElem? (i := 348) (by decide +kernel), List.mem_of_getElem? (i := 349) (by decide +kernel)⟩
theorem lw_p10 : lw_okq (⟨"CupFountain$Plan", "readCup", "(I)Z"⟩, 7) := ⟨⟨by decide +kernel, by decide +kernel⟩, List.mem_of_getElem? (i := 110) (by decide +kernel), List.mem_of_getElem? (i := 353) (by decide +kernel), List.mem_of_getElem? (i := 354) (by decide +kernel)⟩
theorem lw_p11 : lw_okq (⟨"CupFountain$Plan", "lookForDigit", "()I"⟩, 7) := ⟨⟨by decide +kernel, by decide +kernel⟩, List.mem_of_getElem? (i := 110) (by decide +kernel), List.mem_of_getElem? (i := 357) (by decide +kernel), List.mem_of_getElem? (i := 358) (by decide +kernel)⟩
theorem lw_p12 : lw_okq (⟨"CupFountain$Plan", "skip", "(C)Z"⟩, 7) := ⟨⟨by decide +kernel, by decide +kernel⟩, List.mem_of_getElem? (i := 110) (by decide +kernel), List.mem_of_getElem? (i := 361) (by decide +kernel), List.mem_of_getElem? (i := 362) (by decide +kernel)⟩
theorem lw_p13 : lw_okq (⟨"CupFountain$Plan", "readNumber", "(III)Z"⟩, 7) := ⟨⟨by decide +kernel, by decide +kernel⟩, List.mem_of_getElem? (i := 110) (by decide +kernel), List.mem_of_getElem? (i := 365) (by decide +kernel), List.mem_of_getElem? (i := 366) (by decide +kernel)⟩
theorem lw_p14 : lw_okq (⟨"CupFountain", "ticksTillTip", "(I)I"⟩, 10) := ⟨⟨by decide +kernel, by decide +kernel⟩, List.mem_of_getElem? (i := 8) (by decide +kernel), List.mem_of_getElem? (i := 414) (by decide +kernel), List.mem_of_getElem? (i := 415) (by decide +kernel)⟩
theorem lw_p15 : lw_okq (⟨"CupFountain", "hourOfTip", "(I)I"⟩, 10) := ⟨⟨by decide +kernel, by decide +kernel⟩, List.mem_of_getElem? (i := 8) (by decide +kernel), List.mem_of_getElem? (i := 422) (by decide +kernel), List.mem_of_getElem? (i := 423) (by decide +kernel)⟩
def lw_privs_1 : List (MethodName × Nat) := [(⟨"CupFountain", "recorded", "(I)I"⟩, 10), (⟨"CupFountain", "dropOldest", "()V"⟩, 10), (⟨"CupFountain$State", "tellSetting", "(I)I"⟩, 9), (⟨"CupFountain$State", "openGuarded", "(I)V"⟩, 9), (⟨"CupFountain$State", "springs", "()V"⟩, 9), (⟨"CupFountain$State", "tipOrKeep", "(LCupFountain$Cup;I)I"⟩, 9), (⟨"CupFountain$State", "shutGuarded", "()V"⟩, 9), (⟨"CupFountain$Plan", "readThing", "(I)Z"⟩, 7), (⟨"CupFountain$Plan", "look", "()I"⟩, 7), (⟨"CupFountain$Plan", "startThing", "(II)Z"⟩, 7), (⟨"CupFountain$Plan", "readCup", "(I)Z"⟩, 7), (⟨"CupFountain$Plan", "lookForDigit", "()I"⟩, 7), (⟨"CupFountain$Plan", "skip", "(C)Z"⟩, 7), (⟨"CupFountain$Plan", "readNumber", "(III)Z"⟩, 7), (⟨"CupFountain", "ticksTillTip", "(I)I"⟩, 10), (⟨"CupFountain", "hourOfTip", "(I)I"⟩, 10)]
theorem lw_r1 : ∀ q ∈ lw_privs_1, lw_okq q := List.forall_mem_cons.mpr ⟨lw_p0, List.forall_mem_cons.mpr ⟨lw_p1, List.forall_mem_cons.mpr ⟨lw_p2, List.forall_mem_cons.mpr ⟨lw_p3, List.forall_mem_cons.mpr ⟨lw_p4, List.forall_mem_cons.mpr ⟨lw_p5, List.forall_mem_cons.mpr ⟨lw_p6, List.forall_mem_cons.mpr ⟨lw_p7, List.forall_mem_cons.mpr ⟨lw_p8, List.forall_mem_cons.mpr ⟨lw_p9, List.forall_mem_cons.mpr ⟨lw_p10, List.forall_mem_cons.mpr ⟨lw_p11, List.forall_mem_cons.mpr ⟨lw_p12, List.forall_mem_cons.mpr ⟨lw_p13, List.forall_mem_cons.mpr ⟨lw_p14, List.forall_mem_cons.mpr ⟨lw_p15, fun _ h => absurd h List.not_mem_nil⟩⟩⟩⟩⟩⟩⟩⟩⟩⟩⟩⟩⟩⟩⟩⟩
theorem lw_p16 : lw_okq (⟨"CupFountain$State", "sumFull", "()I"⟩, 9) := ⟨⟨by decide +kernel, by decide +kernel⟩, List.mem_of_getElem? (i := 16) (by decide +kernel), List.mem_of_getElem? (i := 456) (by decide +kernel), List.mem_of_getElem? (i := 457) (by decide +kernel)⟩
theorem lw_p17 : lw_okq (⟨"CupFountainModel", "lay", "(III)V"⟩, 17) := ⟨⟨by decide +kernel, by decide +kernel⟩, List.mem_of_getElem? (i := 460) (by decide +kernel), List.mem_of_getElem? (i := 466) (by decide +kernel), List.mem_of_getElem? (i := 467) (by decide +kernel)⟩
theorem lw_p18 : lw_okq (⟨"CupFountainModel", "begin", "()V"⟩, 17) := ⟨⟨by decide +kernel, by decide +kernel⟩, List.mem_of_getElem? (i := 460) (by decide +kernel), List.mem_of_getElem? (i := 527) (by decide +kernel), List.mem_of_getElem? (i := 528) (by decide +kernel)⟩
theorem lw_p19 : lw_okq (⟨"CupFountainModel", "doSetCup", "(III)I"⟩, 17) := ⟨⟨by decide +kernel, by decide +kernel⟩, List.mem_of_getElem? (i := 460) (by decide +kernel), List.mem_of_getElem? (i := 534) (by decide +kernel), List.mem_of_getElem? (i := 535) (by decide +kernel)⟩
theorem lw_p20 : lw_okq (⟨"CupFountainModel", "of", "(II)I"⟩, 17) := ⟨⟨by decide +kernel, by decide +kernel⟩, List.mem_of_getElem? (i := 460) (by decide +kernel), List.mem_of_getElem? (i := 547) (by decide +kernel), List.mem_of_getElem? (i := 548) (by decide +kernel)⟩
theorem lw_p21 : lw_okq (⟨"CupFountainModel", "act", "(I)I"⟩, 17) := ⟨⟨by decide +kernel, by decide +kernel⟩, List.mem_of_getElem? (i := 460) (by decide +kernel), List.mem_of_getElem? (i := 551) (by decide +kernel), List.mem_of_getElem? (i := 552) (by decide +kernel)⟩
theorem lw_p22 : lw_okq (⟨"CupFountainModel", "recordFrom", "([I)V"⟩, 17) := ⟨⟨by decide +kernel, by decide +kernel⟩, List.mem_of_getElem? (i := 460) (by decide +kernel), List.mem_of_getElem? (i := 555) (by decide +kernel), List.mem_of_getElem? (i := 556) (by decide +kernel)⟩
theorem lw_p23 : lw_okq (⟨"CupFountainModel", "doTurn", "(I)I"⟩, 17) := ⟨⟨by decide +kernel, by decide +kernel⟩, List.mem_of_getElem? (i := 460) (by decide +kernel), List.mem_of_getElem? (i := 563) (by decide +kernel), List.mem_of_getElem? (i := 564) (by decide +kernel)⟩
theorem lw_p24 : lw_okq (⟨"CupFountainModel", "doSetHour", "(II)I"⟩, 17) := ⟨⟨by decide +kernel, by decide +kernel⟩, List.mem_of_getElem? (i := 460) (by decide +kernel), List.mem_of_getElem? (i := 571) (by decide +kernel), List.mem_of_getElem? (i := 572) (by decide +kernel)⟩
theorem lw_p25 : lw_okq (⟨"CupFountainModel", "doGuard", "(I)I"⟩, 17) := ⟨⟨by decide +kernel, by decide +kernel⟩, List.mem_of_getElem? (i := 460) (by decide +kernel), List.mem_of_getElem? (i := 579) (by decide +kernel), List.mem_of_getElem? (i := 580) (by decide +kernel)⟩
theorem lw_p26 : lw_okq (⟨"CupFountainModel", "doFill", "(II)I"⟩, 17) := ⟨⟨by decide +kernel, by decide +kernel⟩, List.mem_of_getElem? (i := 460) (by decide +kernel), List.mem_of_getElem? (i := 587) (by decide +kernel), List.mem_of_getElem? (i := 588) (by decide +kernel)⟩
theorem lw_p27 : lw_okq (⟨"CupFountainModel", "doSet", "(II)I"⟩, 17) := ⟨⟨by decide +kernel, by decide +kernel⟩, List.mem_of_getElem? (i := 460) (by decide +kernel), List.mem_of_getElem? (i := 595) (by decide +kernel), List.mem_of_getElem? (i := 596) (by decide +kernel)⟩
theorem lw_p28 : lw_okq (⟨"CupFountainModel", "doPass", "(I)I"⟩, 17) := ⟨⟨by decide +kernel, by decide +kernel⟩, List.mem_of_getElem? (i := 460) (by decide +kernel), List.mem_of_getElem? (i := 603) (by decide +kernel), List.mem_of_getElem? (i := 604) (by decide +kernel)⟩
theorem lw_p29 : lw_okq (⟨"CupFountainModel", "sumOf", "(I)I"⟩, 17) := ⟨⟨by decide +kernel, by decide +kernel⟩, List.mem_of_getElem? (i := 460) (by decide +kernel), List.mem_of_getElem? (i := 608) (by decide +kernel), List.mem_of_getElem? (i := 609) (by decide +kernel)⟩
theorem lw_p30 : lw_okq (⟨"CupFountainModel", "tick", "()V"⟩, 17) := ⟨⟨by decide +kernel, by decide +kernel⟩, List.mem_of_getElem? (i := 460) (by decide +kernel), List.mem_of_getElem? (i := 612) (by decide +kernel), List.mem_of_getElem? (i := 613) (by decide +kernel)⟩
theorem lw_p31 : lw_okq (⟨"CupFountainModel", "hourOf", "(I)I"⟩, 17) := ⟨⟨by decide +kernel, by decide +kernel⟩, List.mem_of_getElem? (i := 460) (by decide +kernel), List.mem_of_getElem? (i := 616) (by decide +kernel), List.mem_of_getElem? (i := 617) (by decide +kernel)⟩
def lw_privs_2 : List (MethodName × Nat) := [(⟨"CupFountain$State", "sumFull", "()I"⟩, 9), (⟨"CupFountainModel", "lay", "(III)V"⟩, 17), (⟨"CupFountainModel", "begin", "()V"⟩, 17), (⟨"CupFountainModel", "doSetCup", "(III)I"⟩, 17), (⟨"CupFountainModel", "of", "(II)I"⟩, 17), (⟨"CupFountainModel", "act", "(I)I"⟩, 17), (⟨"CupFountainModel", "recordFrom", "([I)V"⟩, 17), (⟨"CupFountainModel", "doTurn", "(I)I"⟩, 17), (⟨"CupFountainModel", "doSetHour", "(II)I"⟩, 17), (⟨"CupFountainModel", "doGuard", "(I)I"⟩, 17), (⟨"CupFountainModel", "doFill", "(II)I"⟩, 17), (⟨"CupFountainModel", "doSet", "(II)I"⟩, 17), (⟨"CupFountainModel", "doPass", "(I)I"⟩, 17), (⟨"CupFountainModel", "sumOf", "(I)I"⟩, 17), (⟨"CupFountainModel", "tick", "()V"⟩, 17), (⟨"CupFountainModel", "hourOf", "(I)I"⟩, 17)]
theorem lw_r2 : ∀ q ∈ lw_privs_2, lw_okq q := List.forall_mem_cons.mpr ⟨lw_p16, List.forall_mem_cons.mpr ⟨lw_p17, List.forall_mem_cons.mpr ⟨lw_p18, List.forall_mem_cons.mpr ⟨lw_p19, List.forall_mem_cons.mpr ⟨lw_p20, List.forall_mem_cons.mpr ⟨lw_p21, List.forall_mem_cons.mpr ⟨lw_p22, List.forall_mem_cons.mpr ⟨lw_p23, List.forall_mem_cons.mpr ⟨lw_p24, List.forall_mem_cons.mpr ⟨lw_p25, List.forall_mem_cons.mpr ⟨lw_p26, List.forall_mem_cons.mpr ⟨lw_p27, List.forall_mem_cons.mpr ⟨lw_p28, List.forall_mem_cons.mpr ⟨lw_p29, List.forall_mem_cons.mpr ⟨lw_p30, List.forall_mem_cons.mpr ⟨lw_p31, fun _ h => absurd h List.not_mem_nil⟩⟩⟩⟩⟩⟩⟩⟩⟩⟩⟩⟩⟩⟩⟩⟩
theorem lw_p32 : lw_okq (⟨"CupFountainModel", "pour", "(II)V"⟩, 17) := ⟨⟨by decide +kernel, by decide +kernel⟩, List.mem_of_getElem? (i := 460) (by decide +kernel), List.mem_of_getElem? (i := 620) (by decide +kernel), List.mem_of_getElem? (i := 621) (by decide +kernel)⟩
theorem lw_p33 : lw_okq (⟨"CupFountainModel", "tipOrKeep", "(II)V"⟩, 17) := ⟨⟨by decide +kernel, by decide +kernel⟩, List.mem_of_getElem? (i := 460) (by decide +kernel), List.mem_of_getElem? (i := 624) (by decide +kernel), List.mem_of_getElem? (i := 625) (by decide +kernel)⟩
theorem lw_p34 : lw_okq (⟨"CupFountainModel", "isFull", "(I)Z"⟩, 17) := ⟨⟨by decide +kernel, by decide +kernel⟩, List.mem_of_getElem? (i := 460) (by decide +kernel), List.mem_of_getElem? (i := 628) (by decide +kernel), List.mem_of_getElem? (i := 629) (by decide +kernel)⟩
theorem lw_p35 : lw_okq (⟨"CupFountainModel", "countTip", "(II)V"⟩, 17) := ⟨⟨by decide +kernel, by decide +kernel⟩, List.mem_of_getElem? (i := 460) (by decide +kernel), List.mem_of_getElem? (i := 632) (by decide +kernel), List.mem_of_getElem? (i := 633) (by decide +kernel)⟩
theorem lw_p36 : lw_okq (⟨"CupFountainModel", "readText", "(Z)Z"⟩, 17) := ⟨⟨by decide +kernel, by decide +kernel⟩, List.mem_of_getElem? (i := 460) (by decide +kernel), List.mem_of_getElem? (i := 648) (by decide +kernel), List.mem_of_getElem? (i := 649) (by decide +kernel)⟩
theorem lw_p37 : lw_okq (⟨"CupFountainModel", "readThing", "()Z"⟩, 17) := ⟨⟨by decide +kernel, by decide +kernel⟩, List.mem_of_getElem? (i := 460) (by decide +kernel), List.mem_of_getElem? (i := 652) (by decide +kernel), List.mem_of_getElem? (i := 653) (by decide +kernel)⟩
theorem lw_p38 : lw_okq (⟨"CupFountainModel", "readCup", "()Z"⟩, 17) := ⟨⟨by decide +kernel, by decide +kernel⟩, List.mem_of_getElem? (i := 460) (by decide +kernel), List.mem_of_getElem? (i := 656) (by decide +kernel), List.mem_of_getElem? (i := 657) (by decide +kernel)⟩
theorem lw_p39 : lw_okq (⟨"CupFountainModel", "isNext", "(II)Z"⟩, 17) := ⟨⟨by decide +kernel, by decide +kernel⟩, List.mem_of_getElem? (i := 460) (by decide +kernel), List.mem_of_getElem? (i := 660) (by decide +kernel), List.mem_of_getElem? (i := 661) (by decide +kernel)⟩
theorem lw_p40 : lw_okq (⟨"CupFountainModel", "takes", "(I)Z"⟩, 17) := ⟨⟨by decide +kernel, by decide +kernel⟩, List.mem_of_getElem? (i := 460) (by decide +kernel), List.mem_of_getElem? (i := 664) (by decide +kernel), List.mem_of_getElem? (i := 665) (by decide +kernel)⟩
theorem lw_p41 : lw_okq (⟨"CupFountainModel", "readNumber", "(II)Z"⟩, 17) := ⟨⟨by decide +kernel, by decide +kernel⟩, List.mem_of_getElem? (i := 460) (by decide +kernel), List.mem_of_getElem? (i := 668) (by decide +kernel), List.mem_of_getElem? (i := 669) (by decide +kernel)⟩
theorem lw_p42 : lw_okq (⟨"CupFountainModel", "does", "()I"⟩, 17) := ⟨⟨by decide +kernel, by decide +kernel⟩, List.mem_of_getElem? (i := 460) (by decide +kernel), List.mem_of_getElem? (i := 672) (by decide +kernel), List.mem_of_getElem? (i := 673) (by decide +kernel)⟩
theorem lw_p43 : lw_okq (⟨"CupFountainModel", "untilTip", "(II)I"⟩, 17) := ⟨⟨by decide +kernel, by decide +kernel⟩, List.mem_of_getElem? (i := 460) (by decide +kernel), List.mem_of_getElem? (i := 700) (by decide +kernel), List.mem_of_getElem? (i := 701) (by decide +kernel)⟩
theorem lw_p44 : lw_okq (⟨"CupFountainModel", "hourOfTip", "(I)I"⟩, 17) := ⟨⟨by decide +kernel, by decide +kernel⟩, List.mem_of_getElem? (i := 460) (by decide +kernel), List.mem_of_getElem? (i := 712) (by decide +kernel), List.mem_of_getElem? (i := 713) (by decide +kernel)⟩
theorem lw_p45 : lw_okq (⟨"CupFountainModel", "full", "()I"⟩, 17) := ⟨⟨by decide +kernel, by decide +kernel⟩, List.mem_of_getElem? (i := 460) (by decide +kernel), List.mem_of_getElem? (i := 736) (by decide +kernel), List.mem_of_getElem? (i := 737) (by decide +kernel)⟩
def lw_privs_3 : List (MethodName × Nat) := [(⟨"CupFountainModel", "pour", "(II)V"⟩, 17), (⟨"CupFountainModel", "tipOrKeep", "(II)V"⟩, 17), (⟨"CupFountainModel", "isFull", "(I)Z"⟩, 17), (⟨"CupFountainModel", "countTip", "(II)V"⟩, 17), (⟨"CupFountainModel", "readText", "(Z)Z"⟩, 17), (⟨"CupFountainModel", "readThing", "()Z"⟩, 17), (⟨"CupFountainModel", "readCup", "()Z"⟩, 17), (⟨"CupFountainModel", "isNext", "(II)Z"⟩, 17), (⟨"CupFountainModel", "takes", "(I)Z"⟩, 17), (⟨"CupFountainModel", "readNumber", "(II)Z"⟩, 17), (⟨"CupFountainModel", "does", "()I"⟩, 17), (⟨"CupFountainModel", "untilTip", "(II)I"⟩, 17), (⟨"CupFountainModel", "hourOfTip", "(I)I"⟩, 17), (⟨"CupFountainModel", "full", "()I"⟩, 17)]
theorem lw_r3 : ∀ q ∈ lw_privs_3, lw_okq q := List.forall_mem_cons.mpr ⟨lw_p32, List.forall_mem_cons.mpr ⟨lw_p33, List.forall_mem_cons.mpr ⟨lw_p34, List.forall_mem_cons.mpr ⟨lw_p35, List.forall_mem_cons.mpr ⟨lw_p36, List.forall_mem_cons.mpr ⟨lw_p37, List.forall_mem_cons.mpr ⟨lw_p38, List.forall_mem_cons.mpr ⟨lw_p39, List.forall_mem_cons.mpr ⟨lw_p40, List.forall_mem_cons.mpr ⟨lw_p41, List.forall_mem_cons.mpr ⟨lw_p42, List.forall_mem_cons.mpr ⟨lw_p43, List.forall_mem_cons.mpr ⟨lw_p44, List.forall_mem_cons.mpr ⟨lw_p45, fun _ h => absurd h List.not_mem_nil⟩⟩⟩⟩⟩⟩⟩⟩⟩⟩⟩⟩⟩⟩
def lw_privs : List (MethodName × Nat) := lw_privs_1 ++ (lw_privs_2 ++ (lw_privs_3))
def lw_tbl : List Cond := k2_sels lw_privs ++ tables_1
theorem lw_privs_ok : ∀ q ∈ lw_privs, lw_okq q := by
  show ∀ q ∈ lw_privs_1 ++ (lw_privs_2 ++ (lw_privs_3)), lw_okq q
  exact List.forall_mem_append.mpr ⟨lw_r1, List.forall_mem_append.mpr ⟨lw_r2, lw_r3⟩⟩
-- ===== end of PART A; then your names; then what follows =====
/-! ===== BEGIN words of one list among another's, by their places ===== -/
theorem goodIn_r {big : List Cond} (ws : List Cond) (ps : List Nat) (hp : ws = ps.filterMap (fun i => big[i]?)) (h : ws.all goodWord = true) : GoodIn big ws := by
  intro w hw
  have h1 := List.all_eq_true.mp h w hw
  rw [hp] at hw
  obtain ⟨i, -, hi⟩ := List.mem_filterMap.mp hw
  have hm : w ∈ big := by first | exact List.mem_of_getElem? hi | exact List.getElem?_mem hi
  exact ⟨hm, good_of_word h1⟩
theorem goodIn_app {big a b : List Cond} (ha : GoodIn big a) (hb : GoodIn big b) : GoodIn big (a ++ b) := fun w h => (List.mem_append.mp h).elim (ha w) (hb w)
theorem goodIn_ca {big a b : List Cond} {c : Cond} (ha : GoodIn big (c :: a)) (hb : GoodIn big b) : GoodIn big (c :: (a ++ b)) := fun w h => (List.mem_cons.mp h).elim (fun e => ha w (List.mem_cons.mpr (Or.inl e))) (fun h => (List.mem_append.mp h).elim (fun h => ha w (List.mem_cons.mpr (Or.inr h))) (hb w))
theorem goodIn_sub {big ws : List Cond} (hm : ∀ w ∈ ws, w ∈ big) (h : ws.all goodWord = true) : GoodIn big ws := fun w hw => ⟨hm w hw, good_of_word (List.all_eq_true.mp h w hw)⟩
/-! ===== END ===== -/

/-! ===== BEGIN printed: names, fields, word lists, decode rows ===== -/
def RX0 : String := "CupFountain$Cup"
def TX0 : u_T := fun k => match k with
  | 0 => ("CupFountain$Cup", "size", "I", false)
  | 1 => ("CupFountain$Cup", "leak", "I", false)
  | 2 => ("CupFountain$Cup", "next", "I", false)
  | 3 => ("CupFountain$Cup", "water", "I", false)
  | 4 => ("CupFountain$Cup", "hour", "I", false)
  | 5 => ("CupFountain$Cup", "open", "Z", false)
  | 6 => ("CupFountain$Cup", "guarded", "Z", false)
  | 7 => ("CupFountain$Cup", "jet", "I", false)
  | 8 => ("CupFountain$Cup", "tips", "I", false)
  | 9 => ("CupFountain$Cup", "onTime", "I", false)
  | 10 => ("CupFountain$Cup", "early", "I", false)
  | _ => ("CupFountain$Cup", "late", "I", false)
def tyX0 : Nat → FieldType := fun k => match k with
  | 0 => .int
  | 1 => .int
  | 2 => .int
  | 3 => .int
  | 4 => .int
  | 5 => .boolean
  | 6 => .boolean
  | 7 => .int
  | 8 => .int
  | 9 => .int
  | 10 => .int
  | _ => .int
abbrev wsX00 : List Cond := u_ws RX0 TX0 12
theorem nmX0 : ∀ a, a < 12 → ∀ b, b < 12 → a ≠ b → (TX0 a).2.1 ≠ (TX0 b).2.1 := by decide +kernel
theorem tyX0_ok : ∀ k, k < 12 → parseFieldDescriptor (TX0 k).2.2.1 = some (tyX0 k) := by decide +kernel
abbrev cX0_init : ByteArray := prog_2_method_1_code
def yX0_init : MethodName := ⟨RX0, "<init>", "(I)V"⟩
abbrev cX0_copyFrom : ByteArray := prog_2_method_2_code
def yX0_copyFrom : MethodName := ⟨RX0, "copyFrom", "(LCupFountain$Cup;)V"⟩
abbrev cX0_isFull : ByteArray := prog_2_method_3_code
def yX0_isFull : MethodName := ⟨RX0, "isFull", "()Z"⟩
abbrev cX0_tip : ByteArray := prog_2_method_4_code
def yX0_tip : MethodName := ⟨RX0, "tip", "(I)I"⟩
abbrev cX0_runOver : ByteArray := prog_2_method_5_code
def yX0_runOver : MethodName := ⟨RX0, "runOver", "()I"⟩
abbrev cX0_drip : ByteArray := prog_2_method_6_code
def yX0_drip : MethodName := ⟨RX0, "drip", "()I"⟩
abbrev cX0_tell : ByteArray := prog_2_method_7_code
def yX0_tell : MethodName := ⟨RX0, "tell", "(I)I"⟩
def RX1 : String := "CupFountain$Plan"
def TX1 : u_T := fun k => match k with
  | 0 => ("CupFountain$Plan", "text", "[C", true)
  | 1 => ("CupFountain$Plan", "length", "I", false)
  | 2 => ("CupFountain$Plan", "kinds", "[I", true)
  | 3 => ("CupFountain$Plan", "whose", "[I", true)
  | 4 => ("CupFountain$Plan", "numbers", "[I", true)
  | 5 => ("CupFountain$Plan", "things", "I", false)
  | _ => ("CupFountain$Plan", "place", "I", false)
def tyX1 : Nat → FieldType := fun k => match k with
  | 0 => .array .char
  | 1 => .int
  | 2 => .array .int
  | 3 => .array .int
  | 4 => .array .int
  | 5 => .int
  | _ => .int
abbrev wsX10 : List Cond := u_ws RX1 TX1 7
theorem nmX1 : ∀ a, a < 7 → ∀ b, b < 7 → a ≠ b → (TX1 a).2.1 ≠ (TX1 b).2.1 := by decide +kernel
theorem tyX1_ok : ∀ k, k < 7 → parseFieldDescriptor (TX1 k).2.2.1 = some (tyX1 k) := by decide +kernel
abbrev cX1_init : ByteArray := prog_3_method_1_code
def yX1_init : MethodName := ⟨RX1, "<init>", "()V"⟩
abbrev cX1_append : ByteArray := prog_3_method_2_code
def yX1_append : MethodName := ⟨RX1, "append", "(C)I"⟩
abbrev cX1_empty : ByteArray := prog_3_method_3_code
def yX1_empty : MethodName := ⟨RX1, "empty", "()I"⟩
abbrev cX1_read : ByteArray := prog_3_method_4_code
def yX1_read : MethodName := ⟨RX1, "read", "()I"⟩
abbrev cX1_readThing : ByteArray := prog_3_method_5_code
def yX1_readThing : MethodName := ⟨RX1, "readThing", "(I)Z"⟩
abbrev cX1_startThing : ByteArray := prog_3_method_6_code
def yX1_startThing : MethodName := ⟨RX1, "startThing", "(II)Z"⟩
abbrev cX1_readCup : ByteArray := prog_3_method_7_code
def yX1_readCup : MethodName := ⟨RX1, "readCup", "(I)Z"⟩
abbrev cX1_readNumber : ByteArray := prog_3_method_8_code
def yX1_readNumber : MethodName := ⟨RX1, "readNumber", "(III)Z"⟩
abbrev cX1_skip : ByteArray := prog_3_method_9_code
def yX1_skip : MethodName := ⟨RX1, "skip", "(C)Z"⟩
abbrev cX1_look : ByteArray := prog_3_method_10_code
def yX1_look : MethodName := ⟨RX1, "look", "()I"⟩
abbrev cX1_lookForDigit : ByteArray := prog_3_method_11_code
def yX1_lookForDigit : MethodName := ⟨RX1, "lookForDigit", "()I"⟩
abbrev cX1_doThing : ByteArray := prog_3_method_12_code
def yX1_doThing : MethodName := ⟨RX1, "doThing", "(ILCupFountain$State;)I"⟩
def RX2 : String := "CupFountain$State"
def TX2 : u_T := fun k => match k with
  | 0 => ("CupFountain$State", "cups", "[LCupFountain$Cup;", true)
  | 1 => ("CupFountain$State", "tick", "I", false)
  | 2 => ("CupFountain$State", "spring", "I", false)
  | 3 => ("CupFountain$State", "comesBack", "I", false)
  | 4 => ("CupFountain$State", "day", "I", false)
  | 5 => ("CupFountain$State", "basin", "I", false)
  | 6 => ("CupFountain$State", "lost", "I", false)
  | 7 => ("CupFountain$State", "sprung", "I", false)
  | _ => ("CupFountain$State", "filled", "I", false)
def tyX2 : Nat → FieldType := fun k => match k with
  | 0 => .array (.object "CupFountain$Cup")
  | 1 => .int
  | 2 => .int
  | 3 => .int
  | 4 => .int
  | 5 => .int
  | 6 => .int
  | 7 => .int
  | _ => .int
abbrev wsX20 : List Cond := u_ws RX2 TX2 9
theorem nmX2 : ∀ a, a < 9 → ∀ b, b < 9 → a ≠ b → (TX2 a).2.1 ≠ (TX2 b).2.1 := by decide +kernel
theorem tyX2_ok : ∀ k, k < 9 → parseFieldDescriptor (TX2 k).2.2.1 = some (tyX2 k) := by decide +kernel
abbrev cX2_init : ByteArray := prog_4_method_1_code
def yX2_init : MethodName := ⟨RX2, "<init>", "()V"⟩
abbrev cX2_copyFrom : ByteArray := prog_4_method_2_code
def yX2_copyFrom : MethodName := ⟨RX2, "copyFrom", "(LCupFountain$State;)V"⟩
abbrev cX2_find : ByteArray := prog_4_method_3_code
def yX2_find : MethodName := ⟨RX2, "find", "(I)LCupFountain$Cup;"⟩
abbrev cX2_hourOf : ByteArray := prog_4_method_4_code
def yX2_hourOf : MethodName := ⟨RX2, "hourOf", "(I)I"⟩
abbrev cX2_changeCup : ByteArray := prog_4_method_5_code
def yX2_changeCup : MethodName := ⟨RX2, "changeCup", "(III)I"⟩
abbrev cX2_isCupValue : ByteArray := prog_4_method_6_code
def yX2_isCupValue : MethodName := ⟨RX2, "isCupValue", "(III)Z"⟩
abbrev cX2_changeLock : ByteArray := prog_4_method_7_code
def yX2_changeLock : MethodName := ⟨RX2, "changeLock", "(I)I"⟩
abbrev cX2_changeHour : ByteArray := prog_4_method_8_code
def yX2_changeHour : MethodName := ⟨RX2, "changeHour", "(II)I"⟩
abbrev cX2_changeGuard : ByteArray := prog_4_method_9_code
def yX2_changeGuard : MethodName := ⟨RX2, "changeGuard", "(I)I"⟩
abbrev cX2_pour : ByteArray := prog_4_method_10_code
def yX2_pour : MethodName := ⟨RX2, "pour", "(II)I"⟩
abbrev cX2_changeSetting : ByteArray := prog_4_method_11_code
def yX2_changeSetting : MethodName := ⟨RX2, "changeSetting", "(II)I"⟩
abbrev cX2_tellSetting : ByteArray := prog_4_method_12_code
def yX2_tellSetting : MethodName := ⟨RX2, "tellSetting", "(I)I"⟩
abbrev cX2_letPass : ByteArray := prog_4_method_13_code
def yX2_letPass : MethodName := ⟨RX2, "letPass", "(I)I"⟩
abbrev cX2_tickOn : ByteArray := prog_4_method_14_code
def yX2_tickOn : MethodName := ⟨RX2, "tickOn", "(I)I"⟩
abbrev cX2_tickOnce : ByteArray := prog_4_method_15_code
def yX2_tickOnce : MethodName := ⟨RX2, "tickOnce", "()I"⟩
abbrev cX2_openGuarded : ByteArray := prog_4_method_16_code
def yX2_openGuarded : MethodName := ⟨RX2, "openGuarded", "(I)V"⟩
abbrev cX2_shutGuarded : ByteArray := prog_4_method_17_code
def yX2_shutGuarded : MethodName := ⟨RX2, "shutGuarded", "()V"⟩
abbrev cX2_springs : ByteArray := prog_4_method_18_code
def yX2_springs : MethodName := ⟨RX2, "springs", "()V"⟩
abbrev cX2_tipOrKeep : ByteArray := prog_4_method_19_code
def yX2_tipOrKeep : MethodName := ⟨RX2, "tipOrKeep", "(LCupFountain$Cup;I)I"⟩
abbrev cX2_tell : ByteArray := prog_4_method_20_code
def yX2_tell : MethodName := ⟨RX2, "tell", "(I)I"⟩
abbrev cX2_sumOf : ByteArray := prog_4_method_21_code
def yX2_sumOf : MethodName := ⟨RX2, "sumOf", "(I)I"⟩
abbrev cX2_sumFull : ByteArray := prog_4_method_22_code
def yX2_sumFull : MethodName := ⟨RX2, "sumFull", "()I"⟩
def RX3 : String := "CupFountain"
def TX3 : u_T := fun k => match k with
  | 0 => ("CupFountain", "now", "LCupFountain$State;", true)
  | 1 => ("CupFountain", "ahead", "LCupFountain$State;", true)
  | 2 => ("CupFountain", "before", "LCupFountain$State;", true)
  | 3 => ("CupFountain", "snapshot", "LCupFountain$State;", true)
  | 4 => ("CupFountain", "past", "[LCupFountain$State;", true)
  | 5 => ("CupFountain", "plan", "LCupFountain$Plan;", true)
  | 6 => ("CupFountain", "pastCount", "I", false)
  | 7 => ("CupFountain", "hasSnapshot", "Z", false)
  | 8 => ("CupFountain", "stopNumber", "I", false)
  | _ => ("CupFountain", "stopError", "I", false)
def tyX3 : Nat → FieldType := fun k => match k with
  | 0 => .object "CupFountain$State"
  | 1 => .object "CupFountain$State"
  | 2 => .object "CupFountain$State"
  | 3 => .object "CupFountain$State"
  | 4 => .array (.object "CupFountain$State")
  | 5 => .object "CupFountain$Plan"
  | 6 => .int
  | 7 => .boolean
  | 8 => .int
  | _ => .int
abbrev wsX30 : List Cond := u_ws RX3 TX3 10
theorem nmX3 : ∀ a, a < 10 → ∀ b, b < 10 → a ≠ b → (TX3 a).2.1 ≠ (TX3 b).2.1 := by decide +kernel
theorem tyX3_ok : ∀ k, k < 10 → parseFieldDescriptor (TX3 k).2.2.1 = some (tyX3 k) := by decide +kernel
abbrev cX3_init : ByteArray := prog_1_method_1_code
def yX3_init : MethodName := ⟨RX3, "<init>", "()V"⟩
abbrev cX3_setCup : ByteArray := prog_1_method_2_code
def yX3_setCup : MethodName := ⟨RX3, "setCup", "(III)I"⟩
abbrev cX3_turnLock : ByteArray := prog_1_method_3_code
def yX3_turnLock : MethodName := ⟨RX3, "turnLock", "(I)I"⟩
abbrev cX3_setHour : ByteArray := prog_1_method_4_code
def yX3_setHour : MethodName := ⟨RX3, "setHour", "(II)I"⟩
abbrev cX3_guard : ByteArray := prog_1_method_5_code
def yX3_guard : MethodName := ⟨RX3, "guard", "(I)I"⟩
abbrev cX3_fill : ByteArray := prog_1_method_6_code
def yX3_fill : MethodName := ⟨RX3, "fill", "(II)I"⟩
abbrev cX3_set : ByteArray := prog_1_method_7_code
def yX3_set : MethodName := ⟨RX3, "set", "(II)I"⟩
abbrev cX3_pass : ByteArray := prog_1_method_8_code
def yX3_pass : MethodName := ⟨RX3, "pass", "(I)I"⟩
abbrev cX3_type : ByteArray := prog_1_method_9_code
def yX3_type : MethodName := ⟨RX3, "type", "(C)I"⟩
abbrev cX3_clearText : ByteArray := prog_1_method_10_code
def yX3_clearText : MethodName := ⟨RX3, "clearText", "()I"⟩
abbrev cX3_perform : ByteArray := prog_1_method_11_code
def yX3_perform : MethodName := ⟨RX3, "perform", "()I"⟩
abbrev cX3_stopped : ByteArray := prog_1_method_12_code
def yX3_stopped : MethodName := ⟨RX3, "stopped", "(I)I"⟩
abbrev cX3_undo : ByteArray := prog_1_method_13_code
def yX3_undo : MethodName := ⟨RX3, "undo", "()I"⟩
abbrev cX3_keep : ByteArray := prog_1_method_14_code
def yX3_keep : MethodName := ⟨RX3, "keep", "()I"⟩
abbrev cX3_restore : ByteArray := prog_1_method_15_code
def yX3_restore : MethodName := ⟨RX3, "restore", "()I"⟩
abbrev cX3_cup : ByteArray := prog_1_method_16_code
def yX3_cup : MethodName := ⟨RX3, "cup", "(II)I"⟩
abbrev cX3_reason : ByteArray := prog_1_method_17_code
def yX3_reason : MethodName := ⟨RX3, "reason", "(I)I"⟩
abbrev cX3_tipsIn : ByteArray := prog_1_method_18_code
def yX3_tipsIn : MethodName := ⟨RX3, "tipsIn", "(I)I"⟩
abbrev cX3_tipsAt : ByteArray := prog_1_method_19_code
def yX3_tipsAt : MethodName := ⟨RX3, "tipsAt", "(I)I"⟩
abbrev cX3_starving : ByteArray := prog_1_method_20_code
def yX3_starving : MethodName := ⟨RX3, "starving", "()I"⟩
abbrev cX3_bestSize : ByteArray := prog_1_method_21_code
def yX3_bestSize : MethodName := ⟨RX3, "bestSize", "(I)I"⟩
abbrev cX3_ifTicks : ByteArray := prog_1_method_22_code
def yX3_ifTicks : MethodName := ⟨RX3, "ifTicks", "(II)I"⟩
abbrev cX3_highest : ByteArray := prog_1_method_23_code
def yX3_highest : MethodName := ⟨RX3, "highest", "()I"⟩
abbrev cX3_count : ByteArray := prog_1_method_24_code
def yX3_count : MethodName := ⟨RX3, "count", "(I)I"⟩
abbrev cX3_recorded : ByteArray := prog_1_method_25_code
def yX3_recorded : MethodName := ⟨RX3, "recorded", "(I)I"⟩
abbrev cX3_dropOldest : ByteArray := prog_1_method_26_code
def yX3_dropOldest : MethodName := ⟨RX3, "dropOldest", "()V"⟩
abbrev cX3_ticksTillTip : ByteArray := prog_1_method_27_code
def yX3_ticksTillTip : MethodName := ⟨RX3, "ticksTillTip", "(I)I"⟩
abbrev cX3_hourOfTip : ByteArray := prog_1_method_28_code
def yX3_hourOfTip : MethodName := ⟨RX3, "hourOfTip", "(I)I"⟩
abbrev cX3_isWithin : ByteArray := prog_1_method_29_code
def yX3_isWithin : MethodName := ⟨RX3, "isWithin", "(III)Z"⟩
abbrev cX3_isError : ByteArray := prog_1_method_30_code
def yX3_isError : MethodName := ⟨RX3, "isError", "(I)Z"⟩
abbrev cX3_asNumber : ByteArray := prog_1_method_31_code
def yX3_asNumber : MethodName := ⟨RX3, "asNumber", "(Z)I"⟩
def RX4 : String := "CupFountainModel"
def TX4 : u_T := fun k => match k with
  | 0 => ("CupFountainModel", "s", "[I", true)
  | 1 => ("CupFountainModel", "history", "[I", true)
  | 2 => ("CupFountainModel", "kept", "I", false)
  | 3 => ("CupFountainModel", "snapshot", "[I", true)
  | 4 => ("CupFountainModel", "isTaken", "Z", false)
  | 5 => ("CupFountainModel", "before", "[I", true)
  | 6 => ("CupFountainModel", "text", "[C", true)
  | 7 => ("CupFountainModel", "length", "I", false)
  | 8 => ("CupFountainModel", "stoppedAt", "I", false)
  | 9 => ("CupFountainModel", "stoppedBy", "I", false)
  | 10 => ("CupFountainModel", "tipped", "[Z", true)
  | 11 => ("CupFountainModel", "place", "I", false)
  | 12 => ("CupFountainModel", "letter", "I", false)
  | 13 => ("CupFountainModel", "itsCup", "I", false)
  | 14 => ("CupFountainModel", "number", "I", false)
  | 15 => ("CupFountainModel", "done", "I", false)
  | _ => ("CupFountainModel", "error", "I", false)
def tyX4 : Nat → FieldType := fun k => match k with
  | 0 => .array .int
  | 1 => .array .int
  | 2 => .int
  | 3 => .array .int
  | 4 => .boolean
  | 5 => .array .int
  | 6 => .array .char
  | 7 => .int
  | 8 => .int
  | 9 => .int
  | 10 => .array .boolean
  | 11 => .int
  | 12 => .int
  | 13 => .int
  | 14 => .int
  | 15 => .int
  | _ => .int
abbrev wsX40 : List Cond := u_ws RX4 TX4 17
theorem nmX4 : ∀ a, a < 17 → ∀ b, b < 17 → a ≠ b → (TX4 a).2.1 ≠ (TX4 b).2.1 := by decide +kernel
theorem tyX4_ok : ∀ k, k < 17 → parseFieldDescriptor (TX4 k).2.2.1 = some (tyX4 k) := by decide +kernel
abbrev cX4_init : ByteArray := prog_6_method_1_code
def yX4_init : MethodName := ⟨RX4, "<init>", "()V"⟩
abbrev cX4_in : ByteArray := prog_6_method_3_code
def yX4_in : MethodName := ⟨RX4, "in", "(III)Z"⟩
abbrev cX4_isCup : ByteArray := prog_6_method_4_code
def yX4_isCup : MethodName := ⟨RX4, "isCup", "(I)Z"⟩
abbrev cX4_of : ByteArray := prog_6_method_5_code
def yX4_of : MethodName := ⟨RX4, "of", "(II)I"⟩
abbrev cX4_lay : ByteArray := prog_6_method_6_code
def yX4_lay : MethodName := ⟨RX4, "lay", "(III)V"⟩
abbrev cX4_copy : ByteArray := prog_6_method_7_code
def yX4_copy : MethodName := ⟨RX4, "copy", "([II[II)V"⟩
abbrev cX4_recordFrom : ByteArray := prog_6_method_8_code
def yX4_recordFrom : MethodName := ⟨RX4, "recordFrom", "([I)V"⟩
abbrev cX4_hourOf : ByteArray := prog_6_method_9_code
def yX4_hourOf : MethodName := ⟨RX4, "hourOf", "(I)I"⟩
abbrev cX4_isFull : ByteArray := prog_6_method_10_code
def yX4_isFull : MethodName := ⟨RX4, "isFull", "(I)Z"⟩
abbrev cX4_pour : ByteArray := prog_6_method_11_code
def yX4_pour : MethodName := ⟨RX4, "pour", "(II)V"⟩
abbrev cX4_countTip : ByteArray := prog_6_method_12_code
def yX4_countTip : MethodName := ⟨RX4, "countTip", "(II)V"⟩
abbrev cX4_tipOrKeep : ByteArray := prog_6_method_13_code
def yX4_tipOrKeep : MethodName := ⟨RX4, "tipOrKeep", "(II)V"⟩
abbrev cX4_tick : ByteArray := prog_6_method_14_code
def yX4_tick : MethodName := ⟨RX4, "tick", "()V"⟩
abbrev cX4_sumOf : ByteArray := prog_6_method_15_code
def yX4_sumOf : MethodName := ⟨RX4, "sumOf", "(I)I"⟩
abbrev cX4_isValue : ByteArray := prog_6_method_16_code
def yX4_isValue : MethodName := ⟨RX4, "isValue", "(III)Z"⟩
abbrev cX4_doSetCup : ByteArray := prog_6_method_17_code
def yX4_doSetCup : MethodName := ⟨RX4, "doSetCup", "(III)I"⟩
abbrev cX4_doTurn : ByteArray := prog_6_method_18_code
def yX4_doTurn : MethodName := ⟨RX4, "doTurn", "(I)I"⟩
abbrev cX4_doSetHour : ByteArray := prog_6_method_19_code
def yX4_doSetHour : MethodName := ⟨RX4, "doSetHour", "(II)I"⟩
abbrev cX4_doGuard : ByteArray := prog_6_method_20_code
def yX4_doGuard : MethodName := ⟨RX4, "doGuard", "(I)I"⟩
abbrev cX4_doFill : ByteArray := prog_6_method_21_code
def yX4_doFill : MethodName := ⟨RX4, "doFill", "(II)I"⟩
abbrev cX4_doSet : ByteArray := prog_6_method_22_code
def yX4_doSet : MethodName := ⟨RX4, "doSet", "(II)I"⟩
abbrev cX4_doPass : ByteArray := prog_6_method_23_code
def yX4_doPass : MethodName := ⟨RX4, "doPass", "(I)I"⟩
abbrev cX4_act : ByteArray := prog_6_method_24_code
def yX4_act : MethodName := ⟨RX4, "act", "(I)I"⟩
abbrev cX4_begin : ByteArray := prog_6_method_25_code
def yX4_begin : MethodName := ⟨RX4, "begin", "()V"⟩
abbrev cX4_setCup : ByteArray := prog_6_method_26_code
def yX4_setCup : MethodName := ⟨RX4, "setCup", "(III)I"⟩
abbrev cX4_turnLock : ByteArray := prog_6_method_27_code
def yX4_turnLock : MethodName := ⟨RX4, "turnLock", "(I)I"⟩
abbrev cX4_setHour : ByteArray := prog_6_method_28_code
def yX4_setHour : MethodName := ⟨RX4, "setHour", "(II)I"⟩
abbrev cX4_guard : ByteArray := prog_6_method_29_code
def yX4_guard : MethodName := ⟨RX4, "guard", "(I)I"⟩
abbrev cX4_fill : ByteArray := prog_6_method_30_code
def yX4_fill : MethodName := ⟨RX4, "fill", "(II)I"⟩
abbrev cX4_set : ByteArray := prog_6_method_31_code
def yX4_set : MethodName := ⟨RX4, "set", "(II)I"⟩
abbrev cX4_pass : ByteArray := prog_6_method_32_code
def yX4_pass : MethodName := ⟨RX4, "pass", "(I)I"⟩
abbrev cX4_type : ByteArray := prog_6_method_33_code
def yX4_type : MethodName := ⟨RX4, "type", "(C)I"⟩
abbrev cX4_clearText : ByteArray := prog_6_method_34_code
def yX4_clearText : MethodName := ⟨RX4, "clearText", "()I"⟩
abbrev cX4_isNext : ByteArray := prog_6_method_35_code
def yX4_isNext : MethodName := ⟨RX4, "isNext", "(II)Z"⟩
abbrev cX4_takes : ByteArray := prog_6_method_36_code
def yX4_takes : MethodName := ⟨RX4, "takes", "(I)Z"⟩
abbrev cX4_readCup : ByteArray := prog_6_method_37_code
def yX4_readCup : MethodName := ⟨RX4, "readCup", "()Z"⟩
abbrev cX4_readNumber : ByteArray := prog_6_method_38_code
def yX4_readNumber : MethodName := ⟨RX4, "readNumber", "(II)Z"⟩
abbrev cX4_readThing : ByteArray := prog_6_method_39_code
def yX4_readThing : MethodName := ⟨RX4, "readThing", "()Z"⟩
abbrev cX4_does : ByteArray := prog_6_method_40_code
def yX4_does : MethodName := ⟨RX4, "does", "()I"⟩
abbrev cX4_readText : ByteArray := prog_6_method_41_code
def yX4_readText : MethodName := ⟨RX4, "readText", "(Z)Z"⟩
abbrev cX4_perform : ByteArray := prog_6_method_42_code
def yX4_perform : MethodName := ⟨RX4, "perform", "()I"⟩
abbrev cX4_stopped : ByteArray := prog_6_method_43_code
def yX4_stopped : MethodName := ⟨RX4, "stopped", "(I)I"⟩
abbrev cX4_undo : ByteArray := prog_6_method_44_code
def yX4_undo : MethodName := ⟨RX4, "undo", "()I"⟩
abbrev cX4_keep : ByteArray := prog_6_method_45_code
def yX4_keep : MethodName := ⟨RX4, "keep", "()I"⟩
abbrev cX4_restore : ByteArray := prog_6_method_46_code
def yX4_restore : MethodName := ⟨RX4, "restore", "()I"⟩
abbrev cX4_cup : ByteArray := prog_6_method_47_code
def yX4_cup : MethodName := ⟨RX4, "cup", "(II)I"⟩
abbrev cX4_reason : ByteArray := prog_6_method_48_code
def yX4_reason : MethodName := ⟨RX4, "reason", "(I)I"⟩
abbrev cX4_untilTip : ByteArray := prog_6_method_49_code
def yX4_untilTip : MethodName := ⟨RX4, "untilTip", "(II)I"⟩
abbrev cX4_hourOfTip : ByteArray := prog_6_method_50_code
def yX4_hourOfTip : MethodName := ⟨RX4, "hourOfTip", "(I)I"⟩
abbrev cX4_tipsIn : ByteArray := prog_6_method_51_code
def yX4_tipsIn : MethodName := ⟨RX4, "tipsIn", "(I)I"⟩
abbrev cX4_tipsAt : ByteArray := prog_6_method_52_code
def yX4_tipsAt : MethodName := ⟨RX4, "tipsAt", "(I)I"⟩
abbrev cX4_starving : ByteArray := prog_6_method_53_code
def yX4_starving : MethodName := ⟨RX4, "starving", "()I"⟩
abbrev cX4_bestSize : ByteArray := prog_6_method_54_code
def yX4_bestSize : MethodName := ⟨RX4, "bestSize", "(I)I"⟩
abbrev cX4_ifTicks : ByteArray := prog_6_method_55_code
def yX4_ifTicks : MethodName := ⟨RX4, "ifTicks", "(II)I"⟩
abbrev cX4_highest : ByteArray := prog_6_method_56_code
def yX4_highest : MethodName := ⟨RX4, "highest", "()I"⟩
abbrev cX4_full : ByteArray := prog_6_method_57_code
def yX4_full : MethodName := ⟨RX4, "full", "()I"⟩
abbrev cX4_count : ByteArray := prog_6_method_58_code
def yX4_count : MethodName := ⟨RX4, "count", "(I)I"⟩
def RJ9 : String := "java/lang/Math"
def TJ9 : u_T := fun k => match k with
  | _ => ("", "", "", false)
def tyJ9 : Nat → FieldType := fun k => match k with
  | _ => .int
abbrev wsJ90 : List Cond := u_ws RJ9 TJ9 0
theorem nmJ9 : ∀ a, a < 0 → ∀ b, b < 0 → a ≠ b → (TJ9 a).2.1 ≠ (TJ9 b).2.1 := by decide +kernel
theorem tyJ9_ok : ∀ k, k < 0 → parseFieldDescriptor (TJ9 k).2.2.1 = some (tyJ9 k) := by decide +kernel
abbrev cJ9_min_7cf53 : ByteArray := prog_7_method_69_code
def yJ9_min_7cf53 : MethodName := ⟨RJ9, "min", "(II)I"⟩
def RL : String := "CupFountainLaw"
abbrev cL_law : ByteArray := code
def yL_law : MethodName := ⟨RL, "law", "([I)Z"⟩
def wsL_law_r1 : List Cond := [Cond.classLink RL 7 RX3, Cond.instantiable RX3 10, Cond.initialized RX3, Cond.classLink RL 10 RX4, Cond.instantiable RX4 17, Cond.initialized RX4, Cond.methodLink RL 9 yX3_init, Cond.instanceMethod yX3_init, Cond.code yX3_init cX3_init 2 none, Cond.methodLink RX3 1 objectInit, Cond.instanceMethod objectInit, Cond.code objectInit ⟨#[0xb1]⟩ 1 none, Cond.classLink RX3 7 RX2, Cond.instantiable RX2 9, Cond.initialized RX2, Cond.fieldLink RX3 10 "CupFountain" "now" "LCupFountain$State;", Cond.fieldLink RX3 16 "CupFountain" "ahead" "LCupFountain$State;", Cond.fieldLink RX3 19 "CupFountain" "before" "LCupFountain$State;", Cond.fieldLink RX3 22 "CupFountain" "snapshot" "LCupFountain$State;", Cond.fieldLink RX3 25 "CupFountain" "past" "[LCupFountain$State;", Cond.classLink RX3 29 RX1, Cond.instantiable RX1 7, Cond.initialized RX1, Cond.fieldLink RX3 32 "CupFountain" "plan" "LCupFountain$Plan;"]
def wsL_law_r2 : List Cond := [Cond.fieldLink RX3 36 "CupFountain" "pastCount" "I", Cond.fieldLink RX3 40 "CupFountain" "hasSnapshot" "Z", Cond.fieldLink RX3 44 "CupFountain" "stopNumber" "I", Cond.fieldLink RX3 47 "CupFountain" "stopError" "I", Cond.methodLink RX3 9 yX2_init, Cond.instanceMethod yX2_init, Cond.code yX2_init cX2_init 2 none, Cond.methodLink RX2 3 objectInit, Cond.classLink RX2 9 RX0, Cond.fieldLink RX2 11 "CupFountain$State" "cups" "[LCupFountain$Cup;", Cond.fieldLink RX2 17 "CupFountain$State" "tick" "I", Cond.fieldLink RX2 21 "CupFountain$State" "spring" "I", Cond.fieldLink RX2 24 "CupFountain$State" "comesBack" "I", Cond.fieldLink RX2 27 "CupFountain$State" "day" "I", Cond.fieldLink RX2 30 "CupFountain$State" "basin" "I", Cond.fieldLink RX2 33 "CupFountain$State" "lost" "I", Cond.fieldLink RX2 36 "CupFountain$State" "sprung" "I", Cond.fieldLink RX2 39 "CupFountain$State" "filled" "I", Cond.instantiable RX0 12, Cond.initialized RX0, Cond.methodLink RX2 42 yX0_init, Cond.instanceMethod yX0_init, Cond.code yX0_init cX0_init 2 none, Cond.methodLink RX0 3 objectInit]
def wsL_law_r3 : List Cond := [Cond.fieldLink RX0 9 "CupFountain$Cup" "size" "I", Cond.fieldLink RX0 15 "CupFountain$Cup" "leak" "I", Cond.fieldLink RX0 18 "CupFountain$Cup" "water" "I", Cond.fieldLink RX0 21 "CupFountain$Cup" "hour" "I", Cond.fieldLink RX0 24 "CupFountain$Cup" "open" "Z", Cond.fieldLink RX0 28 "CupFountain$Cup" "guarded" "Z", Cond.fieldLink RX0 31 "CupFountain$Cup" "jet" "I", Cond.fieldLink RX0 34 "CupFountain$Cup" "tips" "I", Cond.fieldLink RX0 37 "CupFountain$Cup" "onTime" "I", Cond.fieldLink RX0 40 "CupFountain$Cup" "early" "I", Cond.fieldLink RX0 43 "CupFountain$Cup" "late" "I", Cond.fieldLink RX0 46 "CupFountain$Cup" "next" "I", Cond.instanceMethod yX1_init, Cond.code yX1_init cX1_init 1 none, Cond.methodLink RX1 3 objectInit, Cond.arrayClass .char, Cond.fieldLink RX1 9 "CupFountain$Plan" "text" "[C", Cond.fieldLink RX1 15 "CupFountain$Plan" "length" "I", Cond.arrayClass .int, Cond.fieldLink RX1 19 "CupFountain$Plan" "kinds" "[I", Cond.fieldLink RX1 23 "CupFountain$Plan" "whose" "[I", Cond.fieldLink RX1 26 "CupFountain$Plan" "numbers" "[I", Cond.fieldLink RX1 29 "CupFountain$Plan" "things" "I", Cond.fieldLink RX1 32 "CupFountain$Plan" "place" "I"]
def wsL_law_r4 : List Cond := [Cond.methodLink RL 12 yX4_init, Cond.instanceMethod yX4_init, Cond.code yX4_init cX4_init 2 none, Cond.methodLink RX4 1 objectInit, Cond.fieldLink RX4 7 "CupFountainModel" "s" "[I", Cond.fieldLink RX4 13 "CupFountainModel" "history" "[I", Cond.fieldLink RX4 16 "CupFountainModel" "snapshot" "[I", Cond.fieldLink RX4 19 "CupFountainModel" "before" "[I", Cond.fieldLink RX4 22 "CupFountainModel" "text" "[C", Cond.fieldLink RX4 26 "CupFountainModel" "stoppedAt" "I", Cond.arrayClass .boolean, Cond.fieldLink RX4 30 "CupFountainModel" "tipped" "[Z", Cond.methodLink RX4 34 yX4_lay, Cond.instanceMethod yX4_lay, Cond.selects RX4 yX4_lay yX4_lay, Cond.code yX4_lay cX4_lay 4 none, Cond.methodLink RL 13 yX3_setCup, Cond.instanceMethod yX3_setCup, Cond.selects RX3 yX3_setCup yX3_setCup, Cond.code yX3_setCup cX3_setCup 4 (some .int), Cond.methodLink RX3 50 yX2_copyFrom, Cond.instanceMethod yX2_copyFrom, Cond.selects RX2 yX2_copyFrom yX2_copyFrom, Cond.code yX2_copyFrom cX2_copyFrom 3 none]
def wsL_law_r5 : List Cond := [Cond.methodLink RX2 45 yX0_copyFrom, Cond.instanceMethod yX0_copyFrom, Cond.selects RX0 yX0_copyFrom yX0_copyFrom, Cond.code yX0_copyFrom cX0_copyFrom 2 none, Cond.methodLink RX3 54 yX2_changeCup, Cond.instanceMethod yX2_changeCup, Cond.selects RX2 yX2_changeCup yX2_changeCup, Cond.code yX2_changeCup cX2_changeCup 6 (some .int), Cond.fieldLink RX2 61 "CupFountain$Cup" "size" "I", Cond.fieldLink RX2 64 "CupFountain$Cup" "leak" "I", Cond.fieldLink RX2 67 "CupFountain$Cup" "next" "I", Cond.methodLink RX2 49 yX2_find, Cond.instanceMethod yX2_find, Cond.selects RX2 yX2_find yX2_find, Cond.code yX2_find cX2_find 2 (some (.object "CupFountain$Cup")), Cond.methodLink RX2 53 yX2_isCupValue, Cond.static yX2_isCupValue, Cond.code yX2_isCupValue cX2_isCupValue 3 (some .boolean), Cond.static yX3_isWithin, Cond.code yX3_isWithin cX3_isWithin 3 (some .boolean), Cond.methodLink RX2 57 yX0_tell, Cond.instanceMethod yX0_tell, Cond.selects RX0 yX0_tell yX0_tell, Cond.code yX0_tell cX0_tell 2 (some .int)]
def wsL_law_r6 : List Cond := [Cond.static yX3_asNumber, Cond.code yX3_asNumber cX3_asNumber 1 (some .int), Cond.methodLink RX3 58 yX3_recorded, Cond.instanceMethod yX3_recorded, Cond.selects RX3 yX3_recorded yX3_recorded, Cond.code yX3_recorded cX3_recorded 2 (some .int), Cond.methodLink RX3 160 yX3_dropOldest, Cond.instanceMethod yX3_dropOldest, Cond.selects RX3 yX3_dropOldest yX3_dropOldest, Cond.code yX3_dropOldest cX3_dropOldest 3 none, Cond.methodLink RL 17 yX4_setCup, Cond.instanceMethod yX4_setCup, Cond.selects RX4 yX4_setCup yX4_setCup, Cond.code yX4_setCup cX4_setCup 4 (some .int), Cond.methodLink RX4 88 yX4_begin, Cond.instanceMethod yX4_begin, Cond.selects RX4 yX4_begin yX4_begin, Cond.code yX4_begin cX4_begin 1 none, Cond.methodLink RX4 45 yX4_copy, Cond.static yX4_copy, Cond.code yX4_copy cX4_copy 5 none, Cond.methodLink RX4 91 yX4_doSetCup, Cond.instanceMethod yX4_doSetCup, Cond.selects RX4 yX4_doSetCup yX4_doSetCup]
def wsL_law_r7 : List Cond := [Cond.code yX4_doSetCup cX4_doSetCup 5 (some .int), Cond.methodLink RX4 71 yX4_isCup, Cond.static yX4_isCup, Cond.code yX4_isCup cX4_isCup 1 (some .boolean), Cond.methodLink RX4 38 yX4_in, Cond.static yX4_in, Cond.code yX4_in cX4_in 3 (some .boolean), Cond.methodLink RX4 74 yX4_isValue, Cond.static yX4_isValue, Cond.code yX4_isValue cX4_isValue 3 (some .boolean), Cond.methodLink RX4 49 yX4_of, Cond.instanceMethod yX4_of, Cond.selects RX4 yX4_of yX4_of, Cond.code yX4_of cX4_of 3 (some .int), Cond.methodLink RX4 95 yX4_act, Cond.instanceMethod yX4_act, Cond.selects RX4 yX4_act yX4_act, Cond.code yX4_act cX4_act 2 (some .int), Cond.methodLink RX4 84 yX4_recordFrom, Cond.instanceMethod yX4_recordFrom, Cond.selects RX4 yX4_recordFrom yX4_recordFrom, Cond.code yX4_recordFrom cX4_recordFrom 3 none, Cond.fieldLink RX4 42 "CupFountainModel" "kept" "I", Cond.methodLink RL 18 yX3_turnLock]
def wsL_law_r8 : List Cond := [Cond.instanceMethod yX3_turnLock, Cond.selects RX3 yX3_turnLock yX3_turnLock, Cond.code yX3_turnLock cX3_turnLock 2 (some .int), Cond.methodLink RX3 62 yX2_changeLock, Cond.instanceMethod yX2_changeLock, Cond.selects RX2 yX2_changeLock yX2_changeLock, Cond.code yX2_changeLock cX2_changeLock 3 (some .int), Cond.fieldLink RX2 73 "CupFountain$Cup" "guarded" "Z", Cond.fieldLink RX2 77 "CupFountain$Cup" "open" "Z", Cond.methodLink RL 22 yX4_turnLock, Cond.instanceMethod yX4_turnLock, Cond.selects RX4 yX4_turnLock yX4_turnLock, Cond.code yX4_turnLock cX4_turnLock 2 (some .int), Cond.methodLink RX4 98 yX4_doTurn, Cond.instanceMethod yX4_doTurn, Cond.selects RX4 yX4_doTurn yX4_doTurn, Cond.code yX4_doTurn cX4_doTurn 2 (some .int), Cond.methodLink RL 23 yX3_setHour, Cond.instanceMethod yX3_setHour, Cond.selects RX3 yX3_setHour yX3_setHour, Cond.code yX3_setHour cX3_setHour 3 (some .int), Cond.methodLink RX3 65 yX2_changeHour, Cond.instanceMethod yX2_changeHour, Cond.selects RX2 yX2_changeHour yX2_changeHour]
def wsL_law_r9 : List Cond := [Cond.code yX2_changeHour cX2_changeHour 5 (some .int), Cond.fieldLink RX2 84 "CupFountain$Cup" "hour" "I", Cond.methodLink RL 27 yX4_setHour, Cond.instanceMethod yX4_setHour, Cond.selects RX4 yX4_setHour yX4_setHour, Cond.code yX4_setHour cX4_setHour 3 (some .int), Cond.methodLink RX4 101 yX4_doSetHour, Cond.instanceMethod yX4_doSetHour, Cond.selects RX4 yX4_doSetHour yX4_doSetHour, Cond.code yX4_doSetHour cX4_doSetHour 4 (some .int), Cond.methodLink RL 28 yX3_guard, Cond.instanceMethod yX3_guard, Cond.selects RX3 yX3_guard yX3_guard, Cond.code yX3_guard cX3_guard 2 (some .int), Cond.methodLink RX3 69 yX2_changeGuard, Cond.instanceMethod yX2_changeGuard, Cond.selects RX2 yX2_changeGuard yX2_changeGuard, Cond.code yX2_changeGuard cX2_changeGuard 3 (some .int), Cond.methodLink RL 31 yX4_guard, Cond.instanceMethod yX4_guard, Cond.selects RX4 yX4_guard yX4_guard, Cond.code yX4_guard cX4_guard 2 (some .int), Cond.methodLink RX4 104 yX4_doGuard, Cond.instanceMethod yX4_doGuard]
def wsL_law_r10 : List Cond := [Cond.selects RX4 yX4_doGuard yX4_doGuard, Cond.code yX4_doGuard cX4_doGuard 2 (some .int), Cond.methodLink RL 32 yX3_fill, Cond.instanceMethod yX3_fill, Cond.selects RX3 yX3_fill yX3_fill, Cond.code yX3_fill cX3_fill 3 (some .int), Cond.methodLink RX3 72 yX2_pour, Cond.instanceMethod yX2_pour, Cond.selects RX2 yX2_pour yX2_pour, Cond.code yX2_pour cX2_pour 4 (some .int), Cond.fieldLink RX2 87 "CupFountain$Cup" "water" "I", Cond.methodLink RL 35 yX4_fill, Cond.instanceMethod yX4_fill, Cond.selects RX4 yX4_fill yX4_fill, Cond.code yX4_fill cX4_fill 3 (some .int), Cond.methodLink RX4 107 yX4_doFill, Cond.instanceMethod yX4_doFill, Cond.selects RX4 yX4_doFill yX4_doFill, Cond.code yX4_doFill cX4_doFill 3 (some .int), Cond.methodLink RL 36 yX3_set, Cond.instanceMethod yX3_set, Cond.selects RX3 yX3_set yX3_set, Cond.code yX3_set cX3_set 3 (some .int), Cond.methodLink RX3 75 yX2_changeSetting]
def wsL_law_r11 : List Cond := [Cond.instanceMethod yX2_changeSetting, Cond.selects RX2 yX2_changeSetting yX2_changeSetting, Cond.code yX2_changeSetting cX2_changeSetting 4 (some .int), Cond.methodLink RX2 90 yX2_tellSetting, Cond.instanceMethod yX2_tellSetting, Cond.selects RX2 yX2_tellSetting yX2_tellSetting, Cond.code yX2_tellSetting cX2_tellSetting 2 (some .int), Cond.methodLink RL 39 yX4_set, Cond.instanceMethod yX4_set, Cond.selects RX4 yX4_set yX4_set, Cond.code yX4_set cX4_set 3 (some .int), Cond.methodLink RX4 110 yX4_doSet, Cond.instanceMethod yX4_doSet, Cond.selects RX4 yX4_doSet yX4_doSet, Cond.code yX4_doSet cX4_doSet 4 (some .int), Cond.methodLink RL 40 yX3_pass, Cond.instanceMethod yX3_pass, Cond.selects RX3 yX3_pass yX3_pass, Cond.code yX3_pass cX3_pass 2 (some .int), Cond.methodLink RX3 78 yX2_letPass, Cond.instanceMethod yX2_letPass, Cond.selects RX2 yX2_letPass yX2_letPass, Cond.code yX2_letPass cX2_letPass 2 (some .int), Cond.constant RX2 93 (99999)]
def wsL_law_r12 : List Cond := [Cond.methodLink RX2 94 yX2_tickOn, Cond.instanceMethod yX2_tickOn, Cond.selects RX2 yX2_tickOn yX2_tickOn, Cond.code yX2_tickOn cX2_tickOn 4 (some .int), Cond.methodLink RX2 97 yX2_tickOnce, Cond.instanceMethod yX2_tickOnce, Cond.selects RX2 yX2_tickOnce yX2_tickOnce, Cond.code yX2_tickOnce cX2_tickOnce 4 (some .int), Cond.methodLink RX2 101 yX2_hourOf, Cond.instanceMethod yX2_hourOf, Cond.selects RX2 yX2_hourOf yX2_hourOf, Cond.code yX2_hourOf cX2_hourOf 2 (some .int), Cond.methodLink RX2 104 yX2_openGuarded, Cond.instanceMethod yX2_openGuarded, Cond.selects RX2 yX2_openGuarded yX2_openGuarded, Cond.code yX2_openGuarded cX2_openGuarded 3 none, Cond.methodLink RX2 107 yX2_springs, Cond.instanceMethod yX2_springs, Cond.selects RX2 yX2_springs yX2_springs, Cond.code yX2_springs cX2_springs 2 none, Cond.methodLink RX2 120 Lib.Math.min.name, Cond.static Lib.Math.min.name, Cond.initialized "java/lang/Math", Cond.code Lib.Math.min.name Lib.Math.min.code 2 (some .int)]
def wsL_law_r13 : List Cond := [Cond.methodLink RX2 110 yX2_tipOrKeep, Cond.instanceMethod yX2_tipOrKeep, Cond.selects RX2 yX2_tipOrKeep yX2_tipOrKeep, Cond.code yX2_tipOrKeep cX2_tipOrKeep 5 (some .int), Cond.fieldLink RX2 130 "CupFountain$Cup" "jet" "I", Cond.methodLink RX2 126 yX0_isFull, Cond.instanceMethod yX0_isFull, Cond.selects RX0 yX0_isFull yX0_isFull, Cond.code yX0_isFull cX0_isFull 1 (some .boolean), Cond.methodLink RX2 133 yX0_runOver, Cond.instanceMethod yX0_runOver, Cond.selects RX0 yX0_runOver yX0_runOver, Cond.code yX0_runOver cX0_runOver 2 (some .int), Cond.methodLink RX2 136 yX0_tip, Cond.instanceMethod yX0_tip, Cond.selects RX0 yX0_tip yX0_tip, Cond.code yX0_tip cX0_tip 4 (some .int), Cond.methodLink RX2 114 yX0_drip, Cond.instanceMethod yX0_drip, Cond.selects RX0 yX0_drip yX0_drip, Cond.code yX0_drip cX0_drip 2 (some .int), Cond.methodLink RX0 49 Lib.Math.min.name, Cond.methodLink RX2 117 yX2_shutGuarded, Cond.instanceMethod yX2_shutGuarded]
def wsL_law_r14 : List Cond := [Cond.selects RX2 yX2_shutGuarded yX2_shutGuarded, Cond.code yX2_shutGuarded cX2_shutGuarded 2 none, Cond.methodLink RL 43 yX4_pass, Cond.instanceMethod yX4_pass, Cond.selects RX4 yX4_pass yX4_pass, Cond.code yX4_pass cX4_pass 2 (some .int), Cond.methodLink RX4 113 yX4_doPass, Cond.instanceMethod yX4_doPass, Cond.selects RX4 yX4_doPass yX4_doPass, Cond.code yX4_doPass cX4_doPass 4 (some .int), Cond.constant RX4 77 (99999), Cond.methodLink RX4 78 yX4_sumOf, Cond.instanceMethod yX4_sumOf, Cond.selects RX4 yX4_sumOf yX4_sumOf, Cond.code yX4_sumOf cX4_sumOf 4 (some .int), Cond.methodLink RX4 81 yX4_tick, Cond.instanceMethod yX4_tick, Cond.selects RX4 yX4_tick yX4_tick, Cond.code yX4_tick cX4_tick 5 none, Cond.methodLink RX4 64 yX4_hourOf, Cond.instanceMethod yX4_hourOf, Cond.selects RX4 yX4_hourOf yX4_hourOf, Cond.code yX4_hourOf cX4_hourOf 2 (some .int), Cond.methodLink RX4 57 yX4_pour]
def wsL_law_r15 : List Cond := [Cond.instanceMethod yX4_pour, Cond.selects RX4 yX4_pour yX4_pour, Cond.code yX4_pour cX4_pour 3 none, Cond.methodLink RX4 68 yX4_tipOrKeep, Cond.instanceMethod yX4_tipOrKeep, Cond.selects RX4 yX4_tipOrKeep yX4_tipOrKeep, Cond.code yX4_tipOrKeep cX4_tipOrKeep 6 none, Cond.methodLink RX4 53 yX4_isFull, Cond.instanceMethod yX4_isFull, Cond.selects RX4 yX4_isFull yX4_isFull, Cond.code yX4_isFull cX4_isFull 2 (some .boolean), Cond.methodLink RX4 61 yX4_countTip, Cond.instanceMethod yX4_countTip, Cond.selects RX4 yX4_countTip yX4_countTip, Cond.code yX4_countTip cX4_countTip 5 none, Cond.methodLink RL 44 yX3_type, Cond.instanceMethod yX3_type, Cond.selects RX3 yX3_type yX3_type, Cond.code yX3_type cX3_type 2 (some .int), Cond.methodLink RX3 81 yX1_append, Cond.instanceMethod yX1_append, Cond.selects RX1 yX1_append yX1_append, Cond.code yX1_append cX1_append 2 (some .int), Cond.methodLink RL 48 yX4_type]
def wsL_law_r16 : List Cond := [Cond.instanceMethod yX4_type, Cond.selects RX4 yX4_type yX4_type, Cond.code yX4_type cX4_type 2 (some .int), Cond.fieldLink RX4 116 "CupFountainModel" "length" "I", Cond.methodLink RL 49 yX3_clearText, Cond.instanceMethod yX3_clearText, Cond.selects RX3 yX3_clearText yX3_clearText, Cond.code yX3_clearText cX3_clearText 1 (some .int), Cond.methodLink RX3 85 yX1_empty, Cond.instanceMethod yX1_empty, Cond.selects RX1 yX1_empty yX1_empty, Cond.code yX1_empty cX1_empty 2 (some .int), Cond.methodLink RL 53 yX4_clearText, Cond.instanceMethod yX4_clearText, Cond.selects RX4 yX4_clearText yX4_clearText, Cond.code yX4_clearText cX4_clearText 2 (some .int), Cond.methodLink RL 54 yX3_perform, Cond.instanceMethod yX3_perform, Cond.selects RX3 yX3_perform yX3_perform, Cond.code yX3_perform cX3_perform 4 (some .int), Cond.fieldLink RX3 92 "CupFountain$Plan" "things" "I", Cond.methodLink RX3 89 yX1_read, Cond.instanceMethod yX1_read, Cond.selects RX1 yX1_read yX1_read]
def wsL_law_r17 : List Cond := [Cond.code yX1_read cX1_read 2 (some .int), Cond.methodLink RX1 35 yX1_readThing, Cond.instanceMethod yX1_readThing, Cond.selects RX1 yX1_readThing yX1_readThing, Cond.code yX1_readThing cX1_readThing 3 (some .boolean), Cond.methodLink RX1 43 yX1_look, Cond.instanceMethod yX1_look, Cond.selects RX1 yX1_look yX1_look, Cond.code yX1_look cX1_look 1 (some .int), Cond.methodLink RX1 47 yX1_startThing, Cond.instanceMethod yX1_startThing, Cond.selects RX1 yX1_startThing yX1_startThing, Cond.code yX1_startThing cX1_startThing 3 (some .boolean), Cond.methodLink RX1 51 yX1_readCup, Cond.instanceMethod yX1_readCup, Cond.selects RX1 yX1_readCup yX1_readCup, Cond.code yX1_readCup cX1_readCup 3 (some .boolean), Cond.methodLink RX1 61 yX1_lookForDigit, Cond.instanceMethod yX1_lookForDigit, Cond.selects RX1 yX1_lookForDigit yX1_lookForDigit, Cond.code yX1_lookForDigit cX1_lookForDigit 2 (some .int), Cond.methodLink RX1 39 yX1_skip, Cond.instanceMethod yX1_skip, Cond.selects RX1 yX1_skip yX1_skip]
def wsL_law_r18 : List Cond := [Cond.code yX1_skip cX1_skip 2 (some .boolean), Cond.methodLink RX1 54 yX1_readNumber, Cond.instanceMethod yX1_readNumber, Cond.selects RX1 yX1_readNumber yX1_readNumber, Cond.code yX1_readNumber cX1_readNumber 7 (some .boolean), Cond.methodLink RX3 95 yX1_doThing, Cond.instanceMethod yX1_doThing, Cond.selects RX1 yX1_doThing yX1_doThing, Cond.code yX1_doThing cX1_doThing 3 (some .int), Cond.methodLink RX1 64 yX2_changeHour, Cond.methodLink RX1 70 yX2_changeCup, Cond.methodLink RX1 74 yX2_pour, Cond.methodLink RX1 77 yX2_changeGuard, Cond.methodLink RX1 81 yX2_letPass, Cond.methodLink RX3 99 yX3_isError, Cond.static yX3_isError, Cond.code yX3_isError cX3_isError 1 (some .boolean), Cond.methodLink RL 57 yX4_perform, Cond.instanceMethod yX4_perform, Cond.selects RX4 yX4_perform yX4_perform, Cond.code yX4_perform cX4_perform 2 (some .int), Cond.fieldLink RX4 119 "CupFountainModel" "place" "I", Cond.fieldLink RX4 148 "CupFountainModel" "error" "I", Cond.fieldLink RX4 145 "CupFountainModel" "done" "I"]
def wsL_law_r19 : List Cond := [Cond.fieldLink RX4 162 "CupFountainModel" "stoppedBy" "I", Cond.methodLink RX4 158 yX4_readText, Cond.instanceMethod yX4_readText, Cond.selects RX4 yX4_readText yX4_readText, Cond.code yX4_readText cX4_readText 4 (some .boolean), Cond.methodLink RX4 151 yX4_readThing, Cond.instanceMethod yX4_readThing, Cond.selects RX4 yX4_readThing yX4_readThing, Cond.code yX4_readThing cX4_readThing 1 (some .boolean), Cond.fieldLink RX4 132 "CupFountainModel" "letter" "I", Cond.methodLink RX4 135 yX4_readCup, Cond.instanceMethod yX4_readCup, Cond.selects RX4 yX4_readCup yX4_readCup, Cond.code yX4_readCup cX4_readCup 2 (some .boolean), Cond.fieldLink RX4 126 "CupFountainModel" "itsCup" "I", Cond.methodLink RX4 122 yX4_isNext, Cond.instanceMethod yX4_isNext, Cond.selects RX4 yX4_isNext yX4_isNext, Cond.code yX4_isNext cX4_isNext 3 (some .boolean), Cond.methodLink RX4 139 yX4_takes, Cond.instanceMethod yX4_takes, Cond.selects RX4 yX4_takes yX4_takes, Cond.code yX4_takes cX4_takes 3 (some .boolean), Cond.methodLink RX4 142 yX4_readNumber]
def wsL_law_r20 : List Cond := [Cond.instanceMethod yX4_readNumber, Cond.selects RX4 yX4_readNumber yX4_readNumber, Cond.code yX4_readNumber cX4_readNumber 3 (some .boolean), Cond.fieldLink RX4 129 "CupFountainModel" "number" "I", Cond.methodLink RX4 154 yX4_does, Cond.instanceMethod yX4_does, Cond.selects RX4 yX4_does yX4_does, Cond.code yX4_does cX4_does 1 (some .int), Cond.methodLink RL 58 yX3_stopped, Cond.instanceMethod yX3_stopped, Cond.selects RX3 yX3_stopped yX3_stopped, Cond.code yX3_stopped cX3_stopped 2 (some .int), Cond.methodLink RX3 103 yX3_isWithin, Cond.methodLink RL 61 yX4_stopped, Cond.instanceMethod yX4_stopped, Cond.selects RX4 yX4_stopped yX4_stopped, Cond.code yX4_stopped cX4_stopped 2 (some .int), Cond.methodLink RL 62 yX3_undo, Cond.instanceMethod yX3_undo, Cond.selects RX3 yX3_undo yX3_undo, Cond.code yX3_undo cX3_undo 1 (some .int), Cond.methodLink RL 65 yX4_undo, Cond.instanceMethod yX4_undo, Cond.selects RX4 yX4_undo yX4_undo]
def wsL_law_r21 : List Cond := [Cond.code yX4_undo cX4_undo 1 (some .int), Cond.methodLink RL 66 yX3_keep, Cond.instanceMethod yX3_keep, Cond.selects RX3 yX3_keep yX3_keep, Cond.code yX3_keep cX3_keep 1 (some .int), Cond.fieldLink RX3 107 "CupFountain$State" "tick" "I", Cond.methodLink RL 69 yX4_keep, Cond.instanceMethod yX4_keep, Cond.selects RX4 yX4_keep yX4_keep, Cond.code yX4_keep cX4_keep 1 (some .int), Cond.fieldLink RX4 165 "CupFountainModel" "isTaken" "Z", Cond.methodLink RL 70 yX3_restore, Cond.instanceMethod yX3_restore, Cond.selects RX3 yX3_restore yX3_restore, Cond.code yX3_restore cX3_restore 1 (some .int), Cond.methodLink RL 73 yX4_restore, Cond.instanceMethod yX4_restore, Cond.selects RX4 yX4_restore yX4_restore, Cond.code yX4_restore cX4_restore 1 (some .int), Cond.methodLink RL 74 yX3_cup, Cond.instanceMethod yX3_cup, Cond.selects RX3 yX3_cup yX3_cup, Cond.code yX3_cup cX3_cup 4 (some .int), Cond.methodLink RX3 110 yX2_find]
def wsL_law_r22 : List Cond := [Cond.methodLink RX3 114 yX0_tell, Cond.methodLink RL 77 yX4_cup, Cond.instanceMethod yX4_cup, Cond.selects RX4 yX4_cup yX4_cup, Cond.code yX4_cup cX4_cup 3 (some .int), Cond.methodLink RL 78 yX3_reason, Cond.instanceMethod yX3_reason, Cond.selects RX3 yX3_reason yX3_reason, Cond.code yX3_reason cX3_reason 4 (some .int), Cond.fieldLink RX3 122 "CupFountain$Cup" "tips" "I", Cond.fieldLink RX3 125 "CupFountain$Cup" "guarded" "Z", Cond.fieldLink RX3 128 "CupFountain$Cup" "hour" "I", Cond.fieldLink RX3 134 "CupFountain$Cup" "open" "Z", Cond.methodLink RX3 119 yX2_tickOnce, Cond.methodLink RX3 131 yX2_hourOf, Cond.methodLink RL 81 yX4_reason, Cond.instanceMethod yX4_reason, Cond.selects RX4 yX4_reason yX4_reason, Cond.code yX4_reason cX4_reason 2 (some .int), Cond.methodLink RX4 169 yX4_untilTip, Cond.instanceMethod yX4_untilTip, Cond.selects RX4 yX4_untilTip yX4_untilTip, Cond.code yX4_untilTip cX4_untilTip 5 (some .int), Cond.methodLink RL 82 yX3_tipsIn]
def wsL_law_r23 : List Cond := [Cond.instanceMethod yX3_tipsIn, Cond.selects RX3 yX3_tipsIn yX3_tipsIn, Cond.code yX3_tipsIn cX3_tipsIn 2 (some .int), Cond.methodLink RX3 137 yX3_ticksTillTip, Cond.instanceMethod yX3_ticksTillTip, Cond.selects RX3 yX3_ticksTillTip yX3_ticksTillTip, Cond.code yX3_ticksTillTip cX3_ticksTillTip 5 (some .int), Cond.methodLink RL 85 yX4_tipsIn, Cond.instanceMethod yX4_tipsIn, Cond.selects RX4 yX4_tipsIn yX4_tipsIn, Cond.code yX4_tipsIn cX4_tipsIn 2 (some .int), Cond.methodLink RL 86 yX3_tipsAt, Cond.instanceMethod yX3_tipsAt, Cond.selects RX3 yX3_tipsAt yX3_tipsAt, Cond.code yX3_tipsAt cX3_tipsAt 2 (some .int), Cond.methodLink RX3 140 yX3_hourOfTip, Cond.instanceMethod yX3_hourOfTip, Cond.selects RX3 yX3_hourOfTip yX3_hourOfTip, Cond.code yX3_hourOfTip cX3_hourOfTip 3 (some .int), Cond.methodLink RL 89 yX4_tipsAt, Cond.instanceMethod yX4_tipsAt, Cond.selects RX4 yX4_tipsAt yX4_tipsAt, Cond.code yX4_tipsAt cX4_tipsAt 2 (some .int), Cond.methodLink RX4 172 yX4_hourOfTip]
def wsL_law_r24 : List Cond := [Cond.instanceMethod yX4_hourOfTip, Cond.selects RX4 yX4_hourOfTip yX4_hourOfTip, Cond.code yX4_hourOfTip cX4_hourOfTip 3 (some .int), Cond.methodLink RL 90 yX3_starving, Cond.instanceMethod yX3_starving, Cond.selects RX3 yX3_starving yX3_starving, Cond.code yX3_starving cX3_starving 2 (some .int), Cond.fieldLink RX3 146 "CupFountain$State" "cups" "[LCupFountain$Cup;", Cond.methodLink RX3 143 yX2_tickOn, Cond.methodLink RL 93 yX4_starving, Cond.instanceMethod yX4_starving, Cond.selects RX4 yX4_starving yX4_starving, Cond.code yX4_starving cX4_starving 3 (some .int), Cond.methodLink RL 94 yX3_bestSize, Cond.instanceMethod yX3_bestSize, Cond.selects RX3 yX3_bestSize yX3_bestSize, Cond.code yX3_bestSize cX3_bestSize 5 (some .int), Cond.methodLink RL 97 yX4_bestSize, Cond.instanceMethod yX4_bestSize, Cond.selects RX4 yX4_bestSize yX4_bestSize, Cond.code yX4_bestSize cX4_bestSize 5 (some .int), Cond.methodLink RL 98 yX3_ifTicks, Cond.instanceMethod yX3_ifTicks, Cond.selects RX3 yX3_ifTicks yX3_ifTicks]
def wsL_law_r25 : List Cond := [Cond.code yX3_ifTicks cX3_ifTicks 4 (some .int), Cond.methodLink RX3 150 yX2_sumOf, Cond.instanceMethod yX2_sumOf, Cond.selects RX2 yX2_sumOf yX2_sumOf, Cond.code yX2_sumOf cX2_sumOf 4 (some .int), Cond.methodLink RL 101 yX4_ifTicks, Cond.instanceMethod yX4_ifTicks, Cond.selects RX4 yX4_ifTicks yX4_ifTicks, Cond.code yX4_ifTicks cX4_ifTicks 6 (some .int), Cond.methodLink RL 102 yX3_highest, Cond.instanceMethod yX3_highest, Cond.selects RX3 yX3_highest yX3_highest, Cond.code yX3_highest cX3_highest 4 (some .int), Cond.fieldLink RX3 153 "CupFountain$Cup" "jet" "I", Cond.methodLink RL 105 yX4_highest, Cond.instanceMethod yX4_highest, Cond.selects RX4 yX4_highest yX4_highest, Cond.code yX4_highest cX4_highest 3 (some .int), Cond.methodLink RL 106 yX3_count, Cond.instanceMethod yX3_count, Cond.selects RX3 yX3_count yX3_count, Cond.code yX3_count cX3_count 2 (some .int), Cond.fieldLink RX3 156 "CupFountain$Plan" "length" "I", Cond.methodLink RX3 159 yX2_tell]
def wsL_law_r26 : List Cond := [Cond.instanceMethod yX2_tell, Cond.selects RX2 yX2_tell yX2_tell, Cond.code yX2_tell cX2_tell 2 (some .int), Cond.methodLink RX2 139 yX2_sumOf, Cond.methodLink RX2 142 yX2_sumFull, Cond.instanceMethod yX2_sumFull, Cond.selects RX2 yX2_sumFull yX2_sumFull, Cond.code yX2_sumFull cX2_sumFull 3 (some .int), Cond.methodLink RL 109 yX4_count, Cond.instanceMethod yX4_count, Cond.selects RX4 yX4_count yX4_count, Cond.code yX4_count cX4_count 2 (some .int), Cond.methodLink RX4 175 yX4_full, Cond.instanceMethod yX4_full, Cond.selects RX4 yX4_full yX4_full, Cond.code yX4_full cX4_full 3 (some .int)]
def wsL_law : List Cond := (wsL_law_r1 ++ (wsL_law_r2 ++ (wsL_law_r3 ++ (wsL_law_r4 ++ (wsL_law_r5 ++ (wsL_law_r6 ++ (wsL_law_r7 ++ (wsL_law_r8 ++ (wsL_law_r9 ++ (wsL_law_r10 ++ (wsL_law_r11 ++ (wsL_law_r12 ++ (wsL_law_r13 ++ (wsL_law_r14 ++ (wsL_law_r15 ++ (wsL_law_r16 ++ (wsL_law_r17 ++ (wsL_law_r18 ++ (wsL_law_r19 ++ (wsL_law_r20 ++ (wsL_law_r21 ++ (wsL_law_r22 ++ (wsL_law_r23 ++ (wsL_law_r24 ++ (wsL_law_r25 ++ wsL_law_r26))))))))))))))))))))))))) ++ wsX30 ++ wsX40 ++ wsX20 ++ wsX10 ++ wsX00 ++ ([] : List Cond)
theorem dJ9_min_7cf53_0 : decode cJ9_min_7cf53 0 = .ok (.iload_n 0, 1) := by decide +kernel
theorem dJ9_min_7cf53_1 : decode cJ9_min_7cf53 1 = .ok (.iload_n 1, 1) := by decide +kernel
theorem dJ9_min_7cf53_2 : decode cJ9_min_7cf53 2 = .ok (.if_icmp .gt 7, 3) := by decide +kernel
theorem dJ9_min_7cf53_5 : decode cJ9_min_7cf53 5 = .ok (.iload_n 0, 1) := by decide +kernel
theorem dJ9_min_7cf53_6 : decode cJ9_min_7cf53 6 = .ok (.goto 4, 3) := by decide +kernel
theorem dJ9_min_7cf53_9 : decode cJ9_min_7cf53 9 = .ok (.iload_n 1, 1) := by decide +kernel
theorem dJ9_min_7cf53_10 : decode cJ9_min_7cf53 10 = .ok (.ireturn, 1) := by decide +kernel
abbrev vwCl : List vw_C := [(RX0, TX0, 12), (RX1, TX1, 7), (RX2, TX2, 9), (RX3, TX3, 10), (RX4, TX4, 17)]
theorem zin_r {big : List Cond} (ws : List Cond) (ps : List Nat) (hp : ws = ps.filterMap (fun i => big[i]?)) : ∀ w ∈ ws, w ∈ big := by
  intro w hw
  rw [hp] at hw
  obtain ⟨i, -, hi⟩ := List.mem_filterMap.mp hw
  exact List.mem_of_getElem? hi
set_option maxRecDepth 20000 in
theorem wsL_law_r1_in : ∀ w ∈ wsL_law_r1, w ∈ lw_tbl := zin_r _ [53, 54, 47, 505, 506, 51, 55, 56, 57, 58, 59, 60, 61, 62, 48, 187, 188, 189, 190, 191, 155, 156, 50, 192] (by decide +kernel)
set_option maxRecDepth 20000 in
theorem wsL_law_r2_in : ∀ w ∈ wsL_law_r2, w ∈ lw_tbl := zin_r _ [193, 194, 195, 196, 63, 64, 65, 66, 67, 124, 126, 128, 129, 130, 131, 132, 133, 134, 69, 49, 70, 71, 72, 73] (by decide +kernel)
set_option maxRecDepth 20000 in
theorem wsL_law_r3_in : ∀ w ∈ wsL_law_r3, w ∈ lw_tbl := zin_r _ [74, 76, 80, 82, 85, 88, 91, 94, 96, 97, 98, 78, 158, 159, 160, 185, 161, 162, 186, 164, 165, 166, 167, 169] (by decide +kernel)
set_option maxRecDepth 20000 in
theorem wsL_law_r4_in : ∀ w ∈ wsL_law_r4, w ∈ lw_tbl := zin_r _ [507, 508, 509, 510, 515, 516, 518, 520, 521, 523, 567, 525, 511, 513, 17, 514, 218, 219, 220, 221, 222, 223, 224, 225] (by decide +kernel)
set_option maxRecDepth 20000 in
theorem wsL_law_r5_in : ∀ w ∈ wsL_law_r5, w ∈ lw_tbl := zin_r _ [226, 227, 228, 229, 230, 231, 232, 233, 75, 77, 79, 234, 235, 236, 237, 238, 239, 240, 242, 243, 244, 245, 246, 247] (by decide +kernel)
set_option maxRecDepth 20000 in
theorem wsL_law_r6_in : ∀ w ∈ wsL_law_r6, w ∈ lw_tbl := zin_r _ [249, 250, 251, 253, 0, 254, 255, 257, 1, 258, 568, 569, 570, 571, 572, 574, 18, 575, 576, 577, 578, 579, 581, 19] (by decide +kernel)
set_option maxRecDepth 20000 in
theorem wsL_law_r7_in : ∀ w ∈ wsL_law_r7, w ∈ lw_tbl := zin_r _ [582, 583, 584, 585, 586, 587, 588, 589, 590, 591, 592, 594, 20, 595, 596, 598, 21, 599, 600, 602, 22, 603, 517, 259] (by decide +kernel)
set_option maxRecDepth 20000 in
theorem wsL_law_r8_in : ∀ w ∈ wsL_law_r8, w ∈ lw_tbl := zin_r _ [260, 261, 262, 263, 264, 265, 266, 89, 86, 604, 605, 606, 607, 608, 610, 23, 611, 268, 269, 270, 271, 272, 273, 274] (by decide +kernel)
set_option maxRecDepth 20000 in
theorem wsL_law_r9_in : ∀ w ∈ wsL_law_r9, w ∈ lw_tbl := zin_r _ [275, 83, 612, 613, 614, 615, 616, 618, 24, 619, 276, 277, 278, 279, 280, 281, 282, 283, 620, 621, 622, 623, 624, 626] (by decide +kernel)
set_option maxRecDepth 20000 in
theorem wsL_law_r10_in : ∀ w ∈ wsL_law_r10, w ∈ lw_tbl := zin_r _ [25, 627, 284, 285, 286, 287, 288, 289, 290, 291, 81, 628, 629, 630, 631, 632, 634, 26, 635, 292, 293, 294, 295, 296] (by decide +kernel)
set_option maxRecDepth 20000 in
theorem wsL_law_r11_in : ∀ w ∈ wsL_law_r11, w ∈ lw_tbl := zin_r _ [297, 298, 299, 300, 302, 2, 303, 636, 637, 638, 639, 640, 642, 27, 643, 304, 305, 306, 307, 308, 309, 310, 311, 312] (by decide +kernel)
set_option maxRecDepth 20000 in
theorem wsL_law_r12_in : ∀ w ∈ wsL_law_r12, w ∈ lw_tbl := zin_r _ [313, 314, 315, 316, 317, 318, 319, 320, 321, 322, 323, 324, 325, 327, 3, 328, 329, 331, 4, 332, 333, 334, 52, 335] (by decide +kernel)
set_option maxRecDepth 20000 in
theorem wsL_law_r13_in : ∀ w ∈ wsL_law_r13, w ∈ lw_tbl := zin_r _ [336, 338, 5, 339, 92, 340, 341, 342, 343, 344, 345, 346, 347, 348, 349, 350, 351, 352, 353, 354, 355, 356, 357, 359] (by decide +kernel)
set_option maxRecDepth 20000 in
theorem wsL_law_r14_in : ∀ w ∈ wsL_law_r14, w ∈ lw_tbl := zin_r _ [6, 360, 644, 645, 646, 647, 648, 650, 28, 651, 652, 653, 655, 29, 656, 657, 659, 30, 660, 661, 663, 31, 664, 665] (by decide +kernel)
set_option maxRecDepth 20000 in
theorem wsL_law_r15_in : ∀ w ∈ wsL_law_r15, w ∈ lw_tbl := zin_r _ [667, 32, 668, 669, 671, 33, 672, 673, 675, 34, 676, 677, 679, 35, 680, 361, 362, 363, 364, 365, 366, 367, 368, 681] (by decide +kernel)
set_option maxRecDepth 20000 in
theorem wsL_law_r16_in : ∀ w ∈ wsL_law_r16, w ∈ lw_tbl := zin_r _ [682, 683, 684, 522, 369, 370, 371, 372, 373, 374, 375, 376, 685, 686, 687, 688, 377, 378, 379, 380, 168, 381, 382, 383] (by decide +kernel)
set_option maxRecDepth 20000 in
theorem wsL_law_r17_in : ∀ w ∈ wsL_law_r17, w ∈ lw_tbl := zin_r _ [384, 385, 387, 7, 388, 389, 391, 8, 392, 393, 395, 9, 396, 398, 400, 10, 401, 402, 404, 11, 405, 406, 408, 12] (by decide +kernel)
set_option maxRecDepth 20000 in
theorem wsL_law_r18_in : ∀ w ∈ wsL_law_r18, w ∈ lw_tbl := zin_r _ [409, 410, 412, 13, 413, 414, 415, 416, 417, 418, 419, 420, 421, 422, 423, 424, 425, 689, 690, 691, 692, 526, 531, 530] (by decide +kernel)
set_option maxRecDepth 20000 in
theorem wsL_law_r19_in : ∀ w ∈ wsL_law_r19, w ∈ lw_tbl := zin_r _ [524, 693, 695, 36, 696, 697, 699, 37, 700, 527, 701, 703, 38, 704, 528, 705, 707, 39, 708, 709, 711, 40, 712, 713] (by decide +kernel)
set_option maxRecDepth 20000 in
theorem wsL_law_r20_in : ∀ w ∈ wsL_law_r20, w ∈ lw_tbl := zin_r _ [715, 41, 716, 529, 717, 719, 42, 720, 426, 427, 428, 429, 430, 721, 722, 723, 724, 431, 432, 433, 434, 725, 726, 727] (by decide +kernel)
set_option maxRecDepth 20000 in
theorem wsL_law_r21_in : ∀ w ∈ wsL_law_r21, w ∈ lw_tbl := zin_r _ [728, 435, 436, 437, 438, 127, 729, 730, 731, 732, 519, 439, 440, 441, 442, 733, 734, 735, 736, 443, 444, 445, 446, 447] (by decide +kernel)
set_option maxRecDepth 20000 in
theorem wsL_law_r22_in : ∀ w ∈ wsL_law_r22, w ∈ lw_tbl := zin_r _ [448, 737, 738, 739, 740, 449, 450, 451, 452, 95, 90, 84, 87, 453, 454, 741, 742, 743, 744, 745, 747, 43, 748, 455] (by decide +kernel)
set_option maxRecDepth 20000 in
theorem wsL_law_r23_in : ∀ w ∈ wsL_law_r23, w ∈ lw_tbl := zin_r _ [456, 457, 458, 459, 461, 14, 462, 749, 750, 751, 752, 463, 464, 465, 466, 467, 469, 15, 470, 753, 754, 755, 756, 757] (by decide +kernel)
set_option maxRecDepth 20000 in
theorem wsL_law_r24_in : ∀ w ∈ wsL_law_r24, w ∈ lw_tbl := zin_r _ [759, 44, 760, 471, 472, 473, 474, 125, 475, 761, 762, 763, 764, 476, 477, 478, 479, 765, 766, 767, 768, 480, 481, 482] (by decide +kernel)
set_option maxRecDepth 20000 in
theorem wsL_law_r25_in : ∀ w ∈ wsL_law_r25, w ∈ lw_tbl := zin_r _ [483, 484, 485, 486, 487, 769, 770, 771, 772, 488, 489, 490, 491, 93, 773, 774, 775, 776, 492, 493, 494, 495, 163, 496] (by decide +kernel)
set_option maxRecDepth 20000 in
theorem wsL_law_r26_in : ∀ w ∈ wsL_law_r26, w ∈ lw_tbl := zin_r _ [497, 498, 499, 500, 501, 503, 16, 504, 777, 778, 779, 780, 781, 783, 45, 784] (by decide +kernel)
set_option maxRecDepth 20000 in
theorem wsX00_in : ∀ w ∈ wsX00, w ∈ lw_tbl := zin_r _ [99, 101, 103, 105, 107, 109, 111, 113, 115, 117, 119, 121] (by decide +kernel)
set_option maxRecDepth 20000 in
theorem wsX10_in : ∀ w ∈ wsX10, w ∈ lw_tbl := zin_r _ [170, 172, 174, 176, 178, 180, 182] (by decide +kernel)
set_option maxRecDepth 20000 in
theorem wsX20_in : ∀ w ∈ wsX20, w ∈ lw_tbl := zin_r _ [135, 137, 139, 141, 143, 145, 147, 149, 151] (by decide +kernel)
set_option maxRecDepth 20000 in
theorem wsX30_in : ∀ w ∈ wsX30, w ∈ lw_tbl := zin_r _ [197, 199, 201, 203, 205, 207, 209, 211, 213, 215] (by decide +kernel)
set_option maxRecDepth 20000 in
theorem wsX40_in : ∀ w ∈ wsX40, w ∈ lw_tbl := zin_r _ [532, 534, 536, 538, 540, 542, 544, 546, 548, 550, 552, 554, 556, 558, 560, 562, 564] (by decide +kernel)
set_option maxRecDepth 20000 in
theorem wsL_law_in : ∀ w ∈ wsL_law, w ∈ lw_tbl := by
  unfold wsL_law
  exact List.forall_mem_append.mpr ⟨List.forall_mem_append.mpr ⟨List.forall_mem_append.mpr ⟨List.forall_mem_append.mpr ⟨List.forall_mem_append.mpr ⟨List.forall_mem_append.mpr ⟨List.forall_mem_append.mpr ⟨wsL_law_r1_in, List.forall_mem_append.mpr ⟨wsL_law_r2_in, List.forall_mem_append.mpr ⟨wsL_law_r3_in, List.forall_mem_append.mpr ⟨wsL_law_r4_in, List.forall_mem_append.mpr ⟨wsL_law_r5_in, List.forall_mem_append.mpr ⟨wsL_law_r6_in, List.forall_mem_append.mpr ⟨wsL_law_r7_in, List.forall_mem_append.mpr ⟨wsL_law_r8_in, List.forall_mem_append.mpr ⟨wsL_law_r9_in, List.forall_mem_append.mpr ⟨wsL_law_r10_in, List.forall_mem_append.mpr ⟨wsL_law_r11_in, List.forall_mem_append.mpr ⟨wsL_law_r12_in, List.forall_mem_append.mpr ⟨wsL_law_r13_in, List.forall_mem_append.mpr ⟨wsL_law_r14_in, List.forall_mem_append.mpr ⟨wsL_law_r15_in, List.forall_mem_append.mpr ⟨wsL_law_r16_in, List.forall_mem_append.mpr ⟨wsL_law_r17_in, List.forall_mem_append.mpr ⟨wsL_law_r18_in, List.forall_mem_append.mpr ⟨wsL_law_r19_in, List.forall_mem_append.mpr ⟨wsL_law_r20_in, List.forall_mem_append.mpr ⟨wsL_law_r21_in, List.forall_mem_append.mpr ⟨wsL_law_r22_in, List.forall_mem_append.mpr ⟨wsL_law_r23_in, List.forall_mem_append.mpr ⟨wsL_law_r24_in, List.forall_mem_append.mpr ⟨wsL_law_r25_in, wsL_law_r26_in⟩⟩⟩⟩⟩⟩⟩⟩⟩⟩⟩⟩⟩⟩⟩⟩⟩⟩⟩⟩⟩⟩⟩⟩⟩, wsX30_in⟩, wsX40_in⟩, wsX20_in⟩, wsX10_in⟩, wsX00_in⟩, (fun _ h => absurd h List.not_mem_nil)⟩
end
section
set_option maxRecDepth 20000 in
theorem wl_1 : ∀ w ∈ wsL_law_r1, w ∈ wsL_law := fun w h => List.mem_append_left _ (List.mem_append_left _ (List.mem_append_left _ (List.mem_append_left _ (List.mem_append_left _ (List.mem_append_left _ (List.mem_append_left _ h))))))
set_option maxRecDepth 20000 in
theorem wl_2 : ∀ w ∈ wsL_law_r2, w ∈ wsL_law := fun w h => List.mem_append_left _ (List.mem_append_left _ (List.mem_append_left _ (List.mem_append_left _ (List.mem_append_left _ (List.mem_append_left _ (List.mem_append_right _ (List.mem_append_left _ h)))))))
set_option maxRecDepth 20000 in
theorem wl_3 : ∀ w ∈ wsL_law_r3, w ∈ wsL_law := fun w h => List.mem_append_left _ (List.mem_append_left _ (List.mem_append_left _ (List.mem_append_left _ (List.mem_append_left _ (List.mem_append_left _ (List.mem_append_right _ (List.mem_append_right _ (List.mem_append_left _ h))))))))
set_option maxRecDepth 20000 in
theorem wl_4 : ∀ w ∈ wsL_law_r4, w ∈ wsL_law := fun w h => List.mem_append_left _ (List.mem_append_left _ (List.mem_append_left _ (List.mem_append_left _ (List.mem_append_left _ (List.mem_append_left _ (List.mem_append_right _ (List.mem_append_right _ (List.mem_append_right _ (List.mem_append_left _ h)))))))))
set_option maxRecDepth 20000 in
theorem wl_5 : ∀ w ∈ wsL_law_r5, w ∈ wsL_law := fun w h => List.mem_append_left _ (List.mem_append_left _ (List.mem_append_left _ (List.mem_append_left _ (List.mem_append_left _ (List.mem_append_left _ (List.mem_append_right _ (List.mem_append_right _ (List.mem_append_right _ (List.mem_append_right _ (List.mem_append_left _ h))))))))))
set_option maxRecDepth 20000 in
theorem wl_6 : ∀ w ∈ wsL_law_r6, w ∈ wsL_law := fun w h => List.mem_append_left _ (List.mem_append_left _ (List.mem_append_left _ (List.mem_append_left _ (List.mem_append_left _ (List.mem_append_left _ (List.mem_append_right _ (List.mem_append_right _ (List.mem_append_right _ (List.mem_append_right _ (List.mem_append_right _ (List.mem_append_left _ h)))))))))))
set_option maxRecDepth 20000 in
theorem wl_7 : ∀ w ∈ wsL_law_r7, w ∈ wsL_law := fun w h => List.mem_append_left _ (List.mem_append_left _ (List.mem_append_left _ (List.mem_append_left _ (List.mem_append_left _ (List.mem_append_left _ (List.mem_append_right _ (List.mem_append_right _ (List.mem_append_right _ (List.mem_append_right _ (List.mem_append_right _ (List.mem_append_right _ (List.mem_append_left _ h))))))))))))
set_option maxRecDepth 20000 in
theorem wl_8 : ∀ w ∈ wsL_law_r8, w ∈ wsL_law := fun w h => List.mem_append_left _ (List.mem_append_left _ (List.mem_append_left _ (List.mem_append_left _ (List.mem_append_left _ (List.mem_append_left _ (List.mem_append_right _ (List.mem_append_right _ (List.mem_append_right _ (List.mem_append_right _ (List.mem_append_right _ (List.mem_append_right _ (List.mem_append_right _ (List.mem_append_left _ h)))))))))))))
set_option maxRecDepth 20000 in
theorem wl_9 : ∀ w ∈ wsL_law_r9, w ∈ wsL_law := fun w h => List.mem_append_left _ (List.mem_append_left _ (List.mem_append_left _ (List.mem_append_left _ (List.mem_append_left _ (List.mem_append_left _ (List.mem_append_right _ (List.mem_append_right _ (List.mem_append_right _ (List.mem_append_right _ (List.mem_append_right _ (List.mem_append_right _ (List.mem_append_right _ (List.mem_append_right _ (List.mem_append_left _ h))))))))))))))
set_option maxRecDepth 20000 in
theorem wl_10 : ∀ w ∈ wsL_law_r10, w ∈ wsL_law := fun w h => List.mem_append_left _ (List.mem_append_left _ (List.mem_append_left _ (List.mem_append_left _ (List.mem_append_left _ (List.mem_append_left _ (List.mem_append_right _ (List.mem_append_right _ (List.mem_append_right _ (List.mem_append_right _ (List.mem_append_right _ (List.mem_append_right _ (List.mem_append_right _ (List.mem_append_right _ (List.mem_append_right _ (List.mem_append_left _ h)))))))))))))))
set_option maxRecDepth 20000 in
theorem wl_11 : ∀ w ∈ wsL_law_r11, w ∈ wsL_law := fun w h => List.mem_append_left _ (List.mem_append_left _ (List.mem_append_left _ (List.mem_append_left _ (List.mem_append_left _ (List.mem_append_left _ (List.mem_append_right _ (List.mem_append_right _ (List.mem_append_right _ (List.mem_append_right _ (List.mem_append_right _ (List.mem_append_right _ (List.mem_append_right _ (List.mem_append_right _ (List.mem_append_right _ (List.mem_append_right _ (List.mem_append_left _ h))))))))))))))))
set_option maxRecDepth 20000 in
theorem wl_12 : ∀ w ∈ wsL_law_r12, w ∈ wsL_law := fun w h => List.mem_append_left _ (List.mem_append_left _ (List.mem_append_left _ (List.mem_append_left _ (List.mem_append_left _ (List.mem_append_left _ (List.mem_append_right _ (List.mem_append_right _ (List.mem_append_right _ (List.mem_append_right _ (List.mem_append_right _ (List.mem_append_right _ (List.mem_append_right _ (List.mem_append_right _ (List.mem_append_right _ (List.mem_append_right _ (List.mem_append_right _ (List.mem_append_left _ h)))))))))))))))))
set_option maxRecDepth 20000 in
theorem wl_13 : ∀ w ∈ wsL_law_r13, w ∈ wsL_law := fun w h => List.mem_append_left _ (List.mem_append_left _ (List.mem_append_left _ (List.mem_append_left _ (List.mem_append_left _ (List.mem_append_left _ (List.mem_append_right _ (List.mem_append_right _ (List.mem_append_right _ (List.mem_append_right _ (List.mem_append_right _ (List.mem_append_right _ (List.mem_append_right _ (List.mem_append_right _ (List.mem_append_right _ (List.mem_append_right _ (List.mem_append_right _ (List.mem_append_right _ (List.mem_append_left _ h))))))))))))))))))
set_option maxRecDepth 20000 in
theorem wl_14 : ∀ w ∈ wsL_law_r14, w ∈ wsL_law := fun w h => List.mem_append_left _ (List.mem_append_left _ (List.mem_append_left _ (List.mem_append_left _ (List.mem_append_left _ (List.mem_append_left _ (List.mem_append_right _ (List.mem_append_right _ (List.mem_append_right _ (List.mem_append_right _ (List.mem_append_right _ (List.mem_append_right _ (List.mem_append_right _ (List.mem_append_right _ (List.mem_append_right _ (List.mem_append_right _ (List.mem_append_right _ (List.mem_append_right _ (List.mem_append_right _ (List.mem_append_left _ h)))))))))))))))))))
set_option maxRecDepth 20000 in
theorem wl_15 : ∀ w ∈ wsL_law_r15, w ∈ wsL_law := fun w h => List.mem_append_left _ (List.mem_append_left _ (List.mem_append_left _ (List.mem_append_left _ (List.mem_append_left _ (List.mem_append_left _ (List.mem_append_right _ (List.mem_append_right _ (List.mem_append_right _ (List.mem_append_right _ (List.mem_append_right _ (List.mem_append_right _ (List.mem_append_right _ (List.mem_append_right _ (List.mem_append_right _ (List.mem_append_right _ (List.mem_append_right _ (List.mem_append_right _ (List.mem_append_right _ (List.mem_append_right _ (List.mem_append_left _ h))))))))))))))))))))
set_option maxRecDepth 20000 in
theorem wl_16 : ∀ w ∈ wsL_law_r16, w ∈ wsL_law := fun w h => List.mem_append_left _ (List.mem_append_left _ (List.mem_append_left _ (List.mem_append_left _ (List.mem_append_left _ (List.mem_append_left _ (List.mem_append_right _ (List.mem_append_right _ (List.mem_append_right _ (List.mem_append_right _ (List.mem_append_right _ (List.mem_append_right _ (List.mem_append_right _ (List.mem_append_right _ (List.mem_append_right _ (List.mem_append_right _ (List.mem_append_right _ (List.mem_append_right _ (List.mem_append_right _ (List.mem_append_right _ (List.mem_append_right _ (List.mem_append_left _ h)))))))))))))))))))))
set_option maxRecDepth 20000 in
theorem wl_17 : ∀ w ∈ wsL_law_r17, w ∈ wsL_law := fun w h => List.mem_append_left _ (List.mem_append_left _ (List.mem_append_left _ (List.mem_append_left _ (List.mem_append_left _ (List.mem_append_left _ (List.mem_append_right _ (List.mem_append_right _ (List.mem_append_right _ (List.mem_append_right _ (List.mem_append_right _ (List.mem_append_right _ (List.mem_append_right _ (List.mem_append_right _ (List.mem_append_right _ (List.mem_append_right _ (List.mem_append_right _ (List.mem_append_right _ (List.mem_append_right _ (List.mem_append_right _ (List.mem_append_right _ (List.mem_append_right _ (List.mem_append_left _ h))))))))))))))))))))))
set_option maxRecDepth 20000 in
theorem wl_18 : ∀ w ∈ wsL_law_r18, w ∈ wsL_law := fun w h => List.mem_append_left _ (List.mem_append_left _ (List.mem_append_left _ (List.mem_append_left _ (List.mem_append_left _ (List.mem_append_left _ (List.mem_append_right _ (List.mem_append_right _ (List.mem_append_right _ (List.mem_append_right _ (List.mem_append_right _ (List.mem_append_right _ (List.mem_append_right _ (List.mem_append_right _ (List.mem_append_right _ (List.mem_append_right _ (List.mem_append_right _ (List.mem_append_right _ (List.mem_append_right _ (List.mem_append_right _ (List.mem_append_right _ (List.mem_append_right _ (List.mem_append_right _ (List.mem_append_left _ h)))))))))))))))))))))))
set_option maxRecDepth 20000 in
theorem wl_19 : ∀ w ∈ wsL_law_r19, w ∈ wsL_law := fun w h => List.mem_append_left _ (List.mem_append_left _ (List.mem_append_left _ (List.mem_append_left _ (List.mem_append_left _ (List.mem_append_left _ (List.mem_append_right _ (List.mem_append_right _ (List.mem_append_right _ (List.mem_append_right _ (List.mem_append_right _ (List.mem_append_right _ (List.mem_append_right _ (List.mem_append_right _ (List.mem_append_right _ (List.mem_append_right _ (List.mem_append_right _ (List.mem_append_right _ (List.mem_append_right _ (List.mem_append_right _ (List.mem_append_right _ (List.mem_append_right _ (List.mem_append_right _ (List.mem_append_right _ (List.mem_append_left _ h))))))))))))))))))))))))
set_option maxRecDepth 20000 in
theorem wl_20 : ∀ w ∈ wsL_law_r20, w ∈ wsL_law := fun w h => List.mem_append_left _ (List.mem_append_left _ (List.mem_append_left _ (List.mem_append_left _ (List.mem_append_left _ (List.mem_append_left _ (List.mem_append_right _ (List.mem_append_right _ (List.mem_append_right _ (List.mem_append_right _ (List.mem_append_right _ (List.mem_append_right _ (List.mem_append_right _ (List.mem_append_right _ (List.mem_append_right _ (List.mem_append_right _ (List.mem_append_right _ (List.mem_append_right _ (List.mem_append_right _ (List.mem_append_right _ (List.mem_append_right _ (List.mem_append_right _ (List.mem_append_right _ (List.mem_append_right _ (List.mem_append_right _ (List.mem_append_left _ h)))))))))))))))))))))))))
set_option maxRecDepth 20000 in
theorem wl_21 : ∀ w ∈ wsL_law_r21, w ∈ wsL_law := fun w h => List.mem_append_left _ (List.mem_append_left _ (List.mem_append_left _ (List.mem_append_left _ (List.mem_append_left _ (List.mem_append_left _ (List.mem_append_right _ (List.mem_append_right _ (List.mem_append_right _ (List.mem_append_right _ (List.mem_append_right _ (List.mem_append_right _ (List.mem_append_right _ (List.mem_append_right _ (List.mem_append_right _ (List.mem_append_right _ (List.mem_append_right _ (List.mem_append_right _ (List.mem_append_right _ (List.mem_append_right _ (List.mem_append_right _ (List.mem_append_right _ (List.mem_append_right _ (List.mem_append_right _ (List.mem_append_right _ (List.mem_append_right _ (List.mem_append_left _ h))))))))))))))))))))))))))
set_option maxRecDepth 20000 in
theorem wl_22 : ∀ w ∈ wsL_law_r22, w ∈ wsL_law := fun w h => List.mem_append_left _ (List.mem_append_left _ (List.mem_append_left _ (List.mem_append_left _ (List.mem_append_left _ (List.mem_append_left _ (List.mem_append_right _ (List.mem_append_right _ (List.mem_append_right _ (List.mem_append_right _ (List.mem_append_right _ (List.mem_append_right _ (List.mem_append_right _ (List.mem_append_right _ (List.mem_append_right _ (List.mem_append_right _ (List.mem_append_right _ (List.mem_append_right _ (List.mem_append_right _ (List.mem_append_right _ (List.mem_append_right _ (List.mem_append_right _ (List.mem_append_right _ (List.mem_append_right _ (List.mem_append_right _ (List.mem_append_right _ (List.mem_append_right _ (List.mem_append_left _ h)))))))))))))))))))))))))))
set_option maxRecDepth 20000 in
theorem wl_23 : ∀ w ∈ wsL_law_r23, w ∈ wsL_law := fun w h => List.mem_append_left _ (List.mem_append_left _ (List.mem_append_left _ (List.mem_append_left _ (List.mem_append_left _ (List.mem_append_left _ (List.mem_append_right _ (List.mem_append_right _ (List.mem_append_right _ (List.mem_append_right _ (List.mem_append_right _ (List.mem_append_right _ (List.mem_append_right _ (List.mem_append_right _ (List.mem_append_right _ (List.mem_append_right _ (List.mem_append_right _ (List.mem_append_right _ (List.mem_append_right _ (List.mem_append_right _ (List.mem_append_right _ (List.mem_append_right _ (List.mem_append_right _ (List.mem_append_right _ (List.mem_append_right _ (List.mem_append_right _ (List.mem_append_right _ (List.mem_append_right _ (List.mem_append_left _ h))))))))))))))))))))))))))))
set_option maxRecDepth 20000 in
theorem wl_24 : ∀ w ∈ wsL_law_r24, w ∈ wsL_law := fun w h => List.mem_append_left _ (List.mem_append_left _ (List.mem_append_left _ (List.mem_append_left _ (List.mem_append_left _ (List.mem_append_left _ (List.mem_append_right _ (List.mem_append_right _ (List.mem_append_right _ (List.mem_append_right _ (List.mem_append_right _ (List.mem_append_right _ (List.mem_append_right _ (List.mem_append_right _ (List.mem_append_right _ (List.mem_append_right _ (List.mem_append_right _ (List.mem_append_right _ (List.mem_append_right _ (List.mem_append_right _ (List.mem_append_right _ (List.mem_append_right _ (List.mem_append_right _ (List.mem_append_right _ (List.mem_append_right _ (List.mem_append_right _ (List.mem_append_right _ (List.mem_append_right _ (List.mem_append_right _ (List.mem_append_left _ h)))))))))))))))))))))))))))))
set_option maxRecDepth 20000 in
theorem wl_25 : ∀ w ∈ wsL_law_r25, w ∈ wsL_law := fun w h => List.mem_append_left _ (List.mem_append_left _ (List.mem_append_left _ (List.mem_append_left _ (List.mem_append_left _ (List.mem_append_left _ (List.mem_append_right _ (List.mem_append_right _ (List.mem_append_right _ (List.mem_append_right _ (List.mem_append_right _ (List.mem_append_right _ (List.mem_append_right _ (List.mem_append_right _ (List.mem_append_right _ (List.mem_append_right _ (List.mem_append_right _ (List.mem_append_right _ (List.mem_append_right _ (List.mem_append_right _ (List.mem_append_right _ (List.mem_append_right _ (List.mem_append_right _ (List.mem_append_right _ (List.mem_append_right _ (List.mem_append_right _ (List.mem_append_right _ (List.mem_append_right _ (List.mem_append_right _ (List.mem_append_right _ (List.mem_append_left _ h))))))))))))))))))))))))))))))
set_option maxRecDepth 20000 in
theorem wl_26 : ∀ w ∈ wsL_law_r26, w ∈ wsL_law := fun w h => List.mem_append_left _ (List.mem_append_left _ (List.mem_append_left _ (List.mem_append_left _ (List.mem_append_left _ (List.mem_append_left _ (List.mem_append_right _ (List.mem_append_right _ (List.mem_append_right _ (List.mem_append_right _ (List.mem_append_right _ (List.mem_append_right _ (List.mem_append_right _ (List.mem_append_right _ (List.mem_append_right _ (List.mem_append_right _ (List.mem_append_right _ (List.mem_append_right _ (List.mem_append_right _ (List.mem_append_right _ (List.mem_append_right _ (List.mem_append_right _ (List.mem_append_right _ (List.mem_append_right _ (List.mem_append_right _ (List.mem_append_right _ (List.mem_append_right _ (List.mem_append_right _ (List.mem_append_right _ (List.mem_append_right _ (List.mem_append_right _ (h)))))))))))))))))))))))))))))))
set_option maxRecDepth 20000 in
theorem wl_wsX30 : ∀ w ∈ wsX30, w ∈ wsL_law := fun w h => List.mem_append_left _ (List.mem_append_left _ (List.mem_append_left _ (List.mem_append_left _ (List.mem_append_left _ (List.mem_append_right _ h)))))
set_option maxRecDepth 20000 in
theorem wl_wsX40 : ∀ w ∈ wsX40, w ∈ wsL_law := fun w h => List.mem_append_left _ (List.mem_append_left _ (List.mem_append_left _ (List.mem_append_left _ (List.mem_append_right _ h))))
set_option maxRecDepth 20000 in
theorem wl_wsX20 : ∀ w ∈ wsX20, w ∈ wsL_law := fun w h => List.mem_append_left _ (List.mem_append_left _ (List.mem_append_left _ (List.mem_append_right _ h)))
set_option maxRecDepth 20000 in
theorem wl_wsX10 : ∀ w ∈ wsX10, w ∈ wsL_law := fun w h => List.mem_append_left _ (List.mem_append_left _ (List.mem_append_right _ h))
set_option maxRecDepth 20000 in
theorem wl_wsX00 : ∀ w ∈ wsX00, w ∈ wsL_law := fun w h => List.mem_append_left _ (List.mem_append_right _ h)
set_option maxRecDepth 20000 in
theorem wg_1 : ∀ w ∈ wsL_law_r1, goodWord w = true := List.all_eq_true.mp (by decide +kernel)
set_option maxRecDepth 20000 in
theorem wg_2 : ∀ w ∈ wsL_law_r2, goodWord w = true := List.all_eq_true.mp (by decide +kernel)
set_option maxRecDepth 20000 in
theorem wg_3 : ∀ w ∈ wsL_law_r3, goodWord w = true := List.all_eq_true.mp (by decide +kernel)
set_option maxRecDepth 20000 in
theorem wg_4 : ∀ w ∈ wsL_law_r4, goodWord w = true := List.all_eq_true.mp (by decide +kernel)
set_option maxRecDepth 20000 in
theorem wg_5 : ∀ w ∈ wsL_law_r5, goodWord w = true := List.all_eq_true.mp (by decide +kernel)
set_option maxRecDepth 20000 in
theorem wg_6 : ∀ w ∈ wsL_law_r6, goodWord w = true := List.all_eq_true.mp (by decide +kernel)
set_option maxRecDepth 20000 in
theorem wg_7 : ∀ w ∈ wsL_law_r7, goodWord w = true := List.all_eq_true.mp (by decide +kernel)
set_option maxRecDepth 20000 in
theorem wg_8 : ∀ w ∈ wsL_law_r8, goodWord w = true := List.all_eq_true.mp (by decide +kernel)
set_option maxRecDepth 20000 in
theorem wg_9 : ∀ w ∈ wsL_law_r9, goodWord w = true := List.all_eq_true.mp (by decide +kernel)
set_option maxRecDepth 20000 in
theorem wg_10 : ∀ w ∈ wsL_law_r10, goodWord w = true := List.all_eq_true.mp (by decide +kernel)
set_option maxRecDepth 20000 in
theorem wg_11 : ∀ w ∈ wsL_law_r11, goodWord w = true := List.all_eq_true.mp (by decide +kernel)
set_option maxRecDepth 20000 in
theorem wg_12 : ∀ w ∈ wsL_law_r12, goodWord w = true := List.all_eq_true.mp (by decide +kernel)
set_option maxRecDepth 20000 in
theorem wg_13 : ∀ w ∈ wsL_law_r13, goodWord w = true := List.all_eq_true.mp (by decide +kernel)
set_option maxRecDepth 20000 in
theorem wg_14 : ∀ w ∈ wsL_law_r14, goodWord w = true := List.all_eq_true.mp (by decide +kernel)
set_option maxRecDepth 20000 in
theorem wg_15 : ∀ w ∈ wsL_law_r15, goodWord w = true := List.all_eq_true.mp (by decide +kernel)
set_option maxRecDepth 20000 in
theorem wg_16 : ∀ w ∈ wsL_law_r16, goodWord w = true := List.all_eq_true.mp (by decide +kernel)
set_option maxRecDepth 20000 in
theorem wg_17 : ∀ w ∈ wsL_law_r17, goodWord w = true := List.all_eq_true.mp (by decide +kernel)
set_option maxRecDepth 20000 in
theorem wg_18 : ∀ w ∈ wsL_law_r18, goodWord w = true := List.all_eq_true.mp (by decide +kernel)
set_option maxRecDepth 20000 in
theorem wg_19 : ∀ w ∈ wsL_law_r19, goodWord w = true := List.all_eq_true.mp (by decide +kernel)
set_option maxRecDepth 20000 in
theorem wg_20 : ∀ w ∈ wsL_law_r20, goodWord w = true := List.all_eq_true.mp (by decide +kernel)
set_option maxRecDepth 20000 in
theorem wg_21 : ∀ w ∈ wsL_law_r21, goodWord w = true := List.all_eq_true.mp (by decide +kernel)
set_option maxRecDepth 20000 in
theorem wg_22 : ∀ w ∈ wsL_law_r22, goodWord w = true := List.all_eq_true.mp (by decide +kernel)
set_option maxRecDepth 20000 in
theorem wg_23 : ∀ w ∈ wsL_law_r23, goodWord w = true := List.all_eq_true.mp (by decide +kernel)
set_option maxRecDepth 20000 in
theorem wg_24 : ∀ w ∈ wsL_law_r24, goodWord w = true := List.all_eq_true.mp (by decide +kernel)
set_option maxRecDepth 20000 in
theorem wg_25 : ∀ w ∈ wsL_law_r25, goodWord w = true := List.all_eq_true.mp (by decide +kernel)
set_option maxRecDepth 20000 in
theorem wg_26 : ∀ w ∈ wsL_law_r26, goodWord w = true := List.all_eq_true.mp (by decide +kernel)
set_option maxRecDepth 20000 in
theorem wg_wsX30 : ∀ w ∈ wsX30, goodWord w = true := List.all_eq_true.mp (by decide +kernel)
set_option maxRecDepth 20000 in
theorem wg_wsX40 : ∀ w ∈ wsX40, goodWord w = true := List.all_eq_true.mp (by decide +kernel)
set_option maxRecDepth 20000 in
theorem wg_wsX20 : ∀ w ∈ wsX20, goodWord w = true := List.all_eq_true.mp (by decide +kernel)
set_option maxRecDepth 20000 in
theorem wg_wsX10 : ∀ w ∈ wsX10, goodWord w = true := List.all_eq_true.mp (by decide +kernel)
set_option maxRecDepth 20000 in
theorem wg_wsX00 : ∀ w ∈ wsX00, goodWord w = true := List.all_eq_true.mp (by decide +kernel)
set_option maxRecDepth 20000 in
theorem wsL_good : ∀ w ∈ wsL_law, goodWord w = true := by
  unfold wsL_law
  exact List.forall_mem_append.mpr ⟨List.forall_mem_append.mpr ⟨List.forall_mem_append.mpr ⟨List.forall_mem_append.mpr ⟨List.forall_mem_append.mpr ⟨List.forall_mem_append.mpr ⟨List.forall_mem_append.mpr ⟨wg_1, List.forall_mem_append.mpr ⟨wg_2, List.forall_mem_append.mpr ⟨wg_3, List.forall_mem_append.mpr ⟨wg_4, List.forall_mem_append.mpr ⟨wg_5, List.forall_mem_append.mpr ⟨wg_6, List.forall_mem_append.mpr ⟨wg_7, List.forall_mem_append.mpr ⟨wg_8, List.forall_mem_append.mpr ⟨wg_9, List.forall_mem_append.mpr ⟨wg_10, List.forall_mem_append.mpr ⟨wg_11, List.forall_mem_append.mpr ⟨wg_12, List.forall_mem_append.mpr ⟨wg_13, List.forall_mem_append.mpr ⟨wg_14, List.forall_mem_append.mpr ⟨wg_15, List.forall_mem_append.mpr ⟨wg_16, List.forall_mem_append.mpr ⟨wg_17, List.forall_mem_append.mpr ⟨wg_18, List.forall_mem_append.mpr ⟨wg_19, List.forall_mem_append.mpr ⟨wg_20, List.forall_mem_append.mpr ⟨wg_21, List.forall_mem_append.mpr ⟨wg_22, List.forall_mem_append.mpr ⟨wg_23, List.forall_mem_append.mpr ⟨wg_24, List.forall_mem_append.mpr ⟨wg_25, wg_26⟩⟩⟩⟩⟩⟩⟩⟩⟩⟩⟩⟩⟩⟩⟩⟩⟩⟩⟩⟩⟩⟩⟩⟩⟩, wg_wsX30⟩, wg_wsX40⟩, wg_wsX20⟩, wg_wsX10⟩, wg_wsX00⟩, fun _ h => absurd h List.not_mem_nil⟩
set_option maxRecDepth 20000 in
theorem wq_1_0 : Cond.classLink RL 7 RX3 ∈ wsL_law := wl_1 _ (List.mem_of_getElem? (i := 0) rfl)
set_option maxRecDepth 20000 in
theorem wq_1_1 : Cond.instantiable RX3 10 ∈ wsL_law := wl_1 _ (List.mem_of_getElem? (i := 1) rfl)
set_option maxRecDepth 20000 in
theorem wq_1_2 : Cond.initialized RX3 ∈ wsL_law := wl_1 _ (List.mem_of_getElem? (i := 2) rfl)
set_option maxRecDepth 20000 in
theorem wq_1_3 : Cond.classLink RL 10 RX4 ∈ wsL_law := wl_1 _ (List.mem_of_getElem? (i := 3) rfl)
set_option maxRecDepth 20000 in
theorem wq_1_4 : Cond.instantiable RX4 17 ∈ wsL_law := wl_1 _ (List.mem_of_getElem? (i := 4) rfl)
set_option maxRecDepth 20000 in
theorem wq_1_5 : Cond.initialized RX4 ∈ wsL_law := wl_1 _ (List.mem_of_getElem? (i := 5) rfl)
set_option maxRecDepth 20000 in
theorem wq_1_6 : Cond.methodLink RL 9 yX3_init ∈ wsL_law := wl_1 _ (List.mem_of_getElem? (i := 6) rfl)
set_option maxRecDepth 20000 in
theorem wq_1_7 : Cond.instanceMethod yX3_init ∈ wsL_law := wl_1 _ (List.mem_of_getElem? (i := 7) rfl)
set_option maxRecDepth 20000 in
theorem wq_1_8 : Cond.code yX3_init cX3_init 2 none ∈ wsL_law := wl_1 _ (List.mem_of_getElem? (i := 8) rfl)
set_option maxRecDepth 20000 in
theorem wq_1_9 : Cond.methodLink RX3 1 objectInit ∈ wsL_law := wl_1 _ (List.mem_of_getElem? (i := 9) rfl)
set_option maxRecDepth 20000 in
theorem wq_1_10 : Cond.instanceMethod objectInit ∈ wsL_law := wl_1 _ (List.mem_of_getElem? (i := 10) rfl)
set_option maxRecDepth 20000 in
theorem wq_1_11 : Cond.code objectInit ⟨#[0xb1]⟩ 1 none ∈ wsL_law := wl_1 _ (List.mem_of_getElem? (i := 11) rfl)
set_option maxRecDepth 20000 in
theorem wq_1_12 : Cond.classLink RX3 7 RX2 ∈ wsL_law := wl_1 _ (List.mem_of_getElem? (i := 12) rfl)
set_option maxRecDepth 20000 in
theorem wq_1_13 : Cond.instantiable RX2 9 ∈ wsL_law := wl_1 _ (List.mem_of_getElem? (i := 13) rfl)
set_option maxRecDepth 20000 in
theorem wq_1_14 : Cond.initialized RX2 ∈ wsL_law := wl_1 _ (List.mem_of_getElem? (i := 14) rfl)
set_option maxRecDepth 20000 in
theorem wq_1_15 : Cond.fieldLink RX3 10 "CupFountain" "now" "LCupFountain$State;" ∈ wsL_law := wl_1 _ (List.mem_of_getElem? (i := 15) rfl)
set_option maxRecDepth 20000 in
theorem wq_1_16 : Cond.fieldLink RX3 16 "CupFountain" "ahead" "LCupFountain$State;" ∈ wsL_law := wl_1 _ (List.mem_of_getElem? (i := 16) rfl)
set_option maxRecDepth 20000 in
theorem wq_1_17 : Cond.fieldLink RX3 19 "CupFountain" "before" "LCupFountain$State;" ∈ wsL_law := wl_1 _ (List.mem_of_getElem? (i := 17) rfl)
set_option maxRecDepth 20000 in
theorem wq_1_18 : Cond.fieldLink RX3 22 "CupFountain" "snapshot" "LCupFountain$State;" ∈ wsL_law := wl_1 _ (List.mem_of_getElem? (i := 18) rfl)
set_option maxRecDepth 20000 in
theorem wq_1_19 : Cond.fieldLink RX3 25 "CupFountain" "past" "[LCupFountain$State;" ∈ wsL_law := wl_1 _ (List.mem_of_getElem? (i := 19) rfl)
set_option maxRecDepth 20000 in
theorem wq_1_20 : Cond.classLink RX3 29 RX1 ∈ wsL_law := wl_1 _ (List.mem_of_getElem? (i := 20) rfl)
set_option maxRecDepth 20000 in
theorem wq_1_21 : Cond.instantiable RX1 7 ∈ wsL_law := wl_1 _ (List.mem_of_getElem? (i := 21) rfl)
set_option maxRecDepth 20000 in
theorem wq_1_22 : Cond.initialized RX1 ∈ wsL_law := wl_1 _ (List.mem_of_getElem? (i := 22) rfl)
set_option maxRecDepth 20000 in
theorem wq_1_23 : Cond.fieldLink RX3 32 "CupFountain" "plan" "LCupFountain$Plan;" ∈ wsL_law := wl_1 _ (List.mem_of_getElem? (i := 23) rfl)
set_option maxRecDepth 20000 in
theorem wq_2_0 : Cond.fieldLink RX3 36 "CupFountain" "pastCount" "I" ∈ wsL_law := wl_2 _ (List.mem_of_getElem? (i := 0) rfl)
set_option maxRecDepth 20000 in
theorem wq_2_1 : Cond.fieldLink RX3 40 "CupFountain" "hasSnapshot" "Z" ∈ wsL_law := wl_2 _ (List.mem_of_getElem? (i := 1) rfl)
set_option maxRecDepth 20000 in
theorem wq_2_2 : Cond.fieldLink RX3 44 "CupFountain" "stopNumber" "I" ∈ wsL_law := wl_2 _ (List.mem_of_getElem? (i := 2) rfl)
set_option maxRecDepth 20000 in
theorem wq_2_3 : Cond.fieldLink RX3 47 "CupFountain" "stopError" "I" ∈ wsL_law := wl_2 _ (List.mem_of_getElem? (i := 3) rfl)
set_option maxRecDepth 20000 in
theorem wq_2_4 : Cond.methodLink RX3 9 yX2_init ∈ wsL_law := wl_2 _ (List.mem_of_getElem? (i := 4) rfl)
set_option maxRecDepth 20000 in
theorem wq_2_5 : Cond.instanceMethod yX2_init ∈ wsL_law := wl_2 _ (List.mem_of_getElem? (i := 5) rfl)
set_option maxRecDepth 20000 in
theorem wq_2_6 : Cond.code yX2_init cX2_init 2 none ∈ wsL_law := wl_2 _ (List.mem_of_getElem? (i := 6) rfl)
set_option maxRecDepth 20000 in
theorem wq_2_7 : Cond.methodLink RX2 3 objectInit ∈ wsL_law := wl_2 _ (List.mem_of_getElem? (i := 7) rfl)
set_option maxRecDepth 20000 in
theorem wq_2_8 : Cond.classLink RX2 9 RX0 ∈ wsL_law := wl_2 _ (List.mem_of_getElem? (i := 8) rfl)
set_option maxRecDepth 20000 in
theorem wq_2_9 : Cond.fieldLink RX2 11 "CupFountain$State" "cups" "[LCupFountain$Cup;" ∈ wsL_law := wl_2 _ (List.mem_of_getElem? (i := 9) rfl)
set_option maxRecDepth 20000 in
theorem wq_2_10 : Cond.fieldLink RX2 17 "CupFountain$State" "tick" "I" ∈ wsL_law := wl_2 _ (List.mem_of_getElem? (i := 10) rfl)
set_option maxRecDepth 20000 in
theorem wq_2_11 : Cond.fieldLink RX2 21 "CupFountain$State" "spring" "I" ∈ wsL_law := wl_2 _ (List.mem_of_getElem? (i := 11) rfl)
set_option maxRecDepth 20000 in
theorem wq_2_12 : Cond.fieldLink RX2 24 "CupFountain$State" "comesBack" "I" ∈ wsL_law := wl_2 _ (List.mem_of_getElem? (i := 12) rfl)
set_option maxRecDepth 20000 in
theorem wq_2_13 : Cond.fieldLink RX2 27 "CupFountain$State" "day" "I" ∈ wsL_law := wl_2 _ (List.mem_of_getElem? (i := 13) rfl)
set_option maxRecDepth 20000 in
theorem wq_2_14 : Cond.fieldLink RX2 30 "CupFountain$State" "basin" "I" ∈ wsL_law := wl_2 _ (List.mem_of_getElem? (i := 14) rfl)
set_option maxRecDepth 20000 in
theorem wq_2_15 : Cond.fieldLink RX2 33 "CupFountain$State" "lost" "I" ∈ wsL_law := wl_2 _ (List.mem_of_getElem? (i := 15) rfl)
set_option maxRecDepth 20000 in
theorem wq_2_16 : Cond.fieldLink RX2 36 "CupFountain$State" "sprung" "I" ∈ wsL_law := wl_2 _ (List.mem_of_getElem? (i := 16) rfl)
set_option maxRecDepth 20000 in
theorem wq_2_17 : Cond.fieldLink RX2 39 "CupFountain$State" "filled" "I" ∈ wsL_law := wl_2 _ (List.mem_of_getElem? (i := 17) rfl)
set_option maxRecDepth 20000 in
theorem wq_2_18 : Cond.instantiable RX0 12 ∈ wsL_law := wl_2 _ (List.mem_of_getElem? (i := 18) rfl)
set_option maxRecDepth 20000 in
theorem wq_2_19 : Cond.initialized RX0 ∈ wsL_law := wl_2 _ (List.mem_of_getElem? (i := 19) rfl)
set_option maxRecDepth 20000 in
theorem wq_2_20 : Cond.methodLink RX2 42 yX0_init ∈ wsL_law := wl_2 _ (List.mem_of_getElem? (i := 20) rfl)
set_option maxRecDepth 20000 in
theorem wq_2_21 : Cond.instanceMethod yX0_init ∈ wsL_law := wl_2 _ (List.mem_of_getElem? (i := 21) rfl)
set_option maxRecDepth 20000 in
theorem wq_2_22 : Cond.code yX0_init cX0_init 2 none ∈ wsL_law := wl_2 _ (List.mem_of_getElem? (i := 22) rfl)
set_option maxRecDepth 20000 in
theorem wq_2_23 : Cond.methodLink RX0 3 objectInit ∈ wsL_law := wl_2 _ (List.mem_of_getElem? (i := 23) rfl)
set_option maxRecDepth 20000 in
theorem wq_3_0 : Cond.fieldLink RX0 9 "CupFountain$Cup" "size" "I" ∈ wsL_law := wl_3 _ (List.mem_of_getElem? (i := 0) rfl)
set_option maxRecDepth 20000 in
theorem wq_3_1 : Cond.fieldLink RX0 15 "CupFountain$Cup" "leak" "I" ∈ wsL_law := wl_3 _ (List.mem_of_getElem? (i := 1) rfl)
set_option maxRecDepth 20000 in
theorem wq_3_2 : Cond.fieldLink RX0 18 "CupFountain$Cup" "water" "I" ∈ wsL_law := wl_3 _ (List.mem_of_getElem? (i := 2) rfl)
set_option maxRecDepth 20000 in
theorem wq_3_3 : Cond.fieldLink RX0 21 "CupFountain$Cup" "hour" "I" ∈ wsL_law := wl_3 _ (List.mem_of_getElem? (i := 3) rfl)
set_option maxRecDepth 20000 in
theorem wq_3_4 : Cond.fieldLink RX0 24 "CupFountain$Cup" "open" "Z" ∈ wsL_law := wl_3 _ (List.mem_of_getElem? (i := 4) rfl)
set_option maxRecDepth 20000 in
theorem wq_3_5 : Cond.fieldLink RX0 28 "CupFountain$Cup" "guarded" "Z" ∈ wsL_law := wl_3 _ (List.mem_of_getElem? (i := 5) rfl)
set_option maxRecDepth 20000 in
theorem wq_3_6 : Cond.fieldLink RX0 31 "CupFountain$Cup" "jet" "I" ∈ wsL_law := wl_3 _ (List.mem_of_getElem? (i := 6) rfl)
set_option maxRecDepth 20000 in
theorem wq_3_7 : Cond.fieldLink RX0 34 "CupFountain$Cup" "tips" "I" ∈ wsL_law := wl_3 _ (List.mem_of_getElem? (i := 7) rfl)
set_option maxRecDepth 20000 in
theorem wq_3_8 : Cond.fieldLink RX0 37 "CupFountain$Cup" "onTime" "I" ∈ wsL_law := wl_3 _ (List.mem_of_getElem? (i := 8) rfl)
set_option maxRecDepth 20000 in
theorem wq_3_9 : Cond.fieldLink RX0 40 "CupFountain$Cup" "early" "I" ∈ wsL_law := wl_3 _ (List.mem_of_getElem? (i := 9) rfl)
set_option maxRecDepth 20000 in
theorem wq_3_10 : Cond.fieldLink RX0 43 "CupFountain$Cup" "late" "I" ∈ wsL_law := wl_3 _ (List.mem_of_getElem? (i := 10) rfl)
set_option maxRecDepth 20000 in
theorem wq_3_11 : Cond.fieldLink RX0 46 "CupFountain$Cup" "next" "I" ∈ wsL_law := wl_3 _ (List.mem_of_getElem? (i := 11) rfl)
set_option maxRecDepth 20000 in
theorem wq_3_12 : Cond.instanceMethod yX1_init ∈ wsL_law := wl_3 _ (List.mem_of_getElem? (i := 12) rfl)
set_option maxRecDepth 20000 in
theorem wq_3_13 : Cond.code yX1_init cX1_init 1 none ∈ wsL_law := wl_3 _ (List.mem_of_getElem? (i := 13) rfl)
set_option maxRecDepth 20000 in
theorem wq_3_14 : Cond.methodLink RX1 3 objectInit ∈ wsL_law := wl_3 _ (List.mem_of_getElem? (i := 14) rfl)
set_option maxRecDepth 20000 in
theorem wq_3_15 : Cond.arrayClass .char ∈ wsL_law := wl_3 _ (List.mem_of_getElem? (i := 15) rfl)
set_option maxRecDepth 20000 in
theorem wq_3_16 : Cond.fieldLink RX1 9 "CupFountain$Plan" "text" "[C" ∈ wsL_law := wl_3 _ (List.mem_of_getElem? (i := 16) rfl)
set_option maxRecDepth 20000 in
theorem wq_3_17 : Cond.fieldLink RX1 15 "CupFountain$Plan" "length" "I" ∈ wsL_law := wl_3 _ (List.mem_of_getElem? (i := 17) rfl)
set_option maxRecDepth 20000 in
theorem wq_3_18 : Cond.arrayClass .int ∈ wsL_law := wl_3 _ (List.mem_of_getElem? (i := 18) rfl)
set_option maxRecDepth 20000 in
theorem wq_3_19 : Cond.fieldLink RX1 19 "CupFountain$Plan" "kinds" "[I" ∈ wsL_law := wl_3 _ (List.mem_of_getElem? (i := 19) rfl)
set_option maxRecDepth 20000 in
theorem wq_3_20 : Cond.fieldLink RX1 23 "CupFountain$Plan" "whose" "[I" ∈ wsL_law := wl_3 _ (List.mem_of_getElem? (i := 20) rfl)
set_option maxRecDepth 20000 in
theorem wq_3_21 : Cond.fieldLink RX1 26 "CupFountain$Plan" "numbers" "[I" ∈ wsL_law := wl_3 _ (List.mem_of_getElem? (i := 21) rfl)
set_option maxRecDepth 20000 in
theorem wq_3_22 : Cond.fieldLink RX1 29 "CupFountain$Plan" "things" "I" ∈ wsL_law := wl_3 _ (List.mem_of_getElem? (i := 22) rfl)
set_option maxRecDepth 20000 in
theorem wq_3_23 : Cond.fieldLink RX1 32 "CupFountain$Plan" "place" "I" ∈ wsL_law := wl_3 _ (List.mem_of_getElem? (i := 23) rfl)
set_option maxRecDepth 20000 in
theorem wq_4_0 : Cond.methodLink RL 12 yX4_init ∈ wsL_law := wl_4 _ (List.mem_of_getElem? (i := 0) rfl)
set_option maxRecDepth 20000 in
theorem wq_4_1 : Cond.instanceMethod yX4_init ∈ wsL_law := wl_4 _ (List.mem_of_getElem? (i := 1) rfl)
set_option maxRecDepth 20000 in
theorem wq_4_2 : Cond.code yX4_init cX4_init 2 none ∈ wsL_law := wl_4 _ (List.mem_of_getElem? (i := 2) rfl)
set_option maxRecDepth 20000 in
theorem wq_4_3 : Cond.methodLink RX4 1 objectInit ∈ wsL_law := wl_4 _ (List.mem_of_getElem? (i := 3) rfl)
set_option maxRecDepth 20000 in
theorem wq_4_4 : Cond.fieldLink RX4 7 "CupFountainModel" "s" "[I" ∈ wsL_law := wl_4 _ (List.mem_of_getElem? (i := 4) rfl)
set_option maxRecDepth 20000 in
theorem wq_4_5 : Cond.fieldLink RX4 13 "CupFountainModel" "history" "[I" ∈ wsL_law := wl_4 _ (List.mem_of_getElem? (i := 5) rfl)
set_option maxRecDepth 20000 in
theorem wq_4_6 : Cond.fieldLink RX4 16 "CupFountainModel" "snapshot" "[I" ∈ wsL_law := wl_4 _ (List.mem_of_getElem? (i := 6) rfl)
set_option maxRecDepth 20000 in
theorem wq_4_7 : Cond.fieldLink RX4 19 "CupFountainModel" "before" "[I" ∈ wsL_law := wl_4 _ (List.mem_of_getElem? (i := 7) rfl)
set_option maxRecDepth 20000 in
theorem wq_4_8 : Cond.fieldLink RX4 22 "CupFountainModel" "text" "[C" ∈ wsL_law := wl_4 _ (List.mem_of_getElem? (i := 8) rfl)
set_option maxRecDepth 20000 in
theorem wq_4_9 : Cond.fieldLink RX4 26 "CupFountainModel" "stoppedAt" "I" ∈ wsL_law := wl_4 _ (List.mem_of_getElem? (i := 9) rfl)
set_option maxRecDepth 20000 in
theorem wq_4_10 : Cond.arrayClass .boolean ∈ wsL_law := wl_4 _ (List.mem_of_getElem? (i := 10) rfl)
set_option maxRecDepth 20000 in
theorem wq_4_11 : Cond.fieldLink RX4 30 "CupFountainModel" "tipped" "[Z" ∈ wsL_law := wl_4 _ (List.mem_of_getElem? (i := 11) rfl)
set_option maxRecDepth 20000 in
theorem wq_4_12 : Cond.methodLink RX4 34 yX4_lay ∈ wsL_law := wl_4 _ (List.mem_of_getElem? (i := 12) rfl)
set_option maxRecDepth 20000 in
theorem wq_4_13 : Cond.instanceMethod yX4_lay ∈ wsL_law := wl_4 _ (List.mem_of_getElem? (i := 13) rfl)
set_option maxRecDepth 20000 in
theorem wq_4_14 : Cond.selects RX4 yX4_lay yX4_lay ∈ wsL_law := wl_4 _ (List.mem_of_getElem? (i := 14) rfl)
set_option maxRecDepth 20000 in
theorem wq_4_15 : Cond.code yX4_lay cX4_lay 4 none ∈ wsL_law := wl_4 _ (List.mem_of_getElem? (i := 15) rfl)
set_option maxRecDepth 20000 in
theorem wq_4_16 : Cond.methodLink RL 13 yX3_setCup ∈ wsL_law := wl_4 _ (List.mem_of_getElem? (i := 16) rfl)
set_option maxRecDepth 20000 in
theorem wq_4_17 : Cond.instanceMethod yX3_setCup ∈ wsL_law := wl_4 _ (List.mem_of_getElem? (i := 17) rfl)
set_option maxRecDepth 20000 in
theorem wq_4_18 : Cond.selects RX3 yX3_setCup yX3_setCup ∈ wsL_law := wl_4 _ (List.mem_of_getElem? (i := 18) rfl)
set_option maxRecDepth 20000 in
theorem wq_4_19 : Cond.code yX3_setCup cX3_setCup 4 (some .int) ∈ wsL_law := wl_4 _ (List.mem_of_getElem? (i := 19) rfl)
set_option maxRecDepth 20000 in
theorem wq_4_20 : Cond.methodLink RX3 50 yX2_copyFrom ∈ wsL_law := wl_4 _ (List.mem_of_getElem? (i := 20) rfl)
set_option maxRecDepth 20000 in
theorem wq_4_21 : Cond.instanceMethod yX2_copyFrom ∈ wsL_law := wl_4 _ (List.mem_of_getElem? (i := 21) rfl)
set_option maxRecDepth 20000 in
theorem wq_4_22 : Cond.selects RX2 yX2_copyFrom yX2_copyFrom ∈ wsL_law := wl_4 _ (List.mem_of_getElem? (i := 22) rfl)
set_option maxRecDepth 20000 in
theorem wq_4_23 : Cond.code yX2_copyFrom cX2_copyFrom 3 none ∈ wsL_law := wl_4 _ (List.mem_of_getElem? (i := 23) rfl)
set_option maxRecDepth 20000 in
theorem wq_5_0 : Cond.methodLink RX2 45 yX0_copyFrom ∈ wsL_law := wl_5 _ (List.mem_of_getElem? (i := 0) rfl)
set_option maxRecDepth 20000 in
theorem wq_5_1 : Cond.instanceMethod yX0_copyFrom ∈ wsL_law := wl_5 _ (List.mem_of_getElem? (i := 1) rfl)
set_option maxRecDepth 20000 in
theorem wq_5_2 : Cond.selects RX0 yX0_copyFrom yX0_copyFrom ∈ wsL_law := wl_5 _ (List.mem_of_getElem? (i := 2) rfl)
set_option maxRecDepth 20000 in
theorem wq_5_3 : Cond.code yX0_copyFrom cX0_copyFrom 2 none ∈ wsL_law := wl_5 _ (List.mem_of_getElem? (i := 3) rfl)
set_option maxRecDepth 20000 in
theorem wq_5_4 : Cond.methodLink RX3 54 yX2_changeCup ∈ wsL_law := wl_5 _ (List.mem_of_getElem? (i := 4) rfl)
set_option maxRecDepth 20000 in
theorem wq_5_5 : Cond.instanceMethod yX2_changeCup ∈ wsL_law := wl_5 _ (List.mem_of_getElem? (i := 5) rfl)
set_option maxRecDepth 20000 in
theorem wq_5_6 : Cond.selects RX2 yX2_changeCup yX2_changeCup ∈ wsL_law := wl_5 _ (List.mem_of_getElem? (i := 6) rfl)
set_option maxRecDepth 20000 in
theorem wq_5_7 : Cond.code yX2_changeCup cX2_changeCup 6 (some .int) ∈ wsL_law := wl_5 _ (List.mem_of_getElem? (i := 7) rfl)
set_option maxRecDepth 20000 in
theorem wq_5_8 : Cond.fieldLink RX2 61 "CupFountain$Cup" "size" "I" ∈ wsL_law := wl_5 _ (List.mem_of_getElem? (i := 8) rfl)
set_option maxRecDepth 20000 in
theorem wq_5_9 : Cond.fieldLink RX2 64 "CupFountain$Cup" "leak" "I" ∈ wsL_law := wl_5 _ (List.mem_of_getElem? (i := 9) rfl)
set_option maxRecDepth 20000 in
theorem wq_5_10 : Cond.fieldLink RX2 67 "CupFountain$Cup" "next" "I" ∈ wsL_law := wl_5 _ (List.mem_of_getElem? (i := 10) rfl)
set_option maxRecDepth 20000 in
theorem wq_5_11 : Cond.methodLink RX2 49 yX2_find ∈ wsL_law := wl_5 _ (List.mem_of_getElem? (i := 11) rfl)
set_option maxRecDepth 20000 in
theorem wq_5_12 : Cond.instanceMethod yX2_find ∈ wsL_law := wl_5 _ (List.mem_of_getElem? (i := 12) rfl)
set_option maxRecDepth 20000 in
theorem wq_5_13 : Cond.selects RX2 yX2_find yX2_find ∈ wsL_law := wl_5 _ (List.mem_of_getElem? (i := 13) rfl)
set_option maxRecDepth 20000 in
theorem wq_5_14 : Cond.code yX2_find cX2_find 2 (some (.object "CupFountain$Cup")) ∈ wsL_law := wl_5 _ (List.mem_of_getElem? (i := 14) rfl)
set_option maxRecDepth 20000 in
theorem wq_5_15 : Cond.methodLink RX2 53 yX2_isCupValue ∈ wsL_law := wl_5 _ (List.mem_of_getElem? (i := 15) rfl)
set_option maxRecDepth 20000 in
theorem wq_5_16 : Cond.static yX2_isCupValue ∈ wsL_law := wl_5 _ (List.mem_of_getElem? (i := 16) rfl)
set_option maxRecDepth 20000 in
theorem wq_5_17 : Cond.code yX2_isCupValue cX2_isCupValue 3 (some .boolean) ∈ wsL_law := wl_5 _ (List.mem_of_getElem? (i := 17) rfl)
set_option maxRecDepth 20000 in
theorem wq_5_18 : Cond.static yX3_isWithin ∈ wsL_law := wl_5 _ (List.mem_of_getElem? (i := 18) rfl)
set_option maxRecDepth 20000 in
theorem wq_5_19 : Cond.code yX3_isWithin cX3_isWithin 3 (some .boolean) ∈ wsL_law := wl_5 _ (List.mem_of_getElem? (i := 19) rfl)
set_option maxRecDepth 20000 in
theorem wq_5_20 : Cond.methodLink RX2 57 yX0_tell ∈ wsL_law := wl_5 _ (List.mem_of_getElem? (i := 20) rfl)
set_option maxRecDepth 20000 in
theorem wq_5_21 : Cond.instanceMethod yX0_tell ∈ wsL_law := wl_5 _ (List.mem_of_getElem? (i := 21) rfl)
set_option maxRecDepth 20000 in
theorem wq_5_22 : Cond.selects RX0 yX0_tell yX0_tell ∈ wsL_law := wl_5 _ (List.mem_of_getElem? (i := 22) rfl)
set_option maxRecDepth 20000 in
theorem wq_5_23 : Cond.code yX0_tell cX0_tell 2 (some .int) ∈ wsL_law := wl_5 _ (List.mem_of_getElem? (i := 23) rfl)
set_option maxRecDepth 20000 in
theorem wq_6_0 : Cond.static yX3_asNumber ∈ wsL_law := wl_6 _ (List.mem_of_getElem? (i := 0) rfl)
set_option maxRecDepth 20000 in
theorem wq_6_1 : Cond.code yX3_asNumber cX3_asNumber 1 (some .int) ∈ wsL_law := wl_6 _ (List.mem_of_getElem? (i := 1) rfl)
set_option maxRecDepth 20000 in
theorem wq_6_2 : Cond.methodLink RX3 58 yX3_recorded ∈ wsL_law := wl_6 _ (List.mem_of_getElem? (i := 2) rfl)
set_option maxRecDepth 20000 in
theorem wq_6_3 : Cond.instanceMethod yX3_recorded ∈ wsL_law := wl_6 _ (List.mem_of_getElem? (i := 3) rfl)
set_option maxRecDepth 20000 in
theorem wq_6_4 : Cond.selects RX3 yX3_recorded yX3_recorded ∈ wsL_law := wl_6 _ (List.mem_of_getElem? (i := 4) rfl)
set_option maxRecDepth 20000 in
theorem wq_6_5 : Cond.code yX3_recorded cX3_recorded 2 (some .int) ∈ wsL_law := wl_6 _ (List.mem_of_getElem? (i := 5) rfl)
set_option maxRecDepth 20000 in
theorem wq_6_6 : Cond.methodLink RX3 160 yX3_dropOldest ∈ wsL_law := wl_6 _ (List.mem_of_getElem? (i := 6) rfl)
set_option maxRecDepth 20000 in
theorem wq_6_7 : Cond.instanceMethod yX3_dropOldest ∈ wsL_law := wl_6 _ (List.mem_of_getElem? (i := 7) rfl)
set_option maxRecDepth 20000 in
theorem wq_6_8 : Cond.selects RX3 yX3_dropOldest yX3_dropOldest ∈ wsL_law := wl_6 _ (List.mem_of_getElem? (i := 8) rfl)
set_option maxRecDepth 20000 in
theorem wq_6_9 : Cond.code yX3_dropOldest cX3_dropOldest 3 none ∈ wsL_law := wl_6 _ (List.mem_of_getElem? (i := 9) rfl)
set_option maxRecDepth 20000 in
theorem wq_6_10 : Cond.methodLink RL 17 yX4_setCup ∈ wsL_law := wl_6 _ (List.mem_of_getElem? (i := 10) rfl)
set_option maxRecDepth 20000 in
theorem wq_6_11 : Cond.instanceMethod yX4_setCup ∈ wsL_law := wl_6 _ (List.mem_of_getElem? (i := 11) rfl)
set_option maxRecDepth 20000 in
theorem wq_6_12 : Cond.selects RX4 yX4_setCup yX4_setCup ∈ wsL_law := wl_6 _ (List.mem_of_getElem? (i := 12) rfl)
set_option maxRecDepth 20000 in
theorem wq_6_13 : Cond.code yX4_setCup cX4_setCup 4 (some .int) ∈ wsL_law := wl_6 _ (List.mem_of_getElem? (i := 13) rfl)
set_option maxRecDepth 20000 in
theorem wq_6_14 : Cond.methodLink RX4 88 yX4_begin ∈ wsL_law := wl_6 _ (List.mem_of_getElem? (i := 14) rfl)
set_option maxRecDepth 20000 in
theorem wq_6_15 : Cond.instanceMethod yX4_begin ∈ wsL_law := wl_6 _ (List.mem_of_getElem? (i := 15) rfl)
set_option maxRecDepth 20000 in
theorem wq_6_16 : Cond.selects RX4 yX4_begin yX4_begin ∈ wsL_law := wl_6 _ (List.mem_of_getElem? (i := 16) rfl)
set_option maxRecDepth 20000 in
theorem wq_6_17 : Cond.code yX4_begin cX4_begin 1 none ∈ wsL_law := wl_6 _ (List.mem_of_getElem? (i := 17) rfl)
set_option maxRecDepth 20000 in
theorem wq_6_18 : Cond.methodLink RX4 45 yX4_copy ∈ wsL_law := wl_6 _ (List.mem_of_getElem? (i := 18) rfl)
set_option maxRecDepth 20000 in
theorem wq_6_19 : Cond.static yX4_copy ∈ wsL_law := wl_6 _ (List.mem_of_getElem? (i := 19) rfl)
set_option maxRecDepth 20000 in
theorem wq_6_20 : Cond.code yX4_copy cX4_copy 5 none ∈ wsL_law := wl_6 _ (List.mem_of_getElem? (i := 20) rfl)
set_option maxRecDepth 20000 in
theorem wq_6_21 : Cond.methodLink RX4 91 yX4_doSetCup ∈ wsL_law := wl_6 _ (List.mem_of_getElem? (i := 21) rfl)
set_option maxRecDepth 20000 in
theorem wq_6_22 : Cond.instanceMethod yX4_doSetCup ∈ wsL_law := wl_6 _ (List.mem_of_getElem? (i := 22) rfl)
set_option maxRecDepth 20000 in
theorem wq_6_23 : Cond.selects RX4 yX4_doSetCup yX4_doSetCup ∈ wsL_law := wl_6 _ (List.mem_of_getElem? (i := 23) rfl)
set_option maxRecDepth 20000 in
theorem wq_7_0 : Cond.code yX4_doSetCup cX4_doSetCup 5 (some .int) ∈ wsL_law := wl_7 _ (List.mem_of_getElem? (i := 0) rfl)
set_option maxRecDepth 20000 in
theorem wq_7_1 : Cond.methodLink RX4 71 yX4_isCup ∈ wsL_law := wl_7 _ (List.mem_of_getElem? (i := 1) rfl)
set_option maxRecDepth 20000 in
theorem wq_7_2 : Cond.static yX4_isCup ∈ wsL_law := wl_7 _ (List.mem_of_getElem? (i := 2) rfl)
set_option maxRecDepth 20000 in
theorem wq_7_3 : Cond.code yX4_isCup cX4_isCup 1 (some .boolean) ∈ wsL_law := wl_7 _ (List.mem_of_getElem? (i := 3) rfl)
set_option maxRecDepth 20000 in
theorem wq_7_4 : Cond.methodLink RX4 38 yX4_in ∈ wsL_law := wl_7 _ (List.mem_of_getElem? (i := 4) rfl)
set_option maxRecDepth 20000 in
theorem wq_7_5 : Cond.static yX4_in ∈ wsL_law := wl_7 _ (List.mem_of_getElem? (i := 5) rfl)
set_option maxRecDepth 20000 in
theorem wq_7_6 : Cond.code yX4_in cX4_in 3 (some .boolean) ∈ wsL_law := wl_7 _ (List.mem_of_getElem? (i := 6) rfl)
set_option maxRecDepth 20000 in
theorem wq_7_7 : Cond.methodLink RX4 74 yX4_isValue ∈ wsL_law := wl_7 _ (List.mem_of_getElem? (i := 7) rfl)
set_option maxRecDepth 20000 in
theorem wq_7_8 : Cond.static yX4_isValue ∈ wsL_law := wl_7 _ (List.mem_of_getElem? (i := 8) rfl)
set_option maxRecDepth 20000 in
theorem wq_7_9 : Cond.code yX4_isValue cX4_isValue 3 (some .boolean) ∈ wsL_law := wl_7 _ (List.mem_of_getElem? (i := 9) rfl)
set_option maxRecDepth 20000 in
theorem wq_7_10 : Cond.methodLink RX4 49 yX4_of ∈ wsL_law := wl_7 _ (List.mem_of_getElem? (i := 10) rfl)
set_option maxRecDepth 20000 in
theorem wq_7_11 : Cond.instanceMethod yX4_of ∈ wsL_law := wl_7 _ (List.mem_of_getElem? (i := 11) rfl)
set_option maxRecDepth 20000 in
theorem wq_7_12 : Cond.selects RX4 yX4_of yX4_of ∈ wsL_law := wl_7 _ (List.mem_of_getElem? (i := 12) rfl)
set_option maxRecDepth 20000 in
theorem wq_7_13 : Cond.code yX4_of cX4_of 3 (some .int) ∈ wsL_law := wl_7 _ (List.mem_of_getElem? (i := 13) rfl)
set_option maxRecDepth 20000 in
theorem wq_7_14 : Cond.methodLink RX4 95 yX4_act ∈ wsL_law := wl_7 _ (List.mem_of_getElem? (i := 14) rfl)
set_option maxRecDepth 20000 in
theorem wq_7_15 : Cond.instanceMethod yX4_act ∈ wsL_law := wl_7 _ (List.mem_of_getElem? (i := 15) rfl)
set_option maxRecDepth 20000 in
theorem wq_7_16 : Cond.selects RX4 yX4_act yX4_act ∈ wsL_law := wl_7 _ (List.mem_of_getElem? (i := 16) rfl)
set_option maxRecDepth 20000 in
theorem wq_7_17 : Cond.code yX4_act cX4_act 2 (some .int) ∈ wsL_law := wl_7 _ (List.mem_of_getElem? (i := 17) rfl)
set_option maxRecDepth 20000 in
theorem wq_7_18 : Cond.methodLink RX4 84 yX4_recordFrom ∈ wsL_law := wl_7 _ (List.mem_of_getElem? (i := 18) rfl)
set_option maxRecDepth 20000 in
theorem wq_7_19 : Cond.instanceMethod yX4_recordFrom ∈ wsL_law := wl_7 _ (List.mem_of_getElem? (i := 19) rfl)
set_option maxRecDepth 20000 in
theorem wq_7_20 : Cond.selects RX4 yX4_recordFrom yX4_recordFrom ∈ wsL_law := wl_7 _ (List.mem_of_getElem? (i := 20) rfl)
set_option maxRecDepth 20000 in
theorem wq_7_21 : Cond.code yX4_recordFrom cX4_recordFrom 3 none ∈ wsL_law := wl_7 _ (List.mem_of_getElem? (i := 21) rfl)
set_option maxRecDepth 20000 in
theorem wq_7_22 : Cond.fieldLink RX4 42 "CupFountainModel" "kept" "I" ∈ wsL_law := wl_7 _ (List.mem_of_getElem? (i := 22) rfl)
set_option maxRecDepth 20000 in
theorem wq_7_23 : Cond.methodLink RL 18 yX3_turnLock ∈ wsL_law := wl_7 _ (List.mem_of_getElem? (i := 23) rfl)
set_option maxRecDepth 20000 in
theorem wq_8_0 : Cond.instanceMethod yX3_turnLock ∈ wsL_law := wl_8 _ (List.mem_of_getElem? (i := 0) rfl)
set_option maxRecDepth 20000 in
theorem wq_8_1 : Cond.selects RX3 yX3_turnLock yX3_turnLock ∈ wsL_law := wl_8 _ (List.mem_of_getElem? (i := 1) rfl)
set_option maxRecDepth 20000 in
theorem wq_8_2 : Cond.code yX3_turnLock cX3_turnLock 2 (some .int) ∈ wsL_law := wl_8 _ (List.mem_of_getElem? (i := 2) rfl)
set_option maxRecDepth 20000 in
theorem wq_8_3 : Cond.methodLink RX3 62 yX2_changeLock ∈ wsL_law := wl_8 _ (List.mem_of_getElem? (i := 3) rfl)
set_option maxRecDepth 20000 in
theorem wq_8_4 : Cond.instanceMethod yX2_changeLock ∈ wsL_law := wl_8 _ (List.mem_of_getElem? (i := 4) rfl)
set_option maxRecDepth 20000 in
theorem wq_8_5 : Cond.selects RX2 yX2_changeLock yX2_changeLock ∈ wsL_law := wl_8 _ (List.mem_of_getElem? (i := 5) rfl)
set_option maxRecDepth 20000 in
theorem wq_8_6 : Cond.code yX2_changeLock cX2_changeLock 3 (some .int) ∈ wsL_law := wl_8 _ (List.mem_of_getElem? (i := 6) rfl)
set_option maxRecDepth 20000 in
theorem wq_8_7 : Cond.fieldLink RX2 73 "CupFountain$Cup" "guarded" "Z" ∈ wsL_law := wl_8 _ (List.mem_of_getElem? (i := 7) rfl)
set_option maxRecDepth 20000 in
theorem wq_8_8 : Cond.fieldLink RX2 77 "CupFountain$Cup" "open" "Z" ∈ wsL_law := wl_8 _ (List.mem_of_getElem? (i := 8) rfl)
set_option maxRecDepth 20000 in
theorem wq_8_9 : Cond.methodLink RL 22 yX4_turnLock ∈ wsL_law := wl_8 _ (List.mem_of_getElem? (i := 9) rfl)
set_option maxRecDepth 20000 in
theorem wq_8_10 : Cond.instanceMethod yX4_turnLock ∈ wsL_law := wl_8 _ (List.mem_of_getElem? (i := 10) rfl)
set_option maxRecDepth 20000 in
theorem wq_8_11 : Cond.selects RX4 yX4_turnLock yX4_turnLock ∈ wsL_law := wl_8 _ (List.mem_of_getElem? (i := 11) rfl)
set_option maxRecDepth 20000 in
theorem wq_8_12 : Cond.code yX4_turnLock cX4_turnLock 2 (some .int) ∈ wsL_law := wl_8 _ (List.mem_of_getElem? (i := 12) rfl)
set_option maxRecDepth 20000 in
theorem wq_8_13 : Cond.methodLink RX4 98 yX4_doTurn ∈ wsL_law := wl_8 _ (List.mem_of_getElem? (i := 13) rfl)
set_option maxRecDepth 20000 in
theorem wq_8_14 : Cond.instanceMethod yX4_doTurn ∈ wsL_law := wl_8 _ (List.mem_of_getElem? (i := 14) rfl)
set_option maxRecDepth 20000 in
theorem wq_8_15 : Cond.selects RX4 yX4_doTurn yX4_doTurn ∈ wsL_law := wl_8 _ (List.mem_of_getElem? (i := 15) rfl)
set_option maxRecDepth 20000 in
theorem wq_8_16 : Cond.code yX4_doTurn cX4_doTurn 2 (some .int) ∈ wsL_law := wl_8 _ (List.mem_of_getElem? (i := 16) rfl)
set_option maxRecDepth 20000 in
theorem wq_8_17 : Cond.methodLink RL 23 yX3_setHour ∈ wsL_law := wl_8 _ (List.mem_of_getElem? (i := 17) rfl)
set_option maxRecDepth 20000 in
theorem wq_8_18 : Cond.instanceMethod yX3_setHour ∈ wsL_law := wl_8 _ (List.mem_of_getElem? (i := 18) rfl)
set_option maxRecDepth 20000 in
theorem wq_8_19 : Cond.selects RX3 yX3_setHour yX3_setHour ∈ wsL_law := wl_8 _ (List.mem_of_getElem? (i := 19) rfl)
set_option maxRecDepth 20000 in
theorem wq_8_20 : Cond.code yX3_setHour cX3_setHour 3 (some .int) ∈ wsL_law := wl_8 _ (List.mem_of_getElem? (i := 20) rfl)
set_option maxRecDepth 20000 in
theorem wq_8_21 : Cond.methodLink RX3 65 yX2_changeHour ∈ wsL_law := wl_8 _ (List.mem_of_getElem? (i := 21) rfl)
set_option maxRecDepth 20000 in
theorem wq_8_22 : Cond.instanceMethod yX2_changeHour ∈ wsL_law := wl_8 _ (List.mem_of_getElem? (i := 22) rfl)
set_option maxRecDepth 20000 in
theorem wq_8_23 : Cond.selects RX2 yX2_changeHour yX2_changeHour ∈ wsL_law := wl_8 _ (List.mem_of_getElem? (i := 23) rfl)
set_option maxRecDepth 20000 in
theorem wq_9_0 : Cond.code yX2_changeHour cX2_changeHour 5 (some .int) ∈ wsL_law := wl_9 _ (List.mem_of_getElem? (i := 0) rfl)
set_option maxRecDepth 20000 in
theorem wq_9_1 : Cond.fieldLink RX2 84 "CupFountain$Cup" "hour" "I" ∈ wsL_law := wl_9 _ (List.mem_of_getElem? (i := 1) rfl)
set_option maxRecDepth 20000 in
theorem wq_9_2 : Cond.methodLink RL 27 yX4_setHour ∈ wsL_law := wl_9 _ (List.mem_of_getElem? (i := 2) rfl)
set_option maxRecDepth 20000 in
theorem wq_9_3 : Cond.instanceMethod yX4_setHour ∈ wsL_law := wl_9 _ (List.mem_of_getElem? (i := 3) rfl)
set_option maxRecDepth 20000 in
theorem wq_9_4 : Cond.selects RX4 yX4_setHour yX4_setHour ∈ wsL_law := wl_9 _ (List.mem_of_getElem? (i := 4) rfl)
set_option maxRecDepth 20000 in
theorem wq_9_5 : Cond.code yX4_setHour cX4_setHour 3 (some .int) ∈ wsL_law := wl_9 _ (List.mem_of_getElem? (i := 5) rfl)
set_option maxRecDepth 20000 in
theorem wq_9_6 : Cond.methodLink RX4 101 yX4_doSetHour ∈ wsL_law := wl_9 _ (List.mem_of_getElem? (i := 6) rfl)
set_option maxRecDepth 20000 in
theorem wq_9_7 : Cond.instanceMethod yX4_doSetHour ∈ wsL_law := wl_9 _ (List.mem_of_getElem? (i := 7) rfl)
set_option maxRecDepth 20000 in
theorem wq_9_8 : Cond.selects RX4 yX4_doSetHour yX4_doSetHour ∈ wsL_law := wl_9 _ (List.mem_of_getElem? (i := 8) rfl)
set_option maxRecDepth 20000 in
theorem wq_9_9 : Cond.code yX4_doSetHour cX4_doSetHour 4 (some .int) ∈ wsL_law := wl_9 _ (List.mem_of_getElem? (i := 9) rfl)
set_option maxRecDepth 20000 in
theorem wq_9_10 : Cond.methodLink RL 28 yX3_guard ∈ wsL_law := wl_9 _ (List.mem_of_getElem? (i := 10) rfl)
set_option maxRecDepth 20000 in
theorem wq_9_11 : Cond.instanceMethod yX3_guard ∈ wsL_law := wl_9 _ (List.mem_of_getElem? (i := 11) rfl)
set_option maxRecDepth 20000 in
theorem wq_9_12 : Cond.selects RX3 yX3_guard yX3_guard ∈ wsL_law := wl_9 _ (List.mem_of_getElem? (i := 12) rfl)
set_option maxRecDepth 20000 in
theorem wq_9_13 : Cond.code yX3_guard cX3_guard 2 (some .int) ∈ wsL_law := wl_9 _ (List.mem_of_getElem? (i := 13) rfl)
set_option maxRecDepth 20000 in
theorem wq_9_14 : Cond.methodLink RX3 69 yX2_changeGuard ∈ wsL_law := wl_9 _ (List.mem_of_getElem? (i := 14) rfl)
set_option maxRecDepth 20000 in
theorem wq_9_15 : Cond.instanceMethod yX2_changeGuard ∈ wsL_law := wl_9 _ (List.mem_of_getElem? (i := 15) rfl)
set_option maxRecDepth 20000 in
theorem wq_9_16 : Cond.selects RX2 yX2_changeGuard yX2_changeGuard ∈ wsL_law := wl_9 _ (List.mem_of_getElem? (i := 16) rfl)
set_option maxRecDepth 20000 in
theorem wq_9_17 : Cond.code yX2_changeGuard cX2_changeGuard 3 (some .int) ∈ wsL_law := wl_9 _ (List.mem_of_getElem? (i := 17) rfl)
set_option maxRecDepth 20000 in
theorem wq_9_18 : Cond.methodLink RL 31 yX4_guard ∈ wsL_law := wl_9 _ (List.mem_of_getElem? (i := 18) rfl)
set_option maxRecDepth 20000 in
theorem wq_9_19 : Cond.instanceMethod yX4_guard ∈ wsL_law := wl_9 _ (List.mem_of_getElem? (i := 19) rfl)
set_option maxRecDepth 20000 in
theorem wq_9_20 : Cond.selects RX4 yX4_guard yX4_guard ∈ wsL_law := wl_9 _ (List.mem_of_getElem? (i := 20) rfl)
set_option maxRecDepth 20000 in
theorem wq_9_21 : Cond.code yX4_guard cX4_guard 2 (some .int) ∈ wsL_law := wl_9 _ (List.mem_of_getElem? (i := 21) rfl)
set_option maxRecDepth 20000 in
theorem wq_9_22 : Cond.methodLink RX4 104 yX4_doGuard ∈ wsL_law := wl_9 _ (List.mem_of_getElem? (i := 22) rfl)
set_option maxRecDepth 20000 in
theorem wq_9_23 : Cond.instanceMethod yX4_doGuard ∈ wsL_law := wl_9 _ (List.mem_of_getElem? (i := 23) rfl)
set_option maxRecDepth 20000 in
theorem wq_10_0 : Cond.selects RX4 yX4_doGuard yX4_doGuard ∈ wsL_law := wl_10 _ (List.mem_of_getElem? (i := 0) rfl)
set_option maxRecDepth 20000 in
theorem wq_10_1 : Cond.code yX4_doGuard cX4_doGuard 2 (some .int) ∈ wsL_law := wl_10 _ (List.mem_of_getElem? (i := 1) rfl)
set_option maxRecDepth 20000 in
theorem wq_10_2 : Cond.methodLink RL 32 yX3_fill ∈ wsL_law := wl_10 _ (List.mem_of_getElem? (i := 2) rfl)
set_option maxRecDepth 20000 in
theorem wq_10_3 : Cond.instanceMethod yX3_fill ∈ wsL_law := wl_10 _ (List.mem_of_getElem? (i := 3) rfl)
set_option maxRecDepth 20000 in
theorem wq_10_4 : Cond.selects RX3 yX3_fill yX3_fill ∈ wsL_law := wl_10 _ (List.mem_of_getElem? (i := 4) rfl)
set_option maxRecDepth 20000 in
theorem wq_10_5 : Cond.code yX3_fill cX3_fill 3 (some .int) ∈ wsL_law := wl_10 _ (List.mem_of_getElem? (i := 5) rfl)
set_option maxRecDepth 20000 in
theorem wq_10_6 : Cond.methodLink RX3 72 yX2_pour ∈ wsL_law := wl_10 _ (List.mem_of_getElem? (i := 6) rfl)
set_option maxRecDepth 20000 in
theorem wq_10_7 : Cond.instanceMethod yX2_pour ∈ wsL_law := wl_10 _ (List.mem_of_getElem? (i := 7) rfl)
set_option maxRecDepth 20000 in
theorem wq_10_8 : Cond.selects RX2 yX2_pour yX2_pour ∈ wsL_law := wl_10 _ (List.mem_of_getElem? (i := 8) rfl)
set_option maxRecDepth 20000 in
theorem wq_10_9 : Cond.code yX2_pour cX2_pour 4 (some .int) ∈ wsL_law := wl_10 _ (List.mem_of_getElem? (i := 9) rfl)
set_option maxRecDepth 20000 in
theorem wq_10_10 : Cond.fieldLink RX2 87 "CupFountain$Cup" "water" "I" ∈ wsL_law := wl_10 _ (List.mem_of_getElem? (i := 10) rfl)
set_option maxRecDepth 20000 in
theorem wq_10_11 : Cond.methodLink RL 35 yX4_fill ∈ wsL_law := wl_10 _ (List.mem_of_getElem? (i := 11) rfl)
set_option maxRecDepth 20000 in
theorem wq_10_12 : Cond.instanceMethod yX4_fill ∈ wsL_law := wl_10 _ (List.mem_of_getElem? (i := 12) rfl)
set_option maxRecDepth 20000 in
theorem wq_10_13 : Cond.selects RX4 yX4_fill yX4_fill ∈ wsL_law := wl_10 _ (List.mem_of_getElem? (i := 13) rfl)
set_option maxRecDepth 20000 in
theorem wq_10_14 : Cond.code yX4_fill cX4_fill 3 (some .int) ∈ wsL_law := wl_10 _ (List.mem_of_getElem? (i := 14) rfl)
set_option maxRecDepth 20000 in
theorem wq_10_15 : Cond.methodLink RX4 107 yX4_doFill ∈ wsL_law := wl_10 _ (List.mem_of_getElem? (i := 15) rfl)
set_option maxRecDepth 20000 in
theorem wq_10_16 : Cond.instanceMethod yX4_doFill ∈ wsL_law := wl_10 _ (List.mem_of_getElem? (i := 16) rfl)
set_option maxRecDepth 20000 in
theorem wq_10_17 : Cond.selects RX4 yX4_doFill yX4_doFill ∈ wsL_law := wl_10 _ (List.mem_of_getElem? (i := 17) rfl)
set_option maxRecDepth 20000 in
theorem wq_10_18 : Cond.code yX4_doFill cX4_doFill 3 (some .int) ∈ wsL_law := wl_10 _ (List.mem_of_getElem? (i := 18) rfl)
set_option maxRecDepth 20000 in
theorem wq_10_19 : Cond.methodLink RL 36 yX3_set ∈ wsL_law := wl_10 _ (List.mem_of_getElem? (i := 19) rfl)
set_option maxRecDepth 20000 in
theorem wq_10_20 : Cond.instanceMethod yX3_set ∈ wsL_law := wl_10 _ (List.mem_of_getElem? (i := 20) rfl)
set_option maxRecDepth 20000 in
theorem wq_10_21 : Cond.selects RX3 yX3_set yX3_set ∈ wsL_law := wl_10 _ (List.mem_of_getElem? (i := 21) rfl)
set_option maxRecDepth 20000 in
theorem wq_10_22 : Cond.code yX3_set cX3_set 3 (some .int) ∈ wsL_law := wl_10 _ (List.mem_of_getElem? (i := 22) rfl)
set_option maxRecDepth 20000 in
theorem wq_10_23 : Cond.methodLink RX3 75 yX2_changeSetting ∈ wsL_law := wl_10 _ (List.mem_of_getElem? (i := 23) rfl)
set_option maxRecDepth 20000 in
theorem wq_11_0 : Cond.instanceMethod yX2_changeSetting ∈ wsL_law := wl_11 _ (List.mem_of_getElem? (i := 0) rfl)
set_option maxRecDepth 20000 in
theorem wq_11_1 : Cond.selects RX2 yX2_changeSetting yX2_changeSetting ∈ wsL_law := wl_11 _ (List.mem_of_getElem? (i := 1) rfl)
set_option maxRecDepth 20000 in
theorem wq_11_2 : Cond.code yX2_changeSetting cX2_changeSetting 4 (some .int) ∈ wsL_law := wl_11 _ (List.mem_of_getElem? (i := 2) rfl)
set_option maxRecDepth 20000 in
theorem wq_11_3 : Cond.methodLink RX2 90 yX2_tellSetting ∈ wsL_law := wl_11 _ (List.mem_of_getElem? (i := 3) rfl)
set_option maxRecDepth 20000 in
theorem wq_11_4 : Cond.instanceMethod yX2_tellSetting ∈ wsL_law := wl_11 _ (List.mem_of_getElem? (i := 4) rfl)
set_option maxRecDepth 20000 in
theorem wq_11_5 : Cond.selects RX2 yX2_tellSetting yX2_tellSetting ∈ wsL_law := wl_11 _ (List.mem_of_getElem? (i := 5) rfl)
set_option maxRecDepth 20000 in
theorem wq_11_6 : Cond.code yX2_tellSetting cX2_tellSetting 2 (some .int) ∈ wsL_law := wl_11 _ (List.mem_of_getElem? (i := 6) rfl)
set_option maxRecDepth 20000 in
theorem wq_11_7 : Cond.methodLink RL 39 yX4_set ∈ wsL_law := wl_11 _ (List.mem_of_getElem? (i := 7) rfl)
set_option maxRecDepth 20000 in
theorem wq_11_8 : Cond.instanceMethod yX4_set ∈ wsL_law := wl_11 _ (List.mem_of_getElem? (i := 8) rfl)
set_option maxRecDepth 20000 in
theorem wq_11_9 : Cond.selects RX4 yX4_set yX4_set ∈ wsL_law := wl_11 _ (List.mem_of_getElem? (i := 9) rfl)
set_option maxRecDepth 20000 in
theorem wq_11_10 : Cond.code yX4_set cX4_set 3 (some .int) ∈ wsL_law := wl_11 _ (List.mem_of_getElem? (i := 10) rfl)
set_option maxRecDepth 20000 in
theorem wq_11_11 : Cond.methodLink RX4 110 yX4_doSet ∈ wsL_law := wl_11 _ (List.mem_of_getElem? (i := 11) rfl)
set_option maxRecDepth 20000 in
theorem wq_11_12 : Cond.instanceMethod yX4_doSet ∈ wsL_law := wl_11 _ (List.mem_of_getElem? (i := 12) rfl)
set_option maxRecDepth 20000 in
theorem wq_11_13 : Cond.selects RX4 yX4_doSet yX4_doSet ∈ wsL_law := wl_11 _ (List.mem_of_getElem? (i := 13) rfl)
set_option maxRecDepth 20000 in
theorem wq_11_14 : Cond.code yX4_doSet cX4_doSet 4 (some .int) ∈ wsL_law := wl_11 _ (List.mem_of_getElem? (i := 14) rfl)
set_option maxRecDepth 20000 in
theorem wq_11_15 : Cond.methodLink RL 40 yX3_pass ∈ wsL_law := wl_11 _ (List.mem_of_getElem? (i := 15) rfl)
set_option maxRecDepth 20000 in
theorem wq_11_16 : Cond.instanceMethod yX3_pass ∈ wsL_law := wl_11 _ (List.mem_of_getElem? (i := 16) rfl)
set_option maxRecDepth 20000 in
theorem wq_11_17 : Cond.selects RX3 yX3_pass yX3_pass ∈ wsL_law := wl_11 _ (List.mem_of_getElem? (i := 17) rfl)
set_option maxRecDepth 20000 in
theorem wq_11_18 : Cond.code yX3_pass cX3_pass 2 (some .int) ∈ wsL_law := wl_11 _ (List.mem_of_getElem? (i := 18) rfl)
set_option maxRecDepth 20000 in
theorem wq_11_19 : Cond.methodLink RX3 78 yX2_letPass ∈ wsL_law := wl_11 _ (List.mem_of_getElem? (i := 19) rfl)
set_option maxRecDepth 20000 in
theorem wq_11_20 : Cond.instanceMethod yX2_letPass ∈ wsL_law := wl_11 _ (List.mem_of_getElem? (i := 20) rfl)
set_option maxRecDepth 20000 in
theorem wq_11_21 : Cond.selects RX2 yX2_letPass yX2_letPass ∈ wsL_law := wl_11 _ (List.mem_of_getElem? (i := 21) rfl)
set_option maxRecDepth 20000 in
theorem wq_11_22 : Cond.code yX2_letPass cX2_letPass 2 (some .int) ∈ wsL_law := wl_11 _ (List.mem_of_getElem? (i := 22) rfl)
set_option maxRecDepth 20000 in
theorem wq_11_23 : Cond.constant RX2 93 (99999) ∈ wsL_law := wl_11 _ (List.mem_of_getElem? (i := 23) rfl)
set_option maxRecDepth 20000 in
theorem wq_12_0 : Cond.methodLink RX2 94 yX2_tickOn ∈ wsL_law := wl_12 _ (List.mem_of_getElem? (i := 0) rfl)
set_option maxRecDepth 20000 in
theorem wq_12_1 : Cond.instanceMethod yX2_tickOn ∈ wsL_law := wl_12 _ (List.mem_of_getElem? (i := 1) rfl)
set_option maxRecDepth 20000 in
theorem wq_12_2 : Cond.selects RX2 yX2_tickOn yX2_tickOn ∈ wsL_law := wl_12 _ (List.mem_of_getElem? (i := 2) rfl)
set_option maxRecDepth 20000 in
theorem wq_12_3 : Cond.code yX2_tickOn cX2_tickOn 4 (some .int) ∈ wsL_law := wl_12 _ (List.mem_of_getElem? (i := 3) rfl)
set_option maxRecDepth 20000 in
theorem wq_12_4 : Cond.methodLink RX2 97 yX2_tickOnce ∈ wsL_law := wl_12 _ (List.mem_of_getElem? (i := 4) rfl)
set_option maxRecDepth 20000 in
theorem wq_12_5 : Cond.instanceMethod yX2_tickOnce ∈ wsL_law := wl_12 _ (List.mem_of_getElem? (i := 5) rfl)
set_option maxRecDepth 20000 in
theorem wq_12_6 : Cond.selects RX2 yX2_tickOnce yX2_tickOnce ∈ wsL_law := wl_12 _ (List.mem_of_getElem? (i := 6) rfl)
set_option maxRecDepth 20000 in
theorem wq_12_7 : Cond.code yX2_tickOnce cX2_tickOnce 4 (some .int) ∈ wsL_law := wl_12 _ (List.mem_of_getElem? (i := 7) rfl)
set_option maxRecDepth 20000 in
theorem wq_12_8 : Cond.methodLink RX2 101 yX2_hourOf ∈ wsL_law := wl_12 _ (List.mem_of_getElem? (i := 8) rfl)
set_option maxRecDepth 20000 in
theorem wq_12_9 : Cond.instanceMethod yX2_hourOf ∈ wsL_law := wl_12 _ (List.mem_of_getElem? (i := 9) rfl)
set_option maxRecDepth 20000 in
theorem wq_12_10 : Cond.selects RX2 yX2_hourOf yX2_hourOf ∈ wsL_law := wl_12 _ (List.mem_of_getElem? (i := 10) rfl)
set_option maxRecDepth 20000 in
theorem wq_12_11 : Cond.code yX2_hourOf cX2_hourOf 2 (some .int) ∈ wsL_law := wl_12 _ (List.mem_of_getElem? (i := 11) rfl)
set_option maxRecDepth 20000 in
theorem wq_12_12 : Cond.methodLink RX2 104 yX2_openGuarded ∈ wsL_law := wl_12 _ (List.mem_of_getElem? (i := 12) rfl)
set_option maxRecDepth 20000 in
theorem wq_12_13 : Cond.instanceMethod yX2_openGuarded ∈ wsL_law := wl_12 _ (List.mem_of_getElem? (i := 13) rfl)
set_option maxRecDepth 20000 in
theorem wq_12_14 : Cond.selects RX2 yX2_openGuarded yX2_openGuarded ∈ wsL_law := wl_12 _ (List.mem_of_getElem? (i := 14) rfl)
set_option maxRecDepth 20000 in
theorem wq_12_15 : Cond.code yX2_openGuarded cX2_openGuarded 3 none ∈ wsL_law := wl_12 _ (List.mem_of_getElem? (i := 15) rfl)
set_option maxRecDepth 20000 in
theorem wq_12_16 : Cond.methodLink RX2 107 yX2_springs ∈ wsL_law := wl_12 _ (List.mem_of_getElem? (i := 16) rfl)
set_option maxRecDepth 20000 in
theorem wq_12_17 : Cond.instanceMethod yX2_springs ∈ wsL_law := wl_12 _ (List.mem_of_getElem? (i := 17) rfl)
set_option maxRecDepth 20000 in
theorem wq_12_18 : Cond.selects RX2 yX2_springs yX2_springs ∈ wsL_law := wl_12 _ (List.mem_of_getElem? (i := 18) rfl)
set_option maxRecDepth 20000 in
theorem wq_12_19 : Cond.code yX2_springs cX2_springs 2 none ∈ wsL_law := wl_12 _ (List.mem_of_getElem? (i := 19) rfl)
set_option maxRecDepth 20000 in
theorem wq_12_20 : Cond.methodLink RX2 120 Lib.Math.min.name ∈ wsL_law := wl_12 _ (List.mem_of_getElem? (i := 20) rfl)
set_option maxRecDepth 20000 in
theorem wq_12_21 : Cond.static Lib.Math.min.name ∈ wsL_law := wl_12 _ (List.mem_of_getElem? (i := 21) rfl)
set_option maxRecDepth 20000 in
theorem wq_12_22 : Cond.initialized "java/lang/Math" ∈ wsL_law := wl_12 _ (List.mem_of_getElem? (i := 22) rfl)
set_option maxRecDepth 20000 in
theorem wq_12_23 : Cond.code Lib.Math.min.name Lib.Math.min.code 2 (some .int) ∈ wsL_law := wl_12 _ (List.mem_of_getElem? (i := 23) rfl)
set_option maxRecDepth 20000 in
theorem wq_13_0 : Cond.methodLink RX2 110 yX2_tipOrKeep ∈ wsL_law := wl_13 _ (List.mem_of_getElem? (i := 0) rfl)
set_option maxRecDepth 20000 in
theorem wq_13_1 : Cond.instanceMethod yX2_tipOrKeep ∈ wsL_law := wl_13 _ (List.mem_of_getElem? (i := 1) rfl)
set_option maxRecDepth 20000 in
theorem wq_13_2 : Cond.selects RX2 yX2_tipOrKeep yX2_tipOrKeep ∈ wsL_law := wl_13 _ (List.mem_of_getElem? (i := 2) rfl)
set_option maxRecDepth 20000 in
theorem wq_13_3 : Cond.code yX2_tipOrKeep cX2_tipOrKeep 5 (some .int) ∈ wsL_law := wl_13 _ (List.mem_of_getElem? (i := 3) rfl)
set_option maxRecDepth 20000 in
theorem wq_13_4 : Cond.fieldLink RX2 130 "CupFountain$Cup" "jet" "I" ∈ wsL_law := wl_13 _ (List.mem_of_getElem? (i := 4) rfl)
set_option maxRecDepth 20000 in
theorem wq_13_5 : Cond.methodLink RX2 126 yX0_isFull ∈ wsL_law := wl_13 _ (List.mem_of_getElem? (i := 5) rfl)
set_option maxRecDepth 20000 in
theorem wq_13_6 : Cond.instanceMethod yX0_isFull ∈ wsL_law := wl_13 _ (List.mem_of_getElem? (i := 6) rfl)
set_option maxRecDepth 20000 in
theorem wq_13_7 : Cond.selects RX0 yX0_isFull yX0_isFull ∈ wsL_law := wl_13 _ (List.mem_of_getElem? (i := 7) rfl)
set_option maxRecDepth 20000 in
theorem wq_13_8 : Cond.code yX0_isFull cX0_isFull 1 (some .boolean) ∈ wsL_law := wl_13 _ (List.mem_of_getElem? (i := 8) rfl)
set_option maxRecDepth 20000 in
theorem wq_13_9 : Cond.methodLink RX2 133 yX0_runOver ∈ wsL_law := wl_13 _ (List.mem_of_getElem? (i := 9) rfl)
set_option maxRecDepth 20000 in
theorem wq_13_10 : Cond.instanceMethod yX0_runOver ∈ wsL_law := wl_13 _ (List.mem_of_getElem? (i := 10) rfl)
set_option maxRecDepth 20000 in
theorem wq_13_11 : Cond.selects RX0 yX0_runOver yX0_runOver ∈ wsL_law := wl_13 _ (List.mem_of_getElem? (i := 11) rfl)
set_option maxRecDepth 20000 in
theorem wq_13_12 : Cond.code yX0_runOver cX0_runOver 2 (some .int) ∈ wsL_law := wl_13 _ (List.mem_of_getElem? (i := 12) rfl)
set_option maxRecDepth 20000 in
theorem wq_13_13 : Cond.methodLink RX2 136 yX0_tip ∈ wsL_law := wl_13 _ (List.mem_of_getElem? (i := 13) rfl)
set_option maxRecDepth 20000 in
theorem wq_13_14 : Cond.instanceMethod yX0_tip ∈ wsL_law := wl_13 _ (List.mem_of_getElem? (i := 14) rfl)
set_option maxRecDepth 20000 in
theorem wq_13_15 : Cond.selects RX0 yX0_tip yX0_tip ∈ wsL_law := wl_13 _ (List.mem_of_getElem? (i := 15) rfl)
set_option maxRecDepth 20000 in
theorem wq_13_16 : Cond.code yX0_tip cX0_tip 4 (some .int) ∈ wsL_law := wl_13 _ (List.mem_of_getElem? (i := 16) rfl)
set_option maxRecDepth 20000 in
theorem wq_13_17 : Cond.methodLink RX2 114 yX0_drip ∈ wsL_law := wl_13 _ (List.mem_of_getElem? (i := 17) rfl)
set_option maxRecDepth 20000 in
theorem wq_13_18 : Cond.instanceMethod yX0_drip ∈ wsL_law := wl_13 _ (List.mem_of_getElem? (i := 18) rfl)
set_option maxRecDepth 20000 in
theorem wq_13_19 : Cond.selects RX0 yX0_drip yX0_drip ∈ wsL_law := wl_13 _ (List.mem_of_getElem? (i := 19) rfl)
set_option maxRecDepth 20000 in
theorem wq_13_20 : Cond.code yX0_drip cX0_drip 2 (some .int) ∈ wsL_law := wl_13 _ (List.mem_of_getElem? (i := 20) rfl)
set_option maxRecDepth 20000 in
theorem wq_13_21 : Cond.methodLink RX0 49 Lib.Math.min.name ∈ wsL_law := wl_13 _ (List.mem_of_getElem? (i := 21) rfl)
set_option maxRecDepth 20000 in
theorem wq_13_22 : Cond.methodLink RX2 117 yX2_shutGuarded ∈ wsL_law := wl_13 _ (List.mem_of_getElem? (i := 22) rfl)
set_option maxRecDepth 20000 in
theorem wq_13_23 : Cond.instanceMethod yX2_shutGuarded ∈ wsL_law := wl_13 _ (List.mem_of_getElem? (i := 23) rfl)
set_option maxRecDepth 20000 in
theorem wq_14_0 : Cond.selects RX2 yX2_shutGuarded yX2_shutGuarded ∈ wsL_law := wl_14 _ (List.mem_of_getElem? (i := 0) rfl)
set_option maxRecDepth 20000 in
theorem wq_14_1 : Cond.code yX2_shutGuarded cX2_shutGuarded 2 none ∈ wsL_law := wl_14 _ (List.mem_of_getElem? (i := 1) rfl)
set_option maxRecDepth 20000 in
theorem wq_14_2 : Cond.methodLink RL 43 yX4_pass ∈ wsL_law := wl_14 _ (List.mem_of_getElem? (i := 2) rfl)
set_option maxRecDepth 20000 in
theorem wq_14_3 : Cond.instanceMethod yX4_pass ∈ wsL_law := wl_14 _ (List.mem_of_getElem? (i := 3) rfl)
set_option maxRecDepth 20000 in
theorem wq_14_4 : Cond.selects RX4 yX4_pass yX4_pass ∈ wsL_law := wl_14 _ (List.mem_of_getElem? (i := 4) rfl)
set_option maxRecDepth 20000 in
theorem wq_14_5 : Cond.code yX4_pass cX4_pass 2 (some .int) ∈ wsL_law := wl_14 _ (List.mem_of_getElem? (i := 5) rfl)
set_option maxRecDepth 20000 in
theorem wq_14_6 : Cond.methodLink RX4 113 yX4_doPass ∈ wsL_law := wl_14 _ (List.mem_of_getElem? (i := 6) rfl)
set_option maxRecDepth 20000 in
theorem wq_14_7 : Cond.instanceMethod yX4_doPass ∈ wsL_law := wl_14 _ (List.mem_of_getElem? (i := 7) rfl)
set_option maxRecDepth 20000 in
theorem wq_14_8 : Cond.selects RX4 yX4_doPass yX4_doPass ∈ wsL_law := wl_14 _ (List.mem_of_getElem? (i := 8) rfl)
set_option maxRecDepth 20000 in
theorem wq_14_9 : Cond.code yX4_doPass cX4_doPass 4 (some .int) ∈ wsL_law := wl_14 _ (List.mem_of_getElem? (i := 9) rfl)
set_option maxRecDepth 20000 in
theorem wq_14_10 : Cond.constant RX4 77 (99999) ∈ wsL_law := wl_14 _ (List.mem_of_getElem? (i := 10) rfl)
set_option maxRecDepth 20000 in
theorem wq_14_11 : Cond.methodLink RX4 78 yX4_sumOf ∈ wsL_law := wl_14 _ (List.mem_of_getElem? (i := 11) rfl)
set_option maxRecDepth 20000 in
theorem wq_14_12 : Cond.instanceMethod yX4_sumOf ∈ wsL_law := wl_14 _ (List.mem_of_getElem? (i := 12) rfl)
set_option maxRecDepth 20000 in
theorem wq_14_13 : Cond.selects RX4 yX4_sumOf yX4_sumOf ∈ wsL_law := wl_14 _ (List.mem_of_getElem? (i := 13) rfl)
set_option maxRecDepth 20000 in
theorem wq_14_14 : Cond.code yX4_sumOf cX4_sumOf 4 (some .int) ∈ wsL_law := wl_14 _ (List.mem_of_getElem? (i := 14) rfl)
set_option maxRecDepth 20000 in
theorem wq_14_15 : Cond.methodLink RX4 81 yX4_tick ∈ wsL_law := wl_14 _ (List.mem_of_getElem? (i := 15) rfl)
set_option maxRecDepth 20000 in
theorem wq_14_16 : Cond.instanceMethod yX4_tick ∈ wsL_law := wl_14 _ (List.mem_of_getElem? (i := 16) rfl)
set_option maxRecDepth 20000 in
theorem wq_14_17 : Cond.selects RX4 yX4_tick yX4_tick ∈ wsL_law := wl_14 _ (List.mem_of_getElem? (i := 17) rfl)
set_option maxRecDepth 20000 in
theorem wq_14_18 : Cond.code yX4_tick cX4_tick 5 none ∈ wsL_law := wl_14 _ (List.mem_of_getElem? (i := 18) rfl)
set_option maxRecDepth 20000 in
theorem wq_14_19 : Cond.methodLink RX4 64 yX4_hourOf ∈ wsL_law := wl_14 _ (List.mem_of_getElem? (i := 19) rfl)
set_option maxRecDepth 20000 in
theorem wq_14_20 : Cond.instanceMethod yX4_hourOf ∈ wsL_law := wl_14 _ (List.mem_of_getElem? (i := 20) rfl)
set_option maxRecDepth 20000 in
theorem wq_14_21 : Cond.selects RX4 yX4_hourOf yX4_hourOf ∈ wsL_law := wl_14 _ (List.mem_of_getElem? (i := 21) rfl)
set_option maxRecDepth 20000 in
theorem wq_14_22 : Cond.code yX4_hourOf cX4_hourOf 2 (some .int) ∈ wsL_law := wl_14 _ (List.mem_of_getElem? (i := 22) rfl)
set_option maxRecDepth 20000 in
theorem wq_14_23 : Cond.methodLink RX4 57 yX4_pour ∈ wsL_law := wl_14 _ (List.mem_of_getElem? (i := 23) rfl)
set_option maxRecDepth 20000 in
theorem wq_15_0 : Cond.instanceMethod yX4_pour ∈ wsL_law := wl_15 _ (List.mem_of_getElem? (i := 0) rfl)
set_option maxRecDepth 20000 in
theorem wq_15_1 : Cond.selects RX4 yX4_pour yX4_pour ∈ wsL_law := wl_15 _ (List.mem_of_getElem? (i := 1) rfl)
set_option maxRecDepth 20000 in
theorem wq_15_2 : Cond.code yX4_pour cX4_pour 3 none ∈ wsL_law := wl_15 _ (List.mem_of_getElem? (i := 2) rfl)
set_option maxRecDepth 20000 in
theorem wq_15_3 : Cond.methodLink RX4 68 yX4_tipOrKeep ∈ wsL_law := wl_15 _ (List.mem_of_getElem? (i := 3) rfl)
set_option maxRecDepth 20000 in
theorem wq_15_4 : Cond.instanceMethod yX4_tipOrKeep ∈ wsL_law := wl_15 _ (List.mem_of_getElem? (i := 4) rfl)
set_option maxRecDepth 20000 in
theorem wq_15_5 : Cond.selects RX4 yX4_tipOrKeep yX4_tipOrKeep ∈ wsL_law := wl_15 _ (List.mem_of_getElem? (i := 5) rfl)
set_option maxRecDepth 20000 in
theorem wq_15_6 : Cond.code yX4_tipOrKeep cX4_tipOrKeep 6 none ∈ wsL_law := wl_15 _ (List.mem_of_getElem? (i := 6) rfl)
set_option maxRecDepth 20000 in
theorem wq_15_7 : Cond.methodLink RX4 53 yX4_isFull ∈ wsL_law := wl_15 _ (List.mem_of_getElem? (i := 7) rfl)
set_option maxRecDepth 20000 in
theorem wq_15_8 : Cond.instanceMethod yX4_isFull ∈ wsL_law := wl_15 _ (List.mem_of_getElem? (i := 8) rfl)
set_option maxRecDepth 20000 in
theorem wq_15_9 : Cond.selects RX4 yX4_isFull yX4_isFull ∈ wsL_law := wl_15 _ (List.mem_of_getElem? (i := 9) rfl)
set_option maxRecDepth 20000 in
theorem wq_15_10 : Cond.code yX4_isFull cX4_isFull 2 (some .boolean) ∈ wsL_law := wl_15 _ (List.mem_of_getElem? (i := 10) rfl)
set_option maxRecDepth 20000 in
theorem wq_15_11 : Cond.methodLink RX4 61 yX4_countTip ∈ wsL_law := wl_15 _ (List.mem_of_getElem? (i := 11) rfl)
set_option maxRecDepth 20000 in
theorem wq_15_12 : Cond.instanceMethod yX4_countTip ∈ wsL_law := wl_15 _ (List.mem_of_getElem? (i := 12) rfl)
set_option maxRecDepth 20000 in
theorem wq_15_13 : Cond.selects RX4 yX4_countTip yX4_countTip ∈ wsL_law := wl_15 _ (List.mem_of_getElem? (i := 13) rfl)
set_option maxRecDepth 20000 in
theorem wq_15_14 : Cond.code yX4_countTip cX4_countTip 5 none ∈ wsL_law := wl_15 _ (List.mem_of_getElem? (i := 14) rfl)
set_option maxRecDepth 20000 in
theorem wq_15_15 : Cond.methodLink RL 44 yX3_type ∈ wsL_law := wl_15 _ (List.mem_of_getElem? (i := 15) rfl)
set_option maxRecDepth 20000 in
theorem wq_15_16 : Cond.instanceMethod yX3_type ∈ wsL_law := wl_15 _ (List.mem_of_getElem? (i := 16) rfl)
set_option maxRecDepth 20000 in
theorem wq_15_17 : Cond.selects RX3 yX3_type yX3_type ∈ wsL_law := wl_15 _ (List.mem_of_getElem? (i := 17) rfl)
set_option maxRecDepth 20000 in
theorem wq_15_18 : Cond.code yX3_type cX3_type 2 (some .int) ∈ wsL_law := wl_15 _ (List.mem_of_getElem? (i := 18) rfl)
set_option maxRecDepth 20000 in
theorem wq_15_19 : Cond.methodLink RX3 81 yX1_append ∈ wsL_law := wl_15 _ (List.mem_of_getElem? (i := 19) rfl)
set_option maxRecDepth 20000 in
theorem wq_15_20 : Cond.instanceMethod yX1_append ∈ wsL_law := wl_15 _ (List.mem_of_getElem? (i := 20) rfl)
set_option maxRecDepth 20000 in
theorem wq_15_21 : Cond.selects RX1 yX1_append yX1_append ∈ wsL_law := wl_15 _ (List.mem_of_getElem? (i := 21) rfl)
set_option maxRecDepth 20000 in
theorem wq_15_22 : Cond.code yX1_append cX1_append 2 (some .int) ∈ wsL_law := wl_15 _ (List.mem_of_getElem? (i := 22) rfl)
set_option maxRecDepth 20000 in
theorem wq_15_23 : Cond.methodLink RL 48 yX4_type ∈ wsL_law := wl_15 _ (List.mem_of_getElem? (i := 23) rfl)
set_option maxRecDepth 20000 in
theorem wq_16_0 : Cond.instanceMethod yX4_type ∈ wsL_law := wl_16 _ (List.mem_of_getElem? (i := 0) rfl)
set_option maxRecDepth 20000 in
theorem wq_16_1 : Cond.selects RX4 yX4_type yX4_type ∈ wsL_law := wl_16 _ (List.mem_of_getElem? (i := 1) rfl)
set_option maxRecDepth 20000 in
theorem wq_16_2 : Cond.code yX4_type cX4_type 2 (some .int) ∈ wsL_law := wl_16 _ (List.mem_of_getElem? (i := 2) rfl)
set_option maxRecDepth 20000 in
theorem wq_16_3 : Cond.fieldLink RX4 116 "CupFountainModel" "length" "I" ∈ wsL_law := wl_16 _ (List.mem_of_getElem? (i := 3) rfl)
set_option maxRecDepth 20000 in
theorem wq_16_4 : Cond.methodLink RL 49 yX3_clearText ∈ wsL_law := wl_16 _ (List.mem_of_getElem? (i := 4) rfl)
set_option maxRecDepth 20000 in
theorem wq_16_5 : Cond.instanceMethod yX3_clearText ∈ wsL_law := wl_16 _ (List.mem_of_getElem? (i := 5) rfl)
set_option maxRecDepth 20000 in
theorem wq_16_6 : Cond.selects RX3 yX3_clearText yX3_clearText ∈ wsL_law := wl_16 _ (List.mem_of_getElem? (i := 6) rfl)
set_option maxRecDepth 20000 in
theorem wq_16_7 : Cond.code yX3_clearText cX3_clearText 1 (some .int) ∈ wsL_law := wl_16 _ (List.mem_of_getElem? (i := 7) rfl)
set_option maxRecDepth 20000 in
theorem wq_16_8 : Cond.methodLink RX3 85 yX1_empty ∈ wsL_law := wl_16 _ (List.mem_of_getElem? (i := 8) rfl)
set_option maxRecDepth 20000 in
theorem wq_16_9 : Cond.instanceMethod yX1_empty ∈ wsL_law := wl_16 _ (List.mem_of_getElem? (i := 9) rfl)
set_option maxRecDepth 20000 in
theorem wq_16_10 : Cond.selects RX1 yX1_empty yX1_empty ∈ wsL_law := wl_16 _ (List.mem_of_getElem? (i := 10) rfl)
set_option maxRecDepth 20000 in
theorem wq_16_11 : Cond.code yX1_empty cX1_empty 2 (some .int) ∈ wsL_law := wl_16 _ (List.mem_of_getElem? (i := 11) rfl)
set_option maxRecDepth 20000 in
theorem wq_16_12 : Cond.methodLink RL 53 yX4_clearText ∈ wsL_law := wl_16 _ (List.mem_of_getElem? (i := 12) rfl)
set_option maxRecDepth 20000 in
theorem wq_16_13 : Cond.instanceMethod yX4_clearText ∈ wsL_law := wl_16 _ (List.mem_of_getElem? (i := 13) rfl)
set_option maxRecDepth 20000 in
theorem wq_16_14 : Cond.selects RX4 yX4_clearText yX4_clearText ∈ wsL_law := wl_16 _ (List.mem_of_getElem? (i := 14) rfl)
set_option maxRecDepth 20000 in
theorem wq_16_15 : Cond.code yX4_clearText cX4_clearText 2 (some .int) ∈ wsL_law := wl_16 _ (List.mem_of_getElem? (i := 15) rfl)
set_option maxRecDepth 20000 in
theorem wq_16_16 : Cond.methodLink RL 54 yX3_perform ∈ wsL_law := wl_16 _ (List.mem_of_getElem? (i := 16) rfl)
set_option maxRecDepth 20000 in
theorem wq_16_17 : Cond.instanceMethod yX3_perform ∈ wsL_law := wl_16 _ (List.mem_of_getElem? (i := 17) rfl)
set_option maxRecDepth 20000 in
theorem wq_16_18 : Cond.selects RX3 yX3_perform yX3_perform ∈ wsL_law := wl_16 _ (List.mem_of_getElem? (i := 18) rfl)
set_option maxRecDepth 20000 in
theorem wq_16_19 : Cond.code yX3_perform cX3_perform 4 (some .int) ∈ wsL_law := wl_16 _ (List.mem_of_getElem? (i := 19) rfl)
set_option maxRecDepth 20000 in
theorem wq_16_20 : Cond.fieldLink RX3 92 "CupFountain$Plan" "things" "I" ∈ wsL_law := wl_16 _ (List.mem_of_getElem? (i := 20) rfl)
set_option maxRecDepth 20000 in
theorem wq_16_21 : Cond.methodLink RX3 89 yX1_read ∈ wsL_law := wl_16 _ (List.mem_of_getElem? (i := 21) rfl)
set_option maxRecDepth 20000 in
theorem wq_16_22 : Cond.instanceMethod yX1_read ∈ wsL_law := wl_16 _ (List.mem_of_getElem? (i := 22) rfl)
set_option maxRecDepth 20000 in
theorem wq_16_23 : Cond.selects RX1 yX1_read yX1_read ∈ wsL_law := wl_16 _ (List.mem_of_getElem? (i := 23) rfl)
set_option maxRecDepth 20000 in
theorem wq_17_0 : Cond.code yX1_read cX1_read 2 (some .int) ∈ wsL_law := wl_17 _ (List.mem_of_getElem? (i := 0) rfl)
set_option maxRecDepth 20000 in
theorem wq_17_1 : Cond.methodLink RX1 35 yX1_readThing ∈ wsL_law := wl_17 _ (List.mem_of_getElem? (i := 1) rfl)
set_option maxRecDepth 20000 in
theorem wq_17_2 : Cond.instanceMethod yX1_readThing ∈ wsL_law := wl_17 _ (List.mem_of_getElem? (i := 2) rfl)
set_option maxRecDepth 20000 in
theorem wq_17_3 : Cond.selects RX1 yX1_readThing yX1_readThing ∈ wsL_law := wl_17 _ (List.mem_of_getElem? (i := 3) rfl)
set_option maxRecDepth 20000 in
theorem wq_17_4 : Cond.code yX1_readThing cX1_readThing 3 (some .boolean) ∈ wsL_law := wl_17 _ (List.mem_of_getElem? (i := 4) rfl)
set_option maxRecDepth 20000 in
theorem wq_17_5 : Cond.methodLink RX1 43 yX1_look ∈ wsL_law := wl_17 _ (List.mem_of_getElem? (i := 5) rfl)
set_option maxRecDepth 20000 in
theorem wq_17_6 : Cond.instanceMethod yX1_look ∈ wsL_law := wl_17 _ (List.mem_of_getElem? (i := 6) rfl)
set_option maxRecDepth 20000 in
theorem wq_17_7 : Cond.selects RX1 yX1_look yX1_look ∈ wsL_law := wl_17 _ (List.mem_of_getElem? (i := 7) rfl)
set_option maxRecDepth 20000 in
theorem wq_17_8 : Cond.code yX1_look cX1_look 1 (some .int) ∈ wsL_law := wl_17 _ (List.mem_of_getElem? (i := 8) rfl)
set_option maxRecDepth 20000 in
theorem wq_17_9 : Cond.methodLink RX1 47 yX1_startThing ∈ wsL_law := wl_17 _ (List.mem_of_getElem? (i := 9) rfl)
set_option maxRecDepth 20000 in
theorem wq_17_10 : Cond.instanceMethod yX1_startThing ∈ wsL_law := wl_17 _ (List.mem_of_getElem? (i := 10) rfl)
set_option maxRecDepth 20000 in
theorem wq_17_11 : Cond.selects RX1 yX1_startThing yX1_startThing ∈ wsL_law := wl_17 _ (List.mem_of_getElem? (i := 11) rfl)
set_option maxRecDepth 20000 in
theorem wq_17_12 : Cond.code yX1_startThing cX1_startThing 3 (some .boolean) ∈ wsL_law := wl_17 _ (List.mem_of_getElem? (i := 12) rfl)
set_option maxRecDepth 20000 in
theorem wq_17_13 : Cond.methodLink RX1 51 yX1_readCup ∈ wsL_law := wl_17 _ (List.mem_of_getElem? (i := 13) rfl)
set_option maxRecDepth 20000 in
theorem wq_17_14 : Cond.instanceMethod yX1_readCup ∈ wsL_law := wl_17 _ (List.mem_of_getElem? (i := 14) rfl)
set_option maxRecDepth 20000 in
theorem wq_17_15 : Cond.selects RX1 yX1_readCup yX1_readCup ∈ wsL_law := wl_17 _ (List.mem_of_getElem? (i := 15) rfl)
set_option maxRecDepth 20000 in
theorem wq_17_16 : Cond.code yX1_readCup cX1_readCup 3 (some .boolean) ∈ wsL_law := wl_17 _ (List.mem_of_getElem? (i := 16) rfl)
set_option maxRecDepth 20000 in
theorem wq_17_17 : Cond.methodLink RX1 61 yX1_lookForDigit ∈ wsL_law := wl_17 _ (List.mem_of_getElem? (i := 17) rfl)
set_option maxRecDepth 20000 in
theorem wq_17_18 : Cond.instanceMethod yX1_lookForDigit ∈ wsL_law := wl_17 _ (List.mem_of_getElem? (i := 18) rfl)
set_option maxRecDepth 20000 in
theorem wq_17_19 : Cond.selects RX1 yX1_lookForDigit yX1_lookForDigit ∈ wsL_law := wl_17 _ (List.mem_of_getElem? (i := 19) rfl)
set_option maxRecDepth 20000 in
theorem wq_17_20 : Cond.code yX1_lookForDigit cX1_lookForDigit 2 (some .int) ∈ wsL_law := wl_17 _ (List.mem_of_getElem? (i := 20) rfl)
set_option maxRecDepth 20000 in
theorem wq_17_21 : Cond.methodLink RX1 39 yX1_skip ∈ wsL_law := wl_17 _ (List.mem_of_getElem? (i := 21) rfl)
set_option maxRecDepth 20000 in
theorem wq_17_22 : Cond.instanceMethod yX1_skip ∈ wsL_law := wl_17 _ (List.mem_of_getElem? (i := 22) rfl)
set_option maxRecDepth 20000 in
theorem wq_17_23 : Cond.selects RX1 yX1_skip yX1_skip ∈ wsL_law := wl_17 _ (List.mem_of_getElem? (i := 23) rfl)
set_option maxRecDepth 20000 in
theorem wq_18_0 : Cond.code yX1_skip cX1_skip 2 (some .boolean) ∈ wsL_law := wl_18 _ (List.mem_of_getElem? (i := 0) rfl)
set_option maxRecDepth 20000 in
theorem wq_18_1 : Cond.methodLink RX1 54 yX1_readNumber ∈ wsL_law := wl_18 _ (List.mem_of_getElem? (i := 1) rfl)
set_option maxRecDepth 20000 in
theorem wq_18_2 : Cond.instanceMethod yX1_readNumber ∈ wsL_law := wl_18 _ (List.mem_of_getElem? (i := 2) rfl)
set_option maxRecDepth 20000 in
theorem wq_18_3 : Cond.selects RX1 yX1_readNumber yX1_readNumber ∈ wsL_law := wl_18 _ (List.mem_of_getElem? (i := 3) rfl)
set_option maxRecDepth 20000 in
theorem wq_18_4 : Cond.code yX1_readNumber cX1_readNumber 7 (some .boolean) ∈ wsL_law := wl_18 _ (List.mem_of_getElem? (i := 4) rfl)
set_option maxRecDepth 20000 in
theorem wq_18_5 : Cond.methodLink RX3 95 yX1_doThing ∈ wsL_law := wl_18 _ (List.mem_of_getElem? (i := 5) rfl)
set_option maxRecDepth 20000 in
theorem wq_18_6 : Cond.instanceMethod yX1_doThing ∈ wsL_law := wl_18 _ (List.mem_of_getElem? (i := 6) rfl)
set_option maxRecDepth 20000 in
theorem wq_18_7 : Cond.selects RX1 yX1_doThing yX1_doThing ∈ wsL_law := wl_18 _ (List.mem_of_getElem? (i := 7) rfl)
set_option maxRecDepth 20000 in
theorem wq_18_8 : Cond.code yX1_doThing cX1_doThing 3 (some .int) ∈ wsL_law := wl_18 _ (List.mem_of_getElem? (i := 8) rfl)
set_option maxRecDepth 20000 in
theorem wq_18_9 : Cond.methodLink RX1 64 yX2_changeHour ∈ wsL_law := wl_18 _ (List.mem_of_getElem? (i := 9) rfl)
set_option maxRecDepth 20000 in
theorem wq_18_10 : Cond.methodLink RX1 70 yX2_changeCup ∈ wsL_law := wl_18 _ (List.mem_of_getElem? (i := 10) rfl)
set_option maxRecDepth 20000 in
theorem wq_18_11 : Cond.methodLink RX1 74 yX2_pour ∈ wsL_law := wl_18 _ (List.mem_of_getElem? (i := 11) rfl)
set_option maxRecDepth 20000 in
theorem wq_18_12 : Cond.methodLink RX1 77 yX2_changeGuard ∈ wsL_law := wl_18 _ (List.mem_of_getElem? (i := 12) rfl)
set_option maxRecDepth 20000 in
theorem wq_18_13 : Cond.methodLink RX1 81 yX2_letPass ∈ wsL_law := wl_18 _ (List.mem_of_getElem? (i := 13) rfl)
set_option maxRecDepth 20000 in
theorem wq_18_14 : Cond.methodLink RX3 99 yX3_isError ∈ wsL_law := wl_18 _ (List.mem_of_getElem? (i := 14) rfl)
set_option maxRecDepth 20000 in
theorem wq_18_15 : Cond.static yX3_isError ∈ wsL_law := wl_18 _ (List.mem_of_getElem? (i := 15) rfl)
set_option maxRecDepth 20000 in
theorem wq_18_16 : Cond.code yX3_isError cX3_isError 1 (some .boolean) ∈ wsL_law := wl_18 _ (List.mem_of_getElem? (i := 16) rfl)
set_option maxRecDepth 20000 in
theorem wq_18_17 : Cond.methodLink RL 57 yX4_perform ∈ wsL_law := wl_18 _ (List.mem_of_getElem? (i := 17) rfl)
set_option maxRecDepth 20000 in
theorem wq_18_18 : Cond.instanceMethod yX4_perform ∈ wsL_law := wl_18 _ (List.mem_of_getElem? (i := 18) rfl)
set_option maxRecDepth 20000 in
theorem wq_18_19 : Cond.selects RX4 yX4_perform yX4_perform ∈ wsL_law := wl_18 _ (List.mem_of_getElem? (i := 19) rfl)
set_option maxRecDepth 20000 in
theorem wq_18_20 : Cond.code yX4_perform cX4_perform 2 (some .int) ∈ wsL_law := wl_18 _ (List.mem_of_getElem? (i := 20) rfl)
set_option maxRecDepth 20000 in
theorem wq_18_21 : Cond.fieldLink RX4 119 "CupFountainModel" "place" "I" ∈ wsL_law := wl_18 _ (List.mem_of_getElem? (i := 21) rfl)
set_option maxRecDepth 20000 in
theorem wq_18_22 : Cond.fieldLink RX4 148 "CupFountainModel" "error" "I" ∈ wsL_law := wl_18 _ (List.mem_of_getElem? (i := 22) rfl)
set_option maxRecDepth 20000 in
theorem wq_18_23 : Cond.fieldLink RX4 145 "CupFountainModel" "done" "I" ∈ wsL_law := wl_18 _ (List.mem_of_getElem? (i := 23) rfl)
set_option maxRecDepth 20000 in
theorem wq_19_0 : Cond.fieldLink RX4 162 "CupFountainModel" "stoppedBy" "I" ∈ wsL_law := wl_19 _ (List.mem_of_getElem? (i := 0) rfl)
set_option maxRecDepth 20000 in
theorem wq_19_1 : Cond.methodLink RX4 158 yX4_readText ∈ wsL_law := wl_19 _ (List.mem_of_getElem? (i := 1) rfl)
set_option maxRecDepth 20000 in
theorem wq_19_2 : Cond.instanceMethod yX4_readText ∈ wsL_law := wl_19 _ (List.mem_of_getElem? (i := 2) rfl)
set_option maxRecDepth 20000 in
theorem wq_19_3 : Cond.selects RX4 yX4_readText yX4_readText ∈ wsL_law := wl_19 _ (List.mem_of_getElem? (i := 3) rfl)
set_option maxRecDepth 20000 in
theorem wq_19_4 : Cond.code yX4_readText cX4_readText 4 (some .boolean) ∈ wsL_law := wl_19 _ (List.mem_of_getElem? (i := 4) rfl)
set_option maxRecDepth 20000 in
theorem wq_19_5 : Cond.methodLink RX4 151 yX4_readThing ∈ wsL_law := wl_19 _ (List.mem_of_getElem? (i := 5) rfl)
set_option maxRecDepth 20000 in
theorem wq_19_6 : Cond.instanceMethod yX4_readThing ∈ wsL_law := wl_19 _ (List.mem_of_getElem? (i := 6) rfl)
set_option maxRecDepth 20000 in
theorem wq_19_7 : Cond.selects RX4 yX4_readThing yX4_readThing ∈ wsL_law := wl_19 _ (List.mem_of_getElem? (i := 7) rfl)
set_option maxRecDepth 20000 in
theorem wq_19_8 : Cond.code yX4_readThing cX4_readThing 1 (some .boolean) ∈ wsL_law := wl_19 _ (List.mem_of_getElem? (i := 8) rfl)
set_option maxRecDepth 20000 in
theorem wq_19_9 : Cond.fieldLink RX4 132 "CupFountainModel" "letter" "I" ∈ wsL_law := wl_19 _ (List.mem_of_getElem? (i := 9) rfl)
set_option maxRecDepth 20000 in
theorem wq_19_10 : Cond.methodLink RX4 135 yX4_readCup ∈ wsL_law := wl_19 _ (List.mem_of_getElem? (i := 10) rfl)
set_option maxRecDepth 20000 in
theorem wq_19_11 : Cond.instanceMethod yX4_readCup ∈ wsL_law := wl_19 _ (List.mem_of_getElem? (i := 11) rfl)
set_option maxRecDepth 20000 in
theorem wq_19_12 : Cond.selects RX4 yX4_readCup yX4_readCup ∈ wsL_law := wl_19 _ (List.mem_of_getElem? (i := 12) rfl)
set_option maxRecDepth 20000 in
theorem wq_19_13 : Cond.code yX4_readCup cX4_readCup 2 (some .boolean) ∈ wsL_law := wl_19 _ (List.mem_of_getElem? (i := 13) rfl)
set_option maxRecDepth 20000 in
theorem wq_19_14 : Cond.fieldLink RX4 126 "CupFountainModel" "itsCup" "I" ∈ wsL_law := wl_19 _ (List.mem_of_getElem? (i := 14) rfl)
set_option maxRecDepth 20000 in
theorem wq_19_15 : Cond.methodLink RX4 122 yX4_isNext ∈ wsL_law := wl_19 _ (List.mem_of_getElem? (i := 15) rfl)
set_option maxRecDepth 20000 in
theorem wq_19_16 : Cond.instanceMethod yX4_isNext ∈ wsL_law := wl_19 _ (List.mem_of_getElem? (i := 16) rfl)
set_option maxRecDepth 20000 in
theorem wq_19_17 : Cond.selects RX4 yX4_isNext yX4_isNext ∈ wsL_law := wl_19 _ (List.mem_of_getElem? (i := 17) rfl)
set_option maxRecDepth 20000 in
theorem wq_19_18 : Cond.code yX4_isNext cX4_isNext 3 (some .boolean) ∈ wsL_law := wl_19 _ (List.mem_of_getElem? (i := 18) rfl)
set_option maxRecDepth 20000 in
theorem wq_19_19 : Cond.methodLink RX4 139 yX4_takes ∈ wsL_law := wl_19 _ (List.mem_of_getElem? (i := 19) rfl)
set_option maxRecDepth 20000 in
theorem wq_19_20 : Cond.instanceMethod yX4_takes ∈ wsL_law := wl_19 _ (List.mem_of_getElem? (i := 20) rfl)
set_option maxRecDepth 20000 in
theorem wq_19_21 : Cond.selects RX4 yX4_takes yX4_takes ∈ wsL_law := wl_19 _ (List.mem_of_getElem? (i := 21) rfl)
set_option maxRecDepth 20000 in
theorem wq_19_22 : Cond.code yX4_takes cX4_takes 3 (some .boolean) ∈ wsL_law := wl_19 _ (List.mem_of_getElem? (i := 22) rfl)
set_option maxRecDepth 20000 in
theorem wq_19_23 : Cond.methodLink RX4 142 yX4_readNumber ∈ wsL_law := wl_19 _ (List.mem_of_getElem? (i := 23) rfl)
set_option maxRecDepth 20000 in
theorem wq_20_0 : Cond.instanceMethod yX4_readNumber ∈ wsL_law := wl_20 _ (List.mem_of_getElem? (i := 0) rfl)
set_option maxRecDepth 20000 in
theorem wq_20_1 : Cond.selects RX4 yX4_readNumber yX4_readNumber ∈ wsL_law := wl_20 _ (List.mem_of_getElem? (i := 1) rfl)
set_option maxRecDepth 20000 in
theorem wq_20_2 : Cond.code yX4_readNumber cX4_readNumber 3 (some .boolean) ∈ wsL_law := wl_20 _ (List.mem_of_getElem? (i := 2) rfl)
set_option maxRecDepth 20000 in
theorem wq_20_3 : Cond.fieldLink RX4 129 "CupFountainModel" "number" "I" ∈ wsL_law := wl_20 _ (List.mem_of_getElem? (i := 3) rfl)
set_option maxRecDepth 20000 in
theorem wq_20_4 : Cond.methodLink RX4 154 yX4_does ∈ wsL_law := wl_20 _ (List.mem_of_getElem? (i := 4) rfl)
set_option maxRecDepth 20000 in
theorem wq_20_5 : Cond.instanceMethod yX4_does ∈ wsL_law := wl_20 _ (List.mem_of_getElem? (i := 5) rfl)
set_option maxRecDepth 20000 in
theorem wq_20_6 : Cond.selects RX4 yX4_does yX4_does ∈ wsL_law := wl_20 _ (List.mem_of_getElem? (i := 6) rfl)
set_option maxRecDepth 20000 in
theorem wq_20_7 : Cond.code yX4_does cX4_does 1 (some .int) ∈ wsL_law := wl_20 _ (List.mem_of_getElem? (i := 7) rfl)
set_option maxRecDepth 20000 in
theorem wq_20_8 : Cond.methodLink RL 58 yX3_stopped ∈ wsL_law := wl_20 _ (List.mem_of_getElem? (i := 8) rfl)
set_option maxRecDepth 20000 in
theorem wq_20_9 : Cond.instanceMethod yX3_stopped ∈ wsL_law := wl_20 _ (List.mem_of_getElem? (i := 9) rfl)
set_option maxRecDepth 20000 in
theorem wq_20_10 : Cond.selects RX3 yX3_stopped yX3_stopped ∈ wsL_law := wl_20 _ (List.mem_of_getElem? (i := 10) rfl)
set_option maxRecDepth 20000 in
theorem wq_20_11 : Cond.code yX3_stopped cX3_stopped 2 (some .int) ∈ wsL_law := wl_20 _ (List.mem_of_getElem? (i := 11) rfl)
set_option maxRecDepth 20000 in
theorem wq_20_12 : Cond.methodLink RX3 103 yX3_isWithin ∈ wsL_law := wl_20 _ (List.mem_of_getElem? (i := 12) rfl)
set_option maxRecDepth 20000 in
theorem wq_20_13 : Cond.methodLink RL 61 yX4_stopped ∈ wsL_law := wl_20 _ (List.mem_of_getElem? (i := 13) rfl)
set_option maxRecDepth 20000 in
theorem wq_20_14 : Cond.instanceMethod yX4_stopped ∈ wsL_law := wl_20 _ (List.mem_of_getElem? (i := 14) rfl)
set_option maxRecDepth 20000 in
theorem wq_20_15 : Cond.selects RX4 yX4_stopped yX4_stopped ∈ wsL_law := wl_20 _ (List.mem_of_getElem? (i := 15) rfl)
set_option maxRecDepth 20000 in
theorem wq_20_16 : Cond.code yX4_stopped cX4_stopped 2 (some .int) ∈ wsL_law := wl_20 _ (List.mem_of_getElem? (i := 16) rfl)
set_option maxRecDepth 20000 in
theorem wq_20_17 : Cond.methodLink RL 62 yX3_undo ∈ wsL_law := wl_20 _ (List.mem_of_getElem? (i := 17) rfl)
set_option maxRecDepth 20000 in
theorem wq_20_18 : Cond.instanceMethod yX3_undo ∈ wsL_law := wl_20 _ (List.mem_of_getElem? (i := 18) rfl)
set_option maxRecDepth 20000 in
theorem wq_20_19 : Cond.selects RX3 yX3_undo yX3_undo ∈ wsL_law := wl_20 _ (List.mem_of_getElem? (i := 19) rfl)
set_option maxRecDepth 20000 in
theorem wq_20_20 : Cond.code yX3_undo cX3_undo 1 (some .int) ∈ wsL_law := wl_20 _ (List.mem_of_getElem? (i := 20) rfl)
set_option maxRecDepth 20000 in
theorem wq_20_21 : Cond.methodLink RL 65 yX4_undo ∈ wsL_law := wl_20 _ (List.mem_of_getElem? (i := 21) rfl)
set_option maxRecDepth 20000 in
theorem wq_20_22 : Cond.instanceMethod yX4_undo ∈ wsL_law := wl_20 _ (List.mem_of_getElem? (i := 22) rfl)
set_option maxRecDepth 20000 in
theorem wq_20_23 : Cond.selects RX4 yX4_undo yX4_undo ∈ wsL_law := wl_20 _ (List.mem_of_getElem? (i := 23) rfl)
set_option maxRecDepth 20000 in
theorem wq_21_0 : Cond.code yX4_undo cX4_undo 1 (some .int) ∈ wsL_law := wl_21 _ (List.mem_of_getElem? (i := 0) rfl)
set_option maxRecDepth 20000 in
theorem wq_21_1 : Cond.methodLink RL 66 yX3_keep ∈ wsL_law := wl_21 _ (List.mem_of_getElem? (i := 1) rfl)
set_option maxRecDepth 20000 in
theorem wq_21_2 : Cond.instanceMethod yX3_keep ∈ wsL_law := wl_21 _ (List.mem_of_getElem? (i := 2) rfl)
set_option maxRecDepth 20000 in
theorem wq_21_3 : Cond.selects RX3 yX3_keep yX3_keep ∈ wsL_law := wl_21 _ (List.mem_of_getElem? (i := 3) rfl)
set_option maxRecDepth 20000 in
theorem wq_21_4 : Cond.code yX3_keep cX3_keep 1 (some .int) ∈ wsL_law := wl_21 _ (List.mem_of_getElem? (i := 4) rfl)
set_option maxRecDepth 20000 in
theorem wq_21_5 : Cond.fieldLink RX3 107 "CupFountain$State" "tick" "I" ∈ wsL_law := wl_21 _ (List.mem_of_getElem? (i := 5) rfl)
set_option maxRecDepth 20000 in
theorem wq_21_6 : Cond.methodLink RL 69 yX4_keep ∈ wsL_law := wl_21 _ (List.mem_of_getElem? (i := 6) rfl)
set_option maxRecDepth 20000 in
theorem wq_21_7 : Cond.instanceMethod yX4_keep ∈ wsL_law := wl_21 _ (List.mem_of_getElem? (i := 7) rfl)
set_option maxRecDepth 20000 in
theorem wq_21_8 : Cond.selects RX4 yX4_keep yX4_keep ∈ wsL_law := wl_21 _ (List.mem_of_getElem? (i := 8) rfl)
set_option maxRecDepth 20000 in
theorem wq_21_9 : Cond.code yX4_keep cX4_keep 1 (some .int) ∈ wsL_law := wl_21 _ (List.mem_of_getElem? (i := 9) rfl)
set_option maxRecDepth 20000 in
theorem wq_21_10 : Cond.fieldLink RX4 165 "CupFountainModel" "isTaken" "Z" ∈ wsL_law := wl_21 _ (List.mem_of_getElem? (i := 10) rfl)
set_option maxRecDepth 20000 in
theorem wq_21_11 : Cond.methodLink RL 70 yX3_restore ∈ wsL_law := wl_21 _ (List.mem_of_getElem? (i := 11) rfl)
set_option maxRecDepth 20000 in
theorem wq_21_12 : Cond.instanceMethod yX3_restore ∈ wsL_law := wl_21 _ (List.mem_of_getElem? (i := 12) rfl)
set_option maxRecDepth 20000 in
theorem wq_21_13 : Cond.selects RX3 yX3_restore yX3_restore ∈ wsL_law := wl_21 _ (List.mem_of_getElem? (i := 13) rfl)
set_option maxRecDepth 20000 in
theorem wq_21_14 : Cond.code yX3_restore cX3_restore 1 (some .int) ∈ wsL_law := wl_21 _ (List.mem_of_getElem? (i := 14) rfl)
set_option maxRecDepth 20000 in
theorem wq_21_15 : Cond.methodLink RL 73 yX4_restore ∈ wsL_law := wl_21 _ (List.mem_of_getElem? (i := 15) rfl)
set_option maxRecDepth 20000 in
theorem wq_21_16 : Cond.instanceMethod yX4_restore ∈ wsL_law := wl_21 _ (List.mem_of_getElem? (i := 16) rfl)
set_option maxRecDepth 20000 in
theorem wq_21_17 : Cond.selects RX4 yX4_restore yX4_restore ∈ wsL_law := wl_21 _ (List.mem_of_getElem? (i := 17) rfl)
set_option maxRecDepth 20000 in
theorem wq_21_18 : Cond.code yX4_restore cX4_restore 1 (some .int) ∈ wsL_law := wl_21 _ (List.mem_of_getElem? (i := 18) rfl)
set_option maxRecDepth 20000 in
theorem wq_21_19 : Cond.methodLink RL 74 yX3_cup ∈ wsL_law := wl_21 _ (List.mem_of_getElem? (i := 19) rfl)
set_option maxRecDepth 20000 in
theorem wq_21_20 : Cond.instanceMethod yX3_cup ∈ wsL_law := wl_21 _ (List.mem_of_getElem? (i := 20) rfl)
set_option maxRecDepth 20000 in
theorem wq_21_21 : Cond.selects RX3 yX3_cup yX3_cup ∈ wsL_law := wl_21 _ (List.mem_of_getElem? (i := 21) rfl)
set_option maxRecDepth 20000 in
theorem wq_21_22 : Cond.code yX3_cup cX3_cup 4 (some .int) ∈ wsL_law := wl_21 _ (List.mem_of_getElem? (i := 22) rfl)
set_option maxRecDepth 20000 in
theorem wq_21_23 : Cond.methodLink RX3 110 yX2_find ∈ wsL_law := wl_21 _ (List.mem_of_getElem? (i := 23) rfl)
set_option maxRecDepth 20000 in
theorem wq_22_0 : Cond.methodLink RX3 114 yX0_tell ∈ wsL_law := wl_22 _ (List.mem_of_getElem? (i := 0) rfl)
set_option maxRecDepth 20000 in
theorem wq_22_1 : Cond.methodLink RL 77 yX4_cup ∈ wsL_law := wl_22 _ (List.mem_of_getElem? (i := 1) rfl)
set_option maxRecDepth 20000 in
theorem wq_22_2 : Cond.instanceMethod yX4_cup ∈ wsL_law := wl_22 _ (List.mem_of_getElem? (i := 2) rfl)
set_option maxRecDepth 20000 in
theorem wq_22_3 : Cond.selects RX4 yX4_cup yX4_cup ∈ wsL_law := wl_22 _ (List.mem_of_getElem? (i := 3) rfl)
set_option maxRecDepth 20000 in
theorem wq_22_4 : Cond.code yX4_cup cX4_cup 3 (some .int) ∈ wsL_law := wl_22 _ (List.mem_of_getElem? (i := 4) rfl)
set_option maxRecDepth 20000 in
theorem wq_22_5 : Cond.methodLink RL 78 yX3_reason ∈ wsL_law := wl_22 _ (List.mem_of_getElem? (i := 5) rfl)
set_option maxRecDepth 20000 in
theorem wq_22_6 : Cond.instanceMethod yX3_reason ∈ wsL_law := wl_22 _ (List.mem_of_getElem? (i := 6) rfl)
set_option maxRecDepth 20000 in
theorem wq_22_7 : Cond.selects RX3 yX3_reason yX3_reason ∈ wsL_law := wl_22 _ (List.mem_of_getElem? (i := 7) rfl)
set_option maxRecDepth 20000 in
theorem wq_22_8 : Cond.code yX3_reason cX3_reason 4 (some .int) ∈ wsL_law := wl_22 _ (List.mem_of_getElem? (i := 8) rfl)
set_option maxRecDepth 20000 in
theorem wq_22_9 : Cond.fieldLink RX3 122 "CupFountain$Cup" "tips" "I" ∈ wsL_law := wl_22 _ (List.mem_of_getElem? (i := 9) rfl)
set_option maxRecDepth 20000 in
theorem wq_22_10 : Cond.fieldLink RX3 125 "CupFountain$Cup" "guarded" "Z" ∈ wsL_law := wl_22 _ (List.mem_of_getElem? (i := 10) rfl)
set_option maxRecDepth 20000 in
theorem wq_22_11 : Cond.fieldLink RX3 128 "CupFountain$Cup" "hour" "I" ∈ wsL_law := wl_22 _ (List.mem_of_getElem? (i := 11) rfl)
set_option maxRecDepth 20000 in
theorem wq_22_12 : Cond.fieldLink RX3 134 "CupFountain$Cup" "open" "Z" ∈ wsL_law := wl_22 _ (List.mem_of_getElem? (i := 12) rfl)
set_option maxRecDepth 20000 in
theorem wq_22_13 : Cond.methodLink RX3 119 yX2_tickOnce ∈ wsL_law := wl_22 _ (List.mem_of_getElem? (i := 13) rfl)
set_option maxRecDepth 20000 in
theorem wq_22_14 : Cond.methodLink RX3 131 yX2_hourOf ∈ wsL_law := wl_22 _ (List.mem_of_getElem? (i := 14) rfl)
set_option maxRecDepth 20000 in
theorem wq_22_15 : Cond.methodLink RL 81 yX4_reason ∈ wsL_law := wl_22 _ (List.mem_of_getElem? (i := 15) rfl)
set_option maxRecDepth 20000 in
theorem wq_22_16 : Cond.instanceMethod yX4_reason ∈ wsL_law := wl_22 _ (List.mem_of_getElem? (i := 16) rfl)
set_option maxRecDepth 20000 in
theorem wq_22_17 : Cond.selects RX4 yX4_reason yX4_reason ∈ wsL_law := wl_22 _ (List.mem_of_getElem? (i := 17) rfl)
set_option maxRecDepth 20000 in
theorem wq_22_18 : Cond.code yX4_reason cX4_reason 2 (some .int) ∈ wsL_law := wl_22 _ (List.mem_of_getElem? (i := 18) rfl)
set_option maxRecDepth 20000 in
theorem wq_22_19 : Cond.methodLink RX4 169 yX4_untilTip ∈ wsL_law := wl_22 _ (List.mem_of_getElem? (i := 19) rfl)
set_option maxRecDepth 20000 in
theorem wq_22_20 : Cond.instanceMethod yX4_untilTip ∈ wsL_law := wl_22 _ (List.mem_of_getElem? (i := 20) rfl)
set_option maxRecDepth 20000 in
theorem wq_22_21 : Cond.selects RX4 yX4_untilTip yX4_untilTip ∈ wsL_law := wl_22 _ (List.mem_of_getElem? (i := 21) rfl)
set_option maxRecDepth 20000 in
theorem wq_22_22 : Cond.code yX4_untilTip cX4_untilTip 5 (some .int) ∈ wsL_law := wl_22 _ (List.mem_of_getElem? (i := 22) rfl)
set_option maxRecDepth 20000 in
theorem wq_22_23 : Cond.methodLink RL 82 yX3_tipsIn ∈ wsL_law := wl_22 _ (List.mem_of_getElem? (i := 23) rfl)
set_option maxRecDepth 20000 in
theorem wq_23_0 : Cond.instanceMethod yX3_tipsIn ∈ wsL_law := wl_23 _ (List.mem_of_getElem? (i := 0) rfl)
set_option maxRecDepth 20000 in
theorem wq_23_1 : Cond.selects RX3 yX3_tipsIn yX3_tipsIn ∈ wsL_law := wl_23 _ (List.mem_of_getElem? (i := 1) rfl)
set_option maxRecDepth 20000 in
theorem wq_23_2 : Cond.code yX3_tipsIn cX3_tipsIn 2 (some .int) ∈ wsL_law := wl_23 _ (List.mem_of_getElem? (i := 2) rfl)
set_option maxRecDepth 20000 in
theorem wq_23_3 : Cond.methodLink RX3 137 yX3_ticksTillTip ∈ wsL_law := wl_23 _ (List.mem_of_getElem? (i := 3) rfl)
set_option maxRecDepth 20000 in
theorem wq_23_4 : Cond.instanceMethod yX3_ticksTillTip ∈ wsL_law := wl_23 _ (List.mem_of_getElem? (i := 4) rfl)
set_option maxRecDepth 20000 in
theorem wq_23_5 : Cond.selects RX3 yX3_ticksTillTip yX3_ticksTillTip ∈ wsL_law := wl_23 _ (List.mem_of_getElem? (i := 5) rfl)
set_option maxRecDepth 20000 in
theorem wq_23_6 : Cond.code yX3_ticksTillTip cX3_ticksTillTip 5 (some .int) ∈ wsL_law := wl_23 _ (List.mem_of_getElem? (i := 6) rfl)
set_option maxRecDepth 20000 in
theorem wq_23_7 : Cond.methodLink RL 85 yX4_tipsIn ∈ wsL_law := wl_23 _ (List.mem_of_getElem? (i := 7) rfl)
set_option maxRecDepth 20000 in
theorem wq_23_8 : Cond.instanceMethod yX4_tipsIn ∈ wsL_law := wl_23 _ (List.mem_of_getElem? (i := 8) rfl)
set_option maxRecDepth 20000 in
theorem wq_23_9 : Cond.selects RX4 yX4_tipsIn yX4_tipsIn ∈ wsL_law := wl_23 _ (List.mem_of_getElem? (i := 9) rfl)
set_option maxRecDepth 20000 in
theorem wq_23_10 : Cond.code yX4_tipsIn cX4_tipsIn 2 (some .int) ∈ wsL_law := wl_23 _ (List.mem_of_getElem? (i := 10) rfl)
set_option maxRecDepth 20000 in
theorem wq_23_11 : Cond.methodLink RL 86 yX3_tipsAt ∈ wsL_law := wl_23 _ (List.mem_of_getElem? (i := 11) rfl)
set_option maxRecDepth 20000 in
theorem wq_23_12 : Cond.instanceMethod yX3_tipsAt ∈ wsL_law := wl_23 _ (List.mem_of_getElem? (i := 12) rfl)
set_option maxRecDepth 20000 in
theorem wq_23_13 : Cond.selects RX3 yX3_tipsAt yX3_tipsAt ∈ wsL_law := wl_23 _ (List.mem_of_getElem? (i := 13) rfl)
set_option maxRecDepth 20000 in
theorem wq_23_14 : Cond.code yX3_tipsAt cX3_tipsAt 2 (some .int) ∈ wsL_law := wl_23 _ (List.mem_of_getElem? (i := 14) rfl)
set_option maxRecDepth 20000 in
theorem wq_23_15 : Cond.methodLink RX3 140 yX3_hourOfTip ∈ wsL_law := wl_23 _ (List.mem_of_getElem? (i := 15) rfl)
set_option maxRecDepth 20000 in
theorem wq_23_16 : Cond.instanceMethod yX3_hourOfTip ∈ wsL_law := wl_23 _ (List.mem_of_getElem? (i := 16) rfl)
set_option maxRecDepth 20000 in
theorem wq_23_17 : Cond.selects RX3 yX3_hourOfTip yX3_hourOfTip ∈ wsL_law := wl_23 _ (List.mem_of_getElem? (i := 17) rfl)
set_option maxRecDepth 20000 in
theorem wq_23_18 : Cond.code yX3_hourOfTip cX3_hourOfTip 3 (some .int) ∈ wsL_law := wl_23 _ (List.mem_of_getElem? (i := 18) rfl)
set_option maxRecDepth 20000 in
theorem wq_23_19 : Cond.methodLink RL 89 yX4_tipsAt ∈ wsL_law := wl_23 _ (List.mem_of_getElem? (i := 19) rfl)
set_option maxRecDepth 20000 in
theorem wq_23_20 : Cond.instanceMethod yX4_tipsAt ∈ wsL_law := wl_23 _ (List.mem_of_getElem? (i := 20) rfl)
set_option maxRecDepth 20000 in
theorem wq_23_21 : Cond.selects RX4 yX4_tipsAt yX4_tipsAt ∈ wsL_law := wl_23 _ (List.mem_of_getElem? (i := 21) rfl)
set_option maxRecDepth 20000 in
theorem wq_23_22 : Cond.code yX4_tipsAt cX4_tipsAt 2 (some .int) ∈ wsL_law := wl_23 _ (List.mem_of_getElem? (i := 22) rfl)
set_option maxRecDepth 20000 in
theorem wq_23_23 : Cond.methodLink RX4 172 yX4_hourOfTip ∈ wsL_law := wl_23 _ (List.mem_of_getElem? (i := 23) rfl)
set_option maxRecDepth 20000 in
theorem wq_24_0 : Cond.instanceMethod yX4_hourOfTip ∈ wsL_law := wl_24 _ (List.mem_of_getElem? (i := 0) rfl)
set_option maxRecDepth 20000 in
theorem wq_24_1 : Cond.selects RX4 yX4_hourOfTip yX4_hourOfTip ∈ wsL_law := wl_24 _ (List.mem_of_getElem? (i := 1) rfl)
set_option maxRecDepth 20000 in
theorem wq_24_2 : Cond.code yX4_hourOfTip cX4_hourOfTip 3 (some .int) ∈ wsL_law := wl_24 _ (List.mem_of_getElem? (i := 2) rfl)
set_option maxRecDepth 20000 in
theorem wq_24_3 : Cond.methodLink RL 90 yX3_starving ∈ wsL_law := wl_24 _ (List.mem_of_getElem? (i := 3) rfl)
set_option maxRecDepth 20000 in
theorem wq_24_4 : Cond.instanceMethod yX3_starving ∈ wsL_law := wl_24 _ (List.mem_of_getElem? (i := 4) rfl)
set_option maxRecDepth 20000 in
theorem wq_24_5 : Cond.selects RX3 yX3_starving yX3_starving ∈ wsL_law := wl_24 _ (List.mem_of_getElem? (i := 5) rfl)
set_option maxRecDepth 20000 in
theorem wq_24_6 : Cond.code yX3_starving cX3_starving 2 (some .int) ∈ wsL_law := wl_24 _ (List.mem_of_getElem? (i := 6) rfl)
set_option maxRecDepth 20000 in
theorem wq_24_7 : Cond.fieldLink RX3 146 "CupFountain$State" "cups" "[LCupFountain$Cup;" ∈ wsL_law := wl_24 _ (List.mem_of_getElem? (i := 7) rfl)
set_option maxRecDepth 20000 in
theorem wq_24_8 : Cond.methodLink RX3 143 yX2_tickOn ∈ wsL_law := wl_24 _ (List.mem_of_getElem? (i := 8) rfl)
set_option maxRecDepth 20000 in
theorem wq_24_9 : Cond.methodLink RL 93 yX4_starving ∈ wsL_law := wl_24 _ (List.mem_of_getElem? (i := 9) rfl)
set_option maxRecDepth 20000 in
theorem wq_24_10 : Cond.instanceMethod yX4_starving ∈ wsL_law := wl_24 _ (List.mem_of_getElem? (i := 10) rfl)
set_option maxRecDepth 20000 in
theorem wq_24_11 : Cond.selects RX4 yX4_starving yX4_starving ∈ wsL_law := wl_24 _ (List.mem_of_getElem? (i := 11) rfl)
set_option maxRecDepth 20000 in
theorem wq_24_12 : Cond.code yX4_starving cX4_starving 3 (some .int) ∈ wsL_law := wl_24 _ (List.mem_of_getElem? (i := 12) rfl)
set_option maxRecDepth 20000 in
theorem wq_24_13 : Cond.methodLink RL 94 yX3_bestSize ∈ wsL_law := wl_24 _ (List.mem_of_getElem? (i := 13) rfl)
set_option maxRecDepth 20000 in
theorem wq_24_14 : Cond.instanceMethod yX3_bestSize ∈ wsL_law := wl_24 _ (List.mem_of_getElem? (i := 14) rfl)
set_option maxRecDepth 20000 in
theorem wq_24_15 : Cond.selects RX3 yX3_bestSize yX3_bestSize ∈ wsL_law := wl_24 _ (List.mem_of_getElem? (i := 15) rfl)
set_option maxRecDepth 20000 in
theorem wq_24_16 : Cond.code yX3_bestSize cX3_bestSize 5 (some .int) ∈ wsL_law := wl_24 _ (List.mem_of_getElem? (i := 16) rfl)
set_option maxRecDepth 20000 in
theorem wq_24_17 : Cond.methodLink RL 97 yX4_bestSize ∈ wsL_law := wl_24 _ (List.mem_of_getElem? (i := 17) rfl)
set_option maxRecDepth 20000 in
theorem wq_24_18 : Cond.instanceMethod yX4_bestSize ∈ wsL_law := wl_24 _ (List.mem_of_getElem? (i := 18) rfl)
set_option maxRecDepth 20000 in
theorem wq_24_19 : Cond.selects RX4 yX4_bestSize yX4_bestSize ∈ wsL_law := wl_24 _ (List.mem_of_getElem? (i := 19) rfl)
set_option maxRecDepth 20000 in
theorem wq_24_20 : Cond.code yX4_bestSize cX4_bestSize 5 (some .int) ∈ wsL_law := wl_24 _ (List.mem_of_getElem? (i := 20) rfl)
set_option maxRecDepth 20000 in
theorem wq_24_21 : Cond.methodLink RL 98 yX3_ifTicks ∈ wsL_law := wl_24 _ (List.mem_of_getElem? (i := 21) rfl)
set_option maxRecDepth 20000 in
theorem wq_24_22 : Cond.instanceMethod yX3_ifTicks ∈ wsL_law := wl_24 _ (List.mem_of_getElem? (i := 22) rfl)
set_option maxRecDepth 20000 in
theorem wq_24_23 : Cond.selects RX3 yX3_ifTicks yX3_ifTicks ∈ wsL_law := wl_24 _ (List.mem_of_getElem? (i := 23) rfl)
set_option maxRecDepth 20000 in
theorem wq_25_0 : Cond.code yX3_ifTicks cX3_ifTicks 4 (some .int) ∈ wsL_law := wl_25 _ (List.mem_of_getElem? (i := 0) rfl)
set_option maxRecDepth 20000 in
theorem wq_25_1 : Cond.methodLink RX3 150 yX2_sumOf ∈ wsL_law := wl_25 _ (List.mem_of_getElem? (i := 1) rfl)
set_option maxRecDepth 20000 in
theorem wq_25_2 : Cond.instanceMethod yX2_sumOf ∈ wsL_law := wl_25 _ (List.mem_of_getElem? (i := 2) rfl)
set_option maxRecDepth 20000 in
theorem wq_25_3 : Cond.selects RX2 yX2_sumOf yX2_sumOf ∈ wsL_law := wl_25 _ (List.mem_of_getElem? (i := 3) rfl)
set_option maxRecDepth 20000 in
theorem wq_25_4 : Cond.code yX2_sumOf cX2_sumOf 4 (some .int) ∈ wsL_law := wl_25 _ (List.mem_of_getElem? (i := 4) rfl)
set_option maxRecDepth 20000 in
theorem wq_25_5 : Cond.methodLink RL 101 yX4_ifTicks ∈ wsL_law := wl_25 _ (List.mem_of_getElem? (i := 5) rfl)
set_option maxRecDepth 20000 in
theorem wq_25_6 : Cond.instanceMethod yX4_ifTicks ∈ wsL_law := wl_25 _ (List.mem_of_getElem? (i := 6) rfl)
set_option maxRecDepth 20000 in
theorem wq_25_7 : Cond.selects RX4 yX4_ifTicks yX4_ifTicks ∈ wsL_law := wl_25 _ (List.mem_of_getElem? (i := 7) rfl)
set_option maxRecDepth 20000 in
theorem wq_25_8 : Cond.code yX4_ifTicks cX4_ifTicks 6 (some .int) ∈ wsL_law := wl_25 _ (List.mem_of_getElem? (i := 8) rfl)
set_option maxRecDepth 20000 in
theorem wq_25_9 : Cond.methodLink RL 102 yX3_highest ∈ wsL_law := wl_25 _ (List.mem_of_getElem? (i := 9) rfl)
set_option maxRecDepth 20000 in
theorem wq_25_10 : Cond.instanceMethod yX3_highest ∈ wsL_law := wl_25 _ (List.mem_of_getElem? (i := 10) rfl)
set_option maxRecDepth 20000 in
theorem wq_25_11 : Cond.selects RX3 yX3_highest yX3_highest ∈ wsL_law := wl_25 _ (List.mem_of_getElem? (i := 11) rfl)
set_option maxRecDepth 20000 in
theorem wq_25_12 : Cond.code yX3_highest cX3_highest 4 (some .int) ∈ wsL_law := wl_25 _ (List.mem_of_getElem? (i := 12) rfl)
set_option maxRecDepth 20000 in
theorem wq_25_13 : Cond.fieldLink RX3 153 "CupFountain$Cup" "jet" "I" ∈ wsL_law := wl_25 _ (List.mem_of_getElem? (i := 13) rfl)
set_option maxRecDepth 20000 in
theorem wq_25_14 : Cond.methodLink RL 105 yX4_highest ∈ wsL_law := wl_25 _ (List.mem_of_getElem? (i := 14) rfl)
set_option maxRecDepth 20000 in
theorem wq_25_15 : Cond.instanceMethod yX4_highest ∈ wsL_law := wl_25 _ (List.mem_of_getElem? (i := 15) rfl)
set_option maxRecDepth 20000 in
theorem wq_25_16 : Cond.selects RX4 yX4_highest yX4_highest ∈ wsL_law := wl_25 _ (List.mem_of_getElem? (i := 16) rfl)
set_option maxRecDepth 20000 in
theorem wq_25_17 : Cond.code yX4_highest cX4_highest 3 (some .int) ∈ wsL_law := wl_25 _ (List.mem_of_getElem? (i := 17) rfl)
set_option maxRecDepth 20000 in
theorem wq_25_18 : Cond.methodLink RL 106 yX3_count ∈ wsL_law := wl_25 _ (List.mem_of_getElem? (i := 18) rfl)
set_option maxRecDepth 20000 in
theorem wq_25_19 : Cond.instanceMethod yX3_count ∈ wsL_law := wl_25 _ (List.mem_of_getElem? (i := 19) rfl)
set_option maxRecDepth 20000 in
theorem wq_25_20 : Cond.selects RX3 yX3_count yX3_count ∈ wsL_law := wl_25 _ (List.mem_of_getElem? (i := 20) rfl)
set_option maxRecDepth 20000 in
theorem wq_25_21 : Cond.code yX3_count cX3_count 2 (some .int) ∈ wsL_law := wl_25 _ (List.mem_of_getElem? (i := 21) rfl)
set_option maxRecDepth 20000 in
theorem wq_25_22 : Cond.fieldLink RX3 156 "CupFountain$Plan" "length" "I" ∈ wsL_law := wl_25 _ (List.mem_of_getElem? (i := 22) rfl)
set_option maxRecDepth 20000 in
theorem wq_25_23 : Cond.methodLink RX3 159 yX2_tell ∈ wsL_law := wl_25 _ (List.mem_of_getElem? (i := 23) rfl)
set_option maxRecDepth 20000 in
theorem wq_26_0 : Cond.instanceMethod yX2_tell ∈ wsL_law := wl_26 _ (List.mem_of_getElem? (i := 0) rfl)
set_option maxRecDepth 20000 in
theorem wq_26_1 : Cond.selects RX2 yX2_tell yX2_tell ∈ wsL_law := wl_26 _ (List.mem_of_getElem? (i := 1) rfl)
set_option maxRecDepth 20000 in
theorem wq_26_2 : Cond.code yX2_tell cX2_tell 2 (some .int) ∈ wsL_law := wl_26 _ (List.mem_of_getElem? (i := 2) rfl)
set_option maxRecDepth 20000 in
theorem wq_26_3 : Cond.methodLink RX2 139 yX2_sumOf ∈ wsL_law := wl_26 _ (List.mem_of_getElem? (i := 3) rfl)
set_option maxRecDepth 20000 in
theorem wq_26_4 : Cond.methodLink RX2 142 yX2_sumFull ∈ wsL_law := wl_26 _ (List.mem_of_getElem? (i := 4) rfl)
set_option maxRecDepth 20000 in
theorem wq_26_5 : Cond.instanceMethod yX2_sumFull ∈ wsL_law := wl_26 _ (List.mem_of_getElem? (i := 5) rfl)
set_option maxRecDepth 20000 in
theorem wq_26_6 : Cond.selects RX2 yX2_sumFull yX2_sumFull ∈ wsL_law := wl_26 _ (List.mem_of_getElem? (i := 6) rfl)
set_option maxRecDepth 20000 in
theorem wq_26_7 : Cond.code yX2_sumFull cX2_sumFull 3 (some .int) ∈ wsL_law := wl_26 _ (List.mem_of_getElem? (i := 7) rfl)
set_option maxRecDepth 20000 in
theorem wq_26_8 : Cond.methodLink RL 109 yX4_count ∈ wsL_law := wl_26 _ (List.mem_of_getElem? (i := 8) rfl)
set_option maxRecDepth 20000 in
theorem wq_26_9 : Cond.instanceMethod yX4_count ∈ wsL_law := wl_26 _ (List.mem_of_getElem? (i := 9) rfl)
set_option maxRecDepth 20000 in
theorem wq_26_10 : Cond.selects RX4 yX4_count yX4_count ∈ wsL_law := wl_26 _ (List.mem_of_getElem? (i := 10) rfl)
set_option maxRecDepth 20000 in
theorem wq_26_11 : Cond.code yX4_count cX4_count 2 (some .int) ∈ wsL_law := wl_26 _ (List.mem_of_getElem? (i := 11) rfl)
set_option maxRecDepth 20000 in
theorem wq_26_12 : Cond.methodLink RX4 175 yX4_full ∈ wsL_law := wl_26 _ (List.mem_of_getElem? (i := 12) rfl)
set_option maxRecDepth 20000 in
theorem wq_26_13 : Cond.instanceMethod yX4_full ∈ wsL_law := wl_26 _ (List.mem_of_getElem? (i := 13) rfl)
set_option maxRecDepth 20000 in
theorem wq_26_14 : Cond.selects RX4 yX4_full yX4_full ∈ wsL_law := wl_26 _ (List.mem_of_getElem? (i := 14) rfl)
set_option maxRecDepth 20000 in
theorem wq_26_15 : Cond.code yX4_full cX4_full 3 (some .int) ∈ wsL_law := wl_26 _ (List.mem_of_getElem? (i := 15) rfl)
/-- the words of a method: its code, and the one list -/
abbrev zws (y : MethodName) (c : ByteArray) (ml : Nat) (ret : Option FieldType) : List Cond := Cond.code y c ml ret :: wsL_law
theorem zgood {Ts : List Cond} (hsub : ∀ w ∈ wsL_law, w ∈ Ts) {hd : List Cond} (hh : ∀ w ∈ hd, w ∈ wsL_law) {y : MethodName} {c : ByteArray} {ml : Nat} {ret : Option FieldType} (hc : Cond.code y c ml ret ∈ wsL_law) : GoodIn Ts (hd ++ zws y c ml ret) := by
  intro w hw
  have hm : w ∈ wsL_law := by
    rcases List.mem_append.mp hw with h | h
    · exact hh w h
    · rcases List.mem_cons.mp h with h | h
      · rw [h]; exact hc
      · exact h
  exact ⟨hsub w hm, good_of_word (wsL_good w hm)⟩
theorem zgoodV {Ts : List Cond} (hsub : ∀ w ∈ wsL_law, w ∈ Ts) {own C : String} {idx : Nat} {y : MethodName} {c : ByteArray} {ml : Nat} {ret : Option FieldType} (h1 : Cond.methodLink own idx y ∈ wsL_law) (h2 : Cond.instanceMethod y ∈ wsL_law) (h3 : Cond.selects C y y ∈ wsL_law) (h4 : Cond.initialized C ∈ wsL_law) (hc : Cond.code y c ml ret ∈ wsL_law) : GoodIn Ts (wsV own idx C y (zws y c ml ret)) :=
  zgood hsub (fun w h => by
    rcases List.mem_cons.mp h with h | h
    · rw [h]; exact h1
    · rcases List.mem_cons.mp h with h | h
      · rw [h]; exact h2
      · rcases List.mem_cons.mp h with h | h
        · rw [h]; exact h3
        · rw [List.mem_singleton.mp h]; exact h4) hc
theorem zgoodS {Ts : List Cond} (hsub : ∀ w ∈ wsL_law, w ∈ Ts) {own : String} {idx : Nat} {y : MethodName} {c : ByteArray} {ml : Nat} {ret : Option FieldType} (h1 : Cond.methodLink own idx y ∈ wsL_law) (h2 : Cond.static y ∈ wsL_law) (h4 : Cond.initialized own ∈ wsL_law) (hc : Cond.code y c ml ret ∈ wsL_law) : GoodIn Ts (wsS own idx y (zws y c ml ret)) :=
  zgood hsub (fun w h => by
    rcases List.mem_cons.mp h with h | h
    · rw [h]; exact h1
    · rcases List.mem_cons.mp h with h | h
      · rw [h]; exact h2
      · rw [List.mem_singleton.mp h]; exact h4) hc
theorem zgood0 {Ts : List Cond} (hsub : ∀ w ∈ wsL_law, w ∈ Ts) {y : MethodName} {c : ByteArray} {ml : Nat} {ret : Option FieldType} (hc : Cond.code y c ml ret ∈ wsL_law) : GoodIn Ts (zws y c ml ret) :=
  zgood (hd := []) hsub (fun w h => absurd h List.not_mem_nil) hc
theorem zsub {y : MethodName} {c : ByteArray} {ml : Nat} {ret : Option FieldType} : ∀ w ∈ wsL_law, w ∈ zws y c ml ret := fun w h => List.mem_cons_of_mem _ h
end
section
theorem dX0_init_0 : decode cX0_init 0 = .ok (.aload_n 0, 1) := by decide +kernel
theorem dX0_init_1 : decode cX0_init 1 = .ok (.invokespecial 3, 3) := by decide +kernel
theorem dX0_init_4 : decode cX0_init 4 = .ok (.aload_n 0, 1) := by decide +kernel
theorem dX0_init_5 : decode cX0_init 5 = .ok (.bipush 10, 2) := by decide +kernel
theorem dX0_init_7 : decode cX0_init 7 = .ok (.putfield 9, 3) := by decide +kernel
theorem dX0_init_10 : decode cX0_init 10 = .ok (.aload_n 0, 1) := by decide +kernel
theorem dX0_init_11 : decode cX0_init 11 = .ok (.iconst 0, 1) := by decide +kernel
theorem dX0_init_12 : decode cX0_init 12 = .ok (.putfield 15, 3) := by decide +kernel
theorem dX0_init_15 : decode cX0_init 15 = .ok (.aload_n 0, 1) := by decide +kernel
theorem dX0_init_16 : decode cX0_init 16 = .ok (.iconst 0, 1) := by decide +kernel
theorem dX0_init_17 : decode cX0_init 17 = .ok (.putfield 18, 3) := by decide +kernel
theorem dX0_init_20 : decode cX0_init 20 = .ok (.aload_n 0, 1) := by decide +kernel
theorem dX0_init_21 : decode cX0_init 21 = .ok (.iconst (-1), 1) := by decide +kernel
theorem dX0_init_22 : decode cX0_init 22 = .ok (.putfield 21, 3) := by decide +kernel
theorem dX0_init_25 : decode cX0_init 25 = .ok (.aload_n 0, 1) := by decide +kernel
theorem dX0_init_26 : decode cX0_init 26 = .ok (.iconst 1, 1) := by decide +kernel
theorem dX0_init_27 : decode cX0_init 27 = .ok (.putfield 24, 3) := by decide +kernel
theorem dX0_init_30 : decode cX0_init 30 = .ok (.aload_n 0, 1) := by decide +kernel
theorem dX0_init_31 : decode cX0_init 31 = .ok (.iconst 0, 1) := by decide +kernel
theorem dX0_init_32 : decode cX0_init 32 = .ok (.putfield 28, 3) := by decide +kernel
theorem dX0_init_35 : decode cX0_init 35 = .ok (.aload_n 0, 1) := by decide +kernel
theorem dX0_init_36 : decode cX0_init 36 = .ok (.iconst 0, 1) := by decide +kernel
theorem dX0_init_37 : decode cX0_init 37 = .ok (.putfield 31, 3) := by decide +kernel
theorem dX0_init_40 : decode cX0_init 40 = .ok (.aload_n 0, 1) := by decide +kernel
theorem dX0_init_41 : decode cX0_init 41 = .ok (.iconst 0, 1) := by decide +kernel
theorem dX0_init_42 : decode cX0_init 42 = .ok (.putfield 34, 3) := by decide +kernel
theorem dX0_init_45 : decode cX0_init 45 = .ok (.aload_n 0, 1) := by decide +kernel
theorem dX0_init_46 : decode cX0_init 46 = .ok (.iconst 0, 1) := by decide +kernel
theorem dX0_init_47 : decode cX0_init 47 = .ok (.putfield 37, 3) := by decide +kernel
theorem dX0_init_50 : decode cX0_init 50 = .ok (.aload_n 0, 1) := by decide +kernel
theorem dX0_init_51 : decode cX0_init 51 = .ok (.iconst 0, 1) := by decide +kernel
theorem dX0_init_52 : decode cX0_init 52 = .ok (.putfield 40, 3) := by decide +kernel
theorem dX0_init_55 : decode cX0_init 55 = .ok (.aload_n 0, 1) := by decide +kernel
theorem dX0_init_56 : decode cX0_init 56 = .ok (.iconst 0, 1) := by decide +kernel
theorem dX0_init_57 : decode cX0_init 57 = .ok (.putfield 43, 3) := by decide +kernel
theorem dX0_init_60 : decode cX0_init 60 = .ok (.aload_n 0, 1) := by decide +kernel
theorem dX0_init_61 : decode cX0_init 61 = .ok (.iload_n 1, 1) := by decide +kernel
theorem dX0_init_62 : decode cX0_init 62 = .ok (.putfield 46, 3) := by decide +kernel
theorem dX0_init_65 : decode cX0_init 65 = .ok (.return_, 1) := by decide +kernel
theorem dX0_copyFrom_0 : decode cX0_copyFrom 0 = .ok (.aload_n 0, 1) := by decide +kernel
theorem dX0_copyFrom_1 : decode cX0_copyFrom 1 = .ok (.aload_n 1, 1) := by decide +kernel
theorem dX0_copyFrom_2 : decode cX0_copyFrom 2 = .ok (.getfield 9, 3) := by decide +kernel
theorem dX0_copyFrom_5 : decode cX0_copyFrom 5 = .ok (.putfield 9, 3) := by decide +kernel
theorem dX0_copyFrom_8 : decode cX0_copyFrom 8 = .ok (.aload_n 0, 1) := by decide +kernel
theorem dX0_copyFrom_9 : decode cX0_copyFrom 9 = .ok (.aload_n 1, 1) := by decide +kernel
theorem dX0_copyFrom_10 : decode cX0_copyFrom 10 = .ok (.getfield 15, 3) := by decide +kernel
theorem dX0_copyFrom_13 : decode cX0_copyFrom 13 = .ok (.putfield 15, 3) := by decide +kernel
theorem dX0_copyFrom_16 : decode cX0_copyFrom 16 = .ok (.aload_n 0, 1) := by decide +kernel
theorem dX0_copyFrom_17 : decode cX0_copyFrom 17 = .ok (.aload_n 1, 1) := by decide +kernel
theorem dX0_copyFrom_18 : decode cX0_copyFrom 18 = .ok (.getfield 46, 3) := by decide +kernel
theorem dX0_copyFrom_21 : decode cX0_copyFrom 21 = .ok (.putfield 46, 3) := by decide +kernel
theorem dX0_copyFrom_24 : decode cX0_copyFrom 24 = .ok (.aload_n 0, 1) := by decide +kernel
theorem dX0_copyFrom_25 : decode cX0_copyFrom 25 = .ok (.aload_n 1, 1) := by decide +kernel
theorem dX0_copyFrom_26 : decode cX0_copyFrom 26 = .ok (.getfield 18, 3) := by decide +kernel
theorem dX0_copyFrom_29 : decode cX0_copyFrom 29 = .ok (.putfield 18, 3) := by decide +kernel
theorem dX0_copyFrom_32 : decode cX0_copyFrom 32 = .ok (.aload_n 0, 1) := by decide +kernel
theorem dX0_copyFrom_33 : decode cX0_copyFrom 33 = .ok (.aload_n 1, 1) := by decide +kernel
theorem dX0_copyFrom_34 : decode cX0_copyFrom 34 = .ok (.getfield 21, 3) := by decide +kernel
theorem dX0_copyFrom_37 : decode cX0_copyFrom 37 = .ok (.putfield 21, 3) := by decide +kernel
theorem dX0_copyFrom_40 : decode cX0_copyFrom 40 = .ok (.aload_n 0, 1) := by decide +kernel
theorem dX0_copyFrom_41 : decode cX0_copyFrom 41 = .ok (.aload_n 1, 1) := by decide +kernel
theorem dX0_copyFrom_42 : decode cX0_copyFrom 42 = .ok (.getfield 24, 3) := by decide +kernel
theorem dX0_copyFrom_45 : decode cX0_copyFrom 45 = .ok (.putfield 24, 3) := by decide +kernel
theorem dX0_copyFrom_48 : decode cX0_copyFrom 48 = .ok (.aload_n 0, 1) := by decide +kernel
theorem dX0_copyFrom_49 : decode cX0_copyFrom 49 = .ok (.aload_n 1, 1) := by decide +kernel
theorem dX0_copyFrom_50 : decode cX0_copyFrom 50 = .ok (.getfield 28, 3) := by decide +kernel
theorem dX0_copyFrom_53 : decode cX0_copyFrom 53 = .ok (.putfield 28, 3) := by decide +kernel
theorem dX0_copyFrom_56 : decode cX0_copyFrom 56 = .ok (.aload_n 0, 1) := by decide +kernel
theorem dX0_copyFrom_57 : decode cX0_copyFrom 57 = .ok (.aload_n 1, 1) := by decide +kernel
theorem dX0_copyFrom_58 : decode cX0_copyFrom 58 = .ok (.getfield 31, 3) := by decide +kernel
theorem dX0_copyFrom_61 : decode cX0_copyFrom 61 = .ok (.putfield 31, 3) := by decide +kernel
theorem dX0_copyFrom_64 : decode cX0_copyFrom 64 = .ok (.aload_n 0, 1) := by decide +kernel
theorem dX0_copyFrom_65 : decode cX0_copyFrom 65 = .ok (.aload_n 1, 1) := by decide +kernel
theorem dX0_copyFrom_66 : decode cX0_copyFrom 66 = .ok (.getfield 34, 3) := by decide +kernel
theorem dX0_copyFrom_69 : decode cX0_copyFrom 69 = .ok (.putfield 34, 3) := by decide +kernel
theorem dX0_copyFrom_72 : decode cX0_copyFrom 72 = .ok (.aload_n 0, 1) := by decide +kernel
theorem dX0_copyFrom_73 : decode cX0_copyFrom 73 = .ok (.aload_n 1, 1) := by decide +kernel
theorem dX0_copyFrom_74 : decode cX0_copyFrom 74 = .ok (.getfield 37, 3) := by decide +kernel
theorem dX0_copyFrom_77 : decode cX0_copyFrom 77 = .ok (.putfield 37, 3) := by decide +kernel
theorem dX0_copyFrom_80 : decode cX0_copyFrom 80 = .ok (.aload_n 0, 1) := by decide +kernel
theorem dX0_copyFrom_81 : decode cX0_copyFrom 81 = .ok (.aload_n 1, 1) := by decide +kernel
theorem dX0_copyFrom_82 : decode cX0_copyFrom 82 = .ok (.getfield 40, 3) := by decide +kernel
theorem dX0_copyFrom_85 : decode cX0_copyFrom 85 = .ok (.putfield 40, 3) := by decide +kernel
theorem dX0_copyFrom_88 : decode cX0_copyFrom 88 = .ok (.aload_n 0, 1) := by decide +kernel
theorem dX0_copyFrom_89 : decode cX0_copyFrom 89 = .ok (.aload_n 1, 1) := by decide +kernel
theorem dX0_copyFrom_90 : decode cX0_copyFrom 90 = .ok (.getfield 43, 3) := by decide +kernel
theorem dX0_copyFrom_93 : decode cX0_copyFrom 93 = .ok (.putfield 43, 3) := by decide +kernel
theorem dX0_copyFrom_96 : decode cX0_copyFrom 96 = .ok (.return_, 1) := by decide +kernel
theorem dX0_isFull_0 : decode cX0_isFull 0 = .ok (.aload_n 0, 1) := by decide +kernel
theorem dX0_isFull_1 : decode cX0_isFull 1 = .ok (.getfield 18, 3) := by decide +kernel
theorem dX0_isFull_4 : decode cX0_isFull 4 = .ok (.aload_n 0, 1) := by decide +kernel
theorem dX0_isFull_5 : decode cX0_isFull 5 = .ok (.getfield 9, 3) := by decide +kernel
theorem dX0_isFull_8 : decode cX0_isFull 8 = .ok (.if_icmp .lt 7, 3) := by decide +kernel
theorem dX0_isFull_11 : decode cX0_isFull 11 = .ok (.iconst 1, 1) := by decide +kernel
theorem dX0_isFull_12 : decode cX0_isFull 12 = .ok (.goto 4, 3) := by decide +kernel
theorem dX0_isFull_15 : decode cX0_isFull 15 = .ok (.iconst 0, 1) := by decide +kernel
theorem dX0_isFull_16 : decode cX0_isFull 16 = .ok (.ireturn, 1) := by decide +kernel
theorem dX0_tip_0 : decode cX0_tip 0 = .ok (.aload_n 0, 1) := by decide +kernel
theorem dX0_tip_1 : decode cX0_tip 1 = .ok (.getfield 18, 3) := by decide +kernel
theorem dX0_tip_4 : decode cX0_tip 4 = .ok (.istore_n 2, 1) := by decide +kernel
theorem dX0_tip_5 : decode cX0_tip 5 = .ok (.aload_n 0, 1) := by decide +kernel
theorem dX0_tip_6 : decode cX0_tip 6 = .ok (.getfield 9, 3) := by decide +kernel
theorem dX0_tip_9 : decode cX0_tip 9 = .ok (.ifCond .le 18, 3) := by decide +kernel
theorem dX0_tip_12 : decode cX0_tip 12 = .ok (.bipush 10, 2) := by decide +kernel
theorem dX0_tip_14 : decode cX0_tip 14 = .ok (.aload_n 0, 1) := by decide +kernel
theorem dX0_tip_15 : decode cX0_tip 15 = .ok (.getfield 18, 3) := by decide +kernel
theorem dX0_tip_18 : decode cX0_tip 18 = .ok (.imul, 1) := by decide +kernel
theorem dX0_tip_19 : decode cX0_tip 19 = .ok (.aload_n 0, 1) := by decide +kernel
theorem dX0_tip_20 : decode cX0_tip 20 = .ok (.getfield 9, 3) := by decide +kernel
theorem dX0_tip_23 : decode cX0_tip 23 = .ok (.idiv, 1) := by decide +kernel
theorem dX0_tip_24 : decode cX0_tip 24 = .ok (.goto 4, 3) := by decide +kernel
theorem dX0_tip_27 : decode cX0_tip 27 = .ok (.iconst 0, 1) := by decide +kernel
theorem dX0_tip_28 : decode cX0_tip 28 = .ok (.istore_n 3, 1) := by decide +kernel
theorem dX0_tip_29 : decode cX0_tip 29 = .ok (.aload_n 0, 1) := by decide +kernel
theorem dX0_tip_30 : decode cX0_tip 30 = .ok (.iload_n 3, 1) := by decide +kernel
theorem dX0_tip_31 : decode cX0_tip 31 = .ok (.bipush 30, 2) := by decide +kernel
theorem dX0_tip_33 : decode cX0_tip 33 = .ok (.if_icmp .ge 7, 3) := by decide +kernel
theorem dX0_tip_36 : decode cX0_tip 36 = .ok (.iload_n 3, 1) := by decide +kernel
theorem dX0_tip_37 : decode cX0_tip 37 = .ok (.goto 5, 3) := by decide +kernel
theorem dX0_tip_40 : decode cX0_tip 40 = .ok (.bipush 30, 2) := by decide +kernel
theorem dX0_tip_42 : decode cX0_tip 42 = .ok (.putfield 31, 3) := by decide +kernel
theorem dX0_tip_45 : decode cX0_tip 45 = .ok (.aload_n 0, 1) := by decide +kernel
theorem dX0_tip_46 : decode cX0_tip 46 = .ok (.iconst 0, 1) := by decide +kernel
theorem dX0_tip_47 : decode cX0_tip 47 = .ok (.putfield 18, 3) := by decide +kernel
theorem dX0_tip_50 : decode cX0_tip 50 = .ok (.aload_n 0, 1) := by decide +kernel
theorem dX0_tip_51 : decode cX0_tip 51 = .ok (.dup, 1) := by decide +kernel
theorem dX0_tip_52 : decode cX0_tip 52 = .ok (.getfield 34, 3) := by decide +kernel
theorem dX0_tip_55 : decode cX0_tip 55 = .ok (.iconst 1, 1) := by decide +kernel
theorem dX0_tip_56 : decode cX0_tip 56 = .ok (.iadd, 1) := by decide +kernel
theorem dX0_tip_57 : decode cX0_tip 57 = .ok (.putfield 34, 3) := by decide +kernel
theorem dX0_tip_60 : decode cX0_tip 60 = .ok (.aload_n 0, 1) := by decide +kernel
theorem dX0_tip_61 : decode cX0_tip 61 = .ok (.getfield 21, 3) := by decide +kernel
theorem dX0_tip_64 : decode cX0_tip 64 = .ok (.iconst (-1), 1) := by decide +kernel
theorem dX0_tip_65 : decode cX0_tip 65 = .ok (.if_icmp .ne 5, 3) := by decide +kernel
theorem dX0_tip_68 : decode cX0_tip 68 = .ok (.iload_n 2, 1) := by decide +kernel
theorem dX0_tip_69 : decode cX0_tip 69 = .ok (.ireturn, 1) := by decide +kernel
theorem dX0_tip_70 : decode cX0_tip 70 = .ok (.iload_n 1, 1) := by decide +kernel
theorem dX0_tip_71 : decode cX0_tip 71 = .ok (.aload_n 0, 1) := by decide +kernel
theorem dX0_tip_72 : decode cX0_tip 72 = .ok (.getfield 21, 3) := by decide +kernel
theorem dX0_tip_75 : decode cX0_tip 75 = .ok (.if_icmp .ne 16, 3) := by decide +kernel
theorem dX0_tip_78 : decode cX0_tip 78 = .ok (.aload_n 0, 1) := by decide +kernel
theorem dX0_tip_79 : decode cX0_tip 79 = .ok (.dup, 1) := by decide +kernel
theorem dX0_tip_80 : decode cX0_tip 80 = .ok (.getfield 37, 3) := by decide +kernel
theorem dX0_tip_83 : decode cX0_tip 83 = .ok (.iconst 1, 1) := by decide +kernel
theorem dX0_tip_84 : decode cX0_tip 84 = .ok (.iadd, 1) := by decide +kernel
theorem dX0_tip_85 : decode cX0_tip 85 = .ok (.putfield 37, 3) := by decide +kernel
theorem dX0_tip_88 : decode cX0_tip 88 = .ok (.goto 34, 3) := by decide +kernel
theorem dX0_tip_91 : decode cX0_tip 91 = .ok (.iload_n 1, 1) := by decide +kernel
theorem dX0_tip_92 : decode cX0_tip 92 = .ok (.aload_n 0, 1) := by decide +kernel
theorem dX0_tip_93 : decode cX0_tip 93 = .ok (.getfield 21, 3) := by decide +kernel
theorem dX0_tip_96 : decode cX0_tip 96 = .ok (.if_icmp .ge 16, 3) := by decide +kernel
theorem dX0_tip_99 : decode cX0_tip 99 = .ok (.aload_n 0, 1) := by decide +kernel
theorem dX0_tip_100 : decode cX0_tip 100 = .ok (.dup, 1) := by decide +kernel
theorem dX0_tip_101 : decode cX0_tip 101 = .ok (.getfield 40, 3) := by decide +kernel
theorem dX0_tip_104 : decode cX0_tip 104 = .ok (.iconst 1, 1) := by decide +kernel
theorem dX0_tip_105 : decode cX0_tip 105 = .ok (.iadd, 1) := by decide +kernel
theorem dX0_tip_106 : decode cX0_tip 106 = .ok (.putfield 40, 3) := by decide +kernel
theorem dX0_tip_109 : decode cX0_tip 109 = .ok (.goto 13, 3) := by decide +kernel
theorem dX0_tip_112 : decode cX0_tip 112 = .ok (.aload_n 0, 1) := by decide +kernel
theorem dX0_tip_113 : decode cX0_tip 113 = .ok (.dup, 1) := by decide +kernel
theorem dX0_tip_114 : decode cX0_tip 114 = .ok (.getfield 43, 3) := by decide +kernel
theorem dX0_tip_117 : decode cX0_tip 117 = .ok (.iconst 1, 1) := by decide +kernel
theorem dX0_tip_118 : decode cX0_tip 118 = .ok (.iadd, 1) := by decide +kernel
theorem dX0_tip_119 : decode cX0_tip 119 = .ok (.putfield 43, 3) := by decide +kernel
theorem dX0_tip_122 : decode cX0_tip 122 = .ok (.iload_n 2, 1) := by decide +kernel
theorem dX0_tip_123 : decode cX0_tip 123 = .ok (.ireturn, 1) := by decide +kernel
theorem dX0_runOver_0 : decode cX0_runOver 0 = .ok (.aload_n 0, 1) := by decide +kernel
theorem dX0_runOver_1 : decode cX0_runOver 1 = .ok (.getfield 18, 3) := by decide +kernel
theorem dX0_runOver_4 : decode cX0_runOver 4 = .ok (.sipush 9999, 3) := by decide +kernel
theorem dX0_runOver_7 : decode cX0_runOver 7 = .ok (.if_icmp .le 14, 3) := by decide +kernel
theorem dX0_runOver_10 : decode cX0_runOver 10 = .ok (.aload_n 0, 1) := by decide +kernel
theorem dX0_runOver_11 : decode cX0_runOver 11 = .ok (.getfield 18, 3) := by decide +kernel
theorem dX0_runOver_14 : decode cX0_runOver 14 = .ok (.sipush 9999, 3) := by decide +kernel
theorem dX0_runOver_17 : decode cX0_runOver 17 = .ok (.isub, 1) := by decide +kernel
theorem dX0_runOver_18 : decode cX0_runOver 18 = .ok (.goto 4, 3) := by decide +kernel
theorem dX0_runOver_21 : decode cX0_runOver 21 = .ok (.iconst 0, 1) := by decide +kernel
theorem dX0_runOver_22 : decode cX0_runOver 22 = .ok (.istore_n 1, 1) := by decide +kernel
theorem dX0_runOver_23 : decode cX0_runOver 23 = .ok (.aload_n 0, 1) := by decide +kernel
theorem dX0_runOver_24 : decode cX0_runOver 24 = .ok (.dup, 1) := by decide +kernel
theorem dX0_runOver_25 : decode cX0_runOver 25 = .ok (.getfield 18, 3) := by decide +kernel
theorem dX0_runOver_28 : decode cX0_runOver 28 = .ok (.iload_n 1, 1) := by decide +kernel
theorem dX0_runOver_29 : decode cX0_runOver 29 = .ok (.isub, 1) := by decide +kernel
theorem dX0_runOver_30 : decode cX0_runOver 30 = .ok (.putfield 18, 3) := by decide +kernel
theorem dX0_runOver_33 : decode cX0_runOver 33 = .ok (.iload_n 1, 1) := by decide +kernel
theorem dX0_runOver_34 : decode cX0_runOver 34 = .ok (.ireturn, 1) := by decide +kernel
theorem dX0_drip_0 : decode cX0_drip 0 = .ok (.aload_n 0, 1) := by decide +kernel
theorem dX0_drip_1 : decode cX0_drip 1 = .ok (.getfield 18, 3) := by decide +kernel
theorem dX0_drip_4 : decode cX0_drip 4 = .ok (.aload_n 0, 1) := by decide +kernel
theorem dX0_drip_5 : decode cX0_drip 5 = .ok (.getfield 15, 3) := by decide +kernel
theorem dX0_drip_8 : decode cX0_drip 8 = .ok (.invokestatic 49, 3) := by decide +kernel
theorem dX0_drip_11 : decode cX0_drip 11 = .ok (.istore_n 1, 1) := by decide +kernel
theorem dX0_drip_12 : decode cX0_drip 12 = .ok (.aload_n 0, 1) := by decide +kernel
theorem dX0_drip_13 : decode cX0_drip 13 = .ok (.dup, 1) := by decide +kernel
theorem dX0_drip_14 : decode cX0_drip 14 = .ok (.getfield 18, 3) := by decide +kernel
theorem dX0_drip_17 : decode cX0_drip 17 = .ok (.iload_n 1, 1) := by decide +kernel
theorem dX0_drip_18 : decode cX0_drip 18 = .ok (.isub, 1) := by decide +kernel
theorem dX0_drip_19 : decode cX0_drip 19 = .ok (.putfield 18, 3) := by decide +kernel
theorem dX0_drip_22 : decode cX0_drip 22 = .ok (.iload_n 1, 1) := by decide +kernel
theorem dX0_drip_23 : decode cX0_drip 23 = .ok (.ireturn, 1) := by decide +kernel
theorem dX0_tell_0 : decode cX0_tell 0 = .ok (.iload_n 1, 1) := by decide +kernel
theorem dX0_tell_1 : decode cX0_tell 1 = .ok (.tableswitch 142 0 11 #[63, 68, 73, 78, 83, 101, 109, 117, 122, 127, 132, 137], 63) := by decide +kernel
theorem dX0_tell_64 : decode cX0_tell 64 = .ok (.aload_n 0, 1) := by decide +kernel
theorem dX0_tell_65 : decode cX0_tell 65 = .ok (.getfield 9, 3) := by decide +kernel
theorem dX0_tell_68 : decode cX0_tell 68 = .ok (.ireturn, 1) := by decide +kernel
theorem dX0_tell_69 : decode cX0_tell 69 = .ok (.aload_n 0, 1) := by decide +kernel
theorem dX0_tell_70 : decode cX0_tell 70 = .ok (.getfield 15, 3) := by decide +kernel
theorem dX0_tell_73 : decode cX0_tell 73 = .ok (.ireturn, 1) := by decide +kernel
theorem dX0_tell_74 : decode cX0_tell 74 = .ok (.aload_n 0, 1) := by decide +kernel
theorem dX0_tell_75 : decode cX0_tell 75 = .ok (.getfield 46, 3) := by decide +kernel
theorem dX0_tell_78 : decode cX0_tell 78 = .ok (.ireturn, 1) := by decide +kernel
theorem dX0_tell_79 : decode cX0_tell 79 = .ok (.aload_n 0, 1) := by decide +kernel
theorem dX0_tell_80 : decode cX0_tell 80 = .ok (.getfield 18, 3) := by decide +kernel
theorem dX0_tell_83 : decode cX0_tell 83 = .ok (.ireturn, 1) := by decide +kernel
theorem dX0_tell_84 : decode cX0_tell 84 = .ok (.aload_n 0, 1) := by decide +kernel
theorem dX0_tell_85 : decode cX0_tell 85 = .ok (.getfield 21, 3) := by decide +kernel
theorem dX0_tell_88 : decode cX0_tell 88 = .ok (.iconst (-1), 1) := by decide +kernel
theorem dX0_tell_89 : decode cX0_tell 89 = .ok (.if_icmp .ne 8, 3) := by decide +kernel
theorem dX0_tell_92 : decode cX0_tell 92 = .ok (.bipush (-5), 2) := by decide +kernel
theorem dX0_tell_94 : decode cX0_tell 94 = .ok (.goto 7, 3) := by decide +kernel
theorem dX0_tell_97 : decode cX0_tell 97 = .ok (.aload_n 0, 1) := by decide +kernel
theorem dX0_tell_98 : decode cX0_tell 98 = .ok (.getfield 21, 3) := by decide +kernel
theorem dX0_tell_101 : decode cX0_tell 101 = .ok (.ireturn, 1) := by decide +kernel
theorem dX0_tell_102 : decode cX0_tell 102 = .ok (.aload_n 0, 1) := by decide +kernel
theorem dX0_tell_103 : decode cX0_tell 103 = .ok (.getfield 24, 3) := by decide +kernel
theorem dX0_tell_106 : decode cX0_tell 106 = .ok (.invokestatic 55, 3) := by decide +kernel
theorem dX0_tell_109 : decode cX0_tell 109 = .ok (.ireturn, 1) := by decide +kernel
theorem dX0_tell_110 : decode cX0_tell 110 = .ok (.aload_n 0, 1) := by decide +kernel
theorem dX0_tell_111 : decode cX0_tell 111 = .ok (.getfield 28, 3) := by decide +kernel
theorem dX0_tell_114 : decode cX0_tell 114 = .ok (.invokestatic 55, 3) := by decide +kernel
theorem dX0_tell_117 : decode cX0_tell 117 = .ok (.ireturn, 1) := by decide +kernel
theorem dX0_tell_118 : decode cX0_tell 118 = .ok (.aload_n 0, 1) := by decide +kernel
theorem dX0_tell_119 : decode cX0_tell 119 = .ok (.getfield 31, 3) := by decide +kernel
theorem dX0_tell_122 : decode cX0_tell 122 = .ok (.ireturn, 1) := by decide +kernel
theorem dX0_tell_123 : decode cX0_tell 123 = .ok (.aload_n 0, 1) := by decide +kernel
theorem dX0_tell_124 : decode cX0_tell 124 = .ok (.getfield 34, 3) := by decide +kernel
theorem dX0_tell_127 : decode cX0_tell 127 = .ok (.ireturn, 1) := by decide +kernel
theorem dX0_tell_128 : decode cX0_tell 128 = .ok (.aload_n 0, 1) := by decide +kernel
theorem dX0_tell_129 : decode cX0_tell 129 = .ok (.getfield 37, 3) := by decide +kernel
theorem dX0_tell_132 : decode cX0_tell 132 = .ok (.ireturn, 1) := by decide +kernel
theorem dX0_tell_133 : decode cX0_tell 133 = .ok (.aload_n 0, 1) := by decide +kernel
theorem dX0_tell_134 : decode cX0_tell 134 = .ok (.getfield 40, 3) := by decide +kernel
theorem dX0_tell_137 : decode cX0_tell 137 = .ok (.ireturn, 1) := by decide +kernel
theorem dX0_tell_138 : decode cX0_tell 138 = .ok (.aload_n 0, 1) := by decide +kernel
theorem dX0_tell_139 : decode cX0_tell 139 = .ok (.getfield 43, 3) := by decide +kernel
theorem dX0_tell_142 : decode cX0_tell 142 = .ok (.ireturn, 1) := by decide +kernel
theorem dX0_tell_143 : decode cX0_tell 143 = .ok (.bipush (-2), 2) := by decide +kernel
theorem dX0_tell_145 : decode cX0_tell 145 = .ok (.ireturn, 1) := by decide +kernel
theorem dX1_init_0 : decode cX1_init 0 = .ok (.aload_n 0, 1) := by decide +kernel
theorem dX1_init_1 : decode cX1_init 1 = .ok (.invokespecial 3, 3) := by decide +kernel
theorem dX1_init_4 : decode cX1_init 4 = .ok (.aload_n 0, 1) := by decide +kernel
theorem dX1_init_5 : decode cX1_init 5 = .ok (.bipush 60, 2) := by decide +kernel
theorem dX1_init_7 : decode cX1_init 7 = .ok (.newarray .char, 2) := by decide +kernel
theorem dX1_init_9 : decode cX1_init 9 = .ok (.putfield 9, 3) := by decide +kernel
theorem dX1_init_12 : decode cX1_init 12 = .ok (.aload_n 0, 1) := by decide +kernel
theorem dX1_init_13 : decode cX1_init 13 = .ok (.iconst 0, 1) := by decide +kernel
theorem dX1_init_14 : decode cX1_init 14 = .ok (.putfield 15, 3) := by decide +kernel
theorem dX1_init_17 : decode cX1_init 17 = .ok (.aload_n 0, 1) := by decide +kernel
theorem dX1_init_18 : decode cX1_init 18 = .ok (.bipush 60, 2) := by decide +kernel
theorem dX1_init_20 : decode cX1_init 20 = .ok (.newarray .int, 2) := by decide +kernel
theorem dX1_init_22 : decode cX1_init 22 = .ok (.putfield 19, 3) := by decide +kernel
theorem dX1_init_25 : decode cX1_init 25 = .ok (.aload_n 0, 1) := by decide +kernel
theorem dX1_init_26 : decode cX1_init 26 = .ok (.bipush 60, 2) := by decide +kernel
theorem dX1_init_28 : decode cX1_init 28 = .ok (.newarray .int, 2) := by decide +kernel
theorem dX1_init_30 : decode cX1_init 30 = .ok (.putfield 23, 3) := by decide +kernel
theorem dX1_init_33 : decode cX1_init 33 = .ok (.aload_n 0, 1) := by decide +kernel
theorem dX1_init_34 : decode cX1_init 34 = .ok (.bipush 60, 2) := by decide +kernel
theorem dX1_init_36 : decode cX1_init 36 = .ok (.newarray .int, 2) := by decide +kernel
theorem dX1_init_38 : decode cX1_init 38 = .ok (.putfield 26, 3) := by decide +kernel
theorem dX1_init_41 : decode cX1_init 41 = .ok (.aload_n 0, 1) := by decide +kernel
theorem dX1_init_42 : decode cX1_init 42 = .ok (.iconst 0, 1) := by decide +kernel
theorem dX1_init_43 : decode cX1_init 43 = .ok (.putfield 29, 3) := by decide +kernel
theorem dX1_init_46 : decode cX1_init 46 = .ok (.aload_n 0, 1) := by decide +kernel
theorem dX1_init_47 : decode cX1_init 47 = .ok (.iconst 0, 1) := by decide +kernel
theorem dX1_init_48 : decode cX1_init 48 = .ok (.putfield 32, 3) := by decide +kernel
theorem dX1_init_51 : decode cX1_init 51 = .ok (.return_, 1) := by decide +kernel
theorem dX1_append_0 : decode cX1_append 0 = .ok (.aload_n 0, 1) := by decide +kernel
theorem dX1_append_1 : decode cX1_append 1 = .ok (.getfield 15, 3) := by decide +kernel
theorem dX1_append_4 : decode cX1_append 4 = .ok (.bipush 60, 2) := by decide +kernel
theorem dX1_append_6 : decode cX1_append 6 = .ok (.if_icmp .lt 6, 3) := by decide +kernel
theorem dX1_append_9 : decode cX1_append 9 = .ok (.bipush (-3), 2) := by decide +kernel
theorem dX1_append_11 : decode cX1_append 11 = .ok (.ireturn, 1) := by decide +kernel
theorem dX1_append_12 : decode cX1_append 12 = .ok (.aload_n 0, 1) := by decide +kernel
theorem dX1_append_13 : decode cX1_append 13 = .ok (.getfield 9, 3) := by decide +kernel
theorem dX1_append_16 : decode cX1_append 16 = .ok (.aload_n 0, 1) := by decide +kernel
theorem dX1_append_17 : decode cX1_append 17 = .ok (.getfield 15, 3) := by decide +kernel
theorem dX1_append_20 : decode cX1_append 20 = .ok (.iload_n 1, 1) := by decide +kernel
theorem dX1_append_21 : decode cX1_append 21 = .ok (.castore, 1) := by decide +kernel
theorem dX1_append_22 : decode cX1_append 22 = .ok (.aload_n 0, 1) := by decide +kernel
theorem dX1_append_23 : decode cX1_append 23 = .ok (.dup, 1) := by decide +kernel
theorem dX1_append_24 : decode cX1_append 24 = .ok (.getfield 15, 3) := by decide +kernel
theorem dX1_append_27 : decode cX1_append 27 = .ok (.iconst 1, 1) := by decide +kernel
theorem dX1_append_28 : decode cX1_append 28 = .ok (.iadd, 1) := by decide +kernel
theorem dX1_append_29 : decode cX1_append 29 = .ok (.putfield 15, 3) := by decide +kernel
theorem dX1_append_32 : decode cX1_append 32 = .ok (.aload_n 0, 1) := by decide +kernel
theorem dX1_append_33 : decode cX1_append 33 = .ok (.getfield 15, 3) := by decide +kernel
theorem dX1_append_36 : decode cX1_append 36 = .ok (.ireturn, 1) := by decide +kernel
theorem dX1_empty_0 : decode cX1_empty 0 = .ok (.aload_n 0, 1) := by decide +kernel
theorem dX1_empty_1 : decode cX1_empty 1 = .ok (.getfield 15, 3) := by decide +kernel
theorem dX1_empty_4 : decode cX1_empty 4 = .ok (.istore_n 1, 1) := by decide +kernel
theorem dX1_empty_5 : decode cX1_empty 5 = .ok (.aload_n 0, 1) := by decide +kernel
theorem dX1_empty_6 : decode cX1_empty 6 = .ok (.iconst 0, 1) := by decide +kernel
theorem dX1_empty_7 : decode cX1_empty 7 = .ok (.putfield 15, 3) := by decide +kernel
theorem dX1_empty_10 : decode cX1_empty 10 = .ok (.iload_n 1, 1) := by decide +kernel
theorem dX1_empty_11 : decode cX1_empty 11 = .ok (.ireturn, 1) := by decide +kernel
theorem dX1_read_0 : decode cX1_read 0 = .ok (.aload_n 0, 1) := by decide +kernel
theorem dX1_read_1 : decode cX1_read 1 = .ok (.iconst 0, 1) := by decide +kernel
theorem dX1_read_2 : decode cX1_read 2 = .ok (.putfield 32, 3) := by decide +kernel
theorem dX1_read_5 : decode cX1_read 5 = .ok (.aload_n 0, 1) := by decide +kernel
theorem dX1_read_6 : decode cX1_read 6 = .ok (.iconst 0, 1) := by decide +kernel
theorem dX1_read_7 : decode cX1_read 7 = .ok (.putfield 29, 3) := by decide +kernel
theorem dX1_read_10 : decode cX1_read 10 = .ok (.iconst 0, 1) := by decide +kernel
theorem dX1_read_11 : decode cX1_read 11 = .ok (.istore_n 1, 1) := by decide +kernel
theorem dX1_read_12 : decode cX1_read 12 = .ok (.iload_n 1, 1) := by decide +kernel
theorem dX1_read_13 : decode cX1_read 13 = .ok (.bipush 60, 2) := by decide +kernel
theorem dX1_read_15 : decode cX1_read 15 = .ok (.if_icmp .ge 56, 3) := by decide +kernel
theorem dX1_read_18 : decode cX1_read 18 = .ok (.aload_n 0, 1) := by decide +kernel
theorem dX1_read_19 : decode cX1_read 19 = .ok (.iload_n 1, 1) := by decide +kernel
theorem dX1_read_20 : decode cX1_read 20 = .ok (.invokevirtual 35, 3) := by decide +kernel
theorem dX1_read_23 : decode cX1_read 23 = .ok (.ifCond .ne 8, 3) := by decide +kernel
theorem dX1_read_26 : decode cX1_read 26 = .ok (.aload_n 0, 1) := by decide +kernel
theorem dX1_read_27 : decode cX1_read 27 = .ok (.getfield 32, 3) := by decide +kernel
theorem dX1_read_30 : decode cX1_read 30 = .ok (.ireturn, 1) := by decide +kernel
theorem dX1_read_31 : decode cX1_read 31 = .ok (.aload_n 0, 1) := by decide +kernel
theorem dX1_read_32 : decode cX1_read 32 = .ok (.iload_n 1, 1) := by decide +kernel
theorem dX1_read_33 : decode cX1_read 33 = .ok (.iconst 1, 1) := by decide +kernel
theorem dX1_read_34 : decode cX1_read 34 = .ok (.iadd, 1) := by decide +kernel
theorem dX1_read_35 : decode cX1_read 35 = .ok (.putfield 29, 3) := by decide +kernel
theorem dX1_read_38 : decode cX1_read 38 = .ok (.aload_n 0, 1) := by decide +kernel
theorem dX1_read_39 : decode cX1_read 39 = .ok (.getfield 32, 3) := by decide +kernel
theorem dX1_read_42 : decode cX1_read 42 = .ok (.aload_n 0, 1) := by decide +kernel
theorem dX1_read_43 : decode cX1_read 43 = .ok (.getfield 15, 3) := by decide +kernel
theorem dX1_read_46 : decode cX1_read 46 = .ok (.if_icmp .lt 5, 3) := by decide +kernel
theorem dX1_read_49 : decode cX1_read 49 = .ok (.iconst (-1), 1) := by decide +kernel
theorem dX1_read_50 : decode cX1_read 50 = .ok (.ireturn, 1) := by decide +kernel
theorem dX1_read_51 : decode cX1_read 51 = .ok (.aload_n 0, 1) := by decide +kernel
theorem dX1_read_52 : decode cX1_read 52 = .ok (.bipush 59, 2) := by decide +kernel
theorem dX1_read_54 : decode cX1_read 54 = .ok (.invokevirtual 39, 3) := by decide +kernel
theorem dX1_read_57 : decode cX1_read 57 = .ok (.ifCond .ne 8, 3) := by decide +kernel
theorem dX1_read_60 : decode cX1_read 60 = .ok (.aload_n 0, 1) := by decide +kernel
theorem dX1_read_61 : decode cX1_read 61 = .ok (.getfield 32, 3) := by decide +kernel
theorem dX1_read_64 : decode cX1_read 64 = .ok (.ireturn, 1) := by decide +kernel
theorem dX1_read_65 : decode cX1_read 65 = .ok (.iinc 1 1, 3) := by decide +kernel
theorem dX1_read_68 : decode cX1_read 68 = .ok (.goto (-56), 3) := by decide +kernel
theorem dX1_read_71 : decode cX1_read 71 = .ok (.aload_n 0, 1) := by decide +kernel
theorem dX1_read_72 : decode cX1_read 72 = .ok (.getfield 32, 3) := by decide +kernel
theorem dX1_read_75 : decode cX1_read 75 = .ok (.ireturn, 1) := by decide +kernel
theorem dX1_readThing_0 : decode cX1_readThing 0 = .ok (.aload_n 0, 1) := by decide +kernel
theorem dX1_readThing_1 : decode cX1_readThing 1 = .ok (.invokevirtual 43, 3) := by decide +kernel
theorem dX1_readThing_4 : decode cX1_readThing 4 = .ok (.istore_n 2, 1) := by decide +kernel
theorem dX1_readThing_5 : decode cX1_readThing 5 = .ok (.iload_n 2, 1) := by decide +kernel
theorem dX1_readThing_6 : decode cX1_readThing 6 = .ok (.lookupswitch 229 #[(46, 203), (102, 137), (103, 180), (104, 50), (115, 94)], 50) := by decide +kernel
theorem dX1_readThing_56 : decode cX1_readThing 56 = .ok (.aload_n 0, 1) := by decide +kernel
theorem dX1_readThing_57 : decode cX1_readThing 57 = .ok (.iload_n 1, 1) := by decide +kernel
theorem dX1_readThing_58 : decode cX1_readThing 58 = .ok (.iload_n 2, 1) := by decide +kernel
theorem dX1_readThing_59 : decode cX1_readThing 59 = .ok (.invokevirtual 47, 3) := by decide +kernel
theorem dX1_readThing_62 : decode cX1_readThing 62 = .ok (.ifCond .eq 36, 3) := by decide +kernel
theorem dX1_readThing_65 : decode cX1_readThing 65 = .ok (.aload_n 0, 1) := by decide +kernel
theorem dX1_readThing_66 : decode cX1_readThing 66 = .ok (.iload_n 1, 1) := by decide +kernel
theorem dX1_readThing_67 : decode cX1_readThing 67 = .ok (.invokevirtual 51, 3) := by decide +kernel
theorem dX1_readThing_70 : decode cX1_readThing 70 = .ok (.ifCond .eq 28, 3) := by decide +kernel
theorem dX1_readThing_73 : decode cX1_readThing 73 = .ok (.aload_n 0, 1) := by decide +kernel
theorem dX1_readThing_74 : decode cX1_readThing 74 = .ok (.bipush 64, 2) := by decide +kernel
theorem dX1_readThing_76 : decode cX1_readThing 76 = .ok (.invokevirtual 39, 3) := by decide +kernel
theorem dX1_readThing_79 : decode cX1_readThing 79 = .ok (.ifCond .eq 19, 3) := by decide +kernel
theorem dX1_readThing_82 : decode cX1_readThing 82 = .ok (.aload_n 0, 1) := by decide +kernel
theorem dX1_readThing_83 : decode cX1_readThing 83 = .ok (.iload_n 1, 1) := by decide +kernel
theorem dX1_readThing_84 : decode cX1_readThing 84 = .ok (.iconst 0, 1) := by decide +kernel
theorem dX1_readThing_85 : decode cX1_readThing 85 = .ok (.sipush 239, 3) := by decide +kernel
theorem dX1_readThing_88 : decode cX1_readThing 88 = .ok (.invokevirtual 54, 3) := by decide +kernel
theorem dX1_readThing_91 : decode cX1_readThing 91 = .ok (.ifCond .eq 7, 3) := by decide +kernel
theorem dX1_readThing_94 : decode cX1_readThing 94 = .ok (.iconst 1, 1) := by decide +kernel
theorem dX1_readThing_95 : decode cX1_readThing 95 = .ok (.goto 4, 3) := by decide +kernel
theorem dX1_readThing_98 : decode cX1_readThing 98 = .ok (.iconst 0, 1) := by decide +kernel
theorem dX1_readThing_99 : decode cX1_readThing 99 = .ok (.ireturn, 1) := by decide +kernel
theorem dX1_readThing_100 : decode cX1_readThing 100 = .ok (.aload_n 0, 1) := by decide +kernel
theorem dX1_readThing_101 : decode cX1_readThing 101 = .ok (.iload_n 1, 1) := by decide +kernel
theorem dX1_readThing_102 : decode cX1_readThing 102 = .ok (.iload_n 2, 1) := by decide +kernel
theorem dX1_readThing_103 : decode cX1_readThing 103 = .ok (.invokevirtual 47, 3) := by decide +kernel
theorem dX1_readThing_106 : decode cX1_readThing 106 = .ok (.ifCond .eq 35, 3) := by decide +kernel
theorem dX1_readThing_109 : decode cX1_readThing 109 = .ok (.aload_n 0, 1) := by decide +kernel
theorem dX1_readThing_110 : decode cX1_readThing 110 = .ok (.iload_n 1, 1) := by decide +kernel
theorem dX1_readThing_111 : decode cX1_readThing 111 = .ok (.invokevirtual 51, 3) := by decide +kernel
theorem dX1_readThing_114 : decode cX1_readThing 114 = .ok (.ifCond .eq 27, 3) := by decide +kernel
theorem dX1_readThing_117 : decode cX1_readThing 117 = .ok (.aload_n 0, 1) := by decide +kernel
theorem dX1_readThing_118 : decode cX1_readThing 118 = .ok (.bipush 61, 2) := by decide +kernel
theorem dX1_readThing_120 : decode cX1_readThing 120 = .ok (.invokevirtual 39, 3) := by decide +kernel
theorem dX1_readThing_123 : decode cX1_readThing 123 = .ok (.ifCond .eq 18, 3) := by decide +kernel
theorem dX1_readThing_126 : decode cX1_readThing 126 = .ok (.aload_n 0, 1) := by decide +kernel
theorem dX1_readThing_127 : decode cX1_readThing 127 = .ok (.iload_n 1, 1) := by decide +kernel
theorem dX1_readThing_128 : decode cX1_readThing 128 = .ok (.iconst 1, 1) := by decide +kernel
theorem dX1_readThing_129 : decode cX1_readThing 129 = .ok (.bipush 99, 2) := by decide +kernel
theorem dX1_readThing_131 : decode cX1_readThing 131 = .ok (.invokevirtual 54, 3) := by decide +kernel
theorem dX1_readThing_134 : decode cX1_readThing 134 = .ok (.ifCond .eq 7, 3) := by decide +kernel
theorem dX1_readThing_137 : decode cX1_readThing 137 = .ok (.iconst 1, 1) := by decide +kernel
theorem dX1_readThing_138 : decode cX1_readThing 138 = .ok (.goto 4, 3) := by decide +kernel
theorem dX1_readThing_141 : decode cX1_readThing 141 = .ok (.iconst 0, 1) := by decide +kernel
theorem dX1_readThing_142 : decode cX1_readThing 142 = .ok (.ireturn, 1) := by decide +kernel
theorem dX1_readThing_143 : decode cX1_readThing 143 = .ok (.aload_n 0, 1) := by decide +kernel
theorem dX1_readThing_144 : decode cX1_readThing 144 = .ok (.iload_n 1, 1) := by decide +kernel
theorem dX1_readThing_145 : decode cX1_readThing 145 = .ok (.iload_n 2, 1) := by decide +kernel
theorem dX1_readThing_146 : decode cX1_readThing 146 = .ok (.invokevirtual 47, 3) := by decide +kernel
theorem dX1_readThing_149 : decode cX1_readThing 149 = .ok (.ifCond .eq 35, 3) := by decide +kernel
theorem dX1_readThing_152 : decode cX1_readThing 152 = .ok (.aload_n 0, 1) := by decide +kernel
theorem dX1_readThing_153 : decode cX1_readThing 153 = .ok (.iload_n 1, 1) := by decide +kernel
theorem dX1_readThing_154 : decode cX1_readThing 154 = .ok (.invokevirtual 51, 3) := by decide +kernel
theorem dX1_readThing_157 : decode cX1_readThing 157 = .ok (.ifCond .eq 27, 3) := by decide +kernel
theorem dX1_readThing_160 : decode cX1_readThing 160 = .ok (.aload_n 0, 1) := by decide +kernel
theorem dX1_readThing_161 : decode cX1_readThing 161 = .ok (.bipush 43, 2) := by decide +kernel
theorem dX1_readThing_163 : decode cX1_readThing 163 = .ok (.invokevirtual 39, 3) := by decide +kernel
theorem dX1_readThing_166 : decode cX1_readThing 166 = .ok (.ifCond .eq 18, 3) := by decide +kernel
theorem dX1_readThing_169 : decode cX1_readThing 169 = .ok (.aload_n 0, 1) := by decide +kernel
theorem dX1_readThing_170 : decode cX1_readThing 170 = .ok (.iload_n 1, 1) := by decide +kernel
theorem dX1_readThing_171 : decode cX1_readThing 171 = .ok (.iconst 1, 1) := by decide +kernel
theorem dX1_readThing_172 : decode cX1_readThing 172 = .ok (.bipush 99, 2) := by decide +kernel
theorem dX1_readThing_174 : decode cX1_readThing 174 = .ok (.invokevirtual 54, 3) := by decide +kernel
theorem dX1_readThing_177 : decode cX1_readThing 177 = .ok (.ifCond .eq 7, 3) := by decide +kernel
theorem dX1_readThing_180 : decode cX1_readThing 180 = .ok (.iconst 1, 1) := by decide +kernel
theorem dX1_readThing_181 : decode cX1_readThing 181 = .ok (.goto 4, 3) := by decide +kernel
theorem dX1_readThing_184 : decode cX1_readThing 184 = .ok (.iconst 0, 1) := by decide +kernel
theorem dX1_readThing_185 : decode cX1_readThing 185 = .ok (.ireturn, 1) := by decide +kernel
theorem dX1_readThing_186 : decode cX1_readThing 186 = .ok (.aload_n 0, 1) := by decide +kernel
theorem dX1_readThing_187 : decode cX1_readThing 187 = .ok (.iload_n 1, 1) := by decide +kernel
theorem dX1_readThing_188 : decode cX1_readThing 188 = .ok (.iload_n 2, 1) := by decide +kernel
theorem dX1_readThing_189 : decode cX1_readThing 189 = .ok (.invokevirtual 47, 3) := by decide +kernel
theorem dX1_readThing_192 : decode cX1_readThing 192 = .ok (.ifCond .eq 15, 3) := by decide +kernel
theorem dX1_readThing_195 : decode cX1_readThing 195 = .ok (.aload_n 0, 1) := by decide +kernel
theorem dX1_readThing_196 : decode cX1_readThing 196 = .ok (.iload_n 1, 1) := by decide +kernel
theorem dX1_readThing_197 : decode cX1_readThing 197 = .ok (.invokevirtual 51, 3) := by decide +kernel
theorem dX1_readThing_200 : decode cX1_readThing 200 = .ok (.ifCond .eq 7, 3) := by decide +kernel
theorem dX1_readThing_203 : decode cX1_readThing 203 = .ok (.iconst 1, 1) := by decide +kernel
theorem dX1_readThing_204 : decode cX1_readThing 204 = .ok (.goto 4, 3) := by decide +kernel
theorem dX1_readThing_207 : decode cX1_readThing 207 = .ok (.iconst 0, 1) := by decide +kernel
theorem dX1_readThing_208 : decode cX1_readThing 208 = .ok (.ireturn, 1) := by decide +kernel
theorem dX1_readThing_209 : decode cX1_readThing 209 = .ok (.aload_n 0, 1) := by decide +kernel
theorem dX1_readThing_210 : decode cX1_readThing 210 = .ok (.iload_n 1, 1) := by decide +kernel
theorem dX1_readThing_211 : decode cX1_readThing 211 = .ok (.iload_n 2, 1) := by decide +kernel
theorem dX1_readThing_212 : decode cX1_readThing 212 = .ok (.invokevirtual 47, 3) := by decide +kernel
theorem dX1_readThing_215 : decode cX1_readThing 215 = .ok (.ifCond .eq 18, 3) := by decide +kernel
theorem dX1_readThing_218 : decode cX1_readThing 218 = .ok (.aload_n 0, 1) := by decide +kernel
theorem dX1_readThing_219 : decode cX1_readThing 219 = .ok (.iload_n 1, 1) := by decide +kernel
theorem dX1_readThing_220 : decode cX1_readThing 220 = .ok (.iconst 1, 1) := by decide +kernel
theorem dX1_readThing_221 : decode cX1_readThing 221 = .ok (.bipush 99, 2) := by decide +kernel
theorem dX1_readThing_223 : decode cX1_readThing 223 = .ok (.invokevirtual 54, 3) := by decide +kernel
theorem dX1_readThing_226 : decode cX1_readThing 226 = .ok (.ifCond .eq 7, 3) := by decide +kernel
theorem dX1_readThing_229 : decode cX1_readThing 229 = .ok (.iconst 1, 1) := by decide +kernel
theorem dX1_readThing_230 : decode cX1_readThing 230 = .ok (.goto 4, 3) := by decide +kernel
theorem dX1_readThing_233 : decode cX1_readThing 233 = .ok (.iconst 0, 1) := by decide +kernel
theorem dX1_readThing_234 : decode cX1_readThing 234 = .ok (.ireturn, 1) := by decide +kernel
theorem dX1_readThing_235 : decode cX1_readThing 235 = .ok (.iconst 0, 1) := by decide +kernel
theorem dX1_readThing_236 : decode cX1_readThing 236 = .ok (.ireturn, 1) := by decide +kernel
theorem dX1_startThing_0 : decode cX1_startThing 0 = .ok (.iload_n 1, 1) := by decide +kernel
theorem dX1_startThing_1 : decode cX1_startThing 1 = .ok (.iconst 0, 1) := by decide +kernel
theorem dX1_startThing_2 : decode cX1_startThing 2 = .ok (.bipush 59, 2) := by decide +kernel
theorem dX1_startThing_4 : decode cX1_startThing 4 = .ok (.invokestatic 58, 3) := by decide +kernel
theorem dX1_startThing_7 : decode cX1_startThing 7 = .ok (.ifCond .ne 5, 3) := by decide +kernel
theorem dX1_startThing_10 : decode cX1_startThing 10 = .ok (.iconst 0, 1) := by decide +kernel
theorem dX1_startThing_11 : decode cX1_startThing 11 = .ok (.ireturn, 1) := by decide +kernel
theorem dX1_startThing_12 : decode cX1_startThing 12 = .ok (.aload_n 0, 1) := by decide +kernel
theorem dX1_startThing_13 : decode cX1_startThing 13 = .ok (.getfield 19, 3) := by decide +kernel
theorem dX1_startThing_16 : decode cX1_startThing 16 = .ok (.iload_n 1, 1) := by decide +kernel
theorem dX1_startThing_17 : decode cX1_startThing 17 = .ok (.iload_n 2, 1) := by decide +kernel
theorem dX1_startThing_18 : decode cX1_startThing 18 = .ok (.iastore, 1) := by decide +kernel
theorem dX1_startThing_19 : decode cX1_startThing 19 = .ok (.aload_n 0, 1) := by decide +kernel
theorem dX1_startThing_20 : decode cX1_startThing 20 = .ok (.dup, 1) := by decide +kernel
theorem dX1_startThing_21 : decode cX1_startThing 21 = .ok (.getfield 32, 3) := by decide +kernel
theorem dX1_startThing_24 : decode cX1_startThing 24 = .ok (.iconst 1, 1) := by decide +kernel
theorem dX1_startThing_25 : decode cX1_startThing 25 = .ok (.iadd, 1) := by decide +kernel
theorem dX1_startThing_26 : decode cX1_startThing 26 = .ok (.putfield 32, 3) := by decide +kernel
theorem dX1_startThing_29 : decode cX1_startThing 29 = .ok (.iconst 1, 1) := by decide +kernel
theorem dX1_startThing_30 : decode cX1_startThing 30 = .ok (.ireturn, 1) := by decide +kernel
theorem dX1_readCup_0 : decode cX1_readCup 0 = .ok (.aload_n 0, 1) := by decide +kernel
theorem dX1_readCup_1 : decode cX1_readCup 1 = .ok (.invokevirtual 61, 3) := by decide +kernel
theorem dX1_readCup_4 : decode cX1_readCup 4 = .ok (.istore_n 2, 1) := by decide +kernel
theorem dX1_readCup_5 : decode cX1_readCup 5 = .ok (.iload_n 2, 1) := by decide +kernel
theorem dX1_readCup_6 : decode cX1_readCup 6 = .ok (.iconst 0, 1) := by decide +kernel
theorem dX1_readCup_7 : decode cX1_readCup 7 = .ok (.bipush 7, 2) := by decide +kernel
theorem dX1_readCup_9 : decode cX1_readCup 9 = .ok (.invokestatic 58, 3) := by decide +kernel
theorem dX1_readCup_12 : decode cX1_readCup 12 = .ok (.ifCond .ne 5, 3) := by decide +kernel
theorem dX1_readCup_15 : decode cX1_readCup 15 = .ok (.iconst 0, 1) := by decide +kernel
theorem dX1_readCup_16 : decode cX1_readCup 16 = .ok (.ireturn, 1) := by decide +kernel
theorem dX1_readCup_17 : decode cX1_readCup 17 = .ok (.aload_n 0, 1) := by decide +kernel
theorem dX1_readCup_18 : decode cX1_readCup 18 = .ok (.getfield 23, 3) := by decide +kernel
theorem dX1_readCup_21 : decode cX1_readCup 21 = .ok (.iload_n 1, 1) := by decide +kernel
theorem dX1_readCup_22 : decode cX1_readCup 22 = .ok (.iload_n 2, 1) := by decide +kernel
theorem dX1_readCup_23 : decode cX1_readCup 23 = .ok (.iastore, 1) := by decide +kernel
theorem dX1_readCup_24 : decode cX1_readCup 24 = .ok (.aload_n 0, 1) := by decide +kernel
theorem dX1_readCup_25 : decode cX1_readCup 25 = .ok (.dup, 1) := by decide +kernel
theorem dX1_readCup_26 : decode cX1_readCup 26 = .ok (.getfield 32, 3) := by decide +kernel
theorem dX1_readCup_29 : decode cX1_readCup 29 = .ok (.iconst 1, 1) := by decide +kernel
theorem dX1_readCup_30 : decode cX1_readCup 30 = .ok (.iadd, 1) := by decide +kernel
theorem dX1_readCup_31 : decode cX1_readCup 31 = .ok (.putfield 32, 3) := by decide +kernel
theorem dX1_readCup_34 : decode cX1_readCup 34 = .ok (.iconst 1, 1) := by decide +kernel
theorem dX1_readCup_35 : decode cX1_readCup 35 = .ok (.ireturn, 1) := by decide +kernel
theorem dX1_readNumber_0 : decode cX1_readNumber 0 = .ok (.aload_n 0, 1) := by decide +kernel
theorem dX1_readNumber_1 : decode cX1_readNumber 1 = .ok (.invokevirtual 61, 3) := by decide +kernel
theorem dX1_readNumber_4 : decode cX1_readNumber 4 = .ok (.istore 4, 2) := by decide +kernel
theorem dX1_readNumber_6 : decode cX1_readNumber 6 = .ok (.iload 4, 2) := by decide +kernel
theorem dX1_readNumber_8 : decode cX1_readNumber 8 = .ok (.iload_n 2, 1) := by decide +kernel
theorem dX1_readNumber_9 : decode cX1_readNumber 9 = .ok (.if_icmp .ge 5, 3) := by decide +kernel
theorem dX1_readNumber_12 : decode cX1_readNumber 12 = .ok (.iconst 0, 1) := by decide +kernel
theorem dX1_readNumber_13 : decode cX1_readNumber 13 = .ok (.ireturn, 1) := by decide +kernel
theorem dX1_readNumber_14 : decode cX1_readNumber 14 = .ok (.aload_n 0, 1) := by decide +kernel
theorem dX1_readNumber_15 : decode cX1_readNumber 15 = .ok (.dup, 1) := by decide +kernel
theorem dX1_readNumber_16 : decode cX1_readNumber 16 = .ok (.getfield 32, 3) := by decide +kernel
theorem dX1_readNumber_19 : decode cX1_readNumber 19 = .ok (.iconst 1, 1) := by decide +kernel
theorem dX1_readNumber_20 : decode cX1_readNumber 20 = .ok (.iadd, 1) := by decide +kernel
theorem dX1_readNumber_21 : decode cX1_readNumber 21 = .ok (.putfield 32, 3) := by decide +kernel
theorem dX1_readNumber_24 : decode cX1_readNumber 24 = .ok (.iconst 1, 1) := by decide +kernel
theorem dX1_readNumber_25 : decode cX1_readNumber 25 = .ok (.istore 5, 2) := by decide +kernel
theorem dX1_readNumber_27 : decode cX1_readNumber 27 = .ok (.iload 5, 2) := by decide +kernel
theorem dX1_readNumber_29 : decode cX1_readNumber 29 = .ok (.iconst 3, 1) := by decide +kernel
theorem dX1_readNumber_30 : decode cX1_readNumber 30 = .ok (.if_icmp .ge 60, 3) := by decide +kernel
theorem dX1_readNumber_33 : decode cX1_readNumber 33 = .ok (.aload_n 0, 1) := by decide +kernel
theorem dX1_readNumber_34 : decode cX1_readNumber 34 = .ok (.invokevirtual 61, 3) := by decide +kernel
theorem dX1_readNumber_37 : decode cX1_readNumber 37 = .ok (.istore 6, 2) := by decide +kernel
theorem dX1_readNumber_39 : decode cX1_readNumber 39 = .ok (.iload 4, 2) := by decide +kernel
theorem dX1_readNumber_41 : decode cX1_readNumber 41 = .ok (.ifCond .eq 49, 3) := by decide +kernel
theorem dX1_readNumber_44 : decode cX1_readNumber 44 = .ok (.iload 6, 2) := by decide +kernel
theorem dX1_readNumber_46 : decode cX1_readNumber 46 = .ok (.ifCond .lt 44, 3) := by decide +kernel
theorem dX1_readNumber_49 : decode cX1_readNumber 49 = .ok (.bipush 10, 2) := by decide +kernel
theorem dX1_readNumber_51 : decode cX1_readNumber 51 = .ok (.iload 4, 2) := by decide +kernel
theorem dX1_readNumber_53 : decode cX1_readNumber 53 = .ok (.imul, 1) := by decide +kernel
theorem dX1_readNumber_54 : decode cX1_readNumber 54 = .ok (.iload 6, 2) := by decide +kernel
theorem dX1_readNumber_56 : decode cX1_readNumber 56 = .ok (.iadd, 1) := by decide +kernel
theorem dX1_readNumber_57 : decode cX1_readNumber 57 = .ok (.iload_n 3, 1) := by decide +kernel
theorem dX1_readNumber_58 : decode cX1_readNumber 58 = .ok (.if_icmp .le 6, 3) := by decide +kernel
theorem dX1_readNumber_61 : decode cX1_readNumber 61 = .ok (.goto 29, 3) := by decide +kernel
theorem dX1_readNumber_64 : decode cX1_readNumber 64 = .ok (.bipush 10, 2) := by decide +kernel
theorem dX1_readNumber_66 : decode cX1_readNumber 66 = .ok (.iload 4, 2) := by decide +kernel
theorem dX1_readNumber_68 : decode cX1_readNumber 68 = .ok (.imul, 1) := by decide +kernel
theorem dX1_readNumber_69 : decode cX1_readNumber 69 = .ok (.iload 6, 2) := by decide +kernel
theorem dX1_readNumber_71 : decode cX1_readNumber 71 = .ok (.iadd, 1) := by decide +kernel
theorem dX1_readNumber_72 : decode cX1_readNumber 72 = .ok (.istore 4, 2) := by decide +kernel
theorem dX1_readNumber_74 : decode cX1_readNumber 74 = .ok (.aload_n 0, 1) := by decide +kernel
theorem dX1_readNumber_75 : decode cX1_readNumber 75 = .ok (.dup, 1) := by decide +kernel
theorem dX1_readNumber_76 : decode cX1_readNumber 76 = .ok (.getfield 32, 3) := by decide +kernel
theorem dX1_readNumber_79 : decode cX1_readNumber 79 = .ok (.iconst 1, 1) := by decide +kernel
theorem dX1_readNumber_80 : decode cX1_readNumber 80 = .ok (.iadd, 1) := by decide +kernel
theorem dX1_readNumber_81 : decode cX1_readNumber 81 = .ok (.putfield 32, 3) := by decide +kernel
theorem dX1_readNumber_84 : decode cX1_readNumber 84 = .ok (.iinc 5 1, 3) := by decide +kernel
theorem dX1_readNumber_87 : decode cX1_readNumber 87 = .ok (.goto (-60), 3) := by decide +kernel
theorem dX1_readNumber_90 : decode cX1_readNumber 90 = .ok (.aload_n 0, 1) := by decide +kernel
theorem dX1_readNumber_91 : decode cX1_readNumber 91 = .ok (.getfield 26, 3) := by decide +kernel
theorem dX1_readNumber_94 : decode cX1_readNumber 94 = .ok (.iload_n 1, 1) := by decide +kernel
theorem dX1_readNumber_95 : decode cX1_readNumber 95 = .ok (.iload 4, 2) := by decide +kernel
theorem dX1_readNumber_97 : decode cX1_readNumber 97 = .ok (.iastore, 1) := by decide +kernel
theorem dX1_readNumber_98 : decode cX1_readNumber 98 = .ok (.iconst 1, 1) := by decide +kernel
theorem dX1_readNumber_99 : decode cX1_readNumber 99 = .ok (.ireturn, 1) := by decide +kernel
theorem dX1_skip_0 : decode cX1_skip 0 = .ok (.aload_n 0, 1) := by decide +kernel
theorem dX1_skip_1 : decode cX1_skip 1 = .ok (.invokevirtual 43, 3) := by decide +kernel
theorem dX1_skip_4 : decode cX1_skip 4 = .ok (.iload_n 1, 1) := by decide +kernel
theorem dX1_skip_5 : decode cX1_skip 5 = .ok (.if_icmp .eq 5, 3) := by decide +kernel
theorem dX1_skip_8 : decode cX1_skip 8 = .ok (.iconst 0, 1) := by decide +kernel
theorem dX1_skip_9 : decode cX1_skip 9 = .ok (.ireturn, 1) := by decide +kernel
theorem dX1_skip_10 : decode cX1_skip 10 = .ok (.aload_n 0, 1) := by decide +kernel
theorem dX1_skip_11 : decode cX1_skip 11 = .ok (.dup, 1) := by decide +kernel
theorem dX1_skip_12 : decode cX1_skip 12 = .ok (.getfield 32, 3) := by decide +kernel
theorem dX1_skip_15 : decode cX1_skip 15 = .ok (.iconst 1, 1) := by decide +kernel
theorem dX1_skip_16 : decode cX1_skip 16 = .ok (.iadd, 1) := by decide +kernel
theorem dX1_skip_17 : decode cX1_skip 17 = .ok (.putfield 32, 3) := by decide +kernel
theorem dX1_skip_20 : decode cX1_skip 20 = .ok (.iconst 1, 1) := by decide +kernel
theorem dX1_skip_21 : decode cX1_skip 21 = .ok (.ireturn, 1) := by decide +kernel
theorem dX1_look_0 : decode cX1_look 0 = .ok (.aload_n 0, 1) := by decide +kernel
theorem dX1_look_1 : decode cX1_look 1 = .ok (.getfield 32, 3) := by decide +kernel
theorem dX1_look_4 : decode cX1_look 4 = .ok (.ifCond .lt 23, 3) := by decide +kernel
theorem dX1_look_7 : decode cX1_look 7 = .ok (.aload_n 0, 1) := by decide +kernel
theorem dX1_look_8 : decode cX1_look 8 = .ok (.getfield 32, 3) := by decide +kernel
theorem dX1_look_11 : decode cX1_look 11 = .ok (.aload_n 0, 1) := by decide +kernel
theorem dX1_look_12 : decode cX1_look 12 = .ok (.getfield 15, 3) := by decide +kernel
theorem dX1_look_15 : decode cX1_look 15 = .ok (.if_icmp .ge 12, 3) := by decide +kernel
theorem dX1_look_18 : decode cX1_look 18 = .ok (.aload_n 0, 1) := by decide +kernel
theorem dX1_look_19 : decode cX1_look 19 = .ok (.getfield 32, 3) := by decide +kernel
theorem dX1_look_22 : decode cX1_look 22 = .ok (.bipush 60, 2) := by decide +kernel
theorem dX1_look_24 : decode cX1_look 24 = .ok (.if_icmp .lt 5, 3) := by decide +kernel
theorem dX1_look_27 : decode cX1_look 27 = .ok (.iconst (-1), 1) := by decide +kernel
theorem dX1_look_28 : decode cX1_look 28 = .ok (.ireturn, 1) := by decide +kernel
theorem dX1_look_29 : decode cX1_look 29 = .ok (.aload_n 0, 1) := by decide +kernel
theorem dX1_look_30 : decode cX1_look 30 = .ok (.getfield 9, 3) := by decide +kernel
theorem dX1_look_33 : decode cX1_look 33 = .ok (.aload_n 0, 1) := by decide +kernel
theorem dX1_look_34 : decode cX1_look 34 = .ok (.getfield 32, 3) := by decide +kernel
theorem dX1_look_37 : decode cX1_look 37 = .ok (.caload, 1) := by decide +kernel
theorem dX1_look_38 : decode cX1_look 38 = .ok (.ireturn, 1) := by decide +kernel
theorem dX1_lookForDigit_0 : decode cX1_lookForDigit 0 = .ok (.aload_n 0, 1) := by decide +kernel
theorem dX1_lookForDigit_1 : decode cX1_lookForDigit 1 = .ok (.invokevirtual 43, 3) := by decide +kernel
theorem dX1_lookForDigit_4 : decode cX1_lookForDigit 4 = .ok (.istore_n 1, 1) := by decide +kernel
theorem dX1_lookForDigit_5 : decode cX1_lookForDigit 5 = .ok (.iload_n 1, 1) := by decide +kernel
theorem dX1_lookForDigit_6 : decode cX1_lookForDigit 6 = .ok (.bipush 48, 2) := by decide +kernel
theorem dX1_lookForDigit_8 : decode cX1_lookForDigit 8 = .ok (.bipush 57, 2) := by decide +kernel
theorem dX1_lookForDigit_10 : decode cX1_lookForDigit 10 = .ok (.invokestatic 58, 3) := by decide +kernel
theorem dX1_lookForDigit_13 : decode cX1_lookForDigit 13 = .ok (.ifCond .eq 10, 3) := by decide +kernel
theorem dX1_lookForDigit_16 : decode cX1_lookForDigit 16 = .ok (.iload_n 1, 1) := by decide +kernel
theorem dX1_lookForDigit_17 : decode cX1_lookForDigit 17 = .ok (.bipush 48, 2) := by decide +kernel
theorem dX1_lookForDigit_19 : decode cX1_lookForDigit 19 = .ok (.isub, 1) := by decide +kernel
theorem dX1_lookForDigit_20 : decode cX1_lookForDigit 20 = .ok (.goto 4, 3) := by decide +kernel
theorem dX1_lookForDigit_23 : decode cX1_lookForDigit 23 = .ok (.iconst (-1), 1) := by decide +kernel
theorem dX1_lookForDigit_24 : decode cX1_lookForDigit 24 = .ok (.ireturn, 1) := by decide +kernel
theorem dX1_doThing_0 : decode cX1_doThing 0 = .ok (.iload_n 1, 1) := by decide +kernel
theorem dX1_doThing_1 : decode cX1_doThing 1 = .ok (.iconst 0, 1) := by decide +kernel
theorem dX1_doThing_2 : decode cX1_doThing 2 = .ok (.bipush 59, 2) := by decide +kernel
theorem dX1_doThing_4 : decode cX1_doThing 4 = .ok (.invokestatic 58, 3) := by decide +kernel
theorem dX1_doThing_7 : decode cX1_doThing 7 = .ok (.ifCond .ne 6, 3) := by decide +kernel
theorem dX1_doThing_10 : decode cX1_doThing 10 = .ok (.bipush (-2), 2) := by decide +kernel
theorem dX1_doThing_12 : decode cX1_doThing 12 = .ok (.ireturn, 1) := by decide +kernel
theorem dX1_doThing_13 : decode cX1_doThing 13 = .ok (.aload_n 0, 1) := by decide +kernel
theorem dX1_doThing_14 : decode cX1_doThing 14 = .ok (.getfield 19, 3) := by decide +kernel
theorem dX1_doThing_17 : decode cX1_doThing 17 = .ok (.iload_n 1, 1) := by decide +kernel
theorem dX1_doThing_18 : decode cX1_doThing 18 = .ok (.iaload, 1) := by decide +kernel
theorem dX1_doThing_19 : decode cX1_doThing 19 = .ok (.lookupswitch 104 #[(102, 76), (103, 93), (104, 41), (115, 58)], 41) := by decide +kernel
theorem dX1_doThing_60 : decode cX1_doThing 60 = .ok (.aload_n 2, 1) := by decide +kernel
theorem dX1_doThing_61 : decode cX1_doThing 61 = .ok (.aload_n 0, 1) := by decide +kernel
theorem dX1_doThing_62 : decode cX1_doThing 62 = .ok (.getfield 23, 3) := by decide +kernel
theorem dX1_doThing_65 : decode cX1_doThing 65 = .ok (.iload_n 1, 1) := by decide +kernel
theorem dX1_doThing_66 : decode cX1_doThing 66 = .ok (.iaload, 1) := by decide +kernel
theorem dX1_doThing_67 : decode cX1_doThing 67 = .ok (.aload_n 0, 1) := by decide +kernel
theorem dX1_doThing_68 : decode cX1_doThing 68 = .ok (.getfield 26, 3) := by decide +kernel
theorem dX1_doThing_71 : decode cX1_doThing 71 = .ok (.iload_n 1, 1) := by decide +kernel
theorem dX1_doThing_72 : decode cX1_doThing 72 = .ok (.iaload, 1) := by decide +kernel
theorem dX1_doThing_73 : decode cX1_doThing 73 = .ok (.invokevirtual 64, 3) := by decide +kernel
theorem dX1_doThing_76 : decode cX1_doThing 76 = .ok (.ireturn, 1) := by decide +kernel
theorem dX1_doThing_77 : decode cX1_doThing 77 = .ok (.aload_n 2, 1) := by decide +kernel
theorem dX1_doThing_78 : decode cX1_doThing 78 = .ok (.aload_n 0, 1) := by decide +kernel
theorem dX1_doThing_79 : decode cX1_doThing 79 = .ok (.getfield 23, 3) := by decide +kernel
theorem dX1_doThing_82 : decode cX1_doThing 82 = .ok (.iload_n 1, 1) := by decide +kernel
theorem dX1_doThing_83 : decode cX1_doThing 83 = .ok (.iaload, 1) := by decide +kernel
theorem dX1_doThing_84 : decode cX1_doThing 84 = .ok (.iconst 0, 1) := by decide +kernel
theorem dX1_doThing_85 : decode cX1_doThing 85 = .ok (.aload_n 0, 1) := by decide +kernel
theorem dX1_doThing_86 : decode cX1_doThing 86 = .ok (.getfield 26, 3) := by decide +kernel
theorem dX1_doThing_89 : decode cX1_doThing 89 = .ok (.iload_n 1, 1) := by decide +kernel
theorem dX1_doThing_90 : decode cX1_doThing 90 = .ok (.iaload, 1) := by decide +kernel
theorem dX1_doThing_91 : decode cX1_doThing 91 = .ok (.invokevirtual 70, 3) := by decide +kernel
theorem dX1_doThing_94 : decode cX1_doThing 94 = .ok (.ireturn, 1) := by decide +kernel
theorem dX1_doThing_95 : decode cX1_doThing 95 = .ok (.aload_n 2, 1) := by decide +kernel
theorem dX1_doThing_96 : decode cX1_doThing 96 = .ok (.aload_n 0, 1) := by decide +kernel
theorem dX1_doThing_97 : decode cX1_doThing 97 = .ok (.getfield 23, 3) := by decide +kernel
theorem dX1_doThing_100 : decode cX1_doThing 100 = .ok (.iload_n 1, 1) := by decide +kernel
theorem dX1_doThing_101 : decode cX1_doThing 101 = .ok (.iaload, 1) := by decide +kernel
theorem dX1_doThing_102 : decode cX1_doThing 102 = .ok (.aload_n 0, 1) := by decide +kernel
theorem dX1_doThing_103 : decode cX1_doThing 103 = .ok (.getfield 26, 3) := by decide +kernel
theorem dX1_doThing_106 : decode cX1_doThing 106 = .ok (.iload_n 1, 1) := by decide +kernel
theorem dX1_doThing_107 : decode cX1_doThing 107 = .ok (.iaload, 1) := by decide +kernel
theorem dX1_doThing_108 : decode cX1_doThing 108 = .ok (.invokevirtual 74, 3) := by decide +kernel
theorem dX1_doThing_111 : decode cX1_doThing 111 = .ok (.ireturn, 1) := by decide +kernel
theorem dX1_doThing_112 : decode cX1_doThing 112 = .ok (.aload_n 2, 1) := by decide +kernel
theorem dX1_doThing_113 : decode cX1_doThing 113 = .ok (.aload_n 0, 1) := by decide +kernel
theorem dX1_doThing_114 : decode cX1_doThing 114 = .ok (.getfield 23, 3) := by decide +kernel
theorem dX1_doThing_117 : decode cX1_doThing 117 = .ok (.iload_n 1, 1) := by decide +kernel
theorem dX1_doThing_118 : decode cX1_doThing 118 = .ok (.iaload, 1) := by decide +kernel
theorem dX1_doThing_119 : decode cX1_doThing 119 = .ok (.invokevirtual 77, 3) := by decide +kernel
theorem dX1_doThing_122 : decode cX1_doThing 122 = .ok (.ireturn, 1) := by decide +kernel
theorem dX1_doThing_123 : decode cX1_doThing 123 = .ok (.aload_n 2, 1) := by decide +kernel
theorem dX1_doThing_124 : decode cX1_doThing 124 = .ok (.aload_n 0, 1) := by decide +kernel
theorem dX1_doThing_125 : decode cX1_doThing 125 = .ok (.getfield 26, 3) := by decide +kernel
theorem dX1_doThing_128 : decode cX1_doThing 128 = .ok (.iload_n 1, 1) := by decide +kernel
theorem dX1_doThing_129 : decode cX1_doThing 129 = .ok (.iaload, 1) := by decide +kernel
theorem dX1_doThing_130 : decode cX1_doThing 130 = .ok (.invokevirtual 81, 3) := by decide +kernel
theorem dX1_doThing_133 : decode cX1_doThing 133 = .ok (.ireturn, 1) := by decide +kernel
theorem dX2_init_0 : decode cX2_init 0 = .ok (.aload_n 0, 1) := by decide +kernel
theorem dX2_init_1 : decode cX2_init 1 = .ok (.invokespecial 3, 3) := by decide +kernel
theorem dX2_init_4 : decode cX2_init 4 = .ok (.aload_n 0, 1) := by decide +kernel
theorem dX2_init_5 : decode cX2_init 5 = .ok (.bipush 8, 2) := by decide +kernel
theorem dX2_init_7 : decode cX2_init 7 = .ok (.anewarray 9, 3) := by decide +kernel
theorem dX2_init_10 : decode cX2_init 10 = .ok (.putfield 11, 3) := by decide +kernel
theorem dX2_init_13 : decode cX2_init 13 = .ok (.aload_n 0, 1) := by decide +kernel
theorem dX2_init_14 : decode cX2_init 14 = .ok (.iconst 0, 1) := by decide +kernel
theorem dX2_init_15 : decode cX2_init 15 = .ok (.putfield 17, 3) := by decide +kernel
theorem dX2_init_18 : decode cX2_init 18 = .ok (.aload_n 0, 1) := by decide +kernel
theorem dX2_init_19 : decode cX2_init 19 = .ok (.iconst 3, 1) := by decide +kernel
theorem dX2_init_20 : decode cX2_init 20 = .ok (.putfield 21, 3) := by decide +kernel
theorem dX2_init_23 : decode cX2_init 23 = .ok (.aload_n 0, 1) := by decide +kernel
theorem dX2_init_24 : decode cX2_init 24 = .ok (.iconst 0, 1) := by decide +kernel
theorem dX2_init_25 : decode cX2_init 25 = .ok (.putfield 24, 3) := by decide +kernel
theorem dX2_init_28 : decode cX2_init 28 = .ok (.aload_n 0, 1) := by decide +kernel
theorem dX2_init_29 : decode cX2_init 29 = .ok (.bipush 24, 2) := by decide +kernel
theorem dX2_init_31 : decode cX2_init 31 = .ok (.putfield 27, 3) := by decide +kernel
theorem dX2_init_34 : decode cX2_init 34 = .ok (.aload_n 0, 1) := by decide +kernel
theorem dX2_init_35 : decode cX2_init 35 = .ok (.iconst 0, 1) := by decide +kernel
theorem dX2_init_36 : decode cX2_init 36 = .ok (.putfield 30, 3) := by decide +kernel
theorem dX2_init_39 : decode cX2_init 39 = .ok (.aload_n 0, 1) := by decide +kernel
theorem dX2_init_40 : decode cX2_init 40 = .ok (.iconst 0, 1) := by decide +kernel
theorem dX2_init_41 : decode cX2_init 41 = .ok (.putfield 33, 3) := by decide +kernel
theorem dX2_init_44 : decode cX2_init 44 = .ok (.aload_n 0, 1) := by decide +kernel
theorem dX2_init_45 : decode cX2_init 45 = .ok (.iconst 0, 1) := by decide +kernel
theorem dX2_init_46 : decode cX2_init 46 = .ok (.putfield 36, 3) := by decide +kernel
theorem dX2_init_49 : decode cX2_init 49 = .ok (.aload_n 0, 1) := by decide +kernel
theorem dX2_init_50 : decode cX2_init 50 = .ok (.iconst 0, 1) := by decide +kernel
theorem dX2_init_51 : decode cX2_init 51 = .ok (.putfield 39, 3) := by decide +kernel
theorem dX2_init_54 : decode cX2_init 54 = .ok (.iconst 0, 1) := by decide +kernel
theorem dX2_init_55 : decode cX2_init 55 = .ok (.istore_n 1, 1) := by decide +kernel
theorem dX2_init_56 : decode cX2_init 56 = .ok (.iload_n 1, 1) := by decide +kernel
theorem dX2_init_57 : decode cX2_init 57 = .ok (.bipush 8, 2) := by decide +kernel
theorem dX2_init_59 : decode cX2_init 59 = .ok (.if_icmp .ge 25, 3) := by decide +kernel
theorem dX2_init_62 : decode cX2_init 62 = .ok (.aload_n 0, 1) := by decide +kernel
theorem dX2_init_63 : decode cX2_init 63 = .ok (.getfield 11, 3) := by decide +kernel
theorem dX2_init_66 : decode cX2_init 66 = .ok (.iload_n 1, 1) := by decide +kernel
theorem dX2_init_67 : decode cX2_init 67 = .ok (.new 9, 3) := by decide +kernel
theorem dX2_init_70 : decode cX2_init 70 = .ok (.dup, 1) := by decide +kernel
theorem dX2_init_71 : decode cX2_init 71 = .ok (.iload_n 1, 1) := by decide +kernel
theorem dX2_init_72 : decode cX2_init 72 = .ok (.iconst 1, 1) := by decide +kernel
theorem dX2_init_73 : decode cX2_init 73 = .ok (.iadd, 1) := by decide +kernel
theorem dX2_init_74 : decode cX2_init 74 = .ok (.invokespecial 42, 3) := by decide +kernel
theorem dX2_init_77 : decode cX2_init 77 = .ok (.aastore, 1) := by decide +kernel
theorem dX2_init_78 : decode cX2_init 78 = .ok (.iinc 1 1, 3) := by decide +kernel
theorem dX2_init_81 : decode cX2_init 81 = .ok (.goto (-25), 3) := by decide +kernel
theorem dX2_init_84 : decode cX2_init 84 = .ok (.return_, 1) := by decide +kernel
theorem dX2_copyFrom_0 : decode cX2_copyFrom 0 = .ok (.iconst 0, 1) := by decide +kernel
theorem dX2_copyFrom_1 : decode cX2_copyFrom 1 = .ok (.istore_n 2, 1) := by decide +kernel
theorem dX2_copyFrom_2 : decode cX2_copyFrom 2 = .ok (.iload_n 2, 1) := by decide +kernel
theorem dX2_copyFrom_3 : decode cX2_copyFrom 3 = .ok (.bipush 8, 2) := by decide +kernel
theorem dX2_copyFrom_5 : decode cX2_copyFrom 5 = .ok (.if_icmp .ge 24, 3) := by decide +kernel
theorem dX2_copyFrom_8 : decode cX2_copyFrom 8 = .ok (.aload_n 0, 1) := by decide +kernel
theorem dX2_copyFrom_9 : decode cX2_copyFrom 9 = .ok (.getfield 11, 3) := by decide +kernel
theorem dX2_copyFrom_12 : decode cX2_copyFrom 12 = .ok (.iload_n 2, 1) := by decide +kernel
theorem dX2_copyFrom_13 : decode cX2_copyFrom 13 = .ok (.aaload, 1) := by decide +kernel
theorem dX2_copyFrom_14 : decode cX2_copyFrom 14 = .ok (.aload_n 1, 1) := by decide +kernel
theorem dX2_copyFrom_15 : decode cX2_copyFrom 15 = .ok (.getfield 11, 3) := by decide +kernel
theorem dX2_copyFrom_18 : decode cX2_copyFrom 18 = .ok (.iload_n 2, 1) := by decide +kernel
theorem dX2_copyFrom_19 : decode cX2_copyFrom 19 = .ok (.aaload, 1) := by decide +kernel
theorem dX2_copyFrom_20 : decode cX2_copyFrom 20 = .ok (.invokevirtual 45, 3) := by decide +kernel
theorem dX2_copyFrom_23 : decode cX2_copyFrom 23 = .ok (.iinc 2 1, 3) := by decide +kernel
theorem dX2_copyFrom_26 : decode cX2_copyFrom 26 = .ok (.goto (-24), 3) := by decide +kernel
theorem dX2_copyFrom_29 : decode cX2_copyFrom 29 = .ok (.aload_n 0, 1) := by decide +kernel
theorem dX2_copyFrom_30 : decode cX2_copyFrom 30 = .ok (.aload_n 1, 1) := by decide +kernel
theorem dX2_copyFrom_31 : decode cX2_copyFrom 31 = .ok (.getfield 17, 3) := by decide +kernel
theorem dX2_copyFrom_34 : decode cX2_copyFrom 34 = .ok (.putfield 17, 3) := by decide +kernel
theorem dX2_copyFrom_37 : decode cX2_copyFrom 37 = .ok (.aload_n 0, 1) := by decide +kernel
theorem dX2_copyFrom_38 : decode cX2_copyFrom 38 = .ok (.aload_n 1, 1) := by decide +kernel
theorem dX2_copyFrom_39 : decode cX2_copyFrom 39 = .ok (.getfield 21, 3) := by decide +kernel
theorem dX2_copyFrom_42 : decode cX2_copyFrom 42 = .ok (.putfield 21, 3) := by decide +kernel
theorem dX2_copyFrom_45 : decode cX2_copyFrom 45 = .ok (.aload_n 0, 1) := by decide +kernel
theorem dX2_copyFrom_46 : decode cX2_copyFrom 46 = .ok (.aload_n 1, 1) := by decide +kernel
theorem dX2_copyFrom_47 : decode cX2_copyFrom 47 = .ok (.getfield 24, 3) := by decide +kernel
theorem dX2_copyFrom_50 : decode cX2_copyFrom 50 = .ok (.putfield 24, 3) := by decide +kernel
theorem dX2_copyFrom_53 : decode cX2_copyFrom 53 = .ok (.aload_n 0, 1) := by decide +kernel
theorem dX2_copyFrom_54 : decode cX2_copyFrom 54 = .ok (.aload_n 1, 1) := by decide +kernel
theorem dX2_copyFrom_55 : decode cX2_copyFrom 55 = .ok (.getfield 27, 3) := by decide +kernel
theorem dX2_copyFrom_58 : decode cX2_copyFrom 58 = .ok (.putfield 27, 3) := by decide +kernel
theorem dX2_copyFrom_61 : decode cX2_copyFrom 61 = .ok (.aload_n 0, 1) := by decide +kernel
theorem dX2_copyFrom_62 : decode cX2_copyFrom 62 = .ok (.aload_n 1, 1) := by decide +kernel
theorem dX2_copyFrom_63 : decode cX2_copyFrom 63 = .ok (.getfield 30, 3) := by decide +kernel
theorem dX2_copyFrom_66 : decode cX2_copyFrom 66 = .ok (.putfield 30, 3) := by decide +kernel
theorem dX2_copyFrom_69 : decode cX2_copyFrom 69 = .ok (.aload_n 0, 1) := by decide +kernel
theorem dX2_copyFrom_70 : decode cX2_copyFrom 70 = .ok (.aload_n 1, 1) := by decide +kernel
theorem dX2_copyFrom_71 : decode cX2_copyFrom 71 = .ok (.getfield 33, 3) := by decide +kernel
theorem dX2_copyFrom_74 : decode cX2_copyFrom 74 = .ok (.putfield 33, 3) := by decide +kernel
theorem dX2_copyFrom_77 : decode cX2_copyFrom 77 = .ok (.aload_n 0, 1) := by decide +kernel
theorem dX2_copyFrom_78 : decode cX2_copyFrom 78 = .ok (.aload_n 1, 1) := by decide +kernel
theorem dX2_copyFrom_79 : decode cX2_copyFrom 79 = .ok (.getfield 36, 3) := by decide +kernel
theorem dX2_copyFrom_82 : decode cX2_copyFrom 82 = .ok (.putfield 36, 3) := by decide +kernel
theorem dX2_copyFrom_85 : decode cX2_copyFrom 85 = .ok (.aload_n 0, 1) := by decide +kernel
theorem dX2_copyFrom_86 : decode cX2_copyFrom 86 = .ok (.aload_n 1, 1) := by decide +kernel
theorem dX2_copyFrom_87 : decode cX2_copyFrom 87 = .ok (.getfield 39, 3) := by decide +kernel
theorem dX2_copyFrom_90 : decode cX2_copyFrom 90 = .ok (.putfield 39, 3) := by decide +kernel
theorem dX2_copyFrom_93 : decode cX2_copyFrom 93 = .ok (.return_, 1) := by decide +kernel
theorem dX2_find_0 : decode cX2_find 0 = .ok (.iload_n 1, 1) := by decide +kernel
theorem dX2_find_1 : decode cX2_find 1 = .ok (.ifCond .lt 18, 3) := by decide +kernel
theorem dX2_find_4 : decode cX2_find 4 = .ok (.iload_n 1, 1) := by decide +kernel
theorem dX2_find_5 : decode cX2_find 5 = .ok (.bipush 8, 2) := by decide +kernel
theorem dX2_find_7 : decode cX2_find 7 = .ok (.if_icmp .ge 12, 3) := by decide +kernel
theorem dX2_find_10 : decode cX2_find 10 = .ok (.aload_n 0, 1) := by decide +kernel
theorem dX2_find_11 : decode cX2_find 11 = .ok (.getfield 11, 3) := by decide +kernel
theorem dX2_find_14 : decode cX2_find 14 = .ok (.iload_n 1, 1) := by decide +kernel
theorem dX2_find_15 : decode cX2_find 15 = .ok (.aaload, 1) := by decide +kernel
theorem dX2_find_16 : decode cX2_find 16 = .ok (.goto 4, 3) := by decide +kernel
theorem dX2_find_19 : decode cX2_find 19 = .ok (.aconst_null, 1) := by decide +kernel
theorem dX2_find_20 : decode cX2_find 20 = .ok (.areturn, 1) := by decide +kernel
theorem dX2_hourOf_0 : decode cX2_hourOf 0 = .ok (.aload_n 0, 1) := by decide +kernel
theorem dX2_hourOf_1 : decode cX2_hourOf 1 = .ok (.getfield 27, 3) := by decide +kernel
theorem dX2_hourOf_4 : decode cX2_hourOf 4 = .ok (.ifCond .le 12, 3) := by decide +kernel
theorem dX2_hourOf_7 : decode cX2_hourOf 7 = .ok (.iload_n 1, 1) := by decide +kernel
theorem dX2_hourOf_8 : decode cX2_hourOf 8 = .ok (.aload_n 0, 1) := by decide +kernel
theorem dX2_hourOf_9 : decode cX2_hourOf 9 = .ok (.getfield 27, 3) := by decide +kernel
theorem dX2_hourOf_12 : decode cX2_hourOf 12 = .ok (.irem, 1) := by decide +kernel
theorem dX2_hourOf_13 : decode cX2_hourOf 13 = .ok (.goto 4, 3) := by decide +kernel
theorem dX2_hourOf_16 : decode cX2_hourOf 16 = .ok (.iconst 0, 1) := by decide +kernel
theorem dX2_hourOf_17 : decode cX2_hourOf 17 = .ok (.ireturn, 1) := by decide +kernel
theorem dX2_changeCup_0 : decode cX2_changeCup 0 = .ok (.aload_n 0, 1) := by decide +kernel
theorem dX2_changeCup_1 : decode cX2_changeCup 1 = .ok (.iload_n 1, 1) := by decide +kernel
theorem dX2_changeCup_2 : decode cX2_changeCup 2 = .ok (.invokevirtual 49, 3) := by decide +kernel
theorem dX2_changeCup_5 : decode cX2_changeCup 5 = .ok (.astore 4, 2) := by decide +kernel
theorem dX2_changeCup_7 : decode cX2_changeCup 7 = .ok (.aload 4, 2) := by decide +kernel
theorem dX2_changeCup_9 : decode cX2_changeCup 9 = .ok (.ifnonnull 5, 3) := by decide +kernel
theorem dX2_changeCup_12 : decode cX2_changeCup 12 = .ok (.iconst (-1), 1) := by decide +kernel
theorem dX2_changeCup_13 : decode cX2_changeCup 13 = .ok (.ireturn, 1) := by decide +kernel
theorem dX2_changeCup_14 : decode cX2_changeCup 14 = .ok (.iload_n 1, 1) := by decide +kernel
theorem dX2_changeCup_15 : decode cX2_changeCup 15 = .ok (.iload_n 2, 1) := by decide +kernel
theorem dX2_changeCup_16 : decode cX2_changeCup 16 = .ok (.iload_n 3, 1) := by decide +kernel
theorem dX2_changeCup_17 : decode cX2_changeCup 17 = .ok (.invokestatic 53, 3) := by decide +kernel
theorem dX2_changeCup_20 : decode cX2_changeCup 20 = .ok (.ifCond .ne 6, 3) := by decide +kernel
theorem dX2_changeCup_23 : decode cX2_changeCup 23 = .ok (.bipush (-2), 2) := by decide +kernel
theorem dX2_changeCup_25 : decode cX2_changeCup 25 = .ok (.ireturn, 1) := by decide +kernel
theorem dX2_changeCup_26 : decode cX2_changeCup 26 = .ok (.aload 4, 2) := by decide +kernel
theorem dX2_changeCup_28 : decode cX2_changeCup 28 = .ok (.iload_n 2, 1) := by decide +kernel
theorem dX2_changeCup_29 : decode cX2_changeCup 29 = .ok (.invokevirtual 57, 3) := by decide +kernel
theorem dX2_changeCup_32 : decode cX2_changeCup 32 = .ok (.istore 5, 2) := by decide +kernel
theorem dX2_changeCup_34 : decode cX2_changeCup 34 = .ok (.iload 5, 2) := by decide +kernel
theorem dX2_changeCup_36 : decode cX2_changeCup 36 = .ok (.iload_n 3, 1) := by decide +kernel
theorem dX2_changeCup_37 : decode cX2_changeCup 37 = .ok (.if_icmp .ne 6, 3) := by decide +kernel
theorem dX2_changeCup_40 : decode cX2_changeCup 40 = .ok (.bipush (-5), 2) := by decide +kernel
theorem dX2_changeCup_42 : decode cX2_changeCup 42 = .ok (.ireturn, 1) := by decide +kernel
theorem dX2_changeCup_43 : decode cX2_changeCup 43 = .ok (.iload_n 2, 1) := by decide +kernel
theorem dX2_changeCup_44 : decode cX2_changeCup 44 = .ok (.ifCond .ne 12, 3) := by decide +kernel
theorem dX2_changeCup_47 : decode cX2_changeCup 47 = .ok (.aload 4, 2) := by decide +kernel
theorem dX2_changeCup_49 : decode cX2_changeCup 49 = .ok (.iload_n 3, 1) := by decide +kernel
theorem dX2_changeCup_50 : decode cX2_changeCup 50 = .ok (.putfield 61, 3) := by decide +kernel
theorem dX2_changeCup_53 : decode cX2_changeCup 53 = .ok (.goto 23, 3) := by decide +kernel
theorem dX2_changeCup_56 : decode cX2_changeCup 56 = .ok (.iload_n 2, 1) := by decide +kernel
theorem dX2_changeCup_57 : decode cX2_changeCup 57 = .ok (.iconst 1, 1) := by decide +kernel
theorem dX2_changeCup_58 : decode cX2_changeCup 58 = .ok (.if_icmp .ne 12, 3) := by decide +kernel
theorem dX2_changeCup_61 : decode cX2_changeCup 61 = .ok (.aload 4, 2) := by decide +kernel
theorem dX2_changeCup_63 : decode cX2_changeCup 63 = .ok (.iload_n 3, 1) := by decide +kernel
theorem dX2_changeCup_64 : decode cX2_changeCup 64 = .ok (.putfield 64, 3) := by decide +kernel
theorem dX2_changeCup_67 : decode cX2_changeCup 67 = .ok (.goto 9, 3) := by decide +kernel
theorem dX2_changeCup_70 : decode cX2_changeCup 70 = .ok (.aload 4, 2) := by decide +kernel
theorem dX2_changeCup_72 : decode cX2_changeCup 72 = .ok (.iload_n 3, 1) := by decide +kernel
theorem dX2_changeCup_73 : decode cX2_changeCup 73 = .ok (.putfield 67, 3) := by decide +kernel
theorem dX2_changeCup_76 : decode cX2_changeCup 76 = .ok (.iload 5, 2) := by decide +kernel
theorem dX2_changeCup_78 : decode cX2_changeCup 78 = .ok (.ireturn, 1) := by decide +kernel
theorem dX2_isCupValue_0 : decode cX2_isCupValue 0 = .ok (.iload_n 1, 1) := by decide +kernel
theorem dX2_isCupValue_1 : decode cX2_isCupValue 1 = .ok (.tableswitch 53 0 2 #[27, 35, 43], 27) := by decide +kernel
theorem dX2_isCupValue_28 : decode cX2_isCupValue 28 = .ok (.iload_n 2, 1) := by decide +kernel
theorem dX2_isCupValue_29 : decode cX2_isCupValue 29 = .ok (.iconst 1, 1) := by decide +kernel
theorem dX2_isCupValue_30 : decode cX2_isCupValue 30 = .ok (.bipush 99, 2) := by decide +kernel
theorem dX2_isCupValue_32 : decode cX2_isCupValue 32 = .ok (.invokestatic 70, 3) := by decide +kernel
theorem dX2_isCupValue_35 : decode cX2_isCupValue 35 = .ok (.ireturn, 1) := by decide +kernel
theorem dX2_isCupValue_36 : decode cX2_isCupValue 36 = .ok (.iload_n 2, 1) := by decide +kernel
theorem dX2_isCupValue_37 : decode cX2_isCupValue 37 = .ok (.iconst 0, 1) := by decide +kernel
theorem dX2_isCupValue_38 : decode cX2_isCupValue 38 = .ok (.bipush 9, 2) := by decide +kernel
theorem dX2_isCupValue_40 : decode cX2_isCupValue 40 = .ok (.invokestatic 70, 3) := by decide +kernel
theorem dX2_isCupValue_43 : decode cX2_isCupValue 43 = .ok (.ireturn, 1) := by decide +kernel
theorem dX2_isCupValue_44 : decode cX2_isCupValue 44 = .ok (.iload_n 2, 1) := by decide +kernel
theorem dX2_isCupValue_45 : decode cX2_isCupValue 45 = .ok (.iload_n 0, 1) := by decide +kernel
theorem dX2_isCupValue_46 : decode cX2_isCupValue 46 = .ok (.iconst 1, 1) := by decide +kernel
theorem dX2_isCupValue_47 : decode cX2_isCupValue 47 = .ok (.iadd, 1) := by decide +kernel
theorem dX2_isCupValue_48 : decode cX2_isCupValue 48 = .ok (.bipush 8, 2) := by decide +kernel
theorem dX2_isCupValue_50 : decode cX2_isCupValue 50 = .ok (.invokestatic 70, 3) := by decide +kernel
theorem dX2_isCupValue_53 : decode cX2_isCupValue 53 = .ok (.ireturn, 1) := by decide +kernel
theorem dX2_isCupValue_54 : decode cX2_isCupValue 54 = .ok (.iconst 0, 1) := by decide +kernel
theorem dX2_isCupValue_55 : decode cX2_isCupValue 55 = .ok (.ireturn, 1) := by decide +kernel
theorem dX2_changeLock_0 : decode cX2_changeLock 0 = .ok (.aload_n 0, 1) := by decide +kernel
theorem dX2_changeLock_1 : decode cX2_changeLock 1 = .ok (.iload_n 1, 1) := by decide +kernel
theorem dX2_changeLock_2 : decode cX2_changeLock 2 = .ok (.invokevirtual 49, 3) := by decide +kernel
theorem dX2_changeLock_5 : decode cX2_changeLock 5 = .ok (.astore_n 2, 1) := by decide +kernel
theorem dX2_changeLock_6 : decode cX2_changeLock 6 = .ok (.aload_n 2, 1) := by decide +kernel
theorem dX2_changeLock_7 : decode cX2_changeLock 7 = .ok (.ifnonnull 5, 3) := by decide +kernel
theorem dX2_changeLock_10 : decode cX2_changeLock 10 = .ok (.iconst (-1), 1) := by decide +kernel
theorem dX2_changeLock_11 : decode cX2_changeLock 11 = .ok (.ireturn, 1) := by decide +kernel
theorem dX2_changeLock_12 : decode cX2_changeLock 12 = .ok (.aload_n 2, 1) := by decide +kernel
theorem dX2_changeLock_13 : decode cX2_changeLock 13 = .ok (.getfield 73, 3) := by decide +kernel
theorem dX2_changeLock_16 : decode cX2_changeLock 16 = .ok (.ifCond .eq 6, 3) := by decide +kernel
theorem dX2_changeLock_19 : decode cX2_changeLock 19 = .ok (.bipush (-4), 2) := by decide +kernel
theorem dX2_changeLock_21 : decode cX2_changeLock 21 = .ok (.ireturn, 1) := by decide +kernel
theorem dX2_changeLock_22 : decode cX2_changeLock 22 = .ok (.aload_n 2, 1) := by decide +kernel
theorem dX2_changeLock_23 : decode cX2_changeLock 23 = .ok (.aload_n 2, 1) := by decide +kernel
theorem dX2_changeLock_24 : decode cX2_changeLock 24 = .ok (.getfield 77, 3) := by decide +kernel
theorem dX2_changeLock_27 : decode cX2_changeLock 27 = .ok (.ifCond .ne 7, 3) := by decide +kernel
theorem dX2_changeLock_30 : decode cX2_changeLock 30 = .ok (.iconst 1, 1) := by decide +kernel
theorem dX2_changeLock_31 : decode cX2_changeLock 31 = .ok (.goto 4, 3) := by decide +kernel
theorem dX2_changeLock_34 : decode cX2_changeLock 34 = .ok (.iconst 0, 1) := by decide +kernel
theorem dX2_changeLock_35 : decode cX2_changeLock 35 = .ok (.putfield 77, 3) := by decide +kernel
theorem dX2_changeLock_38 : decode cX2_changeLock 38 = .ok (.aload_n 2, 1) := by decide +kernel
theorem dX2_changeLock_39 : decode cX2_changeLock 39 = .ok (.getfield 77, 3) := by decide +kernel
theorem dX2_changeLock_42 : decode cX2_changeLock 42 = .ok (.invokestatic 80, 3) := by decide +kernel
theorem dX2_changeLock_45 : decode cX2_changeLock 45 = .ok (.ireturn, 1) := by decide +kernel
theorem dX2_changeHour_0 : decode cX2_changeHour 0 = .ok (.aload_n 0, 1) := by decide +kernel
theorem dX2_changeHour_1 : decode cX2_changeHour 1 = .ok (.iload_n 1, 1) := by decide +kernel
theorem dX2_changeHour_2 : decode cX2_changeHour 2 = .ok (.invokevirtual 49, 3) := by decide +kernel
theorem dX2_changeHour_5 : decode cX2_changeHour 5 = .ok (.astore_n 3, 1) := by decide +kernel
theorem dX2_changeHour_6 : decode cX2_changeHour 6 = .ok (.aload_n 3, 1) := by decide +kernel
theorem dX2_changeHour_7 : decode cX2_changeHour 7 = .ok (.ifnonnull 5, 3) := by decide +kernel
theorem dX2_changeHour_10 : decode cX2_changeHour 10 = .ok (.iconst (-1), 1) := by decide +kernel
theorem dX2_changeHour_11 : decode cX2_changeHour 11 = .ok (.ireturn, 1) := by decide +kernel
theorem dX2_changeHour_12 : decode cX2_changeHour 12 = .ok (.iload_n 2, 1) := by decide +kernel
theorem dX2_changeHour_13 : decode cX2_changeHour 13 = .ok (.iconst (-1), 1) := by decide +kernel
theorem dX2_changeHour_14 : decode cX2_changeHour 14 = .ok (.sipush 239, 3) := by decide +kernel
theorem dX2_changeHour_17 : decode cX2_changeHour 17 = .ok (.invokestatic 70, 3) := by decide +kernel
theorem dX2_changeHour_20 : decode cX2_changeHour 20 = .ok (.ifCond .ne 6, 3) := by decide +kernel
theorem dX2_changeHour_23 : decode cX2_changeHour 23 = .ok (.bipush (-2), 2) := by decide +kernel
theorem dX2_changeHour_25 : decode cX2_changeHour 25 = .ok (.ireturn, 1) := by decide +kernel
theorem dX2_changeHour_26 : decode cX2_changeHour 26 = .ok (.aload_n 3, 1) := by decide +kernel
theorem dX2_changeHour_27 : decode cX2_changeHour 27 = .ok (.getfield 84, 3) := by decide +kernel
theorem dX2_changeHour_30 : decode cX2_changeHour 30 = .ok (.istore 4, 2) := by decide +kernel
theorem dX2_changeHour_32 : decode cX2_changeHour 32 = .ok (.iload 4, 2) := by decide +kernel
theorem dX2_changeHour_34 : decode cX2_changeHour 34 = .ok (.iload_n 2, 1) := by decide +kernel
theorem dX2_changeHour_35 : decode cX2_changeHour 35 = .ok (.if_icmp .ne 6, 3) := by decide +kernel
theorem dX2_changeHour_38 : decode cX2_changeHour 38 = .ok (.bipush (-5), 2) := by decide +kernel
theorem dX2_changeHour_40 : decode cX2_changeHour 40 = .ok (.ireturn, 1) := by decide +kernel
theorem dX2_changeHour_41 : decode cX2_changeHour 41 = .ok (.aload_n 3, 1) := by decide +kernel
theorem dX2_changeHour_42 : decode cX2_changeHour 42 = .ok (.iload_n 2, 1) := by decide +kernel
theorem dX2_changeHour_43 : decode cX2_changeHour 43 = .ok (.putfield 84, 3) := by decide +kernel
theorem dX2_changeHour_46 : decode cX2_changeHour 46 = .ok (.iload_n 2, 1) := by decide +kernel
theorem dX2_changeHour_47 : decode cX2_changeHour 47 = .ok (.iconst (-1), 1) := by decide +kernel
theorem dX2_changeHour_48 : decode cX2_changeHour 48 = .ok (.if_icmp .ne 13, 3) := by decide +kernel
theorem dX2_changeHour_51 : decode cX2_changeHour 51 = .ok (.aload_n 3, 1) := by decide +kernel
theorem dX2_changeHour_52 : decode cX2_changeHour 52 = .ok (.iconst 0, 1) := by decide +kernel
theorem dX2_changeHour_53 : decode cX2_changeHour 53 = .ok (.putfield 73, 3) := by decide +kernel
theorem dX2_changeHour_56 : decode cX2_changeHour 56 = .ok (.aload_n 3, 1) := by decide +kernel
theorem dX2_changeHour_57 : decode cX2_changeHour 57 = .ok (.iconst 1, 1) := by decide +kernel
theorem dX2_changeHour_58 : decode cX2_changeHour 58 = .ok (.putfield 77, 3) := by decide +kernel
theorem dX2_changeHour_61 : decode cX2_changeHour 61 = .ok (.iload 4, 2) := by decide +kernel
theorem dX2_changeHour_63 : decode cX2_changeHour 63 = .ok (.iconst (-1), 1) := by decide +kernel
theorem dX2_changeHour_64 : decode cX2_changeHour 64 = .ok (.if_icmp .ne 9, 3) := by decide +kernel
theorem dX2_changeHour_67 : decode cX2_changeHour 67 = .ok (.sipush 240, 3) := by decide +kernel
theorem dX2_changeHour_70 : decode cX2_changeHour 70 = .ok (.goto 5, 3) := by decide +kernel
theorem dX2_changeHour_73 : decode cX2_changeHour 73 = .ok (.iload 4, 2) := by decide +kernel
theorem dX2_changeHour_75 : decode cX2_changeHour 75 = .ok (.ireturn, 1) := by decide +kernel
theorem dX2_changeGuard_0 : decode cX2_changeGuard 0 = .ok (.aload_n 0, 1) := by decide +kernel
theorem dX2_changeGuard_1 : decode cX2_changeGuard 1 = .ok (.iload_n 1, 1) := by decide +kernel
theorem dX2_changeGuard_2 : decode cX2_changeGuard 2 = .ok (.invokevirtual 49, 3) := by decide +kernel
theorem dX2_changeGuard_5 : decode cX2_changeGuard 5 = .ok (.astore_n 2, 1) := by decide +kernel
theorem dX2_changeGuard_6 : decode cX2_changeGuard 6 = .ok (.aload_n 2, 1) := by decide +kernel
theorem dX2_changeGuard_7 : decode cX2_changeGuard 7 = .ok (.ifnonnull 5, 3) := by decide +kernel
theorem dX2_changeGuard_10 : decode cX2_changeGuard 10 = .ok (.iconst (-1), 1) := by decide +kernel
theorem dX2_changeGuard_11 : decode cX2_changeGuard 11 = .ok (.ireturn, 1) := by decide +kernel
theorem dX2_changeGuard_12 : decode cX2_changeGuard 12 = .ok (.aload_n 2, 1) := by decide +kernel
theorem dX2_changeGuard_13 : decode cX2_changeGuard 13 = .ok (.getfield 84, 3) := by decide +kernel
theorem dX2_changeGuard_16 : decode cX2_changeGuard 16 = .ok (.iconst (-1), 1) := by decide +kernel
theorem dX2_changeGuard_17 : decode cX2_changeGuard 17 = .ok (.if_icmp .ne 6, 3) := by decide +kernel
theorem dX2_changeGuard_20 : decode cX2_changeGuard 20 = .ok (.bipush (-4), 2) := by decide +kernel
theorem dX2_changeGuard_22 : decode cX2_changeGuard 22 = .ok (.ireturn, 1) := by decide +kernel
theorem dX2_changeGuard_23 : decode cX2_changeGuard 23 = .ok (.aload_n 2, 1) := by decide +kernel
theorem dX2_changeGuard_24 : decode cX2_changeGuard 24 = .ok (.aload_n 2, 1) := by decide +kernel
theorem dX2_changeGuard_25 : decode cX2_changeGuard 25 = .ok (.getfield 73, 3) := by decide +kernel
theorem dX2_changeGuard_28 : decode cX2_changeGuard 28 = .ok (.ifCond .ne 7, 3) := by decide +kernel
theorem dX2_changeGuard_31 : decode cX2_changeGuard 31 = .ok (.iconst 1, 1) := by decide +kernel
theorem dX2_changeGuard_32 : decode cX2_changeGuard 32 = .ok (.goto 4, 3) := by decide +kernel
theorem dX2_changeGuard_35 : decode cX2_changeGuard 35 = .ok (.iconst 0, 1) := by decide +kernel
theorem dX2_changeGuard_36 : decode cX2_changeGuard 36 = .ok (.putfield 73, 3) := by decide +kernel
theorem dX2_changeGuard_39 : decode cX2_changeGuard 39 = .ok (.aload_n 2, 1) := by decide +kernel
theorem dX2_changeGuard_40 : decode cX2_changeGuard 40 = .ok (.aload_n 2, 1) := by decide +kernel
theorem dX2_changeGuard_41 : decode cX2_changeGuard 41 = .ok (.getfield 73, 3) := by decide +kernel
theorem dX2_changeGuard_44 : decode cX2_changeGuard 44 = .ok (.ifCond .ne 7, 3) := by decide +kernel
theorem dX2_changeGuard_47 : decode cX2_changeGuard 47 = .ok (.iconst 1, 1) := by decide +kernel
theorem dX2_changeGuard_48 : decode cX2_changeGuard 48 = .ok (.goto 4, 3) := by decide +kernel
theorem dX2_changeGuard_51 : decode cX2_changeGuard 51 = .ok (.iconst 0, 1) := by decide +kernel
theorem dX2_changeGuard_52 : decode cX2_changeGuard 52 = .ok (.putfield 77, 3) := by decide +kernel
theorem dX2_changeGuard_55 : decode cX2_changeGuard 55 = .ok (.aload_n 2, 1) := by decide +kernel
theorem dX2_changeGuard_56 : decode cX2_changeGuard 56 = .ok (.getfield 73, 3) := by decide +kernel
theorem dX2_changeGuard_59 : decode cX2_changeGuard 59 = .ok (.invokestatic 80, 3) := by decide +kernel
theorem dX2_changeGuard_62 : decode cX2_changeGuard 62 = .ok (.ireturn, 1) := by decide +kernel
theorem dX2_pour_0 : decode cX2_pour 0 = .ok (.aload_n 0, 1) := by decide +kernel
theorem dX2_pour_1 : decode cX2_pour 1 = .ok (.iload_n 1, 1) := by decide +kernel
theorem dX2_pour_2 : decode cX2_pour 2 = .ok (.invokevirtual 49, 3) := by decide +kernel
theorem dX2_pour_5 : decode cX2_pour 5 = .ok (.astore_n 3, 1) := by decide +kernel
theorem dX2_pour_6 : decode cX2_pour 6 = .ok (.aload_n 3, 1) := by decide +kernel
theorem dX2_pour_7 : decode cX2_pour 7 = .ok (.ifnonnull 5, 3) := by decide +kernel
theorem dX2_pour_10 : decode cX2_pour 10 = .ok (.iconst (-1), 1) := by decide +kernel
theorem dX2_pour_11 : decode cX2_pour 11 = .ok (.ireturn, 1) := by decide +kernel
theorem dX2_pour_12 : decode cX2_pour 12 = .ok (.iload_n 2, 1) := by decide +kernel
theorem dX2_pour_13 : decode cX2_pour 13 = .ok (.iconst 1, 1) := by decide +kernel
theorem dX2_pour_14 : decode cX2_pour 14 = .ok (.bipush 99, 2) := by decide +kernel
theorem dX2_pour_16 : decode cX2_pour 16 = .ok (.invokestatic 70, 3) := by decide +kernel
theorem dX2_pour_19 : decode cX2_pour 19 = .ok (.ifCond .ne 6, 3) := by decide +kernel
theorem dX2_pour_22 : decode cX2_pour 22 = .ok (.bipush (-2), 2) := by decide +kernel
theorem dX2_pour_24 : decode cX2_pour 24 = .ok (.ireturn, 1) := by decide +kernel
theorem dX2_pour_25 : decode cX2_pour 25 = .ok (.aload_n 3, 1) := by decide +kernel
theorem dX2_pour_26 : decode cX2_pour 26 = .ok (.getfield 87, 3) := by decide +kernel
theorem dX2_pour_29 : decode cX2_pour 29 = .ok (.iload_n 2, 1) := by decide +kernel
theorem dX2_pour_30 : decode cX2_pour 30 = .ok (.iadd, 1) := by decide +kernel
theorem dX2_pour_31 : decode cX2_pour 31 = .ok (.sipush 9999, 3) := by decide +kernel
theorem dX2_pour_34 : decode cX2_pour 34 = .ok (.if_icmp .le 6, 3) := by decide +kernel
theorem dX2_pour_37 : decode cX2_pour 37 = .ok (.bipush (-3), 2) := by decide +kernel
theorem dX2_pour_39 : decode cX2_pour 39 = .ok (.ireturn, 1) := by decide +kernel
theorem dX2_pour_40 : decode cX2_pour 40 = .ok (.aload_n 3, 1) := by decide +kernel
theorem dX2_pour_41 : decode cX2_pour 41 = .ok (.dup, 1) := by decide +kernel
theorem dX2_pour_42 : decode cX2_pour 42 = .ok (.getfield 87, 3) := by decide +kernel
theorem dX2_pour_45 : decode cX2_pour 45 = .ok (.iload_n 2, 1) := by decide +kernel
theorem dX2_pour_46 : decode cX2_pour 46 = .ok (.iadd, 1) := by decide +kernel
theorem dX2_pour_47 : decode cX2_pour 47 = .ok (.putfield 87, 3) := by decide +kernel
theorem dX2_pour_50 : decode cX2_pour 50 = .ok (.aload_n 0, 1) := by decide +kernel
theorem dX2_pour_51 : decode cX2_pour 51 = .ok (.dup, 1) := by decide +kernel
theorem dX2_pour_52 : decode cX2_pour 52 = .ok (.getfield 39, 3) := by decide +kernel
theorem dX2_pour_55 : decode cX2_pour 55 = .ok (.iload_n 2, 1) := by decide +kernel
theorem dX2_pour_56 : decode cX2_pour 56 = .ok (.iadd, 1) := by decide +kernel
theorem dX2_pour_57 : decode cX2_pour 57 = .ok (.putfield 39, 3) := by decide +kernel
theorem dX2_pour_60 : decode cX2_pour 60 = .ok (.aload_n 3, 1) := by decide +kernel
theorem dX2_pour_61 : decode cX2_pour 61 = .ok (.getfield 87, 3) := by decide +kernel
theorem dX2_pour_64 : decode cX2_pour 64 = .ok (.ireturn, 1) := by decide +kernel
theorem dX2_changeSetting_0 : decode cX2_changeSetting 0 = .ok (.iload_n 1, 1) := by decide +kernel
theorem dX2_changeSetting_1 : decode cX2_changeSetting 1 = .ok (.iconst 0, 1) := by decide +kernel
theorem dX2_changeSetting_2 : decode cX2_changeSetting 2 = .ok (.iconst 2, 1) := by decide +kernel
theorem dX2_changeSetting_3 : decode cX2_changeSetting 3 = .ok (.invokestatic 70, 3) := by decide +kernel
theorem dX2_changeSetting_6 : decode cX2_changeSetting 6 = .ok (.ifCond .ne 5, 3) := by decide +kernel
theorem dX2_changeSetting_9 : decode cX2_changeSetting 9 = .ok (.iconst (-1), 1) := by decide +kernel
theorem dX2_changeSetting_10 : decode cX2_changeSetting 10 = .ok (.ireturn, 1) := by decide +kernel
theorem dX2_changeSetting_11 : decode cX2_changeSetting 11 = .ok (.iload_n 1, 1) := by decide +kernel
theorem dX2_changeSetting_12 : decode cX2_changeSetting 12 = .ok (.iconst 2, 1) := by decide +kernel
theorem dX2_changeSetting_13 : decode cX2_changeSetting 13 = .ok (.if_icmp .ne 17, 3) := by decide +kernel
theorem dX2_changeSetting_16 : decode cX2_changeSetting 16 = .ok (.iload_n 2, 1) := by decide +kernel
theorem dX2_changeSetting_17 : decode cX2_changeSetting 17 = .ok (.iconst 1, 1) := by decide +kernel
theorem dX2_changeSetting_18 : decode cX2_changeSetting 18 = .ok (.sipush 240, 3) := by decide +kernel
theorem dX2_changeSetting_21 : decode cX2_changeSetting 21 = .ok (.invokestatic 70, 3) := by decide +kernel
theorem dX2_changeSetting_24 : decode cX2_changeSetting 24 = .ok (.ifCond .ne 19, 3) := by decide +kernel
theorem dX2_changeSetting_27 : decode cX2_changeSetting 27 = .ok (.goto 13, 3) := by decide +kernel
theorem dX2_changeSetting_30 : decode cX2_changeSetting 30 = .ok (.iload_n 2, 1) := by decide +kernel
theorem dX2_changeSetting_31 : decode cX2_changeSetting 31 = .ok (.iconst 0, 1) := by decide +kernel
theorem dX2_changeSetting_32 : decode cX2_changeSetting 32 = .ok (.bipush 99, 2) := by decide +kernel
theorem dX2_changeSetting_34 : decode cX2_changeSetting 34 = .ok (.invokestatic 70, 3) := by decide +kernel
theorem dX2_changeSetting_37 : decode cX2_changeSetting 37 = .ok (.ifCond .ne 6, 3) := by decide +kernel
theorem dX2_changeSetting_40 : decode cX2_changeSetting 40 = .ok (.bipush (-2), 2) := by decide +kernel
theorem dX2_changeSetting_42 : decode cX2_changeSetting 42 = .ok (.ireturn, 1) := by decide +kernel
theorem dX2_changeSetting_43 : decode cX2_changeSetting 43 = .ok (.aload_n 0, 1) := by decide +kernel
theorem dX2_changeSetting_44 : decode cX2_changeSetting 44 = .ok (.iload_n 1, 1) := by decide +kernel
theorem dX2_changeSetting_45 : decode cX2_changeSetting 45 = .ok (.invokevirtual 90, 3) := by decide +kernel
theorem dX2_changeSetting_48 : decode cX2_changeSetting 48 = .ok (.istore_n 3, 1) := by decide +kernel
theorem dX2_changeSetting_49 : decode cX2_changeSetting 49 = .ok (.iload_n 3, 1) := by decide +kernel
theorem dX2_changeSetting_50 : decode cX2_changeSetting 50 = .ok (.iload_n 2, 1) := by decide +kernel
theorem dX2_changeSetting_51 : decode cX2_changeSetting 51 = .ok (.if_icmp .ne 6, 3) := by decide +kernel
theorem dX2_changeSetting_54 : decode cX2_changeSetting 54 = .ok (.bipush (-5), 2) := by decide +kernel
theorem dX2_changeSetting_56 : decode cX2_changeSetting 56 = .ok (.ireturn, 1) := by decide +kernel
theorem dX2_changeSetting_57 : decode cX2_changeSetting 57 = .ok (.iload_n 1, 1) := by decide +kernel
theorem dX2_changeSetting_58 : decode cX2_changeSetting 58 = .ok (.ifCond .ne 11, 3) := by decide +kernel
theorem dX2_changeSetting_61 : decode cX2_changeSetting 61 = .ok (.aload_n 0, 1) := by decide +kernel
theorem dX2_changeSetting_62 : decode cX2_changeSetting 62 = .ok (.iload_n 2, 1) := by decide +kernel
theorem dX2_changeSetting_63 : decode cX2_changeSetting 63 = .ok (.putfield 21, 3) := by decide +kernel
theorem dX2_changeSetting_66 : decode cX2_changeSetting 66 = .ok (.goto 21, 3) := by decide +kernel
theorem dX2_changeSetting_69 : decode cX2_changeSetting 69 = .ok (.iload_n 1, 1) := by decide +kernel
theorem dX2_changeSetting_70 : decode cX2_changeSetting 70 = .ok (.iconst 1, 1) := by decide +kernel
theorem dX2_changeSetting_71 : decode cX2_changeSetting 71 = .ok (.if_icmp .ne 11, 3) := by decide +kernel
theorem dX2_changeSetting_74 : decode cX2_changeSetting 74 = .ok (.aload_n 0, 1) := by decide +kernel
theorem dX2_changeSetting_75 : decode cX2_changeSetting 75 = .ok (.iload_n 2, 1) := by decide +kernel
theorem dX2_changeSetting_76 : decode cX2_changeSetting 76 = .ok (.putfield 24, 3) := by decide +kernel
theorem dX2_changeSetting_79 : decode cX2_changeSetting 79 = .ok (.goto 8, 3) := by decide +kernel
theorem dX2_changeSetting_82 : decode cX2_changeSetting 82 = .ok (.aload_n 0, 1) := by decide +kernel
theorem dX2_changeSetting_83 : decode cX2_changeSetting 83 = .ok (.iload_n 2, 1) := by decide +kernel
theorem dX2_changeSetting_84 : decode cX2_changeSetting 84 = .ok (.putfield 27, 3) := by decide +kernel
theorem dX2_changeSetting_87 : decode cX2_changeSetting 87 = .ok (.iload_n 3, 1) := by decide +kernel
theorem dX2_changeSetting_88 : decode cX2_changeSetting 88 = .ok (.ireturn, 1) := by decide +kernel
theorem dX2_tellSetting_0 : decode cX2_tellSetting 0 = .ok (.iload_n 1, 1) := by decide +kernel
theorem dX2_tellSetting_1 : decode cX2_tellSetting 1 = .ok (.ifCond .ne 8, 3) := by decide +kernel
theorem dX2_tellSetting_4 : decode cX2_tellSetting 4 = .ok (.aload_n 0, 1) := by decide +kernel
theorem dX2_tellSetting_5 : decode cX2_tellSetting 5 = .ok (.getfield 21, 3) := by decide +kernel
theorem dX2_tellSetting_8 : decode cX2_tellSetting 8 = .ok (.ireturn, 1) := by decide +kernel
theorem dX2_tellSetting_9 : decode cX2_tellSetting 9 = .ok (.iload_n 1, 1) := by decide +kernel
theorem dX2_tellSetting_10 : decode cX2_tellSetting 10 = .ok (.iconst 1, 1) := by decide +kernel
theorem dX2_tellSetting_11 : decode cX2_tellSetting 11 = .ok (.if_icmp .ne 10, 3) := by decide +kernel
theorem dX2_tellSetting_14 : decode cX2_tellSetting 14 = .ok (.aload_n 0, 1) := by decide +kernel
theorem dX2_tellSetting_15 : decode cX2_tellSetting 15 = .ok (.getfield 24, 3) := by decide +kernel
theorem dX2_tellSetting_18 : decode cX2_tellSetting 18 = .ok (.goto 7, 3) := by decide +kernel
theorem dX2_tellSetting_21 : decode cX2_tellSetting 21 = .ok (.aload_n 0, 1) := by decide +kernel
theorem dX2_tellSetting_22 : decode cX2_tellSetting 22 = .ok (.getfield 27, 3) := by decide +kernel
theorem dX2_tellSetting_25 : decode cX2_tellSetting 25 = .ok (.ireturn, 1) := by decide +kernel
theorem dX2_letPass_0 : decode cX2_letPass 0 = .ok (.iload_n 1, 1) := by decide +kernel
theorem dX2_letPass_1 : decode cX2_letPass 1 = .ok (.iconst 1, 1) := by decide +kernel
theorem dX2_letPass_2 : decode cX2_letPass 2 = .ok (.bipush 99, 2) := by decide +kernel
theorem dX2_letPass_4 : decode cX2_letPass 4 = .ok (.invokestatic 70, 3) := by decide +kernel
theorem dX2_letPass_7 : decode cX2_letPass 7 = .ok (.ifCond .ne 6, 3) := by decide +kernel
theorem dX2_letPass_10 : decode cX2_letPass 10 = .ok (.bipush (-2), 2) := by decide +kernel
theorem dX2_letPass_12 : decode cX2_letPass 12 = .ok (.ireturn, 1) := by decide +kernel
theorem dX2_letPass_13 : decode cX2_letPass 13 = .ok (.aload_n 0, 1) := by decide +kernel
theorem dX2_letPass_14 : decode cX2_letPass 14 = .ok (.getfield 17, 3) := by decide +kernel
theorem dX2_letPass_17 : decode cX2_letPass 17 = .ok (.iload_n 1, 1) := by decide +kernel
theorem dX2_letPass_18 : decode cX2_letPass 18 = .ok (.iadd, 1) := by decide +kernel
theorem dX2_letPass_19 : decode cX2_letPass 19 = .ok (.ldc 93, 2) := by decide +kernel
theorem dX2_letPass_21 : decode cX2_letPass 21 = .ok (.if_icmp .le 6, 3) := by decide +kernel
theorem dX2_letPass_24 : decode cX2_letPass 24 = .ok (.bipush (-3), 2) := by decide +kernel
theorem dX2_letPass_26 : decode cX2_letPass 26 = .ok (.ireturn, 1) := by decide +kernel
theorem dX2_letPass_27 : decode cX2_letPass 27 = .ok (.aload_n 0, 1) := by decide +kernel
theorem dX2_letPass_28 : decode cX2_letPass 28 = .ok (.iload_n 1, 1) := by decide +kernel
theorem dX2_letPass_29 : decode cX2_letPass 29 = .ok (.invokevirtual 94, 3) := by decide +kernel
theorem dX2_letPass_32 : decode cX2_letPass 32 = .ok (.ireturn, 1) := by decide +kernel
theorem dX2_tickOn_0 : decode cX2_tickOn 0 = .ok (.iconst 0, 1) := by decide +kernel
theorem dX2_tickOn_1 : decode cX2_tickOn 1 = .ok (.istore_n 2, 1) := by decide +kernel
theorem dX2_tickOn_2 : decode cX2_tickOn 2 = .ok (.iconst 0, 1) := by decide +kernel
theorem dX2_tickOn_3 : decode cX2_tickOn 3 = .ok (.istore_n 3, 1) := by decide +kernel
theorem dX2_tickOn_4 : decode cX2_tickOn 4 = .ok (.iload_n 3, 1) := by decide +kernel
theorem dX2_tickOn_5 : decode cX2_tickOn 5 = .ok (.iload_n 1, 1) := by decide +kernel
theorem dX2_tickOn_6 : decode cX2_tickOn 6 = .ok (.if_icmp .ge 16, 3) := by decide +kernel
theorem dX2_tickOn_9 : decode cX2_tickOn 9 = .ok (.iload_n 2, 1) := by decide +kernel
theorem dX2_tickOn_10 : decode cX2_tickOn 10 = .ok (.aload_n 0, 1) := by decide +kernel
theorem dX2_tickOn_11 : decode cX2_tickOn 11 = .ok (.invokevirtual 97, 3) := by decide +kernel
theorem dX2_tickOn_14 : decode cX2_tickOn 14 = .ok (.iadd, 1) := by decide +kernel
theorem dX2_tickOn_15 : decode cX2_tickOn 15 = .ok (.istore_n 2, 1) := by decide +kernel
theorem dX2_tickOn_16 : decode cX2_tickOn 16 = .ok (.iinc 3 1, 3) := by decide +kernel
theorem dX2_tickOn_19 : decode cX2_tickOn 19 = .ok (.goto (-15), 3) := by decide +kernel
theorem dX2_tickOn_22 : decode cX2_tickOn 22 = .ok (.iload_n 2, 1) := by decide +kernel
theorem dX2_tickOn_23 : decode cX2_tickOn 23 = .ok (.ireturn, 1) := by decide +kernel
theorem dX2_tickOnce_0 : decode cX2_tickOnce 0 = .ok (.aload_n 0, 1) := by decide +kernel
theorem dX2_tickOnce_1 : decode cX2_tickOnce 1 = .ok (.aload_n 0, 1) := by decide +kernel
theorem dX2_tickOnce_2 : decode cX2_tickOnce 2 = .ok (.getfield 17, 3) := by decide +kernel
theorem dX2_tickOnce_5 : decode cX2_tickOnce 5 = .ok (.invokevirtual 101, 3) := by decide +kernel
theorem dX2_tickOnce_8 : decode cX2_tickOnce 8 = .ok (.istore_n 1, 1) := by decide +kernel
theorem dX2_tickOnce_9 : decode cX2_tickOnce 9 = .ok (.aload_n 0, 1) := by decide +kernel
theorem dX2_tickOnce_10 : decode cX2_tickOnce 10 = .ok (.iload_n 1, 1) := by decide +kernel
theorem dX2_tickOnce_11 : decode cX2_tickOnce 11 = .ok (.invokevirtual 104, 3) := by decide +kernel
theorem dX2_tickOnce_14 : decode cX2_tickOnce 14 = .ok (.aload_n 0, 1) := by decide +kernel
theorem dX2_tickOnce_15 : decode cX2_tickOnce 15 = .ok (.invokevirtual 107, 3) := by decide +kernel
theorem dX2_tickOnce_18 : decode cX2_tickOnce 18 = .ok (.iconst 0, 1) := by decide +kernel
theorem dX2_tickOnce_19 : decode cX2_tickOnce 19 = .ok (.istore_n 2, 1) := by decide +kernel
theorem dX2_tickOnce_20 : decode cX2_tickOnce 20 = .ok (.iconst 0, 1) := by decide +kernel
theorem dX2_tickOnce_21 : decode cX2_tickOnce 21 = .ok (.istore_n 3, 1) := by decide +kernel
theorem dX2_tickOnce_22 : decode cX2_tickOnce 22 = .ok (.iload_n 3, 1) := by decide +kernel
theorem dX2_tickOnce_23 : decode cX2_tickOnce 23 = .ok (.bipush 8, 2) := by decide +kernel
theorem dX2_tickOnce_25 : decode cX2_tickOnce 25 = .ok (.if_icmp .ge 23, 3) := by decide +kernel
theorem dX2_tickOnce_28 : decode cX2_tickOnce 28 = .ok (.iload_n 2, 1) := by decide +kernel
theorem dX2_tickOnce_29 : decode cX2_tickOnce 29 = .ok (.aload_n 0, 1) := by decide +kernel
theorem dX2_tickOnce_30 : decode cX2_tickOnce 30 = .ok (.aload_n 0, 1) := by decide +kernel
theorem dX2_tickOnce_31 : decode cX2_tickOnce 31 = .ok (.getfield 11, 3) := by decide +kernel
theorem dX2_tickOnce_34 : decode cX2_tickOnce 34 = .ok (.iload_n 3, 1) := by decide +kernel
theorem dX2_tickOnce_35 : decode cX2_tickOnce 35 = .ok (.aaload, 1) := by decide +kernel
theorem dX2_tickOnce_36 : decode cX2_tickOnce 36 = .ok (.iload_n 1, 1) := by decide +kernel
theorem dX2_tickOnce_37 : decode cX2_tickOnce 37 = .ok (.invokevirtual 110, 3) := by decide +kernel
theorem dX2_tickOnce_40 : decode cX2_tickOnce 40 = .ok (.iadd, 1) := by decide +kernel
theorem dX2_tickOnce_41 : decode cX2_tickOnce 41 = .ok (.istore_n 2, 1) := by decide +kernel
theorem dX2_tickOnce_42 : decode cX2_tickOnce 42 = .ok (.iinc 3 1, 3) := by decide +kernel
theorem dX2_tickOnce_45 : decode cX2_tickOnce 45 = .ok (.goto (-23), 3) := by decide +kernel
theorem dX2_tickOnce_48 : decode cX2_tickOnce 48 = .ok (.iconst 0, 1) := by decide +kernel
theorem dX2_tickOnce_49 : decode cX2_tickOnce 49 = .ok (.istore_n 3, 1) := by decide +kernel
theorem dX2_tickOnce_50 : decode cX2_tickOnce 50 = .ok (.iload_n 3, 1) := by decide +kernel
theorem dX2_tickOnce_51 : decode cX2_tickOnce 51 = .ok (.bipush 8, 2) := by decide +kernel
theorem dX2_tickOnce_53 : decode cX2_tickOnce 53 = .ok (.if_icmp .ge 27, 3) := by decide +kernel
theorem dX2_tickOnce_56 : decode cX2_tickOnce 56 = .ok (.aload_n 0, 1) := by decide +kernel
theorem dX2_tickOnce_57 : decode cX2_tickOnce 57 = .ok (.dup, 1) := by decide +kernel
theorem dX2_tickOnce_58 : decode cX2_tickOnce 58 = .ok (.getfield 33, 3) := by decide +kernel
theorem dX2_tickOnce_61 : decode cX2_tickOnce 61 = .ok (.aload_n 0, 1) := by decide +kernel
theorem dX2_tickOnce_62 : decode cX2_tickOnce 62 = .ok (.getfield 11, 3) := by decide +kernel
theorem dX2_tickOnce_65 : decode cX2_tickOnce 65 = .ok (.iload_n 3, 1) := by decide +kernel
theorem dX2_tickOnce_66 : decode cX2_tickOnce 66 = .ok (.aaload, 1) := by decide +kernel
theorem dX2_tickOnce_67 : decode cX2_tickOnce 67 = .ok (.invokevirtual 114, 3) := by decide +kernel
theorem dX2_tickOnce_70 : decode cX2_tickOnce 70 = .ok (.iadd, 1) := by decide +kernel
theorem dX2_tickOnce_71 : decode cX2_tickOnce 71 = .ok (.putfield 33, 3) := by decide +kernel
theorem dX2_tickOnce_74 : decode cX2_tickOnce 74 = .ok (.iinc 3 1, 3) := by decide +kernel
theorem dX2_tickOnce_77 : decode cX2_tickOnce 77 = .ok (.goto (-27), 3) := by decide +kernel
theorem dX2_tickOnce_80 : decode cX2_tickOnce 80 = .ok (.aload_n 0, 1) := by decide +kernel
theorem dX2_tickOnce_81 : decode cX2_tickOnce 81 = .ok (.invokevirtual 117, 3) := by decide +kernel
theorem dX2_tickOnce_84 : decode cX2_tickOnce 84 = .ok (.aload_n 0, 1) := by decide +kernel
theorem dX2_tickOnce_85 : decode cX2_tickOnce 85 = .ok (.dup, 1) := by decide +kernel
theorem dX2_tickOnce_86 : decode cX2_tickOnce 86 = .ok (.getfield 17, 3) := by decide +kernel
theorem dX2_tickOnce_89 : decode cX2_tickOnce 89 = .ok (.iconst 1, 1) := by decide +kernel
theorem dX2_tickOnce_90 : decode cX2_tickOnce 90 = .ok (.iadd, 1) := by decide +kernel
theorem dX2_tickOnce_91 : decode cX2_tickOnce 91 = .ok (.putfield 17, 3) := by decide +kernel
theorem dX2_tickOnce_94 : decode cX2_tickOnce 94 = .ok (.iload_n 2, 1) := by decide +kernel
theorem dX2_tickOnce_95 : decode cX2_tickOnce 95 = .ok (.ireturn, 1) := by decide +kernel
theorem dX2_openGuarded_0 : decode cX2_openGuarded 0 = .ok (.iconst 0, 1) := by decide +kernel
theorem dX2_openGuarded_1 : decode cX2_openGuarded 1 = .ok (.istore_n 2, 1) := by decide +kernel
theorem dX2_openGuarded_2 : decode cX2_openGuarded 2 = .ok (.iload_n 2, 1) := by decide +kernel
theorem dX2_openGuarded_3 : decode cX2_openGuarded 3 = .ok (.bipush 8, 2) := by decide +kernel
theorem dX2_openGuarded_5 : decode cX2_openGuarded 5 = .ok (.if_icmp .ge 44, 3) := by decide +kernel
theorem dX2_openGuarded_8 : decode cX2_openGuarded 8 = .ok (.aload_n 0, 1) := by decide +kernel
theorem dX2_openGuarded_9 : decode cX2_openGuarded 9 = .ok (.getfield 11, 3) := by decide +kernel
theorem dX2_openGuarded_12 : decode cX2_openGuarded 12 = .ok (.iload_n 2, 1) := by decide +kernel
theorem dX2_openGuarded_13 : decode cX2_openGuarded 13 = .ok (.aaload, 1) := by decide +kernel
theorem dX2_openGuarded_14 : decode cX2_openGuarded 14 = .ok (.getfield 73, 3) := by decide +kernel
theorem dX2_openGuarded_17 : decode cX2_openGuarded 17 = .ok (.ifCond .eq 26, 3) := by decide +kernel
theorem dX2_openGuarded_20 : decode cX2_openGuarded 20 = .ok (.aload_n 0, 1) := by decide +kernel
theorem dX2_openGuarded_21 : decode cX2_openGuarded 21 = .ok (.getfield 11, 3) := by decide +kernel
theorem dX2_openGuarded_24 : decode cX2_openGuarded 24 = .ok (.iload_n 2, 1) := by decide +kernel
theorem dX2_openGuarded_25 : decode cX2_openGuarded 25 = .ok (.aaload, 1) := by decide +kernel
theorem dX2_openGuarded_26 : decode cX2_openGuarded 26 = .ok (.getfield 84, 3) := by decide +kernel
theorem dX2_openGuarded_29 : decode cX2_openGuarded 29 = .ok (.iload_n 1, 1) := by decide +kernel
theorem dX2_openGuarded_30 : decode cX2_openGuarded 30 = .ok (.if_icmp .ne 13, 3) := by decide +kernel
theorem dX2_openGuarded_33 : decode cX2_openGuarded 33 = .ok (.aload_n 0, 1) := by decide +kernel
theorem dX2_openGuarded_34 : decode cX2_openGuarded 34 = .ok (.getfield 11, 3) := by decide +kernel
theorem dX2_openGuarded_37 : decode cX2_openGuarded 37 = .ok (.iload_n 2, 1) := by decide +kernel
theorem dX2_openGuarded_38 : decode cX2_openGuarded 38 = .ok (.aaload, 1) := by decide +kernel
theorem dX2_openGuarded_39 : decode cX2_openGuarded 39 = .ok (.iconst 1, 1) := by decide +kernel
theorem dX2_openGuarded_40 : decode cX2_openGuarded 40 = .ok (.putfield 77, 3) := by decide +kernel
theorem dX2_openGuarded_43 : decode cX2_openGuarded 43 = .ok (.iinc 2 1, 3) := by decide +kernel
theorem dX2_openGuarded_46 : decode cX2_openGuarded 46 = .ok (.goto (-44), 3) := by decide +kernel
theorem dX2_openGuarded_49 : decode cX2_openGuarded 49 = .ok (.return_, 1) := by decide +kernel
theorem dX2_shutGuarded_0 : decode cX2_shutGuarded 0 = .ok (.iconst 0, 1) := by decide +kernel
theorem dX2_shutGuarded_1 : decode cX2_shutGuarded 1 = .ok (.istore_n 1, 1) := by decide +kernel
theorem dX2_shutGuarded_2 : decode cX2_shutGuarded 2 = .ok (.iload_n 1, 1) := by decide +kernel
theorem dX2_shutGuarded_3 : decode cX2_shutGuarded 3 = .ok (.bipush 8, 2) := by decide +kernel
theorem dX2_shutGuarded_5 : decode cX2_shutGuarded 5 = .ok (.if_icmp .ge 31, 3) := by decide +kernel
theorem dX2_shutGuarded_8 : decode cX2_shutGuarded 8 = .ok (.aload_n 0, 1) := by decide +kernel
theorem dX2_shutGuarded_9 : decode cX2_shutGuarded 9 = .ok (.getfield 11, 3) := by decide +kernel
theorem dX2_shutGuarded_12 : decode cX2_shutGuarded 12 = .ok (.iload_n 1, 1) := by decide +kernel
theorem dX2_shutGuarded_13 : decode cX2_shutGuarded 13 = .ok (.aaload, 1) := by decide +kernel
theorem dX2_shutGuarded_14 : decode cX2_shutGuarded 14 = .ok (.getfield 73, 3) := by decide +kernel
theorem dX2_shutGuarded_17 : decode cX2_shutGuarded 17 = .ok (.ifCond .eq 13, 3) := by decide +kernel
theorem dX2_shutGuarded_20 : decode cX2_shutGuarded 20 = .ok (.aload_n 0, 1) := by decide +kernel
theorem dX2_shutGuarded_21 : decode cX2_shutGuarded 21 = .ok (.getfield 11, 3) := by decide +kernel
theorem dX2_shutGuarded_24 : decode cX2_shutGuarded 24 = .ok (.iload_n 1, 1) := by decide +kernel
theorem dX2_shutGuarded_25 : decode cX2_shutGuarded 25 = .ok (.aaload, 1) := by decide +kernel
theorem dX2_shutGuarded_26 : decode cX2_shutGuarded 26 = .ok (.iconst 0, 1) := by decide +kernel
theorem dX2_shutGuarded_27 : decode cX2_shutGuarded 27 = .ok (.putfield 77, 3) := by decide +kernel
theorem dX2_shutGuarded_30 : decode cX2_shutGuarded 30 = .ok (.iinc 1 1, 3) := by decide +kernel
theorem dX2_shutGuarded_33 : decode cX2_shutGuarded 33 = .ok (.goto (-31), 3) := by decide +kernel
theorem dX2_shutGuarded_36 : decode cX2_shutGuarded 36 = .ok (.return_, 1) := by decide +kernel
theorem dX2_springs_0 : decode cX2_springs 0 = .ok (.aload_n 0, 1) := by decide +kernel
theorem dX2_springs_1 : decode cX2_springs 1 = .ok (.getfield 30, 3) := by decide +kernel
theorem dX2_springs_4 : decode cX2_springs 4 = .ok (.aload_n 0, 1) := by decide +kernel
theorem dX2_springs_5 : decode cX2_springs 5 = .ok (.getfield 24, 3) := by decide +kernel
theorem dX2_springs_8 : decode cX2_springs 8 = .ok (.invokestatic 120, 3) := by decide +kernel
theorem dX2_springs_11 : decode cX2_springs 11 = .ok (.istore_n 1, 1) := by decide +kernel
theorem dX2_springs_12 : decode cX2_springs 12 = .ok (.aload_n 0, 1) := by decide +kernel
theorem dX2_springs_13 : decode cX2_springs 13 = .ok (.dup, 1) := by decide +kernel
theorem dX2_springs_14 : decode cX2_springs 14 = .ok (.getfield 30, 3) := by decide +kernel
theorem dX2_springs_17 : decode cX2_springs 17 = .ok (.iload_n 1, 1) := by decide +kernel
theorem dX2_springs_18 : decode cX2_springs 18 = .ok (.isub, 1) := by decide +kernel
theorem dX2_springs_19 : decode cX2_springs 19 = .ok (.putfield 30, 3) := by decide +kernel
theorem dX2_springs_22 : decode cX2_springs 22 = .ok (.aload_n 0, 1) := by decide +kernel
theorem dX2_springs_23 : decode cX2_springs 23 = .ok (.dup, 1) := by decide +kernel
theorem dX2_springs_24 : decode cX2_springs 24 = .ok (.getfield 36, 3) := by decide +kernel
theorem dX2_springs_27 : decode cX2_springs 27 = .ok (.aload_n 0, 1) := by decide +kernel
theorem dX2_springs_28 : decode cX2_springs 28 = .ok (.getfield 21, 3) := by decide +kernel
theorem dX2_springs_31 : decode cX2_springs 31 = .ok (.iadd, 1) := by decide +kernel
theorem dX2_springs_32 : decode cX2_springs 32 = .ok (.putfield 36, 3) := by decide +kernel
theorem dX2_springs_35 : decode cX2_springs 35 = .ok (.aload_n 0, 1) := by decide +kernel
theorem dX2_springs_36 : decode cX2_springs 36 = .ok (.getfield 11, 3) := by decide +kernel
theorem dX2_springs_39 : decode cX2_springs 39 = .ok (.iconst 0, 1) := by decide +kernel
theorem dX2_springs_40 : decode cX2_springs 40 = .ok (.aaload, 1) := by decide +kernel
theorem dX2_springs_41 : decode cX2_springs 41 = .ok (.dup, 1) := by decide +kernel
theorem dX2_springs_42 : decode cX2_springs 42 = .ok (.getfield 87, 3) := by decide +kernel
theorem dX2_springs_45 : decode cX2_springs 45 = .ok (.aload_n 0, 1) := by decide +kernel
theorem dX2_springs_46 : decode cX2_springs 46 = .ok (.getfield 21, 3) := by decide +kernel
theorem dX2_springs_49 : decode cX2_springs 49 = .ok (.iload_n 1, 1) := by decide +kernel
theorem dX2_springs_50 : decode cX2_springs 50 = .ok (.iadd, 1) := by decide +kernel
theorem dX2_springs_51 : decode cX2_springs 51 = .ok (.iadd, 1) := by decide +kernel
theorem dX2_springs_52 : decode cX2_springs 52 = .ok (.putfield 87, 3) := by decide +kernel
theorem dX2_springs_55 : decode cX2_springs 55 = .ok (.return_, 1) := by decide +kernel
theorem dX2_tipOrKeep_0 : decode cX2_tipOrKeep 0 = .ok (.aload_n 1, 1) := by decide +kernel
theorem dX2_tipOrKeep_1 : decode cX2_tipOrKeep 1 = .ok (.invokevirtual 126, 3) := by decide +kernel
theorem dX2_tipOrKeep_4 : decode cX2_tipOrKeep 4 = .ok (.ifCond .eq 10, 3) := by decide +kernel
theorem dX2_tipOrKeep_7 : decode cX2_tipOrKeep 7 = .ok (.aload_n 1, 1) := by decide +kernel
theorem dX2_tipOrKeep_8 : decode cX2_tipOrKeep 8 = .ok (.getfield 77, 3) := by decide +kernel
theorem dX2_tipOrKeep_11 : decode cX2_tipOrKeep 11 = .ok (.ifCond .ne 23, 3) := by decide +kernel
theorem dX2_tipOrKeep_14 : decode cX2_tipOrKeep 14 = .ok (.aload_n 1, 1) := by decide +kernel
theorem dX2_tipOrKeep_15 : decode cX2_tipOrKeep 15 = .ok (.iconst 0, 1) := by decide +kernel
theorem dX2_tipOrKeep_16 : decode cX2_tipOrKeep 16 = .ok (.putfield 130, 3) := by decide +kernel
theorem dX2_tipOrKeep_19 : decode cX2_tipOrKeep 19 = .ok (.aload_n 0, 1) := by decide +kernel
theorem dX2_tipOrKeep_20 : decode cX2_tipOrKeep 20 = .ok (.dup, 1) := by decide +kernel
theorem dX2_tipOrKeep_21 : decode cX2_tipOrKeep 21 = .ok (.getfield 30, 3) := by decide +kernel
theorem dX2_tipOrKeep_24 : decode cX2_tipOrKeep 24 = .ok (.aload_n 1, 1) := by decide +kernel
theorem dX2_tipOrKeep_25 : decode cX2_tipOrKeep 25 = .ok (.invokevirtual 133, 3) := by decide +kernel
theorem dX2_tipOrKeep_28 : decode cX2_tipOrKeep 28 = .ok (.iadd, 1) := by decide +kernel
theorem dX2_tipOrKeep_29 : decode cX2_tipOrKeep 29 = .ok (.putfield 30, 3) := by decide +kernel
theorem dX2_tipOrKeep_32 : decode cX2_tipOrKeep 32 = .ok (.iconst 0, 1) := by decide +kernel
theorem dX2_tipOrKeep_33 : decode cX2_tipOrKeep 33 = .ok (.ireturn, 1) := by decide +kernel
theorem dX2_tipOrKeep_34 : decode cX2_tipOrKeep 34 = .ok (.aload_n 1, 1) := by decide +kernel
theorem dX2_tipOrKeep_35 : decode cX2_tipOrKeep 35 = .ok (.iload_n 2, 1) := by decide +kernel
theorem dX2_tipOrKeep_36 : decode cX2_tipOrKeep 36 = .ok (.invokevirtual 136, 3) := by decide +kernel
theorem dX2_tipOrKeep_39 : decode cX2_tipOrKeep 39 = .ok (.istore_n 3, 1) := by decide +kernel
theorem dX2_tipOrKeep_40 : decode cX2_tipOrKeep 40 = .ok (.aload_n 0, 1) := by decide +kernel
theorem dX2_tipOrKeep_41 : decode cX2_tipOrKeep 41 = .ok (.aload_n 1, 1) := by decide +kernel
theorem dX2_tipOrKeep_42 : decode cX2_tipOrKeep 42 = .ok (.getfield 67, 3) := by decide +kernel
theorem dX2_tipOrKeep_45 : decode cX2_tipOrKeep 45 = .ok (.invokevirtual 49, 3) := by decide +kernel
theorem dX2_tipOrKeep_48 : decode cX2_tipOrKeep 48 = .ok (.astore 4, 2) := by decide +kernel
theorem dX2_tipOrKeep_50 : decode cX2_tipOrKeep 50 = .ok (.aload 4, 2) := by decide +kernel
theorem dX2_tipOrKeep_52 : decode cX2_tipOrKeep 52 = .ok (.ifnonnull 16, 3) := by decide +kernel
theorem dX2_tipOrKeep_55 : decode cX2_tipOrKeep 55 = .ok (.aload_n 0, 1) := by decide +kernel
theorem dX2_tipOrKeep_56 : decode cX2_tipOrKeep 56 = .ok (.dup, 1) := by decide +kernel
theorem dX2_tipOrKeep_57 : decode cX2_tipOrKeep 57 = .ok (.getfield 30, 3) := by decide +kernel
theorem dX2_tipOrKeep_60 : decode cX2_tipOrKeep 60 = .ok (.iload_n 3, 1) := by decide +kernel
theorem dX2_tipOrKeep_61 : decode cX2_tipOrKeep 61 = .ok (.iadd, 1) := by decide +kernel
theorem dX2_tipOrKeep_62 : decode cX2_tipOrKeep 62 = .ok (.putfield 30, 3) := by decide +kernel
theorem dX2_tipOrKeep_65 : decode cX2_tipOrKeep 65 = .ok (.goto 14, 3) := by decide +kernel
theorem dX2_tipOrKeep_68 : decode cX2_tipOrKeep 68 = .ok (.aload 4, 2) := by decide +kernel
theorem dX2_tipOrKeep_70 : decode cX2_tipOrKeep 70 = .ok (.dup, 1) := by decide +kernel
theorem dX2_tipOrKeep_71 : decode cX2_tipOrKeep 71 = .ok (.getfield 87, 3) := by decide +kernel
theorem dX2_tipOrKeep_74 : decode cX2_tipOrKeep 74 = .ok (.iload_n 3, 1) := by decide +kernel
theorem dX2_tipOrKeep_75 : decode cX2_tipOrKeep 75 = .ok (.iadd, 1) := by decide +kernel
theorem dX2_tipOrKeep_76 : decode cX2_tipOrKeep 76 = .ok (.putfield 87, 3) := by decide +kernel
theorem dX2_tipOrKeep_79 : decode cX2_tipOrKeep 79 = .ok (.iconst 1, 1) := by decide +kernel
theorem dX2_tipOrKeep_80 : decode cX2_tipOrKeep 80 = .ok (.ireturn, 1) := by decide +kernel
theorem dX2_tell_0 : decode cX2_tell 0 = .ok (.iload_n 1, 1) := by decide +kernel
theorem dX2_tell_1 : decode cX2_tell 1 = .ok (.tableswitch 135 0 12 #[67, 72, 81, 87, 92, 97, 102, 107, 114, 121, 126, 126, 126], 67) := by decide +kernel
theorem dX2_tell_68 : decode cX2_tell 68 = .ok (.aload_n 0, 1) := by decide +kernel
theorem dX2_tell_69 : decode cX2_tell 69 = .ok (.getfield 17, 3) := by decide +kernel
theorem dX2_tell_72 : decode cX2_tell 72 = .ok (.ireturn, 1) := by decide +kernel
theorem dX2_tell_73 : decode cX2_tell 73 = .ok (.aload_n 0, 1) := by decide +kernel
theorem dX2_tell_74 : decode cX2_tell 74 = .ok (.aload_n 0, 1) := by decide +kernel
theorem dX2_tell_75 : decode cX2_tell 75 = .ok (.getfield 17, 3) := by decide +kernel
theorem dX2_tell_78 : decode cX2_tell 78 = .ok (.invokevirtual 101, 3) := by decide +kernel
theorem dX2_tell_81 : decode cX2_tell 81 = .ok (.ireturn, 1) := by decide +kernel
theorem dX2_tell_82 : decode cX2_tell 82 = .ok (.aload_n 0, 1) := by decide +kernel
theorem dX2_tell_83 : decode cX2_tell 83 = .ok (.iconst 3, 1) := by decide +kernel
theorem dX2_tell_84 : decode cX2_tell 84 = .ok (.invokevirtual 139, 3) := by decide +kernel
theorem dX2_tell_87 : decode cX2_tell 87 = .ok (.ireturn, 1) := by decide +kernel
theorem dX2_tell_88 : decode cX2_tell 88 = .ok (.aload_n 0, 1) := by decide +kernel
theorem dX2_tell_89 : decode cX2_tell 89 = .ok (.getfield 30, 3) := by decide +kernel
theorem dX2_tell_92 : decode cX2_tell 92 = .ok (.ireturn, 1) := by decide +kernel
theorem dX2_tell_93 : decode cX2_tell 93 = .ok (.aload_n 0, 1) := by decide +kernel
theorem dX2_tell_94 : decode cX2_tell 94 = .ok (.getfield 33, 3) := by decide +kernel
theorem dX2_tell_97 : decode cX2_tell 97 = .ok (.ireturn, 1) := by decide +kernel
theorem dX2_tell_98 : decode cX2_tell 98 = .ok (.aload_n 0, 1) := by decide +kernel
theorem dX2_tell_99 : decode cX2_tell 99 = .ok (.getfield 36, 3) := by decide +kernel
theorem dX2_tell_102 : decode cX2_tell 102 = .ok (.ireturn, 1) := by decide +kernel
theorem dX2_tell_103 : decode cX2_tell 103 = .ok (.aload_n 0, 1) := by decide +kernel
theorem dX2_tell_104 : decode cX2_tell 104 = .ok (.getfield 39, 3) := by decide +kernel
theorem dX2_tell_107 : decode cX2_tell 107 = .ok (.ireturn, 1) := by decide +kernel
theorem dX2_tell_108 : decode cX2_tell 108 = .ok (.aload_n 0, 1) := by decide +kernel
theorem dX2_tell_109 : decode cX2_tell 109 = .ok (.bipush 8, 2) := by decide +kernel
theorem dX2_tell_111 : decode cX2_tell 111 = .ok (.invokevirtual 139, 3) := by decide +kernel
theorem dX2_tell_114 : decode cX2_tell 114 = .ok (.ireturn, 1) := by decide +kernel
theorem dX2_tell_115 : decode cX2_tell 115 = .ok (.aload_n 0, 1) := by decide +kernel
theorem dX2_tell_116 : decode cX2_tell 116 = .ok (.bipush 9, 2) := by decide +kernel
theorem dX2_tell_118 : decode cX2_tell 118 = .ok (.invokevirtual 139, 3) := by decide +kernel
theorem dX2_tell_121 : decode cX2_tell 121 = .ok (.ireturn, 1) := by decide +kernel
theorem dX2_tell_122 : decode cX2_tell 122 = .ok (.aload_n 0, 1) := by decide +kernel
theorem dX2_tell_123 : decode cX2_tell 123 = .ok (.invokevirtual 142, 3) := by decide +kernel
theorem dX2_tell_126 : decode cX2_tell 126 = .ok (.ireturn, 1) := by decide +kernel
theorem dX2_tell_127 : decode cX2_tell 127 = .ok (.aload_n 0, 1) := by decide +kernel
theorem dX2_tell_128 : decode cX2_tell 128 = .ok (.iload_n 1, 1) := by decide +kernel
theorem dX2_tell_129 : decode cX2_tell 129 = .ok (.bipush 10, 2) := by decide +kernel
theorem dX2_tell_131 : decode cX2_tell 131 = .ok (.isub, 1) := by decide +kernel
theorem dX2_tell_132 : decode cX2_tell 132 = .ok (.invokevirtual 90, 3) := by decide +kernel
theorem dX2_tell_135 : decode cX2_tell 135 = .ok (.ireturn, 1) := by decide +kernel
theorem dX2_tell_136 : decode cX2_tell 136 = .ok (.bipush (-2), 2) := by decide +kernel
theorem dX2_tell_138 : decode cX2_tell 138 = .ok (.ireturn, 1) := by decide +kernel
theorem dX2_sumOf_0 : decode cX2_sumOf 0 = .ok (.iconst 0, 1) := by decide +kernel
theorem dX2_sumOf_1 : decode cX2_sumOf 1 = .ok (.istore_n 2, 1) := by decide +kernel
theorem dX2_sumOf_2 : decode cX2_sumOf 2 = .ok (.iconst 0, 1) := by decide +kernel
theorem dX2_sumOf_3 : decode cX2_sumOf 3 = .ok (.istore_n 3, 1) := by decide +kernel
theorem dX2_sumOf_4 : decode cX2_sumOf 4 = .ok (.iload_n 3, 1) := by decide +kernel
theorem dX2_sumOf_5 : decode cX2_sumOf 5 = .ok (.bipush 8, 2) := by decide +kernel
theorem dX2_sumOf_7 : decode cX2_sumOf 7 = .ok (.if_icmp .ge 22, 3) := by decide +kernel
theorem dX2_sumOf_10 : decode cX2_sumOf 10 = .ok (.iload_n 2, 1) := by decide +kernel
theorem dX2_sumOf_11 : decode cX2_sumOf 11 = .ok (.aload_n 0, 1) := by decide +kernel
theorem dX2_sumOf_12 : decode cX2_sumOf 12 = .ok (.getfield 11, 3) := by decide +kernel
theorem dX2_sumOf_15 : decode cX2_sumOf 15 = .ok (.iload_n 3, 1) := by decide +kernel
theorem dX2_sumOf_16 : decode cX2_sumOf 16 = .ok (.aaload, 1) := by decide +kernel
theorem dX2_sumOf_17 : decode cX2_sumOf 17 = .ok (.iload_n 1, 1) := by decide +kernel
theorem dX2_sumOf_18 : decode cX2_sumOf 18 = .ok (.invokevirtual 57, 3) := by decide +kernel
theorem dX2_sumOf_21 : decode cX2_sumOf 21 = .ok (.iadd, 1) := by decide +kernel
theorem dX2_sumOf_22 : decode cX2_sumOf 22 = .ok (.istore_n 2, 1) := by decide +kernel
theorem dX2_sumOf_23 : decode cX2_sumOf 23 = .ok (.iinc 3 1, 3) := by decide +kernel
theorem dX2_sumOf_26 : decode cX2_sumOf 26 = .ok (.goto (-22), 3) := by decide +kernel
theorem dX2_sumOf_29 : decode cX2_sumOf 29 = .ok (.iload_n 2, 1) := by decide +kernel
theorem dX2_sumOf_30 : decode cX2_sumOf 30 = .ok (.ireturn, 1) := by decide +kernel
theorem dX2_sumFull_0 : decode cX2_sumFull 0 = .ok (.iconst 0, 1) := by decide +kernel
theorem dX2_sumFull_1 : decode cX2_sumFull 1 = .ok (.istore_n 1, 1) := by decide +kernel
theorem dX2_sumFull_2 : decode cX2_sumFull 2 = .ok (.iconst 0, 1) := by decide +kernel
theorem dX2_sumFull_3 : decode cX2_sumFull 3 = .ok (.istore_n 2, 1) := by decide +kernel
theorem dX2_sumFull_4 : decode cX2_sumFull 4 = .ok (.iload_n 2, 1) := by decide +kernel
theorem dX2_sumFull_5 : decode cX2_sumFull 5 = .ok (.bipush 8, 2) := by decide +kernel
theorem dX2_sumFull_7 : decode cX2_sumFull 7 = .ok (.if_icmp .ge 24, 3) := by decide +kernel
theorem dX2_sumFull_10 : decode cX2_sumFull 10 = .ok (.iload_n 1, 1) := by decide +kernel
theorem dX2_sumFull_11 : decode cX2_sumFull 11 = .ok (.aload_n 0, 1) := by decide +kernel
theorem dX2_sumFull_12 : decode cX2_sumFull 12 = .ok (.getfield 11, 3) := by decide +kernel
theorem dX2_sumFull_15 : decode cX2_sumFull 15 = .ok (.iload_n 2, 1) := by decide +kernel
theorem dX2_sumFull_16 : decode cX2_sumFull 16 = .ok (.aaload, 1) := by decide +kernel
theorem dX2_sumFull_17 : decode cX2_sumFull 17 = .ok (.invokevirtual 126, 3) := by decide +kernel
theorem dX2_sumFull_20 : decode cX2_sumFull 20 = .ok (.invokestatic 80, 3) := by decide +kernel
theorem dX2_sumFull_23 : decode cX2_sumFull 23 = .ok (.iadd, 1) := by decide +kernel
theorem dX2_sumFull_24 : decode cX2_sumFull 24 = .ok (.istore_n 1, 1) := by decide +kernel
theorem dX2_sumFull_25 : decode cX2_sumFull 25 = .ok (.iinc 2 1, 3) := by decide +kernel
theorem dX2_sumFull_28 : decode cX2_sumFull 28 = .ok (.goto (-24), 3) := by decide +kernel
theorem dX2_sumFull_31 : decode cX2_sumFull 31 = .ok (.iload_n 1, 1) := by decide +kernel
theorem dX2_sumFull_32 : decode cX2_sumFull 32 = .ok (.ireturn, 1) := by decide +kernel
theorem dX3_init_0 : decode cX3_init 0 = .ok (.aload_n 0, 1) := by decide +kernel
theorem dX3_init_1 : decode cX3_init 1 = .ok (.invokespecial 1, 3) := by decide +kernel
theorem dX3_init_4 : decode cX3_init 4 = .ok (.aload_n 0, 1) := by decide +kernel
theorem dX3_init_5 : decode cX3_init 5 = .ok (.new 7, 3) := by decide +kernel
theorem dX3_init_8 : decode cX3_init 8 = .ok (.dup, 1) := by decide +kernel
theorem dX3_init_9 : decode cX3_init 9 = .ok (.invokespecial 9, 3) := by decide +kernel
theorem dX3_init_12 : decode cX3_init 12 = .ok (.putfield 10, 3) := by decide +kernel
theorem dX3_init_15 : decode cX3_init 15 = .ok (.aload_n 0, 1) := by decide +kernel
theorem dX3_init_16 : decode cX3_init 16 = .ok (.new 7, 3) := by decide +kernel
theorem dX3_init_19 : decode cX3_init 19 = .ok (.dup, 1) := by decide +kernel
theorem dX3_init_20 : decode cX3_init 20 = .ok (.invokespecial 9, 3) := by decide +kernel
theorem dX3_init_23 : decode cX3_init 23 = .ok (.putfield 16, 3) := by decide +kernel
theorem dX3_init_26 : decode cX3_init 26 = .ok (.aload_n 0, 1) := by decide +kernel
theorem dX3_init_27 : decode cX3_init 27 = .ok (.new 7, 3) := by decide +kernel
theorem dX3_init_30 : decode cX3_init 30 = .ok (.dup, 1) := by decide +kernel
theorem dX3_init_31 : decode cX3_init 31 = .ok (.invokespecial 9, 3) := by decide +kernel
theorem dX3_init_34 : decode cX3_init 34 = .ok (.putfield 19, 3) := by decide +kernel
theorem dX3_init_37 : decode cX3_init 37 = .ok (.aload_n 0, 1) := by decide +kernel
theorem dX3_init_38 : decode cX3_init 38 = .ok (.new 7, 3) := by decide +kernel
theorem dX3_init_41 : decode cX3_init 41 = .ok (.dup, 1) := by decide +kernel
theorem dX3_init_42 : decode cX3_init 42 = .ok (.invokespecial 9, 3) := by decide +kernel
theorem dX3_init_45 : decode cX3_init 45 = .ok (.putfield 22, 3) := by decide +kernel
theorem dX3_init_48 : decode cX3_init 48 = .ok (.aload_n 0, 1) := by decide +kernel
theorem dX3_init_49 : decode cX3_init 49 = .ok (.iconst 4, 1) := by decide +kernel
theorem dX3_init_50 : decode cX3_init 50 = .ok (.anewarray 7, 3) := by decide +kernel
theorem dX3_init_53 : decode cX3_init 53 = .ok (.putfield 25, 3) := by decide +kernel
theorem dX3_init_56 : decode cX3_init 56 = .ok (.aload_n 0, 1) := by decide +kernel
theorem dX3_init_57 : decode cX3_init 57 = .ok (.new 29, 3) := by decide +kernel
theorem dX3_init_60 : decode cX3_init 60 = .ok (.dup, 1) := by decide +kernel
theorem dX3_init_61 : decode cX3_init 61 = .ok (.invokespecial 31, 3) := by decide +kernel
theorem dX3_init_64 : decode cX3_init 64 = .ok (.putfield 32, 3) := by decide +kernel
theorem dX3_init_67 : decode cX3_init 67 = .ok (.aload_n 0, 1) := by decide +kernel
theorem dX3_init_68 : decode cX3_init 68 = .ok (.iconst 0, 1) := by decide +kernel
theorem dX3_init_69 : decode cX3_init 69 = .ok (.putfield 36, 3) := by decide +kernel
theorem dX3_init_72 : decode cX3_init 72 = .ok (.aload_n 0, 1) := by decide +kernel
theorem dX3_init_73 : decode cX3_init 73 = .ok (.iconst 0, 1) := by decide +kernel
theorem dX3_init_74 : decode cX3_init 74 = .ok (.putfield 40, 3) := by decide +kernel
theorem dX3_init_77 : decode cX3_init 77 = .ok (.aload_n 0, 1) := by decide +kernel
theorem dX3_init_78 : decode cX3_init 78 = .ok (.iconst (-1), 1) := by decide +kernel
theorem dX3_init_79 : decode cX3_init 79 = .ok (.putfield 44, 3) := by decide +kernel
theorem dX3_init_82 : decode cX3_init 82 = .ok (.aload_n 0, 1) := by decide +kernel
theorem dX3_init_83 : decode cX3_init 83 = .ok (.iconst 0, 1) := by decide +kernel
theorem dX3_init_84 : decode cX3_init 84 = .ok (.putfield 47, 3) := by decide +kernel
theorem dX3_init_87 : decode cX3_init 87 = .ok (.iconst 0, 1) := by decide +kernel
theorem dX3_init_88 : decode cX3_init 88 = .ok (.istore_n 1, 1) := by decide +kernel
theorem dX3_init_89 : decode cX3_init 89 = .ok (.iload_n 1, 1) := by decide +kernel
theorem dX3_init_90 : decode cX3_init 90 = .ok (.iconst 4, 1) := by decide +kernel
theorem dX3_init_91 : decode cX3_init 91 = .ok (.if_icmp .ge 22, 3) := by decide +kernel
theorem dX3_init_94 : decode cX3_init 94 = .ok (.aload_n 0, 1) := by decide +kernel
theorem dX3_init_95 : decode cX3_init 95 = .ok (.getfield 25, 3) := by decide +kernel
theorem dX3_init_98 : decode cX3_init 98 = .ok (.iload_n 1, 1) := by decide +kernel
theorem dX3_init_99 : decode cX3_init 99 = .ok (.new 7, 3) := by decide +kernel
theorem dX3_init_102 : decode cX3_init 102 = .ok (.dup, 1) := by decide +kernel
theorem dX3_init_103 : decode cX3_init 103 = .ok (.invokespecial 9, 3) := by decide +kernel
theorem dX3_init_106 : decode cX3_init 106 = .ok (.aastore, 1) := by decide +kernel
theorem dX3_init_107 : decode cX3_init 107 = .ok (.iinc 1 1, 3) := by decide +kernel
theorem dX3_init_110 : decode cX3_init 110 = .ok (.goto (-21), 3) := by decide +kernel
theorem dX3_init_113 : decode cX3_init 113 = .ok (.return_, 1) := by decide +kernel
theorem dX3_setCup_0 : decode cX3_setCup 0 = .ok (.aload_n 0, 1) := by decide +kernel
theorem dX3_setCup_1 : decode cX3_setCup 1 = .ok (.getfield 19, 3) := by decide +kernel
theorem dX3_setCup_4 : decode cX3_setCup 4 = .ok (.aload_n 0, 1) := by decide +kernel
theorem dX3_setCup_5 : decode cX3_setCup 5 = .ok (.getfield 10, 3) := by decide +kernel
theorem dX3_setCup_8 : decode cX3_setCup 8 = .ok (.invokevirtual 50, 3) := by decide +kernel
theorem dX3_setCup_11 : decode cX3_setCup 11 = .ok (.aload_n 0, 1) := by decide +kernel
theorem dX3_setCup_12 : decode cX3_setCup 12 = .ok (.aload_n 0, 1) := by decide +kernel
theorem dX3_setCup_13 : decode cX3_setCup 13 = .ok (.getfield 10, 3) := by decide +kernel
theorem dX3_setCup_16 : decode cX3_setCup 16 = .ok (.iload_n 1, 1) := by decide +kernel
theorem dX3_setCup_17 : decode cX3_setCup 17 = .ok (.iload_n 2, 1) := by decide +kernel
theorem dX3_setCup_18 : decode cX3_setCup 18 = .ok (.iload_n 3, 1) := by decide +kernel
theorem dX3_setCup_19 : decode cX3_setCup 19 = .ok (.invokevirtual 54, 3) := by decide +kernel
theorem dX3_setCup_22 : decode cX3_setCup 22 = .ok (.invokevirtual 58, 3) := by decide +kernel
theorem dX3_setCup_25 : decode cX3_setCup 25 = .ok (.ireturn, 1) := by decide +kernel
theorem dX3_turnLock_0 : decode cX3_turnLock 0 = .ok (.aload_n 0, 1) := by decide +kernel
theorem dX3_turnLock_1 : decode cX3_turnLock 1 = .ok (.getfield 19, 3) := by decide +kernel
theorem dX3_turnLock_4 : decode cX3_turnLock 4 = .ok (.aload_n 0, 1) := by decide +kernel
theorem dX3_turnLock_5 : decode cX3_turnLock 5 = .ok (.getfield 10, 3) := by decide +kernel
theorem dX3_turnLock_8 : decode cX3_turnLock 8 = .ok (.invokevirtual 50, 3) := by decide +kernel
theorem dX3_turnLock_11 : decode cX3_turnLock 11 = .ok (.aload_n 0, 1) := by decide +kernel
theorem dX3_turnLock_12 : decode cX3_turnLock 12 = .ok (.aload_n 0, 1) := by decide +kernel
theorem dX3_turnLock_13 : decode cX3_turnLock 13 = .ok (.getfield 10, 3) := by decide +kernel
theorem dX3_turnLock_16 : decode cX3_turnLock 16 = .ok (.iload_n 1, 1) := by decide +kernel
theorem dX3_turnLock_17 : decode cX3_turnLock 17 = .ok (.invokevirtual 62, 3) := by decide +kernel
theorem dX3_turnLock_20 : decode cX3_turnLock 20 = .ok (.invokevirtual 58, 3) := by decide +kernel
theorem dX3_turnLock_23 : decode cX3_turnLock 23 = .ok (.ireturn, 1) := by decide +kernel
theorem dX3_setHour_0 : decode cX3_setHour 0 = .ok (.aload_n 0, 1) := by decide +kernel
theorem dX3_setHour_1 : decode cX3_setHour 1 = .ok (.getfield 19, 3) := by decide +kernel
theorem dX3_setHour_4 : decode cX3_setHour 4 = .ok (.aload_n 0, 1) := by decide +kernel
theorem dX3_setHour_5 : decode cX3_setHour 5 = .ok (.getfield 10, 3) := by decide +kernel
theorem dX3_setHour_8 : decode cX3_setHour 8 = .ok (.invokevirtual 50, 3) := by decide +kernel
theorem dX3_setHour_11 : decode cX3_setHour 11 = .ok (.aload_n 0, 1) := by decide +kernel
theorem dX3_setHour_12 : decode cX3_setHour 12 = .ok (.aload_n 0, 1) := by decide +kernel
theorem dX3_setHour_13 : decode cX3_setHour 13 = .ok (.getfield 10, 3) := by decide +kernel
theorem dX3_setHour_16 : decode cX3_setHour 16 = .ok (.iload_n 1, 1) := by decide +kernel
theorem dX3_setHour_17 : decode cX3_setHour 17 = .ok (.iload_n 2, 1) := by decide +kernel
theorem dX3_setHour_18 : decode cX3_setHour 18 = .ok (.invokevirtual 65, 3) := by decide +kernel
theorem dX3_setHour_21 : decode cX3_setHour 21 = .ok (.invokevirtual 58, 3) := by decide +kernel
theorem dX3_setHour_24 : decode cX3_setHour 24 = .ok (.ireturn, 1) := by decide +kernel
theorem dX3_guard_0 : decode cX3_guard 0 = .ok (.aload_n 0, 1) := by decide +kernel
theorem dX3_guard_1 : decode cX3_guard 1 = .ok (.getfield 19, 3) := by decide +kernel
theorem dX3_guard_4 : decode cX3_guard 4 = .ok (.aload_n 0, 1) := by decide +kernel
theorem dX3_guard_5 : decode cX3_guard 5 = .ok (.getfield 10, 3) := by decide +kernel
theorem dX3_guard_8 : decode cX3_guard 8 = .ok (.invokevirtual 50, 3) := by decide +kernel
theorem dX3_guard_11 : decode cX3_guard 11 = .ok (.aload_n 0, 1) := by decide +kernel
theorem dX3_guard_12 : decode cX3_guard 12 = .ok (.aload_n 0, 1) := by decide +kernel
theorem dX3_guard_13 : decode cX3_guard 13 = .ok (.getfield 10, 3) := by decide +kernel
theorem dX3_guard_16 : decode cX3_guard 16 = .ok (.iload_n 1, 1) := by decide +kernel
theorem dX3_guard_17 : decode cX3_guard 17 = .ok (.invokevirtual 69, 3) := by decide +kernel
theorem dX3_guard_20 : decode cX3_guard 20 = .ok (.invokevirtual 58, 3) := by decide +kernel
theorem dX3_guard_23 : decode cX3_guard 23 = .ok (.ireturn, 1) := by decide +kernel
theorem dX3_fill_0 : decode cX3_fill 0 = .ok (.aload_n 0, 1) := by decide +kernel
theorem dX3_fill_1 : decode cX3_fill 1 = .ok (.getfield 19, 3) := by decide +kernel
theorem dX3_fill_4 : decode cX3_fill 4 = .ok (.aload_n 0, 1) := by decide +kernel
theorem dX3_fill_5 : decode cX3_fill 5 = .ok (.getfield 10, 3) := by decide +kernel
theorem dX3_fill_8 : decode cX3_fill 8 = .ok (.invokevirtual 50, 3) := by decide +kernel
theorem dX3_fill_11 : decode cX3_fill 11 = .ok (.aload_n 0, 1) := by decide +kernel
theorem dX3_fill_12 : decode cX3_fill 12 = .ok (.aload_n 0, 1) := by decide +kernel
theorem dX3_fill_13 : decode cX3_fill 13 = .ok (.getfield 10, 3) := by decide +kernel
theorem dX3_fill_16 : decode cX3_fill 16 = .ok (.iload_n 1, 1) := by decide +kernel
theorem dX3_fill_17 : decode cX3_fill 17 = .ok (.iload_n 2, 1) := by decide +kernel
theorem dX3_fill_18 : decode cX3_fill 18 = .ok (.invokevirtual 72, 3) := by decide +kernel
theorem dX3_fill_21 : decode cX3_fill 21 = .ok (.invokevirtual 58, 3) := by decide +kernel
theorem dX3_fill_24 : decode cX3_fill 24 = .ok (.ireturn, 1) := by decide +kernel
theorem dX3_set_0 : decode cX3_set 0 = .ok (.aload_n 0, 1) := by decide +kernel
theorem dX3_set_1 : decode cX3_set 1 = .ok (.getfield 19, 3) := by decide +kernel
theorem dX3_set_4 : decode cX3_set 4 = .ok (.aload_n 0, 1) := by decide +kernel
theorem dX3_set_5 : decode cX3_set 5 = .ok (.getfield 10, 3) := by decide +kernel
theorem dX3_set_8 : decode cX3_set 8 = .ok (.invokevirtual 50, 3) := by decide +kernel
theorem dX3_set_11 : decode cX3_set 11 = .ok (.aload_n 0, 1) := by decide +kernel
theorem dX3_set_12 : decode cX3_set 12 = .ok (.aload_n 0, 1) := by decide +kernel
theorem dX3_set_13 : decode cX3_set 13 = .ok (.getfield 10, 3) := by decide +kernel
theorem dX3_set_16 : decode cX3_set 16 = .ok (.iload_n 1, 1) := by decide +kernel
theorem dX3_set_17 : decode cX3_set 17 = .ok (.iload_n 2, 1) := by decide +kernel
theorem dX3_set_18 : decode cX3_set 18 = .ok (.invokevirtual 75, 3) := by decide +kernel
theorem dX3_set_21 : decode cX3_set 21 = .ok (.invokevirtual 58, 3) := by decide +kernel
theorem dX3_set_24 : decode cX3_set 24 = .ok (.ireturn, 1) := by decide +kernel
theorem dX3_pass_0 : decode cX3_pass 0 = .ok (.aload_n 0, 1) := by decide +kernel
theorem dX3_pass_1 : decode cX3_pass 1 = .ok (.getfield 19, 3) := by decide +kernel
theorem dX3_pass_4 : decode cX3_pass 4 = .ok (.aload_n 0, 1) := by decide +kernel
theorem dX3_pass_5 : decode cX3_pass 5 = .ok (.getfield 10, 3) := by decide +kernel
theorem dX3_pass_8 : decode cX3_pass 8 = .ok (.invokevirtual 50, 3) := by decide +kernel
theorem dX3_pass_11 : decode cX3_pass 11 = .ok (.aload_n 0, 1) := by decide +kernel
theorem dX3_pass_12 : decode cX3_pass 12 = .ok (.aload_n 0, 1) := by decide +kernel
theorem dX3_pass_13 : decode cX3_pass 13 = .ok (.getfield 10, 3) := by decide +kernel
theorem dX3_pass_16 : decode cX3_pass 16 = .ok (.iload_n 1, 1) := by decide +kernel
theorem dX3_pass_17 : decode cX3_pass 17 = .ok (.invokevirtual 78, 3) := by decide +kernel
theorem dX3_pass_20 : decode cX3_pass 20 = .ok (.invokevirtual 58, 3) := by decide +kernel
theorem dX3_pass_23 : decode cX3_pass 23 = .ok (.ireturn, 1) := by decide +kernel
theorem dX3_type_0 : decode cX3_type 0 = .ok (.aload_n 0, 1) := by decide +kernel
theorem dX3_type_1 : decode cX3_type 1 = .ok (.getfield 32, 3) := by decide +kernel
theorem dX3_type_4 : decode cX3_type 4 = .ok (.iload_n 1, 1) := by decide +kernel
theorem dX3_type_5 : decode cX3_type 5 = .ok (.invokevirtual 81, 3) := by decide +kernel
theorem dX3_type_8 : decode cX3_type 8 = .ok (.ireturn, 1) := by decide +kernel
theorem dX3_clearText_0 : decode cX3_clearText 0 = .ok (.aload_n 0, 1) := by decide +kernel
theorem dX3_clearText_1 : decode cX3_clearText 1 = .ok (.getfield 32, 3) := by decide +kernel
theorem dX3_clearText_4 : decode cX3_clearText 4 = .ok (.invokevirtual 85, 3) := by decide +kernel
theorem dX3_clearText_7 : decode cX3_clearText 7 = .ok (.ireturn, 1) := by decide +kernel
theorem dX3_perform_0 : decode cX3_perform 0 = .ok (.aload_n 0, 1) := by decide +kernel
theorem dX3_perform_1 : decode cX3_perform 1 = .ok (.getfield 32, 3) := by decide +kernel
theorem dX3_perform_4 : decode cX3_perform 4 = .ok (.invokevirtual 89, 3) := by decide +kernel
theorem dX3_perform_7 : decode cX3_perform 7 = .ok (.istore_n 1, 1) := by decide +kernel
theorem dX3_perform_8 : decode cX3_perform 8 = .ok (.iload_n 1, 1) := by decide +kernel
theorem dX3_perform_9 : decode cX3_perform 9 = .ok (.iconst (-1), 1) := by decide +kernel
theorem dX3_perform_10 : decode cX3_perform 10 = .ok (.if_icmp .eq 8, 3) := by decide +kernel
theorem dX3_perform_13 : decode cX3_perform 13 = .ok (.bipush (-100), 2) := by decide +kernel
theorem dX3_perform_15 : decode cX3_perform 15 = .ok (.iload_n 1, 1) := by decide +kernel
theorem dX3_perform_16 : decode cX3_perform 16 = .ok (.isub, 1) := by decide +kernel
theorem dX3_perform_17 : decode cX3_perform 17 = .ok (.ireturn, 1) := by decide +kernel
theorem dX3_perform_18 : decode cX3_perform 18 = .ok (.aload_n 0, 1) := by decide +kernel
theorem dX3_perform_19 : decode cX3_perform 19 = .ok (.getfield 19, 3) := by decide +kernel
theorem dX3_perform_22 : decode cX3_perform 22 = .ok (.aload_n 0, 1) := by decide +kernel
theorem dX3_perform_23 : decode cX3_perform 23 = .ok (.getfield 10, 3) := by decide +kernel
theorem dX3_perform_26 : decode cX3_perform 26 = .ok (.invokevirtual 50, 3) := by decide +kernel
theorem dX3_perform_29 : decode cX3_perform 29 = .ok (.iconst 0, 1) := by decide +kernel
theorem dX3_perform_30 : decode cX3_perform 30 = .ok (.istore_n 2, 1) := by decide +kernel
theorem dX3_perform_31 : decode cX3_perform 31 = .ok (.iload_n 2, 1) := by decide +kernel
theorem dX3_perform_32 : decode cX3_perform 32 = .ok (.aload_n 0, 1) := by decide +kernel
theorem dX3_perform_33 : decode cX3_perform 33 = .ok (.getfield 32, 3) := by decide +kernel
theorem dX3_perform_36 : decode cX3_perform 36 = .ok (.getfield 92, 3) := by decide +kernel
theorem dX3_perform_39 : decode cX3_perform 39 = .ok (.if_icmp .ge 53, 3) := by decide +kernel
theorem dX3_perform_42 : decode cX3_perform 42 = .ok (.aload_n 0, 1) := by decide +kernel
theorem dX3_perform_43 : decode cX3_perform 43 = .ok (.getfield 32, 3) := by decide +kernel
theorem dX3_perform_46 : decode cX3_perform 46 = .ok (.iload_n 2, 1) := by decide +kernel
theorem dX3_perform_47 : decode cX3_perform 47 = .ok (.aload_n 0, 1) := by decide +kernel
theorem dX3_perform_48 : decode cX3_perform 48 = .ok (.getfield 10, 3) := by decide +kernel
theorem dX3_perform_51 : decode cX3_perform 51 = .ok (.invokevirtual 95, 3) := by decide +kernel
theorem dX3_perform_54 : decode cX3_perform 54 = .ok (.istore_n 3, 1) := by decide +kernel
theorem dX3_perform_55 : decode cX3_perform 55 = .ok (.iload_n 3, 1) := by decide +kernel
theorem dX3_perform_56 : decode cX3_perform 56 = .ok (.invokestatic 99, 3) := by decide +kernel
theorem dX3_perform_59 : decode cX3_perform 59 = .ok (.ifCond .eq 27, 3) := by decide +kernel
theorem dX3_perform_62 : decode cX3_perform 62 = .ok (.aload_n 0, 1) := by decide +kernel
theorem dX3_perform_63 : decode cX3_perform 63 = .ok (.iload_n 2, 1) := by decide +kernel
theorem dX3_perform_64 : decode cX3_perform 64 = .ok (.putfield 44, 3) := by decide +kernel
theorem dX3_perform_67 : decode cX3_perform 67 = .ok (.aload_n 0, 1) := by decide +kernel
theorem dX3_perform_68 : decode cX3_perform 68 = .ok (.iload_n 3, 1) := by decide +kernel
theorem dX3_perform_69 : decode cX3_perform 69 = .ok (.putfield 47, 3) := by decide +kernel
theorem dX3_perform_72 : decode cX3_perform 72 = .ok (.aload_n 0, 1) := by decide +kernel
theorem dX3_perform_73 : decode cX3_perform 73 = .ok (.getfield 10, 3) := by decide +kernel
theorem dX3_perform_76 : decode cX3_perform 76 = .ok (.aload_n 0, 1) := by decide +kernel
theorem dX3_perform_77 : decode cX3_perform 77 = .ok (.getfield 19, 3) := by decide +kernel
theorem dX3_perform_80 : decode cX3_perform 80 = .ok (.invokevirtual 50, 3) := by decide +kernel
theorem dX3_perform_83 : decode cX3_perform 83 = .ok (.bipush (-4), 2) := by decide +kernel
theorem dX3_perform_85 : decode cX3_perform 85 = .ok (.ireturn, 1) := by decide +kernel
theorem dX3_perform_86 : decode cX3_perform 86 = .ok (.iinc 2 1, 3) := by decide +kernel
theorem dX3_perform_89 : decode cX3_perform 89 = .ok (.goto (-58), 3) := by decide +kernel
theorem dX3_perform_92 : decode cX3_perform 92 = .ok (.aload_n 0, 1) := by decide +kernel
theorem dX3_perform_93 : decode cX3_perform 93 = .ok (.aload_n 0, 1) := by decide +kernel
theorem dX3_perform_94 : decode cX3_perform 94 = .ok (.getfield 32, 3) := by decide +kernel
theorem dX3_perform_97 : decode cX3_perform 97 = .ok (.getfield 92, 3) := by decide +kernel
theorem dX3_perform_100 : decode cX3_perform 100 = .ok (.invokevirtual 58, 3) := by decide +kernel
theorem dX3_perform_103 : decode cX3_perform 103 = .ok (.ireturn, 1) := by decide +kernel
theorem dX3_stopped_0 : decode cX3_stopped 0 = .ok (.iload_n 1, 1) := by decide +kernel
theorem dX3_stopped_1 : decode cX3_stopped 1 = .ok (.iconst 0, 1) := by decide +kernel
theorem dX3_stopped_2 : decode cX3_stopped 2 = .ok (.iconst 1, 1) := by decide +kernel
theorem dX3_stopped_3 : decode cX3_stopped 3 = .ok (.invokestatic 103, 3) := by decide +kernel
theorem dX3_stopped_6 : decode cX3_stopped 6 = .ok (.ifCond .ne 6, 3) := by decide +kernel
theorem dX3_stopped_9 : decode cX3_stopped 9 = .ok (.bipush (-2), 2) := by decide +kernel
theorem dX3_stopped_11 : decode cX3_stopped 11 = .ok (.ireturn, 1) := by decide +kernel
theorem dX3_stopped_12 : decode cX3_stopped 12 = .ok (.aload_n 0, 1) := by decide +kernel
theorem dX3_stopped_13 : decode cX3_stopped 13 = .ok (.getfield 44, 3) := by decide +kernel
theorem dX3_stopped_16 : decode cX3_stopped 16 = .ok (.iconst (-1), 1) := by decide +kernel
theorem dX3_stopped_17 : decode cX3_stopped 17 = .ok (.if_icmp .ne 6, 3) := by decide +kernel
theorem dX3_stopped_20 : decode cX3_stopped 20 = .ok (.bipush (-5), 2) := by decide +kernel
theorem dX3_stopped_22 : decode cX3_stopped 22 = .ok (.ireturn, 1) := by decide +kernel
theorem dX3_stopped_23 : decode cX3_stopped 23 = .ok (.iload_n 1, 1) := by decide +kernel
theorem dX3_stopped_24 : decode cX3_stopped 24 = .ok (.ifCond .ne 10, 3) := by decide +kernel
theorem dX3_stopped_27 : decode cX3_stopped 27 = .ok (.aload_n 0, 1) := by decide +kernel
theorem dX3_stopped_28 : decode cX3_stopped 28 = .ok (.getfield 44, 3) := by decide +kernel
theorem dX3_stopped_31 : decode cX3_stopped 31 = .ok (.goto 7, 3) := by decide +kernel
theorem dX3_stopped_34 : decode cX3_stopped 34 = .ok (.aload_n 0, 1) := by decide +kernel
theorem dX3_stopped_35 : decode cX3_stopped 35 = .ok (.getfield 47, 3) := by decide +kernel
theorem dX3_stopped_38 : decode cX3_stopped 38 = .ok (.ireturn, 1) := by decide +kernel
theorem dX3_undo_0 : decode cX3_undo 0 = .ok (.aload_n 0, 1) := by decide +kernel
theorem dX3_undo_1 : decode cX3_undo 1 = .ok (.getfield 36, 3) := by decide +kernel
theorem dX3_undo_4 : decode cX3_undo 4 = .ok (.ifCond .le 11, 3) := by decide +kernel
theorem dX3_undo_7 : decode cX3_undo 7 = .ok (.aload_n 0, 1) := by decide +kernel
theorem dX3_undo_8 : decode cX3_undo 8 = .ok (.getfield 36, 3) := by decide +kernel
theorem dX3_undo_11 : decode cX3_undo 11 = .ok (.iconst 4, 1) := by decide +kernel
theorem dX3_undo_12 : decode cX3_undo 12 = .ok (.if_icmp .le 6, 3) := by decide +kernel
theorem dX3_undo_15 : decode cX3_undo 15 = .ok (.bipush (-5), 2) := by decide +kernel
theorem dX3_undo_17 : decode cX3_undo 17 = .ok (.ireturn, 1) := by decide +kernel
theorem dX3_undo_18 : decode cX3_undo 18 = .ok (.aload_n 0, 1) := by decide +kernel
theorem dX3_undo_19 : decode cX3_undo 19 = .ok (.dup, 1) := by decide +kernel
theorem dX3_undo_20 : decode cX3_undo 20 = .ok (.getfield 36, 3) := by decide +kernel
theorem dX3_undo_23 : decode cX3_undo 23 = .ok (.iconst 1, 1) := by decide +kernel
theorem dX3_undo_24 : decode cX3_undo 24 = .ok (.isub, 1) := by decide +kernel
theorem dX3_undo_25 : decode cX3_undo 25 = .ok (.putfield 36, 3) := by decide +kernel
theorem dX3_undo_28 : decode cX3_undo 28 = .ok (.aload_n 0, 1) := by decide +kernel
theorem dX3_undo_29 : decode cX3_undo 29 = .ok (.getfield 10, 3) := by decide +kernel
theorem dX3_undo_32 : decode cX3_undo 32 = .ok (.aload_n 0, 1) := by decide +kernel
theorem dX3_undo_33 : decode cX3_undo 33 = .ok (.getfield 25, 3) := by decide +kernel
theorem dX3_undo_36 : decode cX3_undo 36 = .ok (.aload_n 0, 1) := by decide +kernel
theorem dX3_undo_37 : decode cX3_undo 37 = .ok (.getfield 36, 3) := by decide +kernel
theorem dX3_undo_40 : decode cX3_undo 40 = .ok (.aaload, 1) := by decide +kernel
theorem dX3_undo_41 : decode cX3_undo 41 = .ok (.invokevirtual 50, 3) := by decide +kernel
theorem dX3_undo_44 : decode cX3_undo 44 = .ok (.aload_n 0, 1) := by decide +kernel
theorem dX3_undo_45 : decode cX3_undo 45 = .ok (.getfield 36, 3) := by decide +kernel
theorem dX3_undo_48 : decode cX3_undo 48 = .ok (.ireturn, 1) := by decide +kernel
theorem dX3_keep_0 : decode cX3_keep 0 = .ok (.aload_n 0, 1) := by decide +kernel
theorem dX3_keep_1 : decode cX3_keep 1 = .ok (.getfield 22, 3) := by decide +kernel
theorem dX3_keep_4 : decode cX3_keep 4 = .ok (.aload_n 0, 1) := by decide +kernel
theorem dX3_keep_5 : decode cX3_keep 5 = .ok (.getfield 10, 3) := by decide +kernel
theorem dX3_keep_8 : decode cX3_keep 8 = .ok (.invokevirtual 50, 3) := by decide +kernel
theorem dX3_keep_11 : decode cX3_keep 11 = .ok (.aload_n 0, 1) := by decide +kernel
theorem dX3_keep_12 : decode cX3_keep 12 = .ok (.iconst 1, 1) := by decide +kernel
theorem dX3_keep_13 : decode cX3_keep 13 = .ok (.putfield 40, 3) := by decide +kernel
theorem dX3_keep_16 : decode cX3_keep 16 = .ok (.aload_n 0, 1) := by decide +kernel
theorem dX3_keep_17 : decode cX3_keep 17 = .ok (.getfield 10, 3) := by decide +kernel
theorem dX3_keep_20 : decode cX3_keep 20 = .ok (.getfield 107, 3) := by decide +kernel
theorem dX3_keep_23 : decode cX3_keep 23 = .ok (.ireturn, 1) := by decide +kernel
theorem dX3_restore_0 : decode cX3_restore 0 = .ok (.aload_n 0, 1) := by decide +kernel
theorem dX3_restore_1 : decode cX3_restore 1 = .ok (.getfield 40, 3) := by decide +kernel
theorem dX3_restore_4 : decode cX3_restore 4 = .ok (.ifCond .ne 6, 3) := by decide +kernel
theorem dX3_restore_7 : decode cX3_restore 7 = .ok (.bipush (-5), 2) := by decide +kernel
theorem dX3_restore_9 : decode cX3_restore 9 = .ok (.ireturn, 1) := by decide +kernel
theorem dX3_restore_10 : decode cX3_restore 10 = .ok (.aload_n 0, 1) := by decide +kernel
theorem dX3_restore_11 : decode cX3_restore 11 = .ok (.getfield 19, 3) := by decide +kernel
theorem dX3_restore_14 : decode cX3_restore 14 = .ok (.aload_n 0, 1) := by decide +kernel
theorem dX3_restore_15 : decode cX3_restore 15 = .ok (.getfield 10, 3) := by decide +kernel
theorem dX3_restore_18 : decode cX3_restore 18 = .ok (.invokevirtual 50, 3) := by decide +kernel
theorem dX3_restore_21 : decode cX3_restore 21 = .ok (.aload_n 0, 1) := by decide +kernel
theorem dX3_restore_22 : decode cX3_restore 22 = .ok (.getfield 10, 3) := by decide +kernel
theorem dX3_restore_25 : decode cX3_restore 25 = .ok (.aload_n 0, 1) := by decide +kernel
theorem dX3_restore_26 : decode cX3_restore 26 = .ok (.getfield 22, 3) := by decide +kernel
theorem dX3_restore_29 : decode cX3_restore 29 = .ok (.invokevirtual 50, 3) := by decide +kernel
theorem dX3_restore_32 : decode cX3_restore 32 = .ok (.aload_n 0, 1) := by decide +kernel
theorem dX3_restore_33 : decode cX3_restore 33 = .ok (.aload_n 0, 1) := by decide +kernel
theorem dX3_restore_34 : decode cX3_restore 34 = .ok (.getfield 10, 3) := by decide +kernel
theorem dX3_restore_37 : decode cX3_restore 37 = .ok (.getfield 107, 3) := by decide +kernel
theorem dX3_restore_40 : decode cX3_restore 40 = .ok (.invokevirtual 58, 3) := by decide +kernel
theorem dX3_restore_43 : decode cX3_restore 43 = .ok (.ireturn, 1) := by decide +kernel
theorem dX3_cup_0 : decode cX3_cup 0 = .ok (.aload_n 0, 1) := by decide +kernel
theorem dX3_cup_1 : decode cX3_cup 1 = .ok (.getfield 10, 3) := by decide +kernel
theorem dX3_cup_4 : decode cX3_cup 4 = .ok (.iload_n 1, 1) := by decide +kernel
theorem dX3_cup_5 : decode cX3_cup 5 = .ok (.invokevirtual 110, 3) := by decide +kernel
theorem dX3_cup_8 : decode cX3_cup 8 = .ok (.astore_n 3, 1) := by decide +kernel
theorem dX3_cup_9 : decode cX3_cup 9 = .ok (.aload_n 3, 1) := by decide +kernel
theorem dX3_cup_10 : decode cX3_cup 10 = .ok (.ifnonnull 7, 3) := by decide +kernel
theorem dX3_cup_13 : decode cX3_cup 13 = .ok (.iconst (-1), 1) := by decide +kernel
theorem dX3_cup_14 : decode cX3_cup 14 = .ok (.goto 8, 3) := by decide +kernel
theorem dX3_cup_17 : decode cX3_cup 17 = .ok (.aload_n 3, 1) := by decide +kernel
theorem dX3_cup_18 : decode cX3_cup 18 = .ok (.iload_n 2, 1) := by decide +kernel
theorem dX3_cup_19 : decode cX3_cup 19 = .ok (.invokevirtual 114, 3) := by decide +kernel
theorem dX3_cup_22 : decode cX3_cup 22 = .ok (.ireturn, 1) := by decide +kernel
theorem dX3_reason_0 : decode cX3_reason 0 = .ok (.aload_n 0, 1) := by decide +kernel
theorem dX3_reason_1 : decode cX3_reason 1 = .ok (.getfield 10, 3) := by decide +kernel
theorem dX3_reason_4 : decode cX3_reason 4 = .ok (.iload_n 1, 1) := by decide +kernel
theorem dX3_reason_5 : decode cX3_reason 5 = .ok (.invokevirtual 110, 3) := by decide +kernel
theorem dX3_reason_8 : decode cX3_reason 8 = .ok (.astore_n 2, 1) := by decide +kernel
theorem dX3_reason_9 : decode cX3_reason 9 = .ok (.aload_n 2, 1) := by decide +kernel
theorem dX3_reason_10 : decode cX3_reason 10 = .ok (.ifnonnull 5, 3) := by decide +kernel
theorem dX3_reason_13 : decode cX3_reason 13 = .ok (.iconst (-1), 1) := by decide +kernel
theorem dX3_reason_14 : decode cX3_reason 14 = .ok (.ireturn, 1) := by decide +kernel
theorem dX3_reason_15 : decode cX3_reason 15 = .ok (.aload_n 0, 1) := by decide +kernel
theorem dX3_reason_16 : decode cX3_reason 16 = .ok (.getfield 16, 3) := by decide +kernel
theorem dX3_reason_19 : decode cX3_reason 19 = .ok (.aload_n 0, 1) := by decide +kernel
theorem dX3_reason_20 : decode cX3_reason 20 = .ok (.getfield 10, 3) := by decide +kernel
theorem dX3_reason_23 : decode cX3_reason 23 = .ok (.invokevirtual 50, 3) := by decide +kernel
theorem dX3_reason_26 : decode cX3_reason 26 = .ok (.aload_n 0, 1) := by decide +kernel
theorem dX3_reason_27 : decode cX3_reason 27 = .ok (.getfield 16, 3) := by decide +kernel
theorem dX3_reason_30 : decode cX3_reason 30 = .ok (.invokevirtual 119, 3) := by decide +kernel
theorem dX3_reason_33 : decode cX3_reason 33 = .ok (.pop, 1) := by decide +kernel
theorem dX3_reason_34 : decode cX3_reason 34 = .ok (.aload_n 0, 1) := by decide +kernel
theorem dX3_reason_35 : decode cX3_reason 35 = .ok (.getfield 16, 3) := by decide +kernel
theorem dX3_reason_38 : decode cX3_reason 38 = .ok (.iload_n 1, 1) := by decide +kernel
theorem dX3_reason_39 : decode cX3_reason 39 = .ok (.invokevirtual 110, 3) := by decide +kernel
theorem dX3_reason_42 : decode cX3_reason 42 = .ok (.astore_n 3, 1) := by decide +kernel
theorem dX3_reason_43 : decode cX3_reason 43 = .ok (.aload_n 3, 1) := by decide +kernel
theorem dX3_reason_44 : decode cX3_reason 44 = .ok (.ifnull 16, 3) := by decide +kernel
theorem dX3_reason_47 : decode cX3_reason 47 = .ok (.aload_n 3, 1) := by decide +kernel
theorem dX3_reason_48 : decode cX3_reason 48 = .ok (.getfield 122, 3) := by decide +kernel
theorem dX3_reason_51 : decode cX3_reason 51 = .ok (.aload_n 2, 1) := by decide +kernel
theorem dX3_reason_52 : decode cX3_reason 52 = .ok (.getfield 122, 3) := by decide +kernel
theorem dX3_reason_55 : decode cX3_reason 55 = .ok (.if_icmp .le 5, 3) := by decide +kernel
theorem dX3_reason_58 : decode cX3_reason 58 = .ok (.iconst 0, 1) := by decide +kernel
theorem dX3_reason_59 : decode cX3_reason 59 = .ok (.ireturn, 1) := by decide +kernel
theorem dX3_reason_60 : decode cX3_reason 60 = .ok (.aload_n 2, 1) := by decide +kernel
theorem dX3_reason_61 : decode cX3_reason 61 = .ok (.getfield 125, 3) := by decide +kernel
theorem dX3_reason_64 : decode cX3_reason 64 = .ok (.ifCond .eq 30, 3) := by decide +kernel
theorem dX3_reason_67 : decode cX3_reason 67 = .ok (.aload_n 2, 1) := by decide +kernel
theorem dX3_reason_68 : decode cX3_reason 68 = .ok (.getfield 128, 3) := by decide +kernel
theorem dX3_reason_71 : decode cX3_reason 71 = .ok (.aload_n 0, 1) := by decide +kernel
theorem dX3_reason_72 : decode cX3_reason 72 = .ok (.getfield 10, 3) := by decide +kernel
theorem dX3_reason_75 : decode cX3_reason 75 = .ok (.aload_n 0, 1) := by decide +kernel
theorem dX3_reason_76 : decode cX3_reason 76 = .ok (.getfield 10, 3) := by decide +kernel
theorem dX3_reason_79 : decode cX3_reason 79 = .ok (.getfield 107, 3) := by decide +kernel
theorem dX3_reason_82 : decode cX3_reason 82 = .ok (.invokevirtual 131, 3) := by decide +kernel
theorem dX3_reason_85 : decode cX3_reason 85 = .ok (.if_icmp .ne 7, 3) := by decide +kernel
theorem dX3_reason_88 : decode cX3_reason 88 = .ok (.iconst 3, 1) := by decide +kernel
theorem dX3_reason_89 : decode cX3_reason 89 = .ok (.goto 4, 3) := by decide +kernel
theorem dX3_reason_92 : decode cX3_reason 92 = .ok (.iconst 1, 1) := by decide +kernel
theorem dX3_reason_93 : decode cX3_reason 93 = .ok (.ireturn, 1) := by decide +kernel
theorem dX3_reason_94 : decode cX3_reason 94 = .ok (.aload_n 2, 1) := by decide +kernel
theorem dX3_reason_95 : decode cX3_reason 95 = .ok (.getfield 134, 3) := by decide +kernel
theorem dX3_reason_98 : decode cX3_reason 98 = .ok (.ifCond .eq 7, 3) := by decide +kernel
theorem dX3_reason_101 : decode cX3_reason 101 = .ok (.iconst 3, 1) := by decide +kernel
theorem dX3_reason_102 : decode cX3_reason 102 = .ok (.goto 4, 3) := by decide +kernel
theorem dX3_reason_105 : decode cX3_reason 105 = .ok (.iconst 2, 1) := by decide +kernel
theorem dX3_reason_106 : decode cX3_reason 106 = .ok (.ireturn, 1) := by decide +kernel
theorem dX3_tipsIn_0 : decode cX3_tipsIn 0 = .ok (.aload_n 0, 1) := by decide +kernel
theorem dX3_tipsIn_1 : decode cX3_tipsIn 1 = .ok (.getfield 16, 3) := by decide +kernel
theorem dX3_tipsIn_4 : decode cX3_tipsIn 4 = .ok (.aload_n 0, 1) := by decide +kernel
theorem dX3_tipsIn_5 : decode cX3_tipsIn 5 = .ok (.getfield 10, 3) := by decide +kernel
theorem dX3_tipsIn_8 : decode cX3_tipsIn 8 = .ok (.invokevirtual 50, 3) := by decide +kernel
theorem dX3_tipsIn_11 : decode cX3_tipsIn 11 = .ok (.aload_n 0, 1) := by decide +kernel
theorem dX3_tipsIn_12 : decode cX3_tipsIn 12 = .ok (.iload_n 1, 1) := by decide +kernel
theorem dX3_tipsIn_13 : decode cX3_tipsIn 13 = .ok (.invokevirtual 137, 3) := by decide +kernel
theorem dX3_tipsIn_16 : decode cX3_tipsIn 16 = .ok (.ireturn, 1) := by decide +kernel
theorem dX3_tipsAt_0 : decode cX3_tipsAt 0 = .ok (.aload_n 0, 1) := by decide +kernel
theorem dX3_tipsAt_1 : decode cX3_tipsAt 1 = .ok (.getfield 16, 3) := by decide +kernel
theorem dX3_tipsAt_4 : decode cX3_tipsAt 4 = .ok (.aload_n 0, 1) := by decide +kernel
theorem dX3_tipsAt_5 : decode cX3_tipsAt 5 = .ok (.getfield 10, 3) := by decide +kernel
theorem dX3_tipsAt_8 : decode cX3_tipsAt 8 = .ok (.invokevirtual 50, 3) := by decide +kernel
theorem dX3_tipsAt_11 : decode cX3_tipsAt 11 = .ok (.aload_n 0, 1) := by decide +kernel
theorem dX3_tipsAt_12 : decode cX3_tipsAt 12 = .ok (.iload_n 1, 1) := by decide +kernel
theorem dX3_tipsAt_13 : decode cX3_tipsAt 13 = .ok (.invokevirtual 140, 3) := by decide +kernel
theorem dX3_tipsAt_16 : decode cX3_tipsAt 16 = .ok (.ireturn, 1) := by decide +kernel
theorem dX3_starving_0 : decode cX3_starving 0 = .ok (.aload_n 0, 1) := by decide +kernel
theorem dX3_starving_1 : decode cX3_starving 1 = .ok (.getfield 16, 3) := by decide +kernel
theorem dX3_starving_4 : decode cX3_starving 4 = .ok (.aload_n 0, 1) := by decide +kernel
theorem dX3_starving_5 : decode cX3_starving 5 = .ok (.getfield 10, 3) := by decide +kernel
theorem dX3_starving_8 : decode cX3_starving 8 = .ok (.invokevirtual 50, 3) := by decide +kernel
theorem dX3_starving_11 : decode cX3_starving 11 = .ok (.aload_n 0, 1) := by decide +kernel
theorem dX3_starving_12 : decode cX3_starving 12 = .ok (.getfield 16, 3) := by decide +kernel
theorem dX3_starving_15 : decode cX3_starving 15 = .ok (.sipush 500, 3) := by decide +kernel
theorem dX3_starving_18 : decode cX3_starving 18 = .ok (.invokevirtual 143, 3) := by decide +kernel
theorem dX3_starving_21 : decode cX3_starving 21 = .ok (.pop, 1) := by decide +kernel
theorem dX3_starving_22 : decode cX3_starving 22 = .ok (.iconst 0, 1) := by decide +kernel
theorem dX3_starving_23 : decode cX3_starving 23 = .ok (.istore_n 1, 1) := by decide +kernel
theorem dX3_starving_24 : decode cX3_starving 24 = .ok (.iload_n 1, 1) := by decide +kernel
theorem dX3_starving_25 : decode cX3_starving 25 = .ok (.bipush 8, 2) := by decide +kernel
theorem dX3_starving_27 : decode cX3_starving 27 = .ok (.if_icmp .ge 38, 3) := by decide +kernel
theorem dX3_starving_30 : decode cX3_starving 30 = .ok (.aload_n 0, 1) := by decide +kernel
theorem dX3_starving_31 : decode cX3_starving 31 = .ok (.getfield 16, 3) := by decide +kernel
theorem dX3_starving_34 : decode cX3_starving 34 = .ok (.getfield 146, 3) := by decide +kernel
theorem dX3_starving_37 : decode cX3_starving 37 = .ok (.iload_n 1, 1) := by decide +kernel
theorem dX3_starving_38 : decode cX3_starving 38 = .ok (.aaload, 1) := by decide +kernel
theorem dX3_starving_39 : decode cX3_starving 39 = .ok (.getfield 122, 3) := by decide +kernel
theorem dX3_starving_42 : decode cX3_starving 42 = .ok (.aload_n 0, 1) := by decide +kernel
theorem dX3_starving_43 : decode cX3_starving 43 = .ok (.getfield 10, 3) := by decide +kernel
theorem dX3_starving_46 : decode cX3_starving 46 = .ok (.getfield 146, 3) := by decide +kernel
theorem dX3_starving_49 : decode cX3_starving 49 = .ok (.iload_n 1, 1) := by decide +kernel
theorem dX3_starving_50 : decode cX3_starving 50 = .ok (.aaload, 1) := by decide +kernel
theorem dX3_starving_51 : decode cX3_starving 51 = .ok (.getfield 122, 3) := by decide +kernel
theorem dX3_starving_54 : decode cX3_starving 54 = .ok (.if_icmp .ne 5, 3) := by decide +kernel
theorem dX3_starving_57 : decode cX3_starving 57 = .ok (.iload_n 1, 1) := by decide +kernel
theorem dX3_starving_58 : decode cX3_starving 58 = .ok (.ireturn, 1) := by decide +kernel
theorem dX3_starving_59 : decode cX3_starving 59 = .ok (.iinc 1 1, 3) := by decide +kernel
theorem dX3_starving_62 : decode cX3_starving 62 = .ok (.goto (-38), 3) := by decide +kernel
theorem dX3_starving_65 : decode cX3_starving 65 = .ok (.bipush (-5), 2) := by decide +kernel
theorem dX3_starving_67 : decode cX3_starving 67 = .ok (.ireturn, 1) := by decide +kernel
theorem dX3_bestSize_0 : decode cX3_bestSize 0 = .ok (.aload_n 0, 1) := by decide +kernel
theorem dX3_bestSize_1 : decode cX3_bestSize 1 = .ok (.getfield 10, 3) := by decide +kernel
theorem dX3_bestSize_4 : decode cX3_bestSize 4 = .ok (.iload_n 1, 1) := by decide +kernel
theorem dX3_bestSize_5 : decode cX3_bestSize 5 = .ok (.invokevirtual 110, 3) := by decide +kernel
theorem dX3_bestSize_8 : decode cX3_bestSize 8 = .ok (.astore_n 2, 1) := by decide +kernel
theorem dX3_bestSize_9 : decode cX3_bestSize 9 = .ok (.aload_n 2, 1) := by decide +kernel
theorem dX3_bestSize_10 : decode cX3_bestSize 10 = .ok (.ifnonnull 5, 3) := by decide +kernel
theorem dX3_bestSize_13 : decode cX3_bestSize 13 = .ok (.iconst (-1), 1) := by decide +kernel
theorem dX3_bestSize_14 : decode cX3_bestSize 14 = .ok (.ireturn, 1) := by decide +kernel
theorem dX3_bestSize_15 : decode cX3_bestSize 15 = .ok (.aload_n 2, 1) := by decide +kernel
theorem dX3_bestSize_16 : decode cX3_bestSize 16 = .ok (.getfield 128, 3) := by decide +kernel
theorem dX3_bestSize_19 : decode cX3_bestSize 19 = .ok (.iconst (-1), 1) := by decide +kernel
theorem dX3_bestSize_20 : decode cX3_bestSize 20 = .ok (.if_icmp .ne 6, 3) := by decide +kernel
theorem dX3_bestSize_23 : decode cX3_bestSize 23 = .ok (.bipush (-4), 2) := by decide +kernel
theorem dX3_bestSize_25 : decode cX3_bestSize 25 = .ok (.ireturn, 1) := by decide +kernel
theorem dX3_bestSize_26 : decode cX3_bestSize 26 = .ok (.iconst 1, 1) := by decide +kernel
theorem dX3_bestSize_27 : decode cX3_bestSize 27 = .ok (.istore_n 3, 1) := by decide +kernel
theorem dX3_bestSize_28 : decode cX3_bestSize 28 = .ok (.iload_n 3, 1) := by decide +kernel
theorem dX3_bestSize_29 : decode cX3_bestSize 29 = .ok (.bipush 99, 2) := by decide +kernel
theorem dX3_bestSize_31 : decode cX3_bestSize 31 = .ok (.if_icmp .gt 59, 3) := by decide +kernel
theorem dX3_bestSize_34 : decode cX3_bestSize 34 = .ok (.aload_n 0, 1) := by decide +kernel
theorem dX3_bestSize_35 : decode cX3_bestSize 35 = .ok (.getfield 16, 3) := by decide +kernel
theorem dX3_bestSize_38 : decode cX3_bestSize 38 = .ok (.aload_n 0, 1) := by decide +kernel
theorem dX3_bestSize_39 : decode cX3_bestSize 39 = .ok (.getfield 10, 3) := by decide +kernel
theorem dX3_bestSize_42 : decode cX3_bestSize 42 = .ok (.invokevirtual 50, 3) := by decide +kernel
theorem dX3_bestSize_45 : decode cX3_bestSize 45 = .ok (.aload_n 0, 1) := by decide +kernel
theorem dX3_bestSize_46 : decode cX3_bestSize 46 = .ok (.getfield 16, 3) := by decide +kernel
theorem dX3_bestSize_49 : decode cX3_bestSize 49 = .ok (.iload_n 1, 1) := by decide +kernel
theorem dX3_bestSize_50 : decode cX3_bestSize 50 = .ok (.iconst 0, 1) := by decide +kernel
theorem dX3_bestSize_51 : decode cX3_bestSize 51 = .ok (.iload_n 3, 1) := by decide +kernel
theorem dX3_bestSize_52 : decode cX3_bestSize 52 = .ok (.invokevirtual 54, 3) := by decide +kernel
theorem dX3_bestSize_55 : decode cX3_bestSize 55 = .ok (.pop, 1) := by decide +kernel
theorem dX3_bestSize_56 : decode cX3_bestSize 56 = .ok (.aload_n 0, 1) := by decide +kernel
theorem dX3_bestSize_57 : decode cX3_bestSize 57 = .ok (.iload_n 1, 1) := by decide +kernel
theorem dX3_bestSize_58 : decode cX3_bestSize 58 = .ok (.invokevirtual 140, 3) := by decide +kernel
theorem dX3_bestSize_61 : decode cX3_bestSize 61 = .ok (.istore 4, 2) := by decide +kernel
theorem dX3_bestSize_63 : decode cX3_bestSize 63 = .ok (.iload 4, 2) := by decide +kernel
theorem dX3_bestSize_65 : decode cX3_bestSize 65 = .ok (.aload_n 2, 1) := by decide +kernel
theorem dX3_bestSize_66 : decode cX3_bestSize 66 = .ok (.getfield 128, 3) := by decide +kernel
theorem dX3_bestSize_69 : decode cX3_bestSize 69 = .ok (.if_icmp .ne 5, 3) := by decide +kernel
theorem dX3_bestSize_72 : decode cX3_bestSize 72 = .ok (.iload_n 3, 1) := by decide +kernel
theorem dX3_bestSize_73 : decode cX3_bestSize 73 = .ok (.ireturn, 1) := by decide +kernel
theorem dX3_bestSize_74 : decode cX3_bestSize 74 = .ok (.iload 4, 2) := by decide +kernel
theorem dX3_bestSize_76 : decode cX3_bestSize 76 = .ok (.bipush (-5), 2) := by decide +kernel
theorem dX3_bestSize_78 : decode cX3_bestSize 78 = .ok (.if_icmp .ne 6, 3) := by decide +kernel
theorem dX3_bestSize_81 : decode cX3_bestSize 81 = .ok (.bipush (-5), 2) := by decide +kernel
theorem dX3_bestSize_83 : decode cX3_bestSize 83 = .ok (.ireturn, 1) := by decide +kernel
theorem dX3_bestSize_84 : decode cX3_bestSize 84 = .ok (.iinc 3 1, 3) := by decide +kernel
theorem dX3_bestSize_87 : decode cX3_bestSize 87 = .ok (.goto (-59), 3) := by decide +kernel
theorem dX3_bestSize_90 : decode cX3_bestSize 90 = .ok (.bipush (-5), 2) := by decide +kernel
theorem dX3_bestSize_92 : decode cX3_bestSize 92 = .ok (.ireturn, 1) := by decide +kernel
theorem dX3_ifTicks_0 : decode cX3_ifTicks 0 = .ok (.iload_n 1, 1) := by decide +kernel
theorem dX3_ifTicks_1 : decode cX3_ifTicks 1 = .ok (.iconst 1, 1) := by decide +kernel
theorem dX3_ifTicks_2 : decode cX3_ifTicks 2 = .ok (.sipush 500, 3) := by decide +kernel
theorem dX3_ifTicks_5 : decode cX3_ifTicks 5 = .ok (.invokestatic 103, 3) := by decide +kernel
theorem dX3_ifTicks_8 : decode cX3_ifTicks 8 = .ok (.ifCond .eq 12, 3) := by decide +kernel
theorem dX3_ifTicks_11 : decode cX3_ifTicks 11 = .ok (.iload_n 2, 1) := by decide +kernel
theorem dX3_ifTicks_12 : decode cX3_ifTicks 12 = .ok (.iconst 0, 1) := by decide +kernel
theorem dX3_ifTicks_13 : decode cX3_ifTicks 13 = .ok (.iconst 3, 1) := by decide +kernel
theorem dX3_ifTicks_14 : decode cX3_ifTicks 14 = .ok (.invokestatic 103, 3) := by decide +kernel
theorem dX3_ifTicks_17 : decode cX3_ifTicks 17 = .ok (.ifCond .ne 6, 3) := by decide +kernel
theorem dX3_ifTicks_20 : decode cX3_ifTicks 20 = .ok (.bipush (-2), 2) := by decide +kernel
theorem dX3_ifTicks_22 : decode cX3_ifTicks 22 = .ok (.ireturn, 1) := by decide +kernel
theorem dX3_ifTicks_23 : decode cX3_ifTicks 23 = .ok (.aload_n 0, 1) := by decide +kernel
theorem dX3_ifTicks_24 : decode cX3_ifTicks 24 = .ok (.getfield 16, 3) := by decide +kernel
theorem dX3_ifTicks_27 : decode cX3_ifTicks 27 = .ok (.aload_n 0, 1) := by decide +kernel
theorem dX3_ifTicks_28 : decode cX3_ifTicks 28 = .ok (.getfield 10, 3) := by decide +kernel
theorem dX3_ifTicks_31 : decode cX3_ifTicks 31 = .ok (.invokevirtual 50, 3) := by decide +kernel
theorem dX3_ifTicks_34 : decode cX3_ifTicks 34 = .ok (.aload_n 0, 1) := by decide +kernel
theorem dX3_ifTicks_35 : decode cX3_ifTicks 35 = .ok (.getfield 16, 3) := by decide +kernel
theorem dX3_ifTicks_38 : decode cX3_ifTicks 38 = .ok (.iload_n 1, 1) := by decide +kernel
theorem dX3_ifTicks_39 : decode cX3_ifTicks 39 = .ok (.invokevirtual 143, 3) := by decide +kernel
theorem dX3_ifTicks_42 : decode cX3_ifTicks 42 = .ok (.pop, 1) := by decide +kernel
theorem dX3_ifTicks_43 : decode cX3_ifTicks 43 = .ok (.iload_n 2, 1) := by decide +kernel
theorem dX3_ifTicks_44 : decode cX3_ifTicks 44 = .ok (.iconst 3, 1) := by decide +kernel
theorem dX3_ifTicks_45 : decode cX3_ifTicks 45 = .ok (.if_icmp .ne 8, 3) := by decide +kernel
theorem dX3_ifTicks_48 : decode cX3_ifTicks 48 = .ok (.bipush 8, 2) := by decide +kernel
theorem dX3_ifTicks_50 : decode cX3_ifTicks 50 = .ok (.goto 7, 3) := by decide +kernel
theorem dX3_ifTicks_53 : decode cX3_ifTicks 53 = .ok (.bipush 9, 2) := by decide +kernel
theorem dX3_ifTicks_55 : decode cX3_ifTicks 55 = .ok (.iload_n 2, 1) := by decide +kernel
theorem dX3_ifTicks_56 : decode cX3_ifTicks 56 = .ok (.iadd, 1) := by decide +kernel
theorem dX3_ifTicks_57 : decode cX3_ifTicks 57 = .ok (.istore_n 3, 1) := by decide +kernel
theorem dX3_ifTicks_58 : decode cX3_ifTicks 58 = .ok (.aload_n 0, 1) := by decide +kernel
theorem dX3_ifTicks_59 : decode cX3_ifTicks 59 = .ok (.getfield 16, 3) := by decide +kernel
theorem dX3_ifTicks_62 : decode cX3_ifTicks 62 = .ok (.iload_n 3, 1) := by decide +kernel
theorem dX3_ifTicks_63 : decode cX3_ifTicks 63 = .ok (.invokevirtual 150, 3) := by decide +kernel
theorem dX3_ifTicks_66 : decode cX3_ifTicks 66 = .ok (.aload_n 0, 1) := by decide +kernel
theorem dX3_ifTicks_67 : decode cX3_ifTicks 67 = .ok (.getfield 10, 3) := by decide +kernel
theorem dX3_ifTicks_70 : decode cX3_ifTicks 70 = .ok (.iload_n 3, 1) := by decide +kernel
theorem dX3_ifTicks_71 : decode cX3_ifTicks 71 = .ok (.invokevirtual 150, 3) := by decide +kernel
theorem dX3_ifTicks_74 : decode cX3_ifTicks 74 = .ok (.isub, 1) := by decide +kernel
theorem dX3_ifTicks_75 : decode cX3_ifTicks 75 = .ok (.ireturn, 1) := by decide +kernel
theorem dX3_highest_0 : decode cX3_highest 0 = .ok (.bipush (-5), 2) := by decide +kernel
theorem dX3_highest_2 : decode cX3_highest 2 = .ok (.istore_n 1, 1) := by decide +kernel
theorem dX3_highest_3 : decode cX3_highest 3 = .ok (.iconst 0, 1) := by decide +kernel
theorem dX3_highest_4 : decode cX3_highest 4 = .ok (.istore_n 2, 1) := by decide +kernel
theorem dX3_highest_5 : decode cX3_highest 5 = .ok (.iconst 0, 1) := by decide +kernel
theorem dX3_highest_6 : decode cX3_highest 6 = .ok (.istore_n 3, 1) := by decide +kernel
theorem dX3_highest_7 : decode cX3_highest 7 = .ok (.iload_n 3, 1) := by decide +kernel
theorem dX3_highest_8 : decode cX3_highest 8 = .ok (.bipush 8, 2) := by decide +kernel
theorem dX3_highest_10 : decode cX3_highest 10 = .ok (.if_icmp .ge 40, 3) := by decide +kernel
theorem dX3_highest_13 : decode cX3_highest 13 = .ok (.aload_n 0, 1) := by decide +kernel
theorem dX3_highest_14 : decode cX3_highest 14 = .ok (.getfield 10, 3) := by decide +kernel
theorem dX3_highest_17 : decode cX3_highest 17 = .ok (.getfield 146, 3) := by decide +kernel
theorem dX3_highest_20 : decode cX3_highest 20 = .ok (.iload_n 3, 1) := by decide +kernel
theorem dX3_highest_21 : decode cX3_highest 21 = .ok (.aaload, 1) := by decide +kernel
theorem dX3_highest_22 : decode cX3_highest 22 = .ok (.getfield 153, 3) := by decide +kernel
theorem dX3_highest_25 : decode cX3_highest 25 = .ok (.iload_n 2, 1) := by decide +kernel
theorem dX3_highest_26 : decode cX3_highest 26 = .ok (.if_icmp .le 18, 3) := by decide +kernel
theorem dX3_highest_29 : decode cX3_highest 29 = .ok (.iload_n 3, 1) := by decide +kernel
theorem dX3_highest_30 : decode cX3_highest 30 = .ok (.istore_n 1, 1) := by decide +kernel
theorem dX3_highest_31 : decode cX3_highest 31 = .ok (.aload_n 0, 1) := by decide +kernel
theorem dX3_highest_32 : decode cX3_highest 32 = .ok (.getfield 10, 3) := by decide +kernel
theorem dX3_highest_35 : decode cX3_highest 35 = .ok (.getfield 146, 3) := by decide +kernel
theorem dX3_highest_38 : decode cX3_highest 38 = .ok (.iload_n 3, 1) := by decide +kernel
theorem dX3_highest_39 : decode cX3_highest 39 = .ok (.aaload, 1) := by decide +kernel
theorem dX3_highest_40 : decode cX3_highest 40 = .ok (.getfield 153, 3) := by decide +kernel
theorem dX3_highest_43 : decode cX3_highest 43 = .ok (.istore_n 2, 1) := by decide +kernel
theorem dX3_highest_44 : decode cX3_highest 44 = .ok (.iinc 3 1, 3) := by decide +kernel
theorem dX3_highest_47 : decode cX3_highest 47 = .ok (.goto (-40), 3) := by decide +kernel
theorem dX3_highest_50 : decode cX3_highest 50 = .ok (.iload_n 1, 1) := by decide +kernel
theorem dX3_highest_51 : decode cX3_highest 51 = .ok (.ireturn, 1) := by decide +kernel
theorem dX3_count_0 : decode cX3_count 0 = .ok (.iload_n 1, 1) := by decide +kernel
theorem dX3_count_1 : decode cX3_count 1 = .ok (.lookupswitch 40 #[(13, 27), (14, 32)], 27) := by decide +kernel
theorem dX3_count_28 : decode cX3_count 28 = .ok (.aload_n 0, 1) := by decide +kernel
theorem dX3_count_29 : decode cX3_count 29 = .ok (.getfield 36, 3) := by decide +kernel
theorem dX3_count_32 : decode cX3_count 32 = .ok (.ireturn, 1) := by decide +kernel
theorem dX3_count_33 : decode cX3_count 33 = .ok (.aload_n 0, 1) := by decide +kernel
theorem dX3_count_34 : decode cX3_count 34 = .ok (.getfield 32, 3) := by decide +kernel
theorem dX3_count_37 : decode cX3_count 37 = .ok (.getfield 156, 3) := by decide +kernel
theorem dX3_count_40 : decode cX3_count 40 = .ok (.ireturn, 1) := by decide +kernel
theorem dX3_count_41 : decode cX3_count 41 = .ok (.aload_n 0, 1) := by decide +kernel
theorem dX3_count_42 : decode cX3_count 42 = .ok (.getfield 10, 3) := by decide +kernel
theorem dX3_count_45 : decode cX3_count 45 = .ok (.iload_n 1, 1) := by decide +kernel
theorem dX3_count_46 : decode cX3_count 46 = .ok (.invokevirtual 159, 3) := by decide +kernel
theorem dX3_count_49 : decode cX3_count 49 = .ok (.ireturn, 1) := by decide +kernel
theorem dX3_recorded_0 : decode cX3_recorded 0 = .ok (.iload_n 1, 1) := by decide +kernel
theorem dX3_recorded_1 : decode cX3_recorded 1 = .ok (.ifCond .ge 5, 3) := by decide +kernel
theorem dX3_recorded_4 : decode cX3_recorded 4 = .ok (.iload_n 1, 1) := by decide +kernel
theorem dX3_recorded_5 : decode cX3_recorded 5 = .ok (.ireturn, 1) := by decide +kernel
theorem dX3_recorded_6 : decode cX3_recorded 6 = .ok (.aload_n 0, 1) := by decide +kernel
theorem dX3_recorded_7 : decode cX3_recorded 7 = .ok (.getfield 36, 3) := by decide +kernel
theorem dX3_recorded_10 : decode cX3_recorded 10 = .ok (.iconst 4, 1) := by decide +kernel
theorem dX3_recorded_11 : decode cX3_recorded 11 = .ok (.if_icmp .lt 7, 3) := by decide +kernel
theorem dX3_recorded_14 : decode cX3_recorded 14 = .ok (.aload_n 0, 1) := by decide +kernel
theorem dX3_recorded_15 : decode cX3_recorded 15 = .ok (.invokevirtual 160, 3) := by decide +kernel
theorem dX3_recorded_18 : decode cX3_recorded 18 = .ok (.aload_n 0, 1) := by decide +kernel
theorem dX3_recorded_19 : decode cX3_recorded 19 = .ok (.getfield 25, 3) := by decide +kernel
theorem dX3_recorded_22 : decode cX3_recorded 22 = .ok (.aload_n 0, 1) := by decide +kernel
theorem dX3_recorded_23 : decode cX3_recorded 23 = .ok (.getfield 36, 3) := by decide +kernel
theorem dX3_recorded_26 : decode cX3_recorded 26 = .ok (.aaload, 1) := by decide +kernel
theorem dX3_recorded_27 : decode cX3_recorded 27 = .ok (.aload_n 0, 1) := by decide +kernel
theorem dX3_recorded_28 : decode cX3_recorded 28 = .ok (.getfield 19, 3) := by decide +kernel
theorem dX3_recorded_31 : decode cX3_recorded 31 = .ok (.invokevirtual 50, 3) := by decide +kernel
theorem dX3_recorded_34 : decode cX3_recorded 34 = .ok (.aload_n 0, 1) := by decide +kernel
theorem dX3_recorded_35 : decode cX3_recorded 35 = .ok (.dup, 1) := by decide +kernel
theorem dX3_recorded_36 : decode cX3_recorded 36 = .ok (.getfield 36, 3) := by decide +kernel
theorem dX3_recorded_39 : decode cX3_recorded 39 = .ok (.iconst 1, 1) := by decide +kernel
theorem dX3_recorded_40 : decode cX3_recorded 40 = .ok (.iadd, 1) := by decide +kernel
theorem dX3_recorded_41 : decode cX3_recorded 41 = .ok (.putfield 36, 3) := by decide +kernel
theorem dX3_recorded_44 : decode cX3_recorded 44 = .ok (.iload_n 1, 1) := by decide +kernel
theorem dX3_recorded_45 : decode cX3_recorded 45 = .ok (.ireturn, 1) := by decide +kernel
theorem dX3_dropOldest_0 : decode cX3_dropOldest 0 = .ok (.aload_n 0, 1) := by decide +kernel
theorem dX3_dropOldest_1 : decode cX3_dropOldest 1 = .ok (.getfield 25, 3) := by decide +kernel
theorem dX3_dropOldest_4 : decode cX3_dropOldest 4 = .ok (.iconst 0, 1) := by decide +kernel
theorem dX3_dropOldest_5 : decode cX3_dropOldest 5 = .ok (.aaload, 1) := by decide +kernel
theorem dX3_dropOldest_6 : decode cX3_dropOldest 6 = .ok (.astore_n 1, 1) := by decide +kernel
theorem dX3_dropOldest_7 : decode cX3_dropOldest 7 = .ok (.iconst 1, 1) := by decide +kernel
theorem dX3_dropOldest_8 : decode cX3_dropOldest 8 = .ok (.istore_n 2, 1) := by decide +kernel
theorem dX3_dropOldest_9 : decode cX3_dropOldest 9 = .ok (.iload_n 2, 1) := by decide +kernel
theorem dX3_dropOldest_10 : decode cX3_dropOldest 10 = .ok (.iconst 4, 1) := by decide +kernel
theorem dX3_dropOldest_11 : decode cX3_dropOldest 11 = .ok (.if_icmp .ge 23, 3) := by decide +kernel
theorem dX3_dropOldest_14 : decode cX3_dropOldest 14 = .ok (.aload_n 0, 1) := by decide +kernel
theorem dX3_dropOldest_15 : decode cX3_dropOldest 15 = .ok (.getfield 25, 3) := by decide +kernel
theorem dX3_dropOldest_18 : decode cX3_dropOldest 18 = .ok (.iload_n 2, 1) := by decide +kernel
theorem dX3_dropOldest_19 : decode cX3_dropOldest 19 = .ok (.iconst 1, 1) := by decide +kernel
theorem dX3_dropOldest_20 : decode cX3_dropOldest 20 = .ok (.isub, 1) := by decide +kernel
theorem dX3_dropOldest_21 : decode cX3_dropOldest 21 = .ok (.aload_n 0, 1) := by decide +kernel
theorem dX3_dropOldest_22 : decode cX3_dropOldest 22 = .ok (.getfield 25, 3) := by decide +kernel
theorem dX3_dropOldest_25 : decode cX3_dropOldest 25 = .ok (.iload_n 2, 1) := by decide +kernel
theorem dX3_dropOldest_26 : decode cX3_dropOldest 26 = .ok (.aaload, 1) := by decide +kernel
theorem dX3_dropOldest_27 : decode cX3_dropOldest 27 = .ok (.aastore, 1) := by decide +kernel
theorem dX3_dropOldest_28 : decode cX3_dropOldest 28 = .ok (.iinc 2 1, 3) := by decide +kernel
theorem dX3_dropOldest_31 : decode cX3_dropOldest 31 = .ok (.goto (-22), 3) := by decide +kernel
theorem dX3_dropOldest_34 : decode cX3_dropOldest 34 = .ok (.aload_n 0, 1) := by decide +kernel
theorem dX3_dropOldest_35 : decode cX3_dropOldest 35 = .ok (.getfield 25, 3) := by decide +kernel
theorem dX3_dropOldest_38 : decode cX3_dropOldest 38 = .ok (.iconst 3, 1) := by decide +kernel
theorem dX3_dropOldest_39 : decode cX3_dropOldest 39 = .ok (.aload_n 1, 1) := by decide +kernel
theorem dX3_dropOldest_40 : decode cX3_dropOldest 40 = .ok (.aastore, 1) := by decide +kernel
theorem dX3_dropOldest_41 : decode cX3_dropOldest 41 = .ok (.aload_n 0, 1) := by decide +kernel
theorem dX3_dropOldest_42 : decode cX3_dropOldest 42 = .ok (.iconst 3, 1) := by decide +kernel
theorem dX3_dropOldest_43 : decode cX3_dropOldest 43 = .ok (.putfield 36, 3) := by decide +kernel
theorem dX3_dropOldest_46 : decode cX3_dropOldest 46 = .ok (.return_, 1) := by decide +kernel
theorem dX3_ticksTillTip_0 : decode cX3_ticksTillTip 0 = .ok (.aload_n 0, 1) := by decide +kernel
theorem dX3_ticksTillTip_1 : decode cX3_ticksTillTip 1 = .ok (.getfield 16, 3) := by decide +kernel
theorem dX3_ticksTillTip_4 : decode cX3_ticksTillTip 4 = .ok (.iload_n 1, 1) := by decide +kernel
theorem dX3_ticksTillTip_5 : decode cX3_ticksTillTip 5 = .ok (.invokevirtual 110, 3) := by decide +kernel
theorem dX3_ticksTillTip_8 : decode cX3_ticksTillTip 8 = .ok (.astore_n 2, 1) := by decide +kernel
theorem dX3_ticksTillTip_9 : decode cX3_ticksTillTip 9 = .ok (.aload_n 2, 1) := by decide +kernel
theorem dX3_ticksTillTip_10 : decode cX3_ticksTillTip 10 = .ok (.ifnonnull 5, 3) := by decide +kernel
theorem dX3_ticksTillTip_13 : decode cX3_ticksTillTip 13 = .ok (.iconst (-1), 1) := by decide +kernel
theorem dX3_ticksTillTip_14 : decode cX3_ticksTillTip 14 = .ok (.ireturn, 1) := by decide +kernel
theorem dX3_ticksTillTip_15 : decode cX3_ticksTillTip 15 = .ok (.aload_n 2, 1) := by decide +kernel
theorem dX3_ticksTillTip_16 : decode cX3_ticksTillTip 16 = .ok (.getfield 122, 3) := by decide +kernel
theorem dX3_ticksTillTip_19 : decode cX3_ticksTillTip 19 = .ok (.istore_n 3, 1) := by decide +kernel
theorem dX3_ticksTillTip_20 : decode cX3_ticksTillTip 20 = .ok (.iconst 1, 1) := by decide +kernel
theorem dX3_ticksTillTip_21 : decode cX3_ticksTillTip 21 = .ok (.istore 4, 2) := by decide +kernel
theorem dX3_ticksTillTip_23 : decode cX3_ticksTillTip 23 = .ok (.iload 4, 2) := by decide +kernel
theorem dX3_ticksTillTip_25 : decode cX3_ticksTillTip 25 = .ok (.sipush 500, 3) := by decide +kernel
theorem dX3_ticksTillTip_28 : decode cX3_ticksTillTip 28 = .ok (.if_icmp .gt 28, 3) := by decide +kernel
theorem dX3_ticksTillTip_31 : decode cX3_ticksTillTip 31 = .ok (.aload_n 0, 1) := by decide +kernel
theorem dX3_ticksTillTip_32 : decode cX3_ticksTillTip 32 = .ok (.getfield 16, 3) := by decide +kernel
theorem dX3_ticksTillTip_35 : decode cX3_ticksTillTip 35 = .ok (.invokevirtual 119, 3) := by decide +kernel
theorem dX3_ticksTillTip_38 : decode cX3_ticksTillTip 38 = .ok (.pop, 1) := by decide +kernel
theorem dX3_ticksTillTip_39 : decode cX3_ticksTillTip 39 = .ok (.aload_n 2, 1) := by decide +kernel
theorem dX3_ticksTillTip_40 : decode cX3_ticksTillTip 40 = .ok (.getfield 122, 3) := by decide +kernel
theorem dX3_ticksTillTip_43 : decode cX3_ticksTillTip 43 = .ok (.iload_n 3, 1) := by decide +kernel
theorem dX3_ticksTillTip_44 : decode cX3_ticksTillTip 44 = .ok (.if_icmp .le 6, 3) := by decide +kernel
theorem dX3_ticksTillTip_47 : decode cX3_ticksTillTip 47 = .ok (.iload 4, 2) := by decide +kernel
theorem dX3_ticksTillTip_49 : decode cX3_ticksTillTip 49 = .ok (.ireturn, 1) := by decide +kernel
theorem dX3_ticksTillTip_50 : decode cX3_ticksTillTip 50 = .ok (.iinc 4 1, 3) := by decide +kernel
theorem dX3_ticksTillTip_53 : decode cX3_ticksTillTip 53 = .ok (.goto (-30), 3) := by decide +kernel
theorem dX3_ticksTillTip_56 : decode cX3_ticksTillTip 56 = .ok (.bipush (-5), 2) := by decide +kernel
theorem dX3_ticksTillTip_58 : decode cX3_ticksTillTip 58 = .ok (.ireturn, 1) := by decide +kernel
theorem dX3_hourOfTip_0 : decode cX3_hourOfTip 0 = .ok (.aload_n 0, 1) := by decide +kernel
theorem dX3_hourOfTip_1 : decode cX3_hourOfTip 1 = .ok (.iload_n 1, 1) := by decide +kernel
theorem dX3_hourOfTip_2 : decode cX3_hourOfTip 2 = .ok (.invokevirtual 137, 3) := by decide +kernel
theorem dX3_hourOfTip_5 : decode cX3_hourOfTip 5 = .ok (.istore_n 2, 1) := by decide +kernel
theorem dX3_hourOfTip_6 : decode cX3_hourOfTip 6 = .ok (.iload_n 2, 1) := by decide +kernel
theorem dX3_hourOfTip_7 : decode cX3_hourOfTip 7 = .ok (.ifCond .ge 7, 3) := by decide +kernel
theorem dX3_hourOfTip_10 : decode cX3_hourOfTip 10 = .ok (.iload_n 2, 1) := by decide +kernel
theorem dX3_hourOfTip_11 : decode cX3_hourOfTip 11 = .ok (.goto 19, 3) := by decide +kernel
theorem dX3_hourOfTip_14 : decode cX3_hourOfTip 14 = .ok (.aload_n 0, 1) := by decide +kernel
theorem dX3_hourOfTip_15 : decode cX3_hourOfTip 15 = .ok (.getfield 16, 3) := by decide +kernel
theorem dX3_hourOfTip_18 : decode cX3_hourOfTip 18 = .ok (.aload_n 0, 1) := by decide +kernel
theorem dX3_hourOfTip_19 : decode cX3_hourOfTip 19 = .ok (.getfield 16, 3) := by decide +kernel
theorem dX3_hourOfTip_22 : decode cX3_hourOfTip 22 = .ok (.getfield 107, 3) := by decide +kernel
theorem dX3_hourOfTip_25 : decode cX3_hourOfTip 25 = .ok (.iconst 1, 1) := by decide +kernel
theorem dX3_hourOfTip_26 : decode cX3_hourOfTip 26 = .ok (.isub, 1) := by decide +kernel
theorem dX3_hourOfTip_27 : decode cX3_hourOfTip 27 = .ok (.invokevirtual 131, 3) := by decide +kernel
theorem dX3_hourOfTip_30 : decode cX3_hourOfTip 30 = .ok (.ireturn, 1) := by decide +kernel
theorem dX3_isWithin_0 : decode cX3_isWithin 0 = .ok (.iload_n 0, 1) := by decide +kernel
theorem dX3_isWithin_1 : decode cX3_isWithin 1 = .ok (.iload_n 1, 1) := by decide +kernel
theorem dX3_isWithin_2 : decode cX3_isWithin 2 = .ok (.if_icmp .lt 12, 3) := by decide +kernel
theorem dX3_isWithin_5 : decode cX3_isWithin 5 = .ok (.iload_n 0, 1) := by decide +kernel
theorem dX3_isWithin_6 : decode cX3_isWithin 6 = .ok (.iload_n 2, 1) := by decide +kernel
theorem dX3_isWithin_7 : decode cX3_isWithin 7 = .ok (.if_icmp .gt 7, 3) := by decide +kernel
theorem dX3_isWithin_10 : decode cX3_isWithin 10 = .ok (.iconst 1, 1) := by decide +kernel
theorem dX3_isWithin_11 : decode cX3_isWithin 11 = .ok (.goto 4, 3) := by decide +kernel
theorem dX3_isWithin_14 : decode cX3_isWithin 14 = .ok (.iconst 0, 1) := by decide +kernel
theorem dX3_isWithin_15 : decode cX3_isWithin 15 = .ok (.ireturn, 1) := by decide +kernel
theorem dX3_isError_0 : decode cX3_isError 0 = .ok (.iload_n 0, 1) := by decide +kernel
theorem dX3_isError_1 : decode cX3_isError 1 = .ok (.ifCond .ge 13, 3) := by decide +kernel
theorem dX3_isError_4 : decode cX3_isError 4 = .ok (.iload_n 0, 1) := by decide +kernel
theorem dX3_isError_5 : decode cX3_isError 5 = .ok (.bipush (-5), 2) := by decide +kernel
theorem dX3_isError_7 : decode cX3_isError 7 = .ok (.if_icmp .eq 7, 3) := by decide +kernel
theorem dX3_isError_10 : decode cX3_isError 10 = .ok (.iconst 1, 1) := by decide +kernel
theorem dX3_isError_11 : decode cX3_isError 11 = .ok (.goto 4, 3) := by decide +kernel
theorem dX3_isError_14 : decode cX3_isError 14 = .ok (.iconst 0, 1) := by decide +kernel
theorem dX3_isError_15 : decode cX3_isError 15 = .ok (.ireturn, 1) := by decide +kernel
theorem dX3_asNumber_0 : decode cX3_asNumber 0 = .ok (.iload_n 0, 1) := by decide +kernel
theorem dX3_asNumber_1 : decode cX3_asNumber 1 = .ok (.ifCond .eq 7, 3) := by decide +kernel
theorem dX3_asNumber_4 : decode cX3_asNumber 4 = .ok (.iconst 1, 1) := by decide +kernel
theorem dX3_asNumber_5 : decode cX3_asNumber 5 = .ok (.goto 4, 3) := by decide +kernel
theorem dX3_asNumber_8 : decode cX3_asNumber 8 = .ok (.iconst 0, 1) := by decide +kernel
theorem dX3_asNumber_9 : decode cX3_asNumber 9 = .ok (.ireturn, 1) := by decide +kernel
end
section
theorem dX4_init_0 : decode cX4_init 0 = .ok (.aload_n 0, 1) := by decide +kernel
theorem dX4_init_1 : decode cX4_init 1 = .ok (.invokespecial 1, 3) := by decide +kernel
theorem dX4_init_4 : decode cX4_init 4 = .ok (.aload_n 0, 1) := by decide +kernel
theorem dX4_init_5 : decode cX4_init 5 = .ok (.bipush 104, 2) := by decide +kernel
theorem dX4_init_7 : decode cX4_init 7 = .ok (.newarray .int, 2) := by decide +kernel
theorem dX4_init_9 : decode cX4_init 9 = .ok (.putfield 7, 3) := by decide +kernel
theorem dX4_init_12 : decode cX4_init 12 = .ok (.aload_n 0, 1) := by decide +kernel
theorem dX4_init_13 : decode cX4_init 13 = .ok (.sipush 416, 3) := by decide +kernel
theorem dX4_init_16 : decode cX4_init 16 = .ok (.newarray .int, 2) := by decide +kernel
theorem dX4_init_18 : decode cX4_init 18 = .ok (.putfield 13, 3) := by decide +kernel
theorem dX4_init_21 : decode cX4_init 21 = .ok (.aload_n 0, 1) := by decide +kernel
theorem dX4_init_22 : decode cX4_init 22 = .ok (.bipush 104, 2) := by decide +kernel
theorem dX4_init_24 : decode cX4_init 24 = .ok (.newarray .int, 2) := by decide +kernel
theorem dX4_init_26 : decode cX4_init 26 = .ok (.putfield 16, 3) := by decide +kernel
theorem dX4_init_29 : decode cX4_init 29 = .ok (.aload_n 0, 1) := by decide +kernel
theorem dX4_init_30 : decode cX4_init 30 = .ok (.bipush 104, 2) := by decide +kernel
theorem dX4_init_32 : decode cX4_init 32 = .ok (.newarray .int, 2) := by decide +kernel
theorem dX4_init_34 : decode cX4_init 34 = .ok (.putfield 19, 3) := by decide +kernel
theorem dX4_init_37 : decode cX4_init 37 = .ok (.aload_n 0, 1) := by decide +kernel
theorem dX4_init_38 : decode cX4_init 38 = .ok (.bipush 60, 2) := by decide +kernel
theorem dX4_init_40 : decode cX4_init 40 = .ok (.newarray .char, 2) := by decide +kernel
theorem dX4_init_42 : decode cX4_init 42 = .ok (.putfield 22, 3) := by decide +kernel
theorem dX4_init_45 : decode cX4_init 45 = .ok (.aload_n 0, 1) := by decide +kernel
theorem dX4_init_46 : decode cX4_init 46 = .ok (.bipush (-5), 2) := by decide +kernel
theorem dX4_init_48 : decode cX4_init 48 = .ok (.putfield 26, 3) := by decide +kernel
theorem dX4_init_51 : decode cX4_init 51 = .ok (.aload_n 0, 1) := by decide +kernel
theorem dX4_init_52 : decode cX4_init 52 = .ok (.bipush 8, 2) := by decide +kernel
theorem dX4_init_54 : decode cX4_init 54 = .ok (.newarray .boolean, 2) := by decide +kernel
theorem dX4_init_56 : decode cX4_init 56 = .ok (.putfield 30, 3) := by decide +kernel
theorem dX4_init_59 : decode cX4_init 59 = .ok (.aload_n 0, 1) := by decide +kernel
theorem dX4_init_60 : decode cX4_init 60 = .ok (.getfield 7, 3) := by decide +kernel
theorem dX4_init_63 : decode cX4_init 63 = .ok (.iconst 5, 1) := by decide +kernel
theorem dX4_init_64 : decode cX4_init 64 = .ok (.iconst 3, 1) := by decide +kernel
theorem dX4_init_65 : decode cX4_init 65 = .ok (.iastore, 1) := by decide +kernel
theorem dX4_init_66 : decode cX4_init 66 = .ok (.aload_n 0, 1) := by decide +kernel
theorem dX4_init_67 : decode cX4_init 67 = .ok (.getfield 7, 3) := by decide +kernel
theorem dX4_init_70 : decode cX4_init 70 = .ok (.bipush 7, 2) := by decide +kernel
theorem dX4_init_72 : decode cX4_init 72 = .ok (.bipush 24, 2) := by decide +kernel
theorem dX4_init_74 : decode cX4_init 74 = .ok (.iastore, 1) := by decide +kernel
theorem dX4_init_75 : decode cX4_init 75 = .ok (.iconst 0, 1) := by decide +kernel
theorem dX4_init_76 : decode cX4_init 76 = .ok (.istore_n 1, 1) := by decide +kernel
theorem dX4_init_77 : decode cX4_init 77 = .ok (.iload_n 1, 1) := by decide +kernel
theorem dX4_init_78 : decode cX4_init 78 = .ok (.bipush 8, 2) := by decide +kernel
theorem dX4_init_80 : decode cX4_init 80 = .ok (.if_icmp .ge 40, 3) := by decide +kernel
theorem dX4_init_83 : decode cX4_init 83 = .ok (.aload_n 0, 1) := by decide +kernel
theorem dX4_init_84 : decode cX4_init 84 = .ok (.iload_n 1, 1) := by decide +kernel
theorem dX4_init_85 : decode cX4_init 85 = .ok (.iconst 0, 1) := by decide +kernel
theorem dX4_init_86 : decode cX4_init 86 = .ok (.bipush 10, 2) := by decide +kernel
theorem dX4_init_88 : decode cX4_init 88 = .ok (.invokevirtual 34, 3) := by decide +kernel
theorem dX4_init_91 : decode cX4_init 91 = .ok (.aload_n 0, 1) := by decide +kernel
theorem dX4_init_92 : decode cX4_init 92 = .ok (.iload_n 1, 1) := by decide +kernel
theorem dX4_init_93 : decode cX4_init 93 = .ok (.iconst 2, 1) := by decide +kernel
theorem dX4_init_94 : decode cX4_init 94 = .ok (.iload_n 1, 1) := by decide +kernel
theorem dX4_init_95 : decode cX4_init 95 = .ok (.iconst 1, 1) := by decide +kernel
theorem dX4_init_96 : decode cX4_init 96 = .ok (.iadd, 1) := by decide +kernel
theorem dX4_init_97 : decode cX4_init 97 = .ok (.invokevirtual 34, 3) := by decide +kernel
theorem dX4_init_100 : decode cX4_init 100 = .ok (.aload_n 0, 1) := by decide +kernel
theorem dX4_init_101 : decode cX4_init 101 = .ok (.iload_n 1, 1) := by decide +kernel
theorem dX4_init_102 : decode cX4_init 102 = .ok (.iconst 4, 1) := by decide +kernel
theorem dX4_init_103 : decode cX4_init 103 = .ok (.iconst (-1), 1) := by decide +kernel
theorem dX4_init_104 : decode cX4_init 104 = .ok (.invokevirtual 34, 3) := by decide +kernel
theorem dX4_init_107 : decode cX4_init 107 = .ok (.aload_n 0, 1) := by decide +kernel
theorem dX4_init_108 : decode cX4_init 108 = .ok (.iload_n 1, 1) := by decide +kernel
theorem dX4_init_109 : decode cX4_init 109 = .ok (.iconst 5, 1) := by decide +kernel
theorem dX4_init_110 : decode cX4_init 110 = .ok (.iconst 1, 1) := by decide +kernel
theorem dX4_init_111 : decode cX4_init 111 = .ok (.invokevirtual 34, 3) := by decide +kernel
theorem dX4_init_114 : decode cX4_init 114 = .ok (.iinc 1 1, 3) := by decide +kernel
theorem dX4_init_117 : decode cX4_init 117 = .ok (.goto (-40), 3) := by decide +kernel
theorem dX4_init_120 : decode cX4_init 120 = .ok (.return_, 1) := by decide +kernel
theorem dX4_in_0 : decode cX4_in 0 = .ok (.iload_n 0, 1) := by decide +kernel
theorem dX4_in_1 : decode cX4_in 1 = .ok (.iload_n 1, 1) := by decide +kernel
theorem dX4_in_2 : decode cX4_in 2 = .ok (.if_icmp .lt 12, 3) := by decide +kernel
theorem dX4_in_5 : decode cX4_in 5 = .ok (.iload_n 0, 1) := by decide +kernel
theorem dX4_in_6 : decode cX4_in 6 = .ok (.iload_n 2, 1) := by decide +kernel
theorem dX4_in_7 : decode cX4_in 7 = .ok (.if_icmp .gt 7, 3) := by decide +kernel
theorem dX4_in_10 : decode cX4_in 10 = .ok (.iconst 1, 1) := by decide +kernel
theorem dX4_in_11 : decode cX4_in 11 = .ok (.goto 4, 3) := by decide +kernel
theorem dX4_in_14 : decode cX4_in 14 = .ok (.iconst 0, 1) := by decide +kernel
theorem dX4_in_15 : decode cX4_in 15 = .ok (.ireturn, 1) := by decide +kernel
theorem dX4_isCup_0 : decode cX4_isCup 0 = .ok (.iload_n 0, 1) := by decide +kernel
theorem dX4_isCup_1 : decode cX4_isCup 1 = .ok (.iconst 0, 1) := by decide +kernel
theorem dX4_isCup_2 : decode cX4_isCup 2 = .ok (.bipush 7, 2) := by decide +kernel
theorem dX4_isCup_4 : decode cX4_isCup 4 = .ok (.invokestatic 38, 3) := by decide +kernel
theorem dX4_isCup_7 : decode cX4_isCup 7 = .ok (.ireturn, 1) := by decide +kernel
theorem dX4_of_0 : decode cX4_of 0 = .ok (.aload_n 0, 1) := by decide +kernel
theorem dX4_of_1 : decode cX4_of 1 = .ok (.getfield 7, 3) := by decide +kernel
theorem dX4_of_4 : decode cX4_of 4 = .ok (.bipush 8, 2) := by decide +kernel
theorem dX4_of_6 : decode cX4_of 6 = .ok (.bipush 12, 2) := by decide +kernel
theorem dX4_of_8 : decode cX4_of 8 = .ok (.iload_n 1, 1) := by decide +kernel
theorem dX4_of_9 : decode cX4_of 9 = .ok (.imul, 1) := by decide +kernel
theorem dX4_of_10 : decode cX4_of 10 = .ok (.iadd, 1) := by decide +kernel
theorem dX4_of_11 : decode cX4_of 11 = .ok (.iload_n 2, 1) := by decide +kernel
theorem dX4_of_12 : decode cX4_of 12 = .ok (.iadd, 1) := by decide +kernel
theorem dX4_of_13 : decode cX4_of 13 = .ok (.iaload, 1) := by decide +kernel
theorem dX4_of_14 : decode cX4_of 14 = .ok (.ireturn, 1) := by decide +kernel
theorem dX4_lay_0 : decode cX4_lay 0 = .ok (.aload_n 0, 1) := by decide +kernel
theorem dX4_lay_1 : decode cX4_lay 1 = .ok (.getfield 7, 3) := by decide +kernel
theorem dX4_lay_4 : decode cX4_lay 4 = .ok (.bipush 8, 2) := by decide +kernel
theorem dX4_lay_6 : decode cX4_lay 6 = .ok (.bipush 12, 2) := by decide +kernel
theorem dX4_lay_8 : decode cX4_lay 8 = .ok (.iload_n 1, 1) := by decide +kernel
theorem dX4_lay_9 : decode cX4_lay 9 = .ok (.imul, 1) := by decide +kernel
theorem dX4_lay_10 : decode cX4_lay 10 = .ok (.iadd, 1) := by decide +kernel
theorem dX4_lay_11 : decode cX4_lay 11 = .ok (.iload_n 2, 1) := by decide +kernel
theorem dX4_lay_12 : decode cX4_lay 12 = .ok (.iadd, 1) := by decide +kernel
theorem dX4_lay_13 : decode cX4_lay 13 = .ok (.iload_n 3, 1) := by decide +kernel
theorem dX4_lay_14 : decode cX4_lay 14 = .ok (.iastore, 1) := by decide +kernel
theorem dX4_lay_15 : decode cX4_lay 15 = .ok (.return_, 1) := by decide +kernel
theorem dX4_copy_0 : decode cX4_copy 0 = .ok (.iconst 0, 1) := by decide +kernel
theorem dX4_copy_1 : decode cX4_copy 1 = .ok (.istore 4, 2) := by decide +kernel
theorem dX4_copy_3 : decode cX4_copy 3 = .ok (.iload 4, 2) := by decide +kernel
theorem dX4_copy_5 : decode cX4_copy 5 = .ok (.bipush 104, 2) := by decide +kernel
theorem dX4_copy_7 : decode cX4_copy 7 = .ok (.if_icmp .ge 21, 3) := by decide +kernel
theorem dX4_copy_10 : decode cX4_copy 10 = .ok (.aload_n 2, 1) := by decide +kernel
theorem dX4_copy_11 : decode cX4_copy 11 = .ok (.iload_n 3, 1) := by decide +kernel
theorem dX4_copy_12 : decode cX4_copy 12 = .ok (.iload 4, 2) := by decide +kernel
theorem dX4_copy_14 : decode cX4_copy 14 = .ok (.iadd, 1) := by decide +kernel
theorem dX4_copy_15 : decode cX4_copy 15 = .ok (.aload_n 0, 1) := by decide +kernel
theorem dX4_copy_16 : decode cX4_copy 16 = .ok (.iload_n 1, 1) := by decide +kernel
theorem dX4_copy_17 : decode cX4_copy 17 = .ok (.iload 4, 2) := by decide +kernel
theorem dX4_copy_19 : decode cX4_copy 19 = .ok (.iadd, 1) := by decide +kernel
theorem dX4_copy_20 : decode cX4_copy 20 = .ok (.iaload, 1) := by decide +kernel
theorem dX4_copy_21 : decode cX4_copy 21 = .ok (.iastore, 1) := by decide +kernel
theorem dX4_copy_22 : decode cX4_copy 22 = .ok (.iinc 4 1, 3) := by decide +kernel
theorem dX4_copy_25 : decode cX4_copy 25 = .ok (.goto (-22), 3) := by decide +kernel
theorem dX4_copy_28 : decode cX4_copy 28 = .ok (.return_, 1) := by decide +kernel
theorem dX4_recordFrom_0 : decode cX4_recordFrom 0 = .ok (.aload_n 0, 1) := by decide +kernel
theorem dX4_recordFrom_1 : decode cX4_recordFrom 1 = .ok (.getfield 42, 3) := by decide +kernel
theorem dX4_recordFrom_4 : decode cX4_recordFrom 4 = .ok (.iconst 4, 1) := by decide +kernel
theorem dX4_recordFrom_5 : decode cX4_recordFrom 5 = .ok (.if_icmp .ne 43, 3) := by decide +kernel
theorem dX4_recordFrom_8 : decode cX4_recordFrom 8 = .ok (.iconst 0, 1) := by decide +kernel
theorem dX4_recordFrom_9 : decode cX4_recordFrom 9 = .ok (.istore_n 2, 1) := by decide +kernel
theorem dX4_recordFrom_10 : decode cX4_recordFrom 10 = .ok (.iload_n 2, 1) := by decide +kernel
theorem dX4_recordFrom_11 : decode cX4_recordFrom 11 = .ok (.sipush 312, 3) := by decide +kernel
theorem dX4_recordFrom_14 : decode cX4_recordFrom 14 = .ok (.if_icmp .ge 24, 3) := by decide +kernel
theorem dX4_recordFrom_17 : decode cX4_recordFrom 17 = .ok (.aload_n 0, 1) := by decide +kernel
theorem dX4_recordFrom_18 : decode cX4_recordFrom 18 = .ok (.getfield 13, 3) := by decide +kernel
theorem dX4_recordFrom_21 : decode cX4_recordFrom 21 = .ok (.iload_n 2, 1) := by decide +kernel
theorem dX4_recordFrom_22 : decode cX4_recordFrom 22 = .ok (.aload_n 0, 1) := by decide +kernel
theorem dX4_recordFrom_23 : decode cX4_recordFrom 23 = .ok (.getfield 13, 3) := by decide +kernel
theorem dX4_recordFrom_26 : decode cX4_recordFrom 26 = .ok (.bipush 104, 2) := by decide +kernel
theorem dX4_recordFrom_28 : decode cX4_recordFrom 28 = .ok (.iload_n 2, 1) := by decide +kernel
theorem dX4_recordFrom_29 : decode cX4_recordFrom 29 = .ok (.iadd, 1) := by decide +kernel
theorem dX4_recordFrom_30 : decode cX4_recordFrom 30 = .ok (.iaload, 1) := by decide +kernel
theorem dX4_recordFrom_31 : decode cX4_recordFrom 31 = .ok (.iastore, 1) := by decide +kernel
theorem dX4_recordFrom_32 : decode cX4_recordFrom 32 = .ok (.iinc 2 1, 3) := by decide +kernel
theorem dX4_recordFrom_35 : decode cX4_recordFrom 35 = .ok (.goto (-25), 3) := by decide +kernel
theorem dX4_recordFrom_38 : decode cX4_recordFrom 38 = .ok (.aload_n 0, 1) := by decide +kernel
theorem dX4_recordFrom_39 : decode cX4_recordFrom 39 = .ok (.dup, 1) := by decide +kernel
theorem dX4_recordFrom_40 : decode cX4_recordFrom 40 = .ok (.getfield 42, 3) := by decide +kernel
theorem dX4_recordFrom_43 : decode cX4_recordFrom 43 = .ok (.iconst 1, 1) := by decide +kernel
theorem dX4_recordFrom_44 : decode cX4_recordFrom 44 = .ok (.isub, 1) := by decide +kernel
theorem dX4_recordFrom_45 : decode cX4_recordFrom 45 = .ok (.putfield 42, 3) := by decide +kernel
theorem dX4_recordFrom_48 : decode cX4_recordFrom 48 = .ok (.aload_n 1, 1) := by decide +kernel
theorem dX4_recordFrom_49 : decode cX4_recordFrom 49 = .ok (.iconst 0, 1) := by decide +kernel
theorem dX4_recordFrom_50 : decode cX4_recordFrom 50 = .ok (.aload_n 0, 1) := by decide +kernel
theorem dX4_recordFrom_51 : decode cX4_recordFrom 51 = .ok (.getfield 13, 3) := by decide +kernel
theorem dX4_recordFrom_54 : decode cX4_recordFrom 54 = .ok (.bipush 104, 2) := by decide +kernel
theorem dX4_recordFrom_56 : decode cX4_recordFrom 56 = .ok (.aload_n 0, 1) := by decide +kernel
theorem dX4_recordFrom_57 : decode cX4_recordFrom 57 = .ok (.getfield 42, 3) := by decide +kernel
theorem dX4_recordFrom_60 : decode cX4_recordFrom 60 = .ok (.imul, 1) := by decide +kernel
theorem dX4_recordFrom_61 : decode cX4_recordFrom 61 = .ok (.invokestatic 45, 3) := by decide +kernel
theorem dX4_recordFrom_64 : decode cX4_recordFrom 64 = .ok (.aload_n 0, 1) := by decide +kernel
theorem dX4_recordFrom_65 : decode cX4_recordFrom 65 = .ok (.dup, 1) := by decide +kernel
theorem dX4_recordFrom_66 : decode cX4_recordFrom 66 = .ok (.getfield 42, 3) := by decide +kernel
theorem dX4_recordFrom_69 : decode cX4_recordFrom 69 = .ok (.iconst 1, 1) := by decide +kernel
theorem dX4_recordFrom_70 : decode cX4_recordFrom 70 = .ok (.iadd, 1) := by decide +kernel
theorem dX4_recordFrom_71 : decode cX4_recordFrom 71 = .ok (.putfield 42, 3) := by decide +kernel
theorem dX4_recordFrom_74 : decode cX4_recordFrom 74 = .ok (.return_, 1) := by decide +kernel
theorem dX4_hourOf_0 : decode cX4_hourOf 0 = .ok (.iload_n 1, 1) := by decide +kernel
theorem dX4_hourOf_1 : decode cX4_hourOf 1 = .ok (.aload_n 0, 1) := by decide +kernel
theorem dX4_hourOf_2 : decode cX4_hourOf 2 = .ok (.getfield 7, 3) := by decide +kernel
theorem dX4_hourOf_5 : decode cX4_hourOf 5 = .ok (.bipush 7, 2) := by decide +kernel
theorem dX4_hourOf_7 : decode cX4_hourOf 7 = .ok (.iaload, 1) := by decide +kernel
theorem dX4_hourOf_8 : decode cX4_hourOf 8 = .ok (.irem, 1) := by decide +kernel
theorem dX4_hourOf_9 : decode cX4_hourOf 9 = .ok (.ireturn, 1) := by decide +kernel
theorem dX4_isFull_0 : decode cX4_isFull 0 = .ok (.aload_n 0, 1) := by decide +kernel
theorem dX4_isFull_1 : decode cX4_isFull 1 = .ok (.iload_n 1, 1) := by decide +kernel
theorem dX4_isFull_2 : decode cX4_isFull 2 = .ok (.iconst 3, 1) := by decide +kernel
theorem dX4_isFull_3 : decode cX4_isFull 3 = .ok (.invokevirtual 49, 3) := by decide +kernel
theorem dX4_isFull_6 : decode cX4_isFull 6 = .ok (.aload_n 0, 1) := by decide +kernel
theorem dX4_isFull_7 : decode cX4_isFull 7 = .ok (.iload_n 1, 1) := by decide +kernel
theorem dX4_isFull_8 : decode cX4_isFull 8 = .ok (.iconst 0, 1) := by decide +kernel
theorem dX4_isFull_9 : decode cX4_isFull 9 = .ok (.invokevirtual 49, 3) := by decide +kernel
theorem dX4_isFull_12 : decode cX4_isFull 12 = .ok (.if_icmp .lt 7, 3) := by decide +kernel
theorem dX4_isFull_15 : decode cX4_isFull 15 = .ok (.iconst 1, 1) := by decide +kernel
theorem dX4_isFull_16 : decode cX4_isFull 16 = .ok (.goto 4, 3) := by decide +kernel
theorem dX4_isFull_19 : decode cX4_isFull 19 = .ok (.iconst 0, 1) := by decide +kernel
theorem dX4_isFull_20 : decode cX4_isFull 20 = .ok (.ireturn, 1) := by decide +kernel
theorem dX4_pour_0 : decode cX4_pour 0 = .ok (.iload_n 1, 1) := by decide +kernel
theorem dX4_pour_1 : decode cX4_pour 1 = .ok (.bipush 8, 2) := by decide +kernel
theorem dX4_pour_3 : decode cX4_pour 3 = .ok (.if_icmp .ne 16, 3) := by decide +kernel
theorem dX4_pour_6 : decode cX4_pour 6 = .ok (.aload_n 0, 1) := by decide +kernel
theorem dX4_pour_7 : decode cX4_pour 7 = .ok (.getfield 7, 3) := by decide +kernel
theorem dX4_pour_10 : decode cX4_pour 10 = .ok (.iconst 1, 1) := by decide +kernel
theorem dX4_pour_11 : decode cX4_pour 11 = .ok (.dup2, 1) := by decide +kernel
theorem dX4_pour_12 : decode cX4_pour 12 = .ok (.iaload, 1) := by decide +kernel
theorem dX4_pour_13 : decode cX4_pour 13 = .ok (.iload_n 2, 1) := by decide +kernel
theorem dX4_pour_14 : decode cX4_pour 14 = .ok (.iadd, 1) := by decide +kernel
theorem dX4_pour_15 : decode cX4_pour 15 = .ok (.iastore, 1) := by decide +kernel
theorem dX4_pour_16 : decode cX4_pour 16 = .ok (.goto 17, 3) := by decide +kernel
theorem dX4_pour_19 : decode cX4_pour 19 = .ok (.aload_n 0, 1) := by decide +kernel
theorem dX4_pour_20 : decode cX4_pour 20 = .ok (.iload_n 1, 1) := by decide +kernel
theorem dX4_pour_21 : decode cX4_pour 21 = .ok (.iconst 3, 1) := by decide +kernel
theorem dX4_pour_22 : decode cX4_pour 22 = .ok (.aload_n 0, 1) := by decide +kernel
theorem dX4_pour_23 : decode cX4_pour 23 = .ok (.iload_n 1, 1) := by decide +kernel
theorem dX4_pour_24 : decode cX4_pour 24 = .ok (.iconst 3, 1) := by decide +kernel
theorem dX4_pour_25 : decode cX4_pour 25 = .ok (.invokevirtual 49, 3) := by decide +kernel
theorem dX4_pour_28 : decode cX4_pour 28 = .ok (.iload_n 2, 1) := by decide +kernel
theorem dX4_pour_29 : decode cX4_pour 29 = .ok (.iadd, 1) := by decide +kernel
theorem dX4_pour_30 : decode cX4_pour 30 = .ok (.invokevirtual 34, 3) := by decide +kernel
theorem dX4_pour_33 : decode cX4_pour 33 = .ok (.return_, 1) := by decide +kernel
theorem dX4_countTip_0 : decode cX4_countTip 0 = .ok (.aload_n 0, 1) := by decide +kernel
theorem dX4_countTip_1 : decode cX4_countTip 1 = .ok (.iload_n 1, 1) := by decide +kernel
theorem dX4_countTip_2 : decode cX4_countTip 2 = .ok (.iconst 4, 1) := by decide +kernel
theorem dX4_countTip_3 : decode cX4_countTip 3 = .ok (.invokevirtual 49, 3) := by decide +kernel
theorem dX4_countTip_6 : decode cX4_countTip 6 = .ok (.istore_n 3, 1) := by decide +kernel
theorem dX4_countTip_7 : decode cX4_countTip 7 = .ok (.aload_n 0, 1) := by decide +kernel
theorem dX4_countTip_8 : decode cX4_countTip 8 = .ok (.iload_n 1, 1) := by decide +kernel
theorem dX4_countTip_9 : decode cX4_countTip 9 = .ok (.bipush 8, 2) := by decide +kernel
theorem dX4_countTip_11 : decode cX4_countTip 11 = .ok (.aload_n 0, 1) := by decide +kernel
theorem dX4_countTip_12 : decode cX4_countTip 12 = .ok (.iload_n 1, 1) := by decide +kernel
theorem dX4_countTip_13 : decode cX4_countTip 13 = .ok (.bipush 8, 2) := by decide +kernel
theorem dX4_countTip_15 : decode cX4_countTip 15 = .ok (.invokevirtual 49, 3) := by decide +kernel
theorem dX4_countTip_18 : decode cX4_countTip 18 = .ok (.iconst 1, 1) := by decide +kernel
theorem dX4_countTip_19 : decode cX4_countTip 19 = .ok (.iadd, 1) := by decide +kernel
theorem dX4_countTip_20 : decode cX4_countTip 20 = .ok (.invokevirtual 34, 3) := by decide +kernel
theorem dX4_countTip_23 : decode cX4_countTip 23 = .ok (.iload_n 3, 1) := by decide +kernel
theorem dX4_countTip_24 : decode cX4_countTip 24 = .ok (.iconst (-1), 1) := by decide +kernel
theorem dX4_countTip_25 : decode cX4_countTip 25 = .ok (.if_icmp .eq 43, 3) := by decide +kernel
theorem dX4_countTip_28 : decode cX4_countTip 28 = .ok (.iload_n 2, 1) := by decide +kernel
theorem dX4_countTip_29 : decode cX4_countTip 29 = .ok (.iload_n 3, 1) := by decide +kernel
theorem dX4_countTip_30 : decode cX4_countTip 30 = .ok (.if_icmp .ne 8, 3) := by decide +kernel
theorem dX4_countTip_33 : decode cX4_countTip 33 = .ok (.bipush 9, 2) := by decide +kernel
theorem dX4_countTip_35 : decode cX4_countTip 35 = .ok (.goto 15, 3) := by decide +kernel
theorem dX4_countTip_38 : decode cX4_countTip 38 = .ok (.iload_n 2, 1) := by decide +kernel
theorem dX4_countTip_39 : decode cX4_countTip 39 = .ok (.iload_n 3, 1) := by decide +kernel
theorem dX4_countTip_40 : decode cX4_countTip 40 = .ok (.if_icmp .ge 8, 3) := by decide +kernel
theorem dX4_countTip_43 : decode cX4_countTip 43 = .ok (.bipush 10, 2) := by decide +kernel
theorem dX4_countTip_45 : decode cX4_countTip 45 = .ok (.goto 5, 3) := by decide +kernel
theorem dX4_countTip_48 : decode cX4_countTip 48 = .ok (.bipush 11, 2) := by decide +kernel
theorem dX4_countTip_50 : decode cX4_countTip 50 = .ok (.istore 4, 2) := by decide +kernel
theorem dX4_countTip_52 : decode cX4_countTip 52 = .ok (.aload_n 0, 1) := by decide +kernel
theorem dX4_countTip_53 : decode cX4_countTip 53 = .ok (.iload_n 1, 1) := by decide +kernel
theorem dX4_countTip_54 : decode cX4_countTip 54 = .ok (.iload 4, 2) := by decide +kernel
theorem dX4_countTip_56 : decode cX4_countTip 56 = .ok (.aload_n 0, 1) := by decide +kernel
theorem dX4_countTip_57 : decode cX4_countTip 57 = .ok (.iload_n 1, 1) := by decide +kernel
theorem dX4_countTip_58 : decode cX4_countTip 58 = .ok (.iload 4, 2) := by decide +kernel
theorem dX4_countTip_60 : decode cX4_countTip 60 = .ok (.invokevirtual 49, 3) := by decide +kernel
theorem dX4_countTip_63 : decode cX4_countTip 63 = .ok (.iconst 1, 1) := by decide +kernel
theorem dX4_countTip_64 : decode cX4_countTip 64 = .ok (.iadd, 1) := by decide +kernel
theorem dX4_countTip_65 : decode cX4_countTip 65 = .ok (.invokevirtual 34, 3) := by decide +kernel
theorem dX4_countTip_68 : decode cX4_countTip 68 = .ok (.return_, 1) := by decide +kernel
theorem dX4_tipOrKeep_0 : decode cX4_tipOrKeep 0 = .ok (.aload_n 0, 1) := by decide +kernel
theorem dX4_tipOrKeep_1 : decode cX4_tipOrKeep 1 = .ok (.iload_n 1, 1) := by decide +kernel
theorem dX4_tipOrKeep_2 : decode cX4_tipOrKeep 2 = .ok (.bipush 6, 2) := by decide +kernel
theorem dX4_tipOrKeep_4 : decode cX4_tipOrKeep 4 = .ok (.invokevirtual 49, 3) := by decide +kernel
theorem dX4_tipOrKeep_7 : decode cX4_tipOrKeep 7 = .ok (.iconst 1, 1) := by decide +kernel
theorem dX4_tipOrKeep_8 : decode cX4_tipOrKeep 8 = .ok (.if_icmp .ne 21, 3) := by decide +kernel
theorem dX4_tipOrKeep_11 : decode cX4_tipOrKeep 11 = .ok (.iload_n 2, 1) := by decide +kernel
theorem dX4_tipOrKeep_12 : decode cX4_tipOrKeep 12 = .ok (.aload_n 0, 1) := by decide +kernel
theorem dX4_tipOrKeep_13 : decode cX4_tipOrKeep 13 = .ok (.iload_n 1, 1) := by decide +kernel
theorem dX4_tipOrKeep_14 : decode cX4_tipOrKeep 14 = .ok (.iconst 4, 1) := by decide +kernel
theorem dX4_tipOrKeep_15 : decode cX4_tipOrKeep 15 = .ok (.invokevirtual 49, 3) := by decide +kernel
theorem dX4_tipOrKeep_18 : decode cX4_tipOrKeep 18 = .ok (.if_icmp .ne 7, 3) := by decide +kernel
theorem dX4_tipOrKeep_21 : decode cX4_tipOrKeep 21 = .ok (.iconst 1, 1) := by decide +kernel
theorem dX4_tipOrKeep_22 : decode cX4_tipOrKeep 22 = .ok (.goto 22, 3) := by decide +kernel
theorem dX4_tipOrKeep_25 : decode cX4_tipOrKeep 25 = .ok (.iconst 0, 1) := by decide +kernel
theorem dX4_tipOrKeep_26 : decode cX4_tipOrKeep 26 = .ok (.goto 18, 3) := by decide +kernel
theorem dX4_tipOrKeep_29 : decode cX4_tipOrKeep 29 = .ok (.aload_n 0, 1) := by decide +kernel
theorem dX4_tipOrKeep_30 : decode cX4_tipOrKeep 30 = .ok (.iload_n 1, 1) := by decide +kernel
theorem dX4_tipOrKeep_31 : decode cX4_tipOrKeep 31 = .ok (.iconst 5, 1) := by decide +kernel
theorem dX4_tipOrKeep_32 : decode cX4_tipOrKeep 32 = .ok (.invokevirtual 49, 3) := by decide +kernel
theorem dX4_tipOrKeep_35 : decode cX4_tipOrKeep 35 = .ok (.iconst 1, 1) := by decide +kernel
theorem dX4_tipOrKeep_36 : decode cX4_tipOrKeep 36 = .ok (.if_icmp .ne 7, 3) := by decide +kernel
theorem dX4_tipOrKeep_39 : decode cX4_tipOrKeep 39 = .ok (.iconst 1, 1) := by decide +kernel
theorem dX4_tipOrKeep_40 : decode cX4_tipOrKeep 40 = .ok (.goto 4, 3) := by decide +kernel
theorem dX4_tipOrKeep_43 : decode cX4_tipOrKeep 43 = .ok (.iconst 0, 1) := by decide +kernel
theorem dX4_tipOrKeep_44 : decode cX4_tipOrKeep 44 = .ok (.istore_n 3, 1) := by decide +kernel
theorem dX4_tipOrKeep_45 : decode cX4_tipOrKeep 45 = .ok (.aload_n 0, 1) := by decide +kernel
theorem dX4_tipOrKeep_46 : decode cX4_tipOrKeep 46 = .ok (.iload_n 1, 1) := by decide +kernel
theorem dX4_tipOrKeep_47 : decode cX4_tipOrKeep 47 = .ok (.iconst 3, 1) := by decide +kernel
theorem dX4_tipOrKeep_48 : decode cX4_tipOrKeep 48 = .ok (.invokevirtual 49, 3) := by decide +kernel
theorem dX4_tipOrKeep_51 : decode cX4_tipOrKeep 51 = .ok (.istore 4, 2) := by decide +kernel
theorem dX4_tipOrKeep_53 : decode cX4_tipOrKeep 53 = .ok (.aload_n 0, 1) := by decide +kernel
theorem dX4_tipOrKeep_54 : decode cX4_tipOrKeep 54 = .ok (.getfield 30, 3) := by decide +kernel
theorem dX4_tipOrKeep_57 : decode cX4_tipOrKeep 57 = .ok (.iload_n 1, 1) := by decide +kernel
theorem dX4_tipOrKeep_58 : decode cX4_tipOrKeep 58 = .ok (.aload_n 0, 1) := by decide +kernel
theorem dX4_tipOrKeep_59 : decode cX4_tipOrKeep 59 = .ok (.iload_n 1, 1) := by decide +kernel
theorem dX4_tipOrKeep_60 : decode cX4_tipOrKeep 60 = .ok (.invokevirtual 53, 3) := by decide +kernel
theorem dX4_tipOrKeep_63 : decode cX4_tipOrKeep 63 = .ok (.ifCond .eq 11, 3) := by decide +kernel
theorem dX4_tipOrKeep_66 : decode cX4_tipOrKeep 66 = .ok (.iload_n 3, 1) := by decide +kernel
theorem dX4_tipOrKeep_67 : decode cX4_tipOrKeep 67 = .ok (.ifCond .eq 7, 3) := by decide +kernel
theorem dX4_tipOrKeep_70 : decode cX4_tipOrKeep 70 = .ok (.iconst 1, 1) := by decide +kernel
theorem dX4_tipOrKeep_71 : decode cX4_tipOrKeep 71 = .ok (.goto 4, 3) := by decide +kernel
theorem dX4_tipOrKeep_74 : decode cX4_tipOrKeep 74 = .ok (.iconst 0, 1) := by decide +kernel
theorem dX4_tipOrKeep_75 : decode cX4_tipOrKeep 75 = .ok (.bastore, 1) := by decide +kernel
theorem dX4_tipOrKeep_76 : decode cX4_tipOrKeep 76 = .ok (.aload_n 0, 1) := by decide +kernel
theorem dX4_tipOrKeep_77 : decode cX4_tipOrKeep 77 = .ok (.getfield 30, 3) := by decide +kernel
theorem dX4_tipOrKeep_80 : decode cX4_tipOrKeep 80 = .ok (.iload_n 1, 1) := by decide +kernel
theorem dX4_tipOrKeep_81 : decode cX4_tipOrKeep 81 = .ok (.baload, 1) := by decide +kernel
theorem dX4_tipOrKeep_82 : decode cX4_tipOrKeep 82 = .ok (.ifCond .eq 66, 3) := by decide +kernel
theorem dX4_tipOrKeep_85 : decode cX4_tipOrKeep 85 = .ok (.bipush 10, 2) := by decide +kernel
theorem dX4_tipOrKeep_87 : decode cX4_tipOrKeep 87 = .ok (.iload 4, 2) := by decide +kernel
theorem dX4_tipOrKeep_89 : decode cX4_tipOrKeep 89 = .ok (.imul, 1) := by decide +kernel
theorem dX4_tipOrKeep_90 : decode cX4_tipOrKeep 90 = .ok (.aload_n 0, 1) := by decide +kernel
theorem dX4_tipOrKeep_91 : decode cX4_tipOrKeep 91 = .ok (.iload_n 1, 1) := by decide +kernel
theorem dX4_tipOrKeep_92 : decode cX4_tipOrKeep 92 = .ok (.iconst 0, 1) := by decide +kernel
theorem dX4_tipOrKeep_93 : decode cX4_tipOrKeep 93 = .ok (.invokevirtual 49, 3) := by decide +kernel
theorem dX4_tipOrKeep_96 : decode cX4_tipOrKeep 96 = .ok (.idiv, 1) := by decide +kernel
theorem dX4_tipOrKeep_97 : decode cX4_tipOrKeep 97 = .ok (.istore 5, 2) := by decide +kernel
theorem dX4_tipOrKeep_99 : decode cX4_tipOrKeep 99 = .ok (.aload_n 0, 1) := by decide +kernel
theorem dX4_tipOrKeep_100 : decode cX4_tipOrKeep 100 = .ok (.iload_n 1, 1) := by decide +kernel
theorem dX4_tipOrKeep_101 : decode cX4_tipOrKeep 101 = .ok (.bipush 7, 2) := by decide +kernel
theorem dX4_tipOrKeep_103 : decode cX4_tipOrKeep 103 = .ok (.iload 5, 2) := by decide +kernel
theorem dX4_tipOrKeep_105 : decode cX4_tipOrKeep 105 = .ok (.bipush 30, 2) := by decide +kernel
theorem dX4_tipOrKeep_107 : decode cX4_tipOrKeep 107 = .ok (.if_icmp .le 8, 3) := by decide +kernel
theorem dX4_tipOrKeep_110 : decode cX4_tipOrKeep 110 = .ok (.bipush 30, 2) := by decide +kernel
theorem dX4_tipOrKeep_112 : decode cX4_tipOrKeep 112 = .ok (.goto 5, 3) := by decide +kernel
theorem dX4_tipOrKeep_115 : decode cX4_tipOrKeep 115 = .ok (.iload 5, 2) := by decide +kernel
theorem dX4_tipOrKeep_117 : decode cX4_tipOrKeep 117 = .ok (.invokevirtual 34, 3) := by decide +kernel
theorem dX4_tipOrKeep_120 : decode cX4_tipOrKeep 120 = .ok (.aload_n 0, 1) := by decide +kernel
theorem dX4_tipOrKeep_121 : decode cX4_tipOrKeep 121 = .ok (.iload_n 1, 1) := by decide +kernel
theorem dX4_tipOrKeep_122 : decode cX4_tipOrKeep 122 = .ok (.iconst 3, 1) := by decide +kernel
theorem dX4_tipOrKeep_123 : decode cX4_tipOrKeep 123 = .ok (.iconst 0, 1) := by decide +kernel
theorem dX4_tipOrKeep_124 : decode cX4_tipOrKeep 124 = .ok (.invokevirtual 34, 3) := by decide +kernel
theorem dX4_tipOrKeep_127 : decode cX4_tipOrKeep 127 = .ok (.aload_n 0, 1) := by decide +kernel
theorem dX4_tipOrKeep_128 : decode cX4_tipOrKeep 128 = .ok (.aload_n 0, 1) := by decide +kernel
theorem dX4_tipOrKeep_129 : decode cX4_tipOrKeep 129 = .ok (.iload_n 1, 1) := by decide +kernel
theorem dX4_tipOrKeep_130 : decode cX4_tipOrKeep 130 = .ok (.iconst 2, 1) := by decide +kernel
theorem dX4_tipOrKeep_131 : decode cX4_tipOrKeep 131 = .ok (.invokevirtual 49, 3) := by decide +kernel
theorem dX4_tipOrKeep_134 : decode cX4_tipOrKeep 134 = .ok (.iload 4, 2) := by decide +kernel
theorem dX4_tipOrKeep_136 : decode cX4_tipOrKeep 136 = .ok (.invokevirtual 57, 3) := by decide +kernel
theorem dX4_tipOrKeep_139 : decode cX4_tipOrKeep 139 = .ok (.aload_n 0, 1) := by decide +kernel
theorem dX4_tipOrKeep_140 : decode cX4_tipOrKeep 140 = .ok (.iload_n 1, 1) := by decide +kernel
theorem dX4_tipOrKeep_141 : decode cX4_tipOrKeep 141 = .ok (.iload_n 2, 1) := by decide +kernel
theorem dX4_tipOrKeep_142 : decode cX4_tipOrKeep 142 = .ok (.invokevirtual 61, 3) := by decide +kernel
theorem dX4_tipOrKeep_145 : decode cX4_tipOrKeep 145 = .ok (.goto 43, 3) := by decide +kernel
theorem dX4_tipOrKeep_148 : decode cX4_tipOrKeep 148 = .ok (.aload_n 0, 1) := by decide +kernel
theorem dX4_tipOrKeep_149 : decode cX4_tipOrKeep 149 = .ok (.iload_n 1, 1) := by decide +kernel
theorem dX4_tipOrKeep_150 : decode cX4_tipOrKeep 150 = .ok (.bipush 7, 2) := by decide +kernel
theorem dX4_tipOrKeep_152 : decode cX4_tipOrKeep 152 = .ok (.iconst 0, 1) := by decide +kernel
theorem dX4_tipOrKeep_153 : decode cX4_tipOrKeep 153 = .ok (.invokevirtual 34, 3) := by decide +kernel
theorem dX4_tipOrKeep_156 : decode cX4_tipOrKeep 156 = .ok (.iload 4, 2) := by decide +kernel
theorem dX4_tipOrKeep_158 : decode cX4_tipOrKeep 158 = .ok (.sipush 9999, 3) := by decide +kernel
theorem dX4_tipOrKeep_161 : decode cX4_tipOrKeep 161 = .ok (.if_icmp .le 27, 3) := by decide +kernel
theorem dX4_tipOrKeep_164 : decode cX4_tipOrKeep 164 = .ok (.aload_n 0, 1) := by decide +kernel
theorem dX4_tipOrKeep_165 : decode cX4_tipOrKeep 165 = .ok (.iload_n 1, 1) := by decide +kernel
theorem dX4_tipOrKeep_166 : decode cX4_tipOrKeep 166 = .ok (.iconst 3, 1) := by decide +kernel
theorem dX4_tipOrKeep_167 : decode cX4_tipOrKeep 167 = .ok (.sipush 9999, 3) := by decide +kernel
theorem dX4_tipOrKeep_170 : decode cX4_tipOrKeep 170 = .ok (.invokevirtual 34, 3) := by decide +kernel
theorem dX4_tipOrKeep_173 : decode cX4_tipOrKeep 173 = .ok (.aload_n 0, 1) := by decide +kernel
theorem dX4_tipOrKeep_174 : decode cX4_tipOrKeep 174 = .ok (.getfield 7, 3) := by decide +kernel
theorem dX4_tipOrKeep_177 : decode cX4_tipOrKeep 177 = .ok (.iconst 1, 1) := by decide +kernel
theorem dX4_tipOrKeep_178 : decode cX4_tipOrKeep 178 = .ok (.dup2, 1) := by decide +kernel
theorem dX4_tipOrKeep_179 : decode cX4_tipOrKeep 179 = .ok (.iaload, 1) := by decide +kernel
theorem dX4_tipOrKeep_180 : decode cX4_tipOrKeep 180 = .ok (.iload 4, 2) := by decide +kernel
theorem dX4_tipOrKeep_182 : decode cX4_tipOrKeep 182 = .ok (.sipush 9999, 3) := by decide +kernel
theorem dX4_tipOrKeep_185 : decode cX4_tipOrKeep 185 = .ok (.isub, 1) := by decide +kernel
theorem dX4_tipOrKeep_186 : decode cX4_tipOrKeep 186 = .ok (.iadd, 1) := by decide +kernel
theorem dX4_tipOrKeep_187 : decode cX4_tipOrKeep 187 = .ok (.iastore, 1) := by decide +kernel
theorem dX4_tipOrKeep_188 : decode cX4_tipOrKeep 188 = .ok (.return_, 1) := by decide +kernel
theorem dX4_tick_0 : decode cX4_tick 0 = .ok (.aload_n 0, 1) := by decide +kernel
theorem dX4_tick_1 : decode cX4_tick 1 = .ok (.aload_n 0, 1) := by decide +kernel
theorem dX4_tick_2 : decode cX4_tick 2 = .ok (.getfield 7, 3) := by decide +kernel
theorem dX4_tick_5 : decode cX4_tick 5 = .ok (.iconst 0, 1) := by decide +kernel
theorem dX4_tick_6 : decode cX4_tick 6 = .ok (.iaload, 1) := by decide +kernel
theorem dX4_tick_7 : decode cX4_tick 7 = .ok (.invokevirtual 64, 3) := by decide +kernel
theorem dX4_tick_10 : decode cX4_tick 10 = .ok (.istore_n 1, 1) := by decide +kernel
theorem dX4_tick_11 : decode cX4_tick 11 = .ok (.aload_n 0, 1) := by decide +kernel
theorem dX4_tick_12 : decode cX4_tick 12 = .ok (.getfield 7, 3) := by decide +kernel
theorem dX4_tick_15 : decode cX4_tick 15 = .ok (.bipush 6, 2) := by decide +kernel
theorem dX4_tick_17 : decode cX4_tick 17 = .ok (.iaload, 1) := by decide +kernel
theorem dX4_tick_18 : decode cX4_tick 18 = .ok (.aload_n 0, 1) := by decide +kernel
theorem dX4_tick_19 : decode cX4_tick 19 = .ok (.getfield 7, 3) := by decide +kernel
theorem dX4_tick_22 : decode cX4_tick 22 = .ok (.iconst 1, 1) := by decide +kernel
theorem dX4_tick_23 : decode cX4_tick 23 = .ok (.iaload, 1) := by decide +kernel
theorem dX4_tick_24 : decode cX4_tick 24 = .ok (.if_icmp .ge 13, 3) := by decide +kernel
theorem dX4_tick_27 : decode cX4_tick 27 = .ok (.aload_n 0, 1) := by decide +kernel
theorem dX4_tick_28 : decode cX4_tick 28 = .ok (.getfield 7, 3) := by decide +kernel
theorem dX4_tick_31 : decode cX4_tick 31 = .ok (.bipush 6, 2) := by decide +kernel
theorem dX4_tick_33 : decode cX4_tick 33 = .ok (.iaload, 1) := by decide +kernel
theorem dX4_tick_34 : decode cX4_tick 34 = .ok (.goto 9, 3) := by decide +kernel
theorem dX4_tick_37 : decode cX4_tick 37 = .ok (.aload_n 0, 1) := by decide +kernel
theorem dX4_tick_38 : decode cX4_tick 38 = .ok (.getfield 7, 3) := by decide +kernel
theorem dX4_tick_41 : decode cX4_tick 41 = .ok (.iconst 1, 1) := by decide +kernel
theorem dX4_tick_42 : decode cX4_tick 42 = .ok (.iaload, 1) := by decide +kernel
theorem dX4_tick_43 : decode cX4_tick 43 = .ok (.istore_n 2, 1) := by decide +kernel
theorem dX4_tick_44 : decode cX4_tick 44 = .ok (.aload_n 0, 1) := by decide +kernel
theorem dX4_tick_45 : decode cX4_tick 45 = .ok (.getfield 7, 3) := by decide +kernel
theorem dX4_tick_48 : decode cX4_tick 48 = .ok (.iconst 1, 1) := by decide +kernel
theorem dX4_tick_49 : decode cX4_tick 49 = .ok (.dup2, 1) := by decide +kernel
theorem dX4_tick_50 : decode cX4_tick 50 = .ok (.iaload, 1) := by decide +kernel
theorem dX4_tick_51 : decode cX4_tick 51 = .ok (.iload_n 2, 1) := by decide +kernel
theorem dX4_tick_52 : decode cX4_tick 52 = .ok (.isub, 1) := by decide +kernel
theorem dX4_tick_53 : decode cX4_tick 53 = .ok (.iastore, 1) := by decide +kernel
theorem dX4_tick_54 : decode cX4_tick 54 = .ok (.aload_n 0, 1) := by decide +kernel
theorem dX4_tick_55 : decode cX4_tick 55 = .ok (.getfield 7, 3) := by decide +kernel
theorem dX4_tick_58 : decode cX4_tick 58 = .ok (.iconst 3, 1) := by decide +kernel
theorem dX4_tick_59 : decode cX4_tick 59 = .ok (.dup2, 1) := by decide +kernel
theorem dX4_tick_60 : decode cX4_tick 60 = .ok (.iaload, 1) := by decide +kernel
theorem dX4_tick_61 : decode cX4_tick 61 = .ok (.aload_n 0, 1) := by decide +kernel
theorem dX4_tick_62 : decode cX4_tick 62 = .ok (.getfield 7, 3) := by decide +kernel
theorem dX4_tick_65 : decode cX4_tick 65 = .ok (.iconst 5, 1) := by decide +kernel
theorem dX4_tick_66 : decode cX4_tick 66 = .ok (.iaload, 1) := by decide +kernel
theorem dX4_tick_67 : decode cX4_tick 67 = .ok (.iadd, 1) := by decide +kernel
theorem dX4_tick_68 : decode cX4_tick 68 = .ok (.iastore, 1) := by decide +kernel
theorem dX4_tick_69 : decode cX4_tick 69 = .ok (.aload_n 0, 1) := by decide +kernel
theorem dX4_tick_70 : decode cX4_tick 70 = .ok (.iconst 0, 1) := by decide +kernel
theorem dX4_tick_71 : decode cX4_tick 71 = .ok (.iload_n 2, 1) := by decide +kernel
theorem dX4_tick_72 : decode cX4_tick 72 = .ok (.aload_n 0, 1) := by decide +kernel
theorem dX4_tick_73 : decode cX4_tick 73 = .ok (.getfield 7, 3) := by decide +kernel
theorem dX4_tick_76 : decode cX4_tick 76 = .ok (.iconst 5, 1) := by decide +kernel
theorem dX4_tick_77 : decode cX4_tick 77 = .ok (.iaload, 1) := by decide +kernel
theorem dX4_tick_78 : decode cX4_tick 78 = .ok (.iadd, 1) := by decide +kernel
theorem dX4_tick_79 : decode cX4_tick 79 = .ok (.invokevirtual 57, 3) := by decide +kernel
theorem dX4_tick_82 : decode cX4_tick 82 = .ok (.iconst 0, 1) := by decide +kernel
theorem dX4_tick_83 : decode cX4_tick 83 = .ok (.istore_n 3, 1) := by decide +kernel
theorem dX4_tick_84 : decode cX4_tick 84 = .ok (.iload_n 3, 1) := by decide +kernel
theorem dX4_tick_85 : decode cX4_tick 85 = .ok (.bipush 8, 2) := by decide +kernel
theorem dX4_tick_87 : decode cX4_tick 87 = .ok (.if_icmp .ge 15, 3) := by decide +kernel
theorem dX4_tick_90 : decode cX4_tick 90 = .ok (.aload_n 0, 1) := by decide +kernel
theorem dX4_tick_91 : decode cX4_tick 91 = .ok (.iload_n 3, 1) := by decide +kernel
theorem dX4_tick_92 : decode cX4_tick 92 = .ok (.iload_n 1, 1) := by decide +kernel
theorem dX4_tick_93 : decode cX4_tick 93 = .ok (.invokevirtual 68, 3) := by decide +kernel
theorem dX4_tick_96 : decode cX4_tick 96 = .ok (.iinc 3 1, 3) := by decide +kernel
theorem dX4_tick_99 : decode cX4_tick 99 = .ok (.goto (-15), 3) := by decide +kernel
theorem dX4_tick_102 : decode cX4_tick 102 = .ok (.iconst 0, 1) := by decide +kernel
theorem dX4_tick_103 : decode cX4_tick 103 = .ok (.istore_n 3, 1) := by decide +kernel
theorem dX4_tick_104 : decode cX4_tick 104 = .ok (.iload_n 3, 1) := by decide +kernel
theorem dX4_tick_105 : decode cX4_tick 105 = .ok (.bipush 8, 2) := by decide +kernel
theorem dX4_tick_107 : decode cX4_tick 107 = .ok (.if_icmp .ge 67, 3) := by decide +kernel
theorem dX4_tick_110 : decode cX4_tick 110 = .ok (.aload_n 0, 1) := by decide +kernel
theorem dX4_tick_111 : decode cX4_tick 111 = .ok (.iload_n 3, 1) := by decide +kernel
theorem dX4_tick_112 : decode cX4_tick 112 = .ok (.iconst 1, 1) := by decide +kernel
theorem dX4_tick_113 : decode cX4_tick 113 = .ok (.invokevirtual 49, 3) := by decide +kernel
theorem dX4_tick_116 : decode cX4_tick 116 = .ok (.aload_n 0, 1) := by decide +kernel
theorem dX4_tick_117 : decode cX4_tick 117 = .ok (.iload_n 3, 1) := by decide +kernel
theorem dX4_tick_118 : decode cX4_tick 118 = .ok (.iconst 3, 1) := by decide +kernel
theorem dX4_tick_119 : decode cX4_tick 119 = .ok (.invokevirtual 49, 3) := by decide +kernel
theorem dX4_tick_122 : decode cX4_tick 122 = .ok (.if_icmp .ge 12, 3) := by decide +kernel
theorem dX4_tick_125 : decode cX4_tick 125 = .ok (.aload_n 0, 1) := by decide +kernel
theorem dX4_tick_126 : decode cX4_tick 126 = .ok (.iload_n 3, 1) := by decide +kernel
theorem dX4_tick_127 : decode cX4_tick 127 = .ok (.iconst 1, 1) := by decide +kernel
theorem dX4_tick_128 : decode cX4_tick 128 = .ok (.invokevirtual 49, 3) := by decide +kernel
theorem dX4_tick_131 : decode cX4_tick 131 = .ok (.goto 9, 3) := by decide +kernel
theorem dX4_tick_134 : decode cX4_tick 134 = .ok (.aload_n 0, 1) := by decide +kernel
theorem dX4_tick_135 : decode cX4_tick 135 = .ok (.iload_n 3, 1) := by decide +kernel
theorem dX4_tick_136 : decode cX4_tick 136 = .ok (.iconst 3, 1) := by decide +kernel
theorem dX4_tick_137 : decode cX4_tick 137 = .ok (.invokevirtual 49, 3) := by decide +kernel
theorem dX4_tick_140 : decode cX4_tick 140 = .ok (.istore 4, 2) := by decide +kernel
theorem dX4_tick_142 : decode cX4_tick 142 = .ok (.aload_n 0, 1) := by decide +kernel
theorem dX4_tick_143 : decode cX4_tick 143 = .ok (.iload_n 3, 1) := by decide +kernel
theorem dX4_tick_144 : decode cX4_tick 144 = .ok (.iconst 3, 1) := by decide +kernel
theorem dX4_tick_145 : decode cX4_tick 145 = .ok (.aload_n 0, 1) := by decide +kernel
theorem dX4_tick_146 : decode cX4_tick 146 = .ok (.iload_n 3, 1) := by decide +kernel
theorem dX4_tick_147 : decode cX4_tick 147 = .ok (.iconst 3, 1) := by decide +kernel
theorem dX4_tick_148 : decode cX4_tick 148 = .ok (.invokevirtual 49, 3) := by decide +kernel
theorem dX4_tick_151 : decode cX4_tick 151 = .ok (.iload 4, 2) := by decide +kernel
theorem dX4_tick_153 : decode cX4_tick 153 = .ok (.isub, 1) := by decide +kernel
theorem dX4_tick_154 : decode cX4_tick 154 = .ok (.invokevirtual 34, 3) := by decide +kernel
theorem dX4_tick_157 : decode cX4_tick 157 = .ok (.aload_n 0, 1) := by decide +kernel
theorem dX4_tick_158 : decode cX4_tick 158 = .ok (.getfield 7, 3) := by decide +kernel
theorem dX4_tick_161 : decode cX4_tick 161 = .ok (.iconst 2, 1) := by decide +kernel
theorem dX4_tick_162 : decode cX4_tick 162 = .ok (.dup2, 1) := by decide +kernel
theorem dX4_tick_163 : decode cX4_tick 163 = .ok (.iaload, 1) := by decide +kernel
theorem dX4_tick_164 : decode cX4_tick 164 = .ok (.iload 4, 2) := by decide +kernel
theorem dX4_tick_166 : decode cX4_tick 166 = .ok (.iadd, 1) := by decide +kernel
theorem dX4_tick_167 : decode cX4_tick 167 = .ok (.iastore, 1) := by decide +kernel
theorem dX4_tick_168 : decode cX4_tick 168 = .ok (.iinc 3 1, 3) := by decide +kernel
theorem dX4_tick_171 : decode cX4_tick 171 = .ok (.goto (-67), 3) := by decide +kernel
theorem dX4_tick_174 : decode cX4_tick 174 = .ok (.aload_n 0, 1) := by decide +kernel
theorem dX4_tick_175 : decode cX4_tick 175 = .ok (.getfield 7, 3) := by decide +kernel
theorem dX4_tick_178 : decode cX4_tick 178 = .ok (.iconst 0, 1) := by decide +kernel
theorem dX4_tick_179 : decode cX4_tick 179 = .ok (.dup2, 1) := by decide +kernel
theorem dX4_tick_180 : decode cX4_tick 180 = .ok (.iaload, 1) := by decide +kernel
theorem dX4_tick_181 : decode cX4_tick 181 = .ok (.iconst 1, 1) := by decide +kernel
theorem dX4_tick_182 : decode cX4_tick 182 = .ok (.iadd, 1) := by decide +kernel
theorem dX4_tick_183 : decode cX4_tick 183 = .ok (.iastore, 1) := by decide +kernel
theorem dX4_tick_184 : decode cX4_tick 184 = .ok (.return_, 1) := by decide +kernel
theorem dX4_sumOf_0 : decode cX4_sumOf 0 = .ok (.iconst 0, 1) := by decide +kernel
theorem dX4_sumOf_1 : decode cX4_sumOf 1 = .ok (.istore_n 2, 1) := by decide +kernel
theorem dX4_sumOf_2 : decode cX4_sumOf 2 = .ok (.iconst 0, 1) := by decide +kernel
theorem dX4_sumOf_3 : decode cX4_sumOf 3 = .ok (.istore_n 3, 1) := by decide +kernel
theorem dX4_sumOf_4 : decode cX4_sumOf 4 = .ok (.iload_n 3, 1) := by decide +kernel
theorem dX4_sumOf_5 : decode cX4_sumOf 5 = .ok (.bipush 8, 2) := by decide +kernel
theorem dX4_sumOf_7 : decode cX4_sumOf 7 = .ok (.if_icmp .ge 18, 3) := by decide +kernel
theorem dX4_sumOf_10 : decode cX4_sumOf 10 = .ok (.iload_n 2, 1) := by decide +kernel
theorem dX4_sumOf_11 : decode cX4_sumOf 11 = .ok (.aload_n 0, 1) := by decide +kernel
theorem dX4_sumOf_12 : decode cX4_sumOf 12 = .ok (.iload_n 3, 1) := by decide +kernel
theorem dX4_sumOf_13 : decode cX4_sumOf 13 = .ok (.iload_n 1, 1) := by decide +kernel
theorem dX4_sumOf_14 : decode cX4_sumOf 14 = .ok (.invokevirtual 49, 3) := by decide +kernel
theorem dX4_sumOf_17 : decode cX4_sumOf 17 = .ok (.iadd, 1) := by decide +kernel
theorem dX4_sumOf_18 : decode cX4_sumOf 18 = .ok (.istore_n 2, 1) := by decide +kernel
theorem dX4_sumOf_19 : decode cX4_sumOf 19 = .ok (.iinc 3 1, 3) := by decide +kernel
theorem dX4_sumOf_22 : decode cX4_sumOf 22 = .ok (.goto (-18), 3) := by decide +kernel
theorem dX4_sumOf_25 : decode cX4_sumOf 25 = .ok (.iload_n 2, 1) := by decide +kernel
theorem dX4_sumOf_26 : decode cX4_sumOf 26 = .ok (.ireturn, 1) := by decide +kernel
theorem dX4_isValue_0 : decode cX4_isValue 0 = .ok (.iload_n 1, 1) := by decide +kernel
theorem dX4_isValue_1 : decode cX4_isValue 1 = .ok (.ifCond .ne 13, 3) := by decide +kernel
theorem dX4_isValue_4 : decode cX4_isValue 4 = .ok (.iload_n 2, 1) := by decide +kernel
theorem dX4_isValue_5 : decode cX4_isValue 5 = .ok (.iconst 1, 1) := by decide +kernel
theorem dX4_isValue_6 : decode cX4_isValue 6 = .ok (.bipush 99, 2) := by decide +kernel
theorem dX4_isValue_8 : decode cX4_isValue 8 = .ok (.invokestatic 38, 3) := by decide +kernel
theorem dX4_isValue_11 : decode cX4_isValue 11 = .ok (.goto 40, 3) := by decide +kernel
theorem dX4_isValue_14 : decode cX4_isValue 14 = .ok (.iload_n 1, 1) := by decide +kernel
theorem dX4_isValue_15 : decode cX4_isValue 15 = .ok (.iconst 1, 1) := by decide +kernel
theorem dX4_isValue_16 : decode cX4_isValue 16 = .ok (.if_icmp .ne 13, 3) := by decide +kernel
theorem dX4_isValue_19 : decode cX4_isValue 19 = .ok (.iload_n 2, 1) := by decide +kernel
theorem dX4_isValue_20 : decode cX4_isValue 20 = .ok (.iconst 0, 1) := by decide +kernel
theorem dX4_isValue_21 : decode cX4_isValue 21 = .ok (.bipush 9, 2) := by decide +kernel
theorem dX4_isValue_23 : decode cX4_isValue 23 = .ok (.invokestatic 38, 3) := by decide +kernel
theorem dX4_isValue_26 : decode cX4_isValue 26 = .ok (.goto 25, 3) := by decide +kernel
theorem dX4_isValue_29 : decode cX4_isValue 29 = .ok (.iload_n 1, 1) := by decide +kernel
theorem dX4_isValue_30 : decode cX4_isValue 30 = .ok (.iconst 2, 1) := by decide +kernel
theorem dX4_isValue_31 : decode cX4_isValue 31 = .ok (.if_icmp .ne 19, 3) := by decide +kernel
theorem dX4_isValue_34 : decode cX4_isValue 34 = .ok (.iload_n 2, 1) := by decide +kernel
theorem dX4_isValue_35 : decode cX4_isValue 35 = .ok (.iload_n 0, 1) := by decide +kernel
theorem dX4_isValue_36 : decode cX4_isValue 36 = .ok (.iconst 1, 1) := by decide +kernel
theorem dX4_isValue_37 : decode cX4_isValue 37 = .ok (.iadd, 1) := by decide +kernel
theorem dX4_isValue_38 : decode cX4_isValue 38 = .ok (.bipush 8, 2) := by decide +kernel
theorem dX4_isValue_40 : decode cX4_isValue 40 = .ok (.invokestatic 38, 3) := by decide +kernel
theorem dX4_isValue_43 : decode cX4_isValue 43 = .ok (.ifCond .eq 7, 3) := by decide +kernel
theorem dX4_isValue_46 : decode cX4_isValue 46 = .ok (.iconst 1, 1) := by decide +kernel
theorem dX4_isValue_47 : decode cX4_isValue 47 = .ok (.goto 4, 3) := by decide +kernel
theorem dX4_isValue_50 : decode cX4_isValue 50 = .ok (.iconst 0, 1) := by decide +kernel
theorem dX4_isValue_51 : decode cX4_isValue 51 = .ok (.ireturn, 1) := by decide +kernel
theorem dX4_doSetCup_0 : decode cX4_doSetCup 0 = .ok (.iload_n 1, 1) := by decide +kernel
theorem dX4_doSetCup_1 : decode cX4_doSetCup 1 = .ok (.invokestatic 71, 3) := by decide +kernel
theorem dX4_doSetCup_4 : decode cX4_doSetCup 4 = .ok (.ifCond .ne 5, 3) := by decide +kernel
theorem dX4_doSetCup_7 : decode cX4_doSetCup 7 = .ok (.iconst (-1), 1) := by decide +kernel
theorem dX4_doSetCup_8 : decode cX4_doSetCup 8 = .ok (.ireturn, 1) := by decide +kernel
theorem dX4_doSetCup_9 : decode cX4_doSetCup 9 = .ok (.iload_n 1, 1) := by decide +kernel
theorem dX4_doSetCup_10 : decode cX4_doSetCup 10 = .ok (.iload_n 2, 1) := by decide +kernel
theorem dX4_doSetCup_11 : decode cX4_doSetCup 11 = .ok (.iload_n 3, 1) := by decide +kernel
theorem dX4_doSetCup_12 : decode cX4_doSetCup 12 = .ok (.invokestatic 74, 3) := by decide +kernel
theorem dX4_doSetCup_15 : decode cX4_doSetCup 15 = .ok (.ifCond .ne 6, 3) := by decide +kernel
theorem dX4_doSetCup_18 : decode cX4_doSetCup 18 = .ok (.bipush (-2), 2) := by decide +kernel
theorem dX4_doSetCup_20 : decode cX4_doSetCup 20 = .ok (.ireturn, 1) := by decide +kernel
theorem dX4_doSetCup_21 : decode cX4_doSetCup 21 = .ok (.aload_n 0, 1) := by decide +kernel
theorem dX4_doSetCup_22 : decode cX4_doSetCup 22 = .ok (.iload_n 1, 1) := by decide +kernel
theorem dX4_doSetCup_23 : decode cX4_doSetCup 23 = .ok (.iload_n 2, 1) := by decide +kernel
theorem dX4_doSetCup_24 : decode cX4_doSetCup 24 = .ok (.invokevirtual 49, 3) := by decide +kernel
theorem dX4_doSetCup_27 : decode cX4_doSetCup 27 = .ok (.istore 4, 2) := by decide +kernel
theorem dX4_doSetCup_29 : decode cX4_doSetCup 29 = .ok (.aload_n 0, 1) := by decide +kernel
theorem dX4_doSetCup_30 : decode cX4_doSetCup 30 = .ok (.iload_n 1, 1) := by decide +kernel
theorem dX4_doSetCup_31 : decode cX4_doSetCup 31 = .ok (.iload_n 2, 1) := by decide +kernel
theorem dX4_doSetCup_32 : decode cX4_doSetCup 32 = .ok (.iload_n 3, 1) := by decide +kernel
theorem dX4_doSetCup_33 : decode cX4_doSetCup 33 = .ok (.invokevirtual 34, 3) := by decide +kernel
theorem dX4_doSetCup_36 : decode cX4_doSetCup 36 = .ok (.iload 4, 2) := by decide +kernel
theorem dX4_doSetCup_38 : decode cX4_doSetCup 38 = .ok (.iload_n 3, 1) := by decide +kernel
theorem dX4_doSetCup_39 : decode cX4_doSetCup 39 = .ok (.if_icmp .ne 8, 3) := by decide +kernel
theorem dX4_doSetCup_42 : decode cX4_doSetCup 42 = .ok (.bipush (-5), 2) := by decide +kernel
theorem dX4_doSetCup_44 : decode cX4_doSetCup 44 = .ok (.goto 5, 3) := by decide +kernel
theorem dX4_doSetCup_47 : decode cX4_doSetCup 47 = .ok (.iload 4, 2) := by decide +kernel
theorem dX4_doSetCup_49 : decode cX4_doSetCup 49 = .ok (.ireturn, 1) := by decide +kernel
theorem dX4_doTurn_0 : decode cX4_doTurn 0 = .ok (.iload_n 1, 1) := by decide +kernel
theorem dX4_doTurn_1 : decode cX4_doTurn 1 = .ok (.invokestatic 71, 3) := by decide +kernel
theorem dX4_doTurn_4 : decode cX4_doTurn 4 = .ok (.ifCond .ne 5, 3) := by decide +kernel
theorem dX4_doTurn_7 : decode cX4_doTurn 7 = .ok (.iconst (-1), 1) := by decide +kernel
theorem dX4_doTurn_8 : decode cX4_doTurn 8 = .ok (.ireturn, 1) := by decide +kernel
theorem dX4_doTurn_9 : decode cX4_doTurn 9 = .ok (.aload_n 0, 1) := by decide +kernel
theorem dX4_doTurn_10 : decode cX4_doTurn 10 = .ok (.iload_n 1, 1) := by decide +kernel
theorem dX4_doTurn_11 : decode cX4_doTurn 11 = .ok (.bipush 6, 2) := by decide +kernel
theorem dX4_doTurn_13 : decode cX4_doTurn 13 = .ok (.invokevirtual 49, 3) := by decide +kernel
theorem dX4_doTurn_16 : decode cX4_doTurn 16 = .ok (.iconst 1, 1) := by decide +kernel
theorem dX4_doTurn_17 : decode cX4_doTurn 17 = .ok (.if_icmp .ne 6, 3) := by decide +kernel
theorem dX4_doTurn_20 : decode cX4_doTurn 20 = .ok (.bipush (-4), 2) := by decide +kernel
theorem dX4_doTurn_22 : decode cX4_doTurn 22 = .ok (.ireturn, 1) := by decide +kernel
theorem dX4_doTurn_23 : decode cX4_doTurn 23 = .ok (.aload_n 0, 1) := by decide +kernel
theorem dX4_doTurn_24 : decode cX4_doTurn 24 = .ok (.iload_n 1, 1) := by decide +kernel
theorem dX4_doTurn_25 : decode cX4_doTurn 25 = .ok (.iconst 5, 1) := by decide +kernel
theorem dX4_doTurn_26 : decode cX4_doTurn 26 = .ok (.iconst 1, 1) := by decide +kernel
theorem dX4_doTurn_27 : decode cX4_doTurn 27 = .ok (.aload_n 0, 1) := by decide +kernel
theorem dX4_doTurn_28 : decode cX4_doTurn 28 = .ok (.iload_n 1, 1) := by decide +kernel
theorem dX4_doTurn_29 : decode cX4_doTurn 29 = .ok (.iconst 5, 1) := by decide +kernel
theorem dX4_doTurn_30 : decode cX4_doTurn 30 = .ok (.invokevirtual 49, 3) := by decide +kernel
theorem dX4_doTurn_33 : decode cX4_doTurn 33 = .ok (.isub, 1) := by decide +kernel
theorem dX4_doTurn_34 : decode cX4_doTurn 34 = .ok (.invokevirtual 34, 3) := by decide +kernel
theorem dX4_doTurn_37 : decode cX4_doTurn 37 = .ok (.aload_n 0, 1) := by decide +kernel
theorem dX4_doTurn_38 : decode cX4_doTurn 38 = .ok (.iload_n 1, 1) := by decide +kernel
theorem dX4_doTurn_39 : decode cX4_doTurn 39 = .ok (.iconst 5, 1) := by decide +kernel
theorem dX4_doTurn_40 : decode cX4_doTurn 40 = .ok (.invokevirtual 49, 3) := by decide +kernel
theorem dX4_doTurn_43 : decode cX4_doTurn 43 = .ok (.ireturn, 1) := by decide +kernel
theorem dX4_doSetHour_0 : decode cX4_doSetHour 0 = .ok (.iload_n 1, 1) := by decide +kernel
theorem dX4_doSetHour_1 : decode cX4_doSetHour 1 = .ok (.invokestatic 71, 3) := by decide +kernel
theorem dX4_doSetHour_4 : decode cX4_doSetHour 4 = .ok (.ifCond .ne 5, 3) := by decide +kernel
theorem dX4_doSetHour_7 : decode cX4_doSetHour 7 = .ok (.iconst (-1), 1) := by decide +kernel
theorem dX4_doSetHour_8 : decode cX4_doSetHour 8 = .ok (.ireturn, 1) := by decide +kernel
theorem dX4_doSetHour_9 : decode cX4_doSetHour 9 = .ok (.iload_n 2, 1) := by decide +kernel
theorem dX4_doSetHour_10 : decode cX4_doSetHour 10 = .ok (.iconst (-1), 1) := by decide +kernel
theorem dX4_doSetHour_11 : decode cX4_doSetHour 11 = .ok (.sipush 239, 3) := by decide +kernel
theorem dX4_doSetHour_14 : decode cX4_doSetHour 14 = .ok (.invokestatic 38, 3) := by decide +kernel
theorem dX4_doSetHour_17 : decode cX4_doSetHour 17 = .ok (.ifCond .ne 6, 3) := by decide +kernel
theorem dX4_doSetHour_20 : decode cX4_doSetHour 20 = .ok (.bipush (-2), 2) := by decide +kernel
theorem dX4_doSetHour_22 : decode cX4_doSetHour 22 = .ok (.ireturn, 1) := by decide +kernel
theorem dX4_doSetHour_23 : decode cX4_doSetHour 23 = .ok (.aload_n 0, 1) := by decide +kernel
theorem dX4_doSetHour_24 : decode cX4_doSetHour 24 = .ok (.iload_n 1, 1) := by decide +kernel
theorem dX4_doSetHour_25 : decode cX4_doSetHour 25 = .ok (.iconst 4, 1) := by decide +kernel
theorem dX4_doSetHour_26 : decode cX4_doSetHour 26 = .ok (.invokevirtual 49, 3) := by decide +kernel
theorem dX4_doSetHour_29 : decode cX4_doSetHour 29 = .ok (.istore_n 3, 1) := by decide +kernel
theorem dX4_doSetHour_30 : decode cX4_doSetHour 30 = .ok (.iload_n 3, 1) := by decide +kernel
theorem dX4_doSetHour_31 : decode cX4_doSetHour 31 = .ok (.iload_n 2, 1) := by decide +kernel
theorem dX4_doSetHour_32 : decode cX4_doSetHour 32 = .ok (.if_icmp .ne 6, 3) := by decide +kernel
theorem dX4_doSetHour_35 : decode cX4_doSetHour 35 = .ok (.bipush (-5), 2) := by decide +kernel
theorem dX4_doSetHour_37 : decode cX4_doSetHour 37 = .ok (.ireturn, 1) := by decide +kernel
theorem dX4_doSetHour_38 : decode cX4_doSetHour 38 = .ok (.aload_n 0, 1) := by decide +kernel
theorem dX4_doSetHour_39 : decode cX4_doSetHour 39 = .ok (.iload_n 1, 1) := by decide +kernel
theorem dX4_doSetHour_40 : decode cX4_doSetHour 40 = .ok (.iconst 4, 1) := by decide +kernel
theorem dX4_doSetHour_41 : decode cX4_doSetHour 41 = .ok (.iload_n 2, 1) := by decide +kernel
theorem dX4_doSetHour_42 : decode cX4_doSetHour 42 = .ok (.invokevirtual 34, 3) := by decide +kernel
theorem dX4_doSetHour_45 : decode cX4_doSetHour 45 = .ok (.iload_n 2, 1) := by decide +kernel
theorem dX4_doSetHour_46 : decode cX4_doSetHour 46 = .ok (.iconst (-1), 1) := by decide +kernel
theorem dX4_doSetHour_47 : decode cX4_doSetHour 47 = .ok (.if_icmp .ne 18, 3) := by decide +kernel
theorem dX4_doSetHour_50 : decode cX4_doSetHour 50 = .ok (.aload_n 0, 1) := by decide +kernel
theorem dX4_doSetHour_51 : decode cX4_doSetHour 51 = .ok (.iload_n 1, 1) := by decide +kernel
theorem dX4_doSetHour_52 : decode cX4_doSetHour 52 = .ok (.bipush 6, 2) := by decide +kernel
theorem dX4_doSetHour_54 : decode cX4_doSetHour 54 = .ok (.iconst 0, 1) := by decide +kernel
theorem dX4_doSetHour_55 : decode cX4_doSetHour 55 = .ok (.invokevirtual 34, 3) := by decide +kernel
theorem dX4_doSetHour_58 : decode cX4_doSetHour 58 = .ok (.aload_n 0, 1) := by decide +kernel
theorem dX4_doSetHour_59 : decode cX4_doSetHour 59 = .ok (.iload_n 1, 1) := by decide +kernel
theorem dX4_doSetHour_60 : decode cX4_doSetHour 60 = .ok (.iconst 5, 1) := by decide +kernel
theorem dX4_doSetHour_61 : decode cX4_doSetHour 61 = .ok (.iconst 1, 1) := by decide +kernel
theorem dX4_doSetHour_62 : decode cX4_doSetHour 62 = .ok (.invokevirtual 34, 3) := by decide +kernel
theorem dX4_doSetHour_65 : decode cX4_doSetHour 65 = .ok (.iload_n 3, 1) := by decide +kernel
theorem dX4_doSetHour_66 : decode cX4_doSetHour 66 = .ok (.iconst (-1), 1) := by decide +kernel
theorem dX4_doSetHour_67 : decode cX4_doSetHour 67 = .ok (.if_icmp .ne 9, 3) := by decide +kernel
theorem dX4_doSetHour_70 : decode cX4_doSetHour 70 = .ok (.sipush 240, 3) := by decide +kernel
theorem dX4_doSetHour_73 : decode cX4_doSetHour 73 = .ok (.goto 4, 3) := by decide +kernel
theorem dX4_doSetHour_76 : decode cX4_doSetHour 76 = .ok (.iload_n 3, 1) := by decide +kernel
theorem dX4_doSetHour_77 : decode cX4_doSetHour 77 = .ok (.ireturn, 1) := by decide +kernel
theorem dX4_doGuard_0 : decode cX4_doGuard 0 = .ok (.iload_n 1, 1) := by decide +kernel
theorem dX4_doGuard_1 : decode cX4_doGuard 1 = .ok (.invokestatic 71, 3) := by decide +kernel
theorem dX4_doGuard_4 : decode cX4_doGuard 4 = .ok (.ifCond .ne 5, 3) := by decide +kernel
theorem dX4_doGuard_7 : decode cX4_doGuard 7 = .ok (.iconst (-1), 1) := by decide +kernel
theorem dX4_doGuard_8 : decode cX4_doGuard 8 = .ok (.ireturn, 1) := by decide +kernel
theorem dX4_doGuard_9 : decode cX4_doGuard 9 = .ok (.aload_n 0, 1) := by decide +kernel
theorem dX4_doGuard_10 : decode cX4_doGuard 10 = .ok (.iload_n 1, 1) := by decide +kernel
theorem dX4_doGuard_11 : decode cX4_doGuard 11 = .ok (.iconst 4, 1) := by decide +kernel
theorem dX4_doGuard_12 : decode cX4_doGuard 12 = .ok (.invokevirtual 49, 3) := by decide +kernel
theorem dX4_doGuard_15 : decode cX4_doGuard 15 = .ok (.iconst (-1), 1) := by decide +kernel
theorem dX4_doGuard_16 : decode cX4_doGuard 16 = .ok (.if_icmp .ne 6, 3) := by decide +kernel
theorem dX4_doGuard_19 : decode cX4_doGuard 19 = .ok (.bipush (-4), 2) := by decide +kernel
theorem dX4_doGuard_21 : decode cX4_doGuard 21 = .ok (.ireturn, 1) := by decide +kernel
theorem dX4_doGuard_22 : decode cX4_doGuard 22 = .ok (.aload_n 0, 1) := by decide +kernel
theorem dX4_doGuard_23 : decode cX4_doGuard 23 = .ok (.iload_n 1, 1) := by decide +kernel
theorem dX4_doGuard_24 : decode cX4_doGuard 24 = .ok (.iconst 5, 1) := by decide +kernel
theorem dX4_doGuard_25 : decode cX4_doGuard 25 = .ok (.aload_n 0, 1) := by decide +kernel
theorem dX4_doGuard_26 : decode cX4_doGuard 26 = .ok (.iload_n 1, 1) := by decide +kernel
theorem dX4_doGuard_27 : decode cX4_doGuard 27 = .ok (.bipush 6, 2) := by decide +kernel
theorem dX4_doGuard_29 : decode cX4_doGuard 29 = .ok (.invokevirtual 49, 3) := by decide +kernel
theorem dX4_doGuard_32 : decode cX4_doGuard 32 = .ok (.invokevirtual 34, 3) := by decide +kernel
theorem dX4_doGuard_35 : decode cX4_doGuard 35 = .ok (.aload_n 0, 1) := by decide +kernel
theorem dX4_doGuard_36 : decode cX4_doGuard 36 = .ok (.iload_n 1, 1) := by decide +kernel
theorem dX4_doGuard_37 : decode cX4_doGuard 37 = .ok (.bipush 6, 2) := by decide +kernel
theorem dX4_doGuard_39 : decode cX4_doGuard 39 = .ok (.iconst 1, 1) := by decide +kernel
theorem dX4_doGuard_40 : decode cX4_doGuard 40 = .ok (.aload_n 0, 1) := by decide +kernel
theorem dX4_doGuard_41 : decode cX4_doGuard 41 = .ok (.iload_n 1, 1) := by decide +kernel
theorem dX4_doGuard_42 : decode cX4_doGuard 42 = .ok (.bipush 6, 2) := by decide +kernel
theorem dX4_doGuard_44 : decode cX4_doGuard 44 = .ok (.invokevirtual 49, 3) := by decide +kernel
theorem dX4_doGuard_47 : decode cX4_doGuard 47 = .ok (.isub, 1) := by decide +kernel
theorem dX4_doGuard_48 : decode cX4_doGuard 48 = .ok (.invokevirtual 34, 3) := by decide +kernel
theorem dX4_doGuard_51 : decode cX4_doGuard 51 = .ok (.aload_n 0, 1) := by decide +kernel
theorem dX4_doGuard_52 : decode cX4_doGuard 52 = .ok (.iload_n 1, 1) := by decide +kernel
theorem dX4_doGuard_53 : decode cX4_doGuard 53 = .ok (.bipush 6, 2) := by decide +kernel
theorem dX4_doGuard_55 : decode cX4_doGuard 55 = .ok (.invokevirtual 49, 3) := by decide +kernel
theorem dX4_doGuard_58 : decode cX4_doGuard 58 = .ok (.ireturn, 1) := by decide +kernel
theorem dX4_doFill_0 : decode cX4_doFill 0 = .ok (.iload_n 1, 1) := by decide +kernel
theorem dX4_doFill_1 : decode cX4_doFill 1 = .ok (.invokestatic 71, 3) := by decide +kernel
theorem dX4_doFill_4 : decode cX4_doFill 4 = .ok (.ifCond .ne 5, 3) := by decide +kernel
theorem dX4_doFill_7 : decode cX4_doFill 7 = .ok (.iconst (-1), 1) := by decide +kernel
theorem dX4_doFill_8 : decode cX4_doFill 8 = .ok (.ireturn, 1) := by decide +kernel
theorem dX4_doFill_9 : decode cX4_doFill 9 = .ok (.iload_n 2, 1) := by decide +kernel
theorem dX4_doFill_10 : decode cX4_doFill 10 = .ok (.iconst 1, 1) := by decide +kernel
theorem dX4_doFill_11 : decode cX4_doFill 11 = .ok (.bipush 99, 2) := by decide +kernel
theorem dX4_doFill_13 : decode cX4_doFill 13 = .ok (.invokestatic 38, 3) := by decide +kernel
theorem dX4_doFill_16 : decode cX4_doFill 16 = .ok (.ifCond .ne 6, 3) := by decide +kernel
theorem dX4_doFill_19 : decode cX4_doFill 19 = .ok (.bipush (-2), 2) := by decide +kernel
theorem dX4_doFill_21 : decode cX4_doFill 21 = .ok (.ireturn, 1) := by decide +kernel
theorem dX4_doFill_22 : decode cX4_doFill 22 = .ok (.aload_n 0, 1) := by decide +kernel
theorem dX4_doFill_23 : decode cX4_doFill 23 = .ok (.iload_n 1, 1) := by decide +kernel
theorem dX4_doFill_24 : decode cX4_doFill 24 = .ok (.iconst 3, 1) := by decide +kernel
theorem dX4_doFill_25 : decode cX4_doFill 25 = .ok (.invokevirtual 49, 3) := by decide +kernel
theorem dX4_doFill_28 : decode cX4_doFill 28 = .ok (.iload_n 2, 1) := by decide +kernel
theorem dX4_doFill_29 : decode cX4_doFill 29 = .ok (.iadd, 1) := by decide +kernel
theorem dX4_doFill_30 : decode cX4_doFill 30 = .ok (.sipush 9999, 3) := by decide +kernel
theorem dX4_doFill_33 : decode cX4_doFill 33 = .ok (.if_icmp .le 6, 3) := by decide +kernel
theorem dX4_doFill_36 : decode cX4_doFill 36 = .ok (.bipush (-3), 2) := by decide +kernel
theorem dX4_doFill_38 : decode cX4_doFill 38 = .ok (.ireturn, 1) := by decide +kernel
theorem dX4_doFill_39 : decode cX4_doFill 39 = .ok (.aload_n 0, 1) := by decide +kernel
theorem dX4_doFill_40 : decode cX4_doFill 40 = .ok (.iload_n 1, 1) := by decide +kernel
theorem dX4_doFill_41 : decode cX4_doFill 41 = .ok (.iconst 3, 1) := by decide +kernel
theorem dX4_doFill_42 : decode cX4_doFill 42 = .ok (.aload_n 0, 1) := by decide +kernel
theorem dX4_doFill_43 : decode cX4_doFill 43 = .ok (.iload_n 1, 1) := by decide +kernel
theorem dX4_doFill_44 : decode cX4_doFill 44 = .ok (.iconst 3, 1) := by decide +kernel
theorem dX4_doFill_45 : decode cX4_doFill 45 = .ok (.invokevirtual 49, 3) := by decide +kernel
theorem dX4_doFill_48 : decode cX4_doFill 48 = .ok (.iload_n 2, 1) := by decide +kernel
theorem dX4_doFill_49 : decode cX4_doFill 49 = .ok (.iadd, 1) := by decide +kernel
theorem dX4_doFill_50 : decode cX4_doFill 50 = .ok (.invokevirtual 34, 3) := by decide +kernel
theorem dX4_doFill_53 : decode cX4_doFill 53 = .ok (.aload_n 0, 1) := by decide +kernel
theorem dX4_doFill_54 : decode cX4_doFill 54 = .ok (.getfield 7, 3) := by decide +kernel
theorem dX4_doFill_57 : decode cX4_doFill 57 = .ok (.iconst 4, 1) := by decide +kernel
theorem dX4_doFill_58 : decode cX4_doFill 58 = .ok (.dup2, 1) := by decide +kernel
theorem dX4_doFill_59 : decode cX4_doFill 59 = .ok (.iaload, 1) := by decide +kernel
theorem dX4_doFill_60 : decode cX4_doFill 60 = .ok (.iload_n 2, 1) := by decide +kernel
theorem dX4_doFill_61 : decode cX4_doFill 61 = .ok (.iadd, 1) := by decide +kernel
theorem dX4_doFill_62 : decode cX4_doFill 62 = .ok (.iastore, 1) := by decide +kernel
theorem dX4_doFill_63 : decode cX4_doFill 63 = .ok (.aload_n 0, 1) := by decide +kernel
theorem dX4_doFill_64 : decode cX4_doFill 64 = .ok (.iload_n 1, 1) := by decide +kernel
theorem dX4_doFill_65 : decode cX4_doFill 65 = .ok (.iconst 3, 1) := by decide +kernel
theorem dX4_doFill_66 : decode cX4_doFill 66 = .ok (.invokevirtual 49, 3) := by decide +kernel
theorem dX4_doFill_69 : decode cX4_doFill 69 = .ok (.ireturn, 1) := by decide +kernel
theorem dX4_doSet_0 : decode cX4_doSet 0 = .ok (.iload_n 1, 1) := by decide +kernel
theorem dX4_doSet_1 : decode cX4_doSet 1 = .ok (.iconst 0, 1) := by decide +kernel
theorem dX4_doSet_2 : decode cX4_doSet 2 = .ok (.iconst 2, 1) := by decide +kernel
theorem dX4_doSet_3 : decode cX4_doSet 3 = .ok (.invokestatic 38, 3) := by decide +kernel
theorem dX4_doSet_6 : decode cX4_doSet 6 = .ok (.ifCond .ne 5, 3) := by decide +kernel
theorem dX4_doSet_9 : decode cX4_doSet 9 = .ok (.iconst (-1), 1) := by decide +kernel
theorem dX4_doSet_10 : decode cX4_doSet 10 = .ok (.ireturn, 1) := by decide +kernel
theorem dX4_doSet_11 : decode cX4_doSet 11 = .ok (.iload_n 2, 1) := by decide +kernel
theorem dX4_doSet_12 : decode cX4_doSet 12 = .ok (.iload_n 1, 1) := by decide +kernel
theorem dX4_doSet_13 : decode cX4_doSet 13 = .ok (.iconst 2, 1) := by decide +kernel
theorem dX4_doSet_14 : decode cX4_doSet 14 = .ok (.if_icmp .ne 7, 3) := by decide +kernel
theorem dX4_doSet_17 : decode cX4_doSet 17 = .ok (.iconst 1, 1) := by decide +kernel
theorem dX4_doSet_18 : decode cX4_doSet 18 = .ok (.goto 4, 3) := by decide +kernel
theorem dX4_doSet_21 : decode cX4_doSet 21 = .ok (.iconst 0, 1) := by decide +kernel
theorem dX4_doSet_22 : decode cX4_doSet 22 = .ok (.iload_n 1, 1) := by decide +kernel
theorem dX4_doSet_23 : decode cX4_doSet 23 = .ok (.iconst 2, 1) := by decide +kernel
theorem dX4_doSet_24 : decode cX4_doSet 24 = .ok (.if_icmp .ne 9, 3) := by decide +kernel
theorem dX4_doSet_27 : decode cX4_doSet 27 = .ok (.sipush 240, 3) := by decide +kernel
theorem dX4_doSet_30 : decode cX4_doSet 30 = .ok (.goto 5, 3) := by decide +kernel
theorem dX4_doSet_33 : decode cX4_doSet 33 = .ok (.bipush 99, 2) := by decide +kernel
theorem dX4_doSet_35 : decode cX4_doSet 35 = .ok (.invokestatic 38, 3) := by decide +kernel
theorem dX4_doSet_38 : decode cX4_doSet 38 = .ok (.ifCond .ne 6, 3) := by decide +kernel
theorem dX4_doSet_41 : decode cX4_doSet 41 = .ok (.bipush (-2), 2) := by decide +kernel
theorem dX4_doSet_43 : decode cX4_doSet 43 = .ok (.ireturn, 1) := by decide +kernel
theorem dX4_doSet_44 : decode cX4_doSet 44 = .ok (.aload_n 0, 1) := by decide +kernel
theorem dX4_doSet_45 : decode cX4_doSet 45 = .ok (.getfield 7, 3) := by decide +kernel
theorem dX4_doSet_48 : decode cX4_doSet 48 = .ok (.iconst 5, 1) := by decide +kernel
theorem dX4_doSet_49 : decode cX4_doSet 49 = .ok (.iload_n 1, 1) := by decide +kernel
theorem dX4_doSet_50 : decode cX4_doSet 50 = .ok (.iadd, 1) := by decide +kernel
theorem dX4_doSet_51 : decode cX4_doSet 51 = .ok (.iaload, 1) := by decide +kernel
theorem dX4_doSet_52 : decode cX4_doSet 52 = .ok (.istore_n 3, 1) := by decide +kernel
theorem dX4_doSet_53 : decode cX4_doSet 53 = .ok (.aload_n 0, 1) := by decide +kernel
theorem dX4_doSet_54 : decode cX4_doSet 54 = .ok (.getfield 7, 3) := by decide +kernel
theorem dX4_doSet_57 : decode cX4_doSet 57 = .ok (.iconst 5, 1) := by decide +kernel
theorem dX4_doSet_58 : decode cX4_doSet 58 = .ok (.iload_n 1, 1) := by decide +kernel
theorem dX4_doSet_59 : decode cX4_doSet 59 = .ok (.iadd, 1) := by decide +kernel
theorem dX4_doSet_60 : decode cX4_doSet 60 = .ok (.iload_n 2, 1) := by decide +kernel
theorem dX4_doSet_61 : decode cX4_doSet 61 = .ok (.iastore, 1) := by decide +kernel
theorem dX4_doSet_62 : decode cX4_doSet 62 = .ok (.iload_n 3, 1) := by decide +kernel
theorem dX4_doSet_63 : decode cX4_doSet 63 = .ok (.iload_n 2, 1) := by decide +kernel
theorem dX4_doSet_64 : decode cX4_doSet 64 = .ok (.if_icmp .ne 8, 3) := by decide +kernel
theorem dX4_doSet_67 : decode cX4_doSet 67 = .ok (.bipush (-5), 2) := by decide +kernel
theorem dX4_doSet_69 : decode cX4_doSet 69 = .ok (.goto 4, 3) := by decide +kernel
theorem dX4_doSet_72 : decode cX4_doSet 72 = .ok (.iload_n 3, 1) := by decide +kernel
theorem dX4_doSet_73 : decode cX4_doSet 73 = .ok (.ireturn, 1) := by decide +kernel
theorem dX4_doPass_0 : decode cX4_doPass 0 = .ok (.iload_n 1, 1) := by decide +kernel
theorem dX4_doPass_1 : decode cX4_doPass 1 = .ok (.iconst 1, 1) := by decide +kernel
theorem dX4_doPass_2 : decode cX4_doPass 2 = .ok (.bipush 99, 2) := by decide +kernel
theorem dX4_doPass_4 : decode cX4_doPass 4 = .ok (.invokestatic 38, 3) := by decide +kernel
theorem dX4_doPass_7 : decode cX4_doPass 7 = .ok (.ifCond .ne 6, 3) := by decide +kernel
theorem dX4_doPass_10 : decode cX4_doPass 10 = .ok (.bipush (-2), 2) := by decide +kernel
theorem dX4_doPass_12 : decode cX4_doPass 12 = .ok (.ireturn, 1) := by decide +kernel
theorem dX4_doPass_13 : decode cX4_doPass 13 = .ok (.aload_n 0, 1) := by decide +kernel
theorem dX4_doPass_14 : decode cX4_doPass 14 = .ok (.getfield 7, 3) := by decide +kernel
theorem dX4_doPass_17 : decode cX4_doPass 17 = .ok (.iconst 0, 1) := by decide +kernel
theorem dX4_doPass_18 : decode cX4_doPass 18 = .ok (.iaload, 1) := by decide +kernel
theorem dX4_doPass_19 : decode cX4_doPass 19 = .ok (.iload_n 1, 1) := by decide +kernel
theorem dX4_doPass_20 : decode cX4_doPass 20 = .ok (.iadd, 1) := by decide +kernel
theorem dX4_doPass_21 : decode cX4_doPass 21 = .ok (.ldc 77, 2) := by decide +kernel
theorem dX4_doPass_23 : decode cX4_doPass 23 = .ok (.if_icmp .le 6, 3) := by decide +kernel
theorem dX4_doPass_26 : decode cX4_doPass 26 = .ok (.bipush (-3), 2) := by decide +kernel
theorem dX4_doPass_28 : decode cX4_doPass 28 = .ok (.ireturn, 1) := by decide +kernel
theorem dX4_doPass_29 : decode cX4_doPass 29 = .ok (.aload_n 0, 1) := by decide +kernel
theorem dX4_doPass_30 : decode cX4_doPass 30 = .ok (.bipush 8, 2) := by decide +kernel
theorem dX4_doPass_32 : decode cX4_doPass 32 = .ok (.invokevirtual 78, 3) := by decide +kernel
theorem dX4_doPass_35 : decode cX4_doPass 35 = .ok (.istore_n 2, 1) := by decide +kernel
theorem dX4_doPass_36 : decode cX4_doPass 36 = .ok (.iconst 0, 1) := by decide +kernel
theorem dX4_doPass_37 : decode cX4_doPass 37 = .ok (.istore_n 3, 1) := by decide +kernel
theorem dX4_doPass_38 : decode cX4_doPass 38 = .ok (.iload_n 3, 1) := by decide +kernel
theorem dX4_doPass_39 : decode cX4_doPass 39 = .ok (.iload_n 1, 1) := by decide +kernel
theorem dX4_doPass_40 : decode cX4_doPass 40 = .ok (.if_icmp .ge 13, 3) := by decide +kernel
theorem dX4_doPass_43 : decode cX4_doPass 43 = .ok (.aload_n 0, 1) := by decide +kernel
theorem dX4_doPass_44 : decode cX4_doPass 44 = .ok (.invokevirtual 81, 3) := by decide +kernel
theorem dX4_doPass_47 : decode cX4_doPass 47 = .ok (.iinc 3 1, 3) := by decide +kernel
theorem dX4_doPass_50 : decode cX4_doPass 50 = .ok (.goto (-12), 3) := by decide +kernel
theorem dX4_doPass_53 : decode cX4_doPass 53 = .ok (.aload_n 0, 1) := by decide +kernel
theorem dX4_doPass_54 : decode cX4_doPass 54 = .ok (.bipush 8, 2) := by decide +kernel
theorem dX4_doPass_56 : decode cX4_doPass 56 = .ok (.invokevirtual 78, 3) := by decide +kernel
theorem dX4_doPass_59 : decode cX4_doPass 59 = .ok (.iload_n 2, 1) := by decide +kernel
theorem dX4_doPass_60 : decode cX4_doPass 60 = .ok (.isub, 1) := by decide +kernel
theorem dX4_doPass_61 : decode cX4_doPass 61 = .ok (.ireturn, 1) := by decide +kernel
theorem dX4_act_0 : decode cX4_act 0 = .ok (.iload_n 1, 1) := by decide +kernel
theorem dX4_act_1 : decode cX4_act 1 = .ok (.ifCond .lt 11, 3) := by decide +kernel
theorem dX4_act_4 : decode cX4_act 4 = .ok (.aload_n 0, 1) := by decide +kernel
theorem dX4_act_5 : decode cX4_act 5 = .ok (.aload_n 0, 1) := by decide +kernel
theorem dX4_act_6 : decode cX4_act 6 = .ok (.getfield 19, 3) := by decide +kernel
theorem dX4_act_9 : decode cX4_act 9 = .ok (.invokevirtual 84, 3) := by decide +kernel
theorem dX4_act_12 : decode cX4_act 12 = .ok (.iload_n 1, 1) := by decide +kernel
theorem dX4_act_13 : decode cX4_act 13 = .ok (.ireturn, 1) := by decide +kernel
theorem dX4_begin_0 : decode cX4_begin 0 = .ok (.aload_n 0, 1) := by decide +kernel
theorem dX4_begin_1 : decode cX4_begin 1 = .ok (.getfield 7, 3) := by decide +kernel
theorem dX4_begin_4 : decode cX4_begin 4 = .ok (.iconst 0, 1) := by decide +kernel
theorem dX4_begin_5 : decode cX4_begin 5 = .ok (.aload_n 0, 1) := by decide +kernel
theorem dX4_begin_6 : decode cX4_begin 6 = .ok (.getfield 19, 3) := by decide +kernel
theorem dX4_begin_9 : decode cX4_begin 9 = .ok (.iconst 0, 1) := by decide +kernel
theorem dX4_begin_10 : decode cX4_begin 10 = .ok (.invokestatic 45, 3) := by decide +kernel
theorem dX4_begin_13 : decode cX4_begin 13 = .ok (.return_, 1) := by decide +kernel
theorem dX4_setCup_0 : decode cX4_setCup 0 = .ok (.aload_n 0, 1) := by decide +kernel
theorem dX4_setCup_1 : decode cX4_setCup 1 = .ok (.invokevirtual 88, 3) := by decide +kernel
theorem dX4_setCup_4 : decode cX4_setCup 4 = .ok (.aload_n 0, 1) := by decide +kernel
theorem dX4_setCup_5 : decode cX4_setCup 5 = .ok (.aload_n 0, 1) := by decide +kernel
theorem dX4_setCup_6 : decode cX4_setCup 6 = .ok (.iload_n 1, 1) := by decide +kernel
theorem dX4_setCup_7 : decode cX4_setCup 7 = .ok (.iload_n 2, 1) := by decide +kernel
theorem dX4_setCup_8 : decode cX4_setCup 8 = .ok (.iload_n 3, 1) := by decide +kernel
theorem dX4_setCup_9 : decode cX4_setCup 9 = .ok (.invokevirtual 91, 3) := by decide +kernel
theorem dX4_setCup_12 : decode cX4_setCup 12 = .ok (.invokevirtual 95, 3) := by decide +kernel
theorem dX4_setCup_15 : decode cX4_setCup 15 = .ok (.ireturn, 1) := by decide +kernel
theorem dX4_turnLock_0 : decode cX4_turnLock 0 = .ok (.aload_n 0, 1) := by decide +kernel
theorem dX4_turnLock_1 : decode cX4_turnLock 1 = .ok (.invokevirtual 88, 3) := by decide +kernel
theorem dX4_turnLock_4 : decode cX4_turnLock 4 = .ok (.aload_n 0, 1) := by decide +kernel
theorem dX4_turnLock_5 : decode cX4_turnLock 5 = .ok (.aload_n 0, 1) := by decide +kernel
theorem dX4_turnLock_6 : decode cX4_turnLock 6 = .ok (.iload_n 1, 1) := by decide +kernel
theorem dX4_turnLock_7 : decode cX4_turnLock 7 = .ok (.invokevirtual 98, 3) := by decide +kernel
theorem dX4_turnLock_10 : decode cX4_turnLock 10 = .ok (.invokevirtual 95, 3) := by decide +kernel
theorem dX4_turnLock_13 : decode cX4_turnLock 13 = .ok (.ireturn, 1) := by decide +kernel
theorem dX4_setHour_0 : decode cX4_setHour 0 = .ok (.aload_n 0, 1) := by decide +kernel
theorem dX4_setHour_1 : decode cX4_setHour 1 = .ok (.invokevirtual 88, 3) := by decide +kernel
theorem dX4_setHour_4 : decode cX4_setHour 4 = .ok (.aload_n 0, 1) := by decide +kernel
theorem dX4_setHour_5 : decode cX4_setHour 5 = .ok (.aload_n 0, 1) := by decide +kernel
theorem dX4_setHour_6 : decode cX4_setHour 6 = .ok (.iload_n 1, 1) := by decide +kernel
theorem dX4_setHour_7 : decode cX4_setHour 7 = .ok (.iload_n 2, 1) := by decide +kernel
theorem dX4_setHour_8 : decode cX4_setHour 8 = .ok (.invokevirtual 101, 3) := by decide +kernel
theorem dX4_setHour_11 : decode cX4_setHour 11 = .ok (.invokevirtual 95, 3) := by decide +kernel
theorem dX4_setHour_14 : decode cX4_setHour 14 = .ok (.ireturn, 1) := by decide +kernel
theorem dX4_guard_0 : decode cX4_guard 0 = .ok (.aload_n 0, 1) := by decide +kernel
theorem dX4_guard_1 : decode cX4_guard 1 = .ok (.invokevirtual 88, 3) := by decide +kernel
theorem dX4_guard_4 : decode cX4_guard 4 = .ok (.aload_n 0, 1) := by decide +kernel
theorem dX4_guard_5 : decode cX4_guard 5 = .ok (.aload_n 0, 1) := by decide +kernel
theorem dX4_guard_6 : decode cX4_guard 6 = .ok (.iload_n 1, 1) := by decide +kernel
theorem dX4_guard_7 : decode cX4_guard 7 = .ok (.invokevirtual 104, 3) := by decide +kernel
theorem dX4_guard_10 : decode cX4_guard 10 = .ok (.invokevirtual 95, 3) := by decide +kernel
theorem dX4_guard_13 : decode cX4_guard 13 = .ok (.ireturn, 1) := by decide +kernel
theorem dX4_fill_0 : decode cX4_fill 0 = .ok (.aload_n 0, 1) := by decide +kernel
theorem dX4_fill_1 : decode cX4_fill 1 = .ok (.invokevirtual 88, 3) := by decide +kernel
theorem dX4_fill_4 : decode cX4_fill 4 = .ok (.aload_n 0, 1) := by decide +kernel
theorem dX4_fill_5 : decode cX4_fill 5 = .ok (.aload_n 0, 1) := by decide +kernel
theorem dX4_fill_6 : decode cX4_fill 6 = .ok (.iload_n 1, 1) := by decide +kernel
theorem dX4_fill_7 : decode cX4_fill 7 = .ok (.iload_n 2, 1) := by decide +kernel
theorem dX4_fill_8 : decode cX4_fill 8 = .ok (.invokevirtual 107, 3) := by decide +kernel
theorem dX4_fill_11 : decode cX4_fill 11 = .ok (.invokevirtual 95, 3) := by decide +kernel
theorem dX4_fill_14 : decode cX4_fill 14 = .ok (.ireturn, 1) := by decide +kernel
theorem dX4_set_0 : decode cX4_set 0 = .ok (.aload_n 0, 1) := by decide +kernel
theorem dX4_set_1 : decode cX4_set 1 = .ok (.invokevirtual 88, 3) := by decide +kernel
theorem dX4_set_4 : decode cX4_set 4 = .ok (.aload_n 0, 1) := by decide +kernel
theorem dX4_set_5 : decode cX4_set 5 = .ok (.aload_n 0, 1) := by decide +kernel
theorem dX4_set_6 : decode cX4_set 6 = .ok (.iload_n 1, 1) := by decide +kernel
theorem dX4_set_7 : decode cX4_set 7 = .ok (.iload_n 2, 1) := by decide +kernel
theorem dX4_set_8 : decode cX4_set 8 = .ok (.invokevirtual 110, 3) := by decide +kernel
theorem dX4_set_11 : decode cX4_set 11 = .ok (.invokevirtual 95, 3) := by decide +kernel
theorem dX4_set_14 : decode cX4_set 14 = .ok (.ireturn, 1) := by decide +kernel
theorem dX4_pass_0 : decode cX4_pass 0 = .ok (.aload_n 0, 1) := by decide +kernel
theorem dX4_pass_1 : decode cX4_pass 1 = .ok (.invokevirtual 88, 3) := by decide +kernel
theorem dX4_pass_4 : decode cX4_pass 4 = .ok (.aload_n 0, 1) := by decide +kernel
theorem dX4_pass_5 : decode cX4_pass 5 = .ok (.aload_n 0, 1) := by decide +kernel
theorem dX4_pass_6 : decode cX4_pass 6 = .ok (.iload_n 1, 1) := by decide +kernel
theorem dX4_pass_7 : decode cX4_pass 7 = .ok (.invokevirtual 113, 3) := by decide +kernel
theorem dX4_pass_10 : decode cX4_pass 10 = .ok (.invokevirtual 95, 3) := by decide +kernel
theorem dX4_pass_13 : decode cX4_pass 13 = .ok (.ireturn, 1) := by decide +kernel
theorem dX4_type_0 : decode cX4_type 0 = .ok (.aload_n 0, 1) := by decide +kernel
theorem dX4_type_1 : decode cX4_type 1 = .ok (.getfield 116, 3) := by decide +kernel
theorem dX4_type_4 : decode cX4_type 4 = .ok (.bipush 60, 2) := by decide +kernel
theorem dX4_type_6 : decode cX4_type 6 = .ok (.if_icmp .ne 6, 3) := by decide +kernel
theorem dX4_type_9 : decode cX4_type 9 = .ok (.bipush (-3), 2) := by decide +kernel
theorem dX4_type_11 : decode cX4_type 11 = .ok (.ireturn, 1) := by decide +kernel
theorem dX4_type_12 : decode cX4_type 12 = .ok (.aload_n 0, 1) := by decide +kernel
theorem dX4_type_13 : decode cX4_type 13 = .ok (.getfield 22, 3) := by decide +kernel
theorem dX4_type_16 : decode cX4_type 16 = .ok (.aload_n 0, 1) := by decide +kernel
theorem dX4_type_17 : decode cX4_type 17 = .ok (.getfield 116, 3) := by decide +kernel
theorem dX4_type_20 : decode cX4_type 20 = .ok (.iload_n 1, 1) := by decide +kernel
theorem dX4_type_21 : decode cX4_type 21 = .ok (.castore, 1) := by decide +kernel
theorem dX4_type_22 : decode cX4_type 22 = .ok (.aload_n 0, 1) := by decide +kernel
theorem dX4_type_23 : decode cX4_type 23 = .ok (.dup, 1) := by decide +kernel
theorem dX4_type_24 : decode cX4_type 24 = .ok (.getfield 116, 3) := by decide +kernel
theorem dX4_type_27 : decode cX4_type 27 = .ok (.iconst 1, 1) := by decide +kernel
theorem dX4_type_28 : decode cX4_type 28 = .ok (.iadd, 1) := by decide +kernel
theorem dX4_type_29 : decode cX4_type 29 = .ok (.putfield 116, 3) := by decide +kernel
theorem dX4_type_32 : decode cX4_type 32 = .ok (.aload_n 0, 1) := by decide +kernel
theorem dX4_type_33 : decode cX4_type 33 = .ok (.getfield 116, 3) := by decide +kernel
theorem dX4_type_36 : decode cX4_type 36 = .ok (.ireturn, 1) := by decide +kernel
theorem dX4_clearText_0 : decode cX4_clearText 0 = .ok (.aload_n 0, 1) := by decide +kernel
theorem dX4_clearText_1 : decode cX4_clearText 1 = .ok (.getfield 116, 3) := by decide +kernel
theorem dX4_clearText_4 : decode cX4_clearText 4 = .ok (.istore_n 1, 1) := by decide +kernel
theorem dX4_clearText_5 : decode cX4_clearText 5 = .ok (.aload_n 0, 1) := by decide +kernel
theorem dX4_clearText_6 : decode cX4_clearText 6 = .ok (.iconst 0, 1) := by decide +kernel
theorem dX4_clearText_7 : decode cX4_clearText 7 = .ok (.putfield 116, 3) := by decide +kernel
theorem dX4_clearText_10 : decode cX4_clearText 10 = .ok (.iload_n 1, 1) := by decide +kernel
theorem dX4_clearText_11 : decode cX4_clearText 11 = .ok (.ireturn, 1) := by decide +kernel
theorem dX4_isNext_0 : decode cX4_isNext 0 = .ok (.aload_n 0, 1) := by decide +kernel
theorem dX4_isNext_1 : decode cX4_isNext 1 = .ok (.getfield 119, 3) := by decide +kernel
theorem dX4_isNext_4 : decode cX4_isNext 4 = .ok (.aload_n 0, 1) := by decide +kernel
theorem dX4_isNext_5 : decode cX4_isNext 5 = .ok (.getfield 116, 3) := by decide +kernel
theorem dX4_isNext_8 : decode cX4_isNext 8 = .ok (.if_icmp .ge 24, 3) := by decide +kernel
theorem dX4_isNext_11 : decode cX4_isNext 11 = .ok (.aload_n 0, 1) := by decide +kernel
theorem dX4_isNext_12 : decode cX4_isNext 12 = .ok (.getfield 22, 3) := by decide +kernel
theorem dX4_isNext_15 : decode cX4_isNext 15 = .ok (.aload_n 0, 1) := by decide +kernel
theorem dX4_isNext_16 : decode cX4_isNext 16 = .ok (.getfield 119, 3) := by decide +kernel
theorem dX4_isNext_19 : decode cX4_isNext 19 = .ok (.caload, 1) := by decide +kernel
theorem dX4_isNext_20 : decode cX4_isNext 20 = .ok (.iload_n 1, 1) := by decide +kernel
theorem dX4_isNext_21 : decode cX4_isNext 21 = .ok (.iload_n 2, 1) := by decide +kernel
theorem dX4_isNext_22 : decode cX4_isNext 22 = .ok (.invokestatic 38, 3) := by decide +kernel
theorem dX4_isNext_25 : decode cX4_isNext 25 = .ok (.ifCond .eq 7, 3) := by decide +kernel
theorem dX4_isNext_28 : decode cX4_isNext 28 = .ok (.iconst 1, 1) := by decide +kernel
theorem dX4_isNext_29 : decode cX4_isNext 29 = .ok (.goto 4, 3) := by decide +kernel
theorem dX4_isNext_32 : decode cX4_isNext 32 = .ok (.iconst 0, 1) := by decide +kernel
theorem dX4_isNext_33 : decode cX4_isNext 33 = .ok (.ireturn, 1) := by decide +kernel
theorem dX4_takes_0 : decode cX4_takes 0 = .ok (.aload_n 0, 1) := by decide +kernel
theorem dX4_takes_1 : decode cX4_takes 1 = .ok (.iload_n 1, 1) := by decide +kernel
theorem dX4_takes_2 : decode cX4_takes 2 = .ok (.iload_n 1, 1) := by decide +kernel
theorem dX4_takes_3 : decode cX4_takes 3 = .ok (.invokevirtual 122, 3) := by decide +kernel
theorem dX4_takes_6 : decode cX4_takes 6 = .ok (.istore_n 2, 1) := by decide +kernel
theorem dX4_takes_7 : decode cX4_takes 7 = .ok (.aload_n 0, 1) := by decide +kernel
theorem dX4_takes_8 : decode cX4_takes 8 = .ok (.dup, 1) := by decide +kernel
theorem dX4_takes_9 : decode cX4_takes 9 = .ok (.getfield 119, 3) := by decide +kernel
theorem dX4_takes_12 : decode cX4_takes 12 = .ok (.iload_n 2, 1) := by decide +kernel
theorem dX4_takes_13 : decode cX4_takes 13 = .ok (.ifCond .eq 7, 3) := by decide +kernel
theorem dX4_takes_16 : decode cX4_takes 16 = .ok (.iconst 1, 1) := by decide +kernel
theorem dX4_takes_17 : decode cX4_takes 17 = .ok (.goto 4, 3) := by decide +kernel
theorem dX4_takes_20 : decode cX4_takes 20 = .ok (.iconst 0, 1) := by decide +kernel
theorem dX4_takes_21 : decode cX4_takes 21 = .ok (.iadd, 1) := by decide +kernel
theorem dX4_takes_22 : decode cX4_takes 22 = .ok (.putfield 119, 3) := by decide +kernel
theorem dX4_takes_25 : decode cX4_takes 25 = .ok (.iload_n 2, 1) := by decide +kernel
theorem dX4_takes_26 : decode cX4_takes 26 = .ok (.ireturn, 1) := by decide +kernel
theorem dX4_readCup_0 : decode cX4_readCup 0 = .ok (.aload_n 0, 1) := by decide +kernel
theorem dX4_readCup_1 : decode cX4_readCup 1 = .ok (.bipush 48, 2) := by decide +kernel
theorem dX4_readCup_3 : decode cX4_readCup 3 = .ok (.bipush 55, 2) := by decide +kernel
theorem dX4_readCup_5 : decode cX4_readCup 5 = .ok (.invokevirtual 122, 3) := by decide +kernel
theorem dX4_readCup_8 : decode cX4_readCup 8 = .ok (.istore_n 1, 1) := by decide +kernel
theorem dX4_readCup_9 : decode cX4_readCup 9 = .ok (.aload_n 0, 1) := by decide +kernel
theorem dX4_readCup_10 : decode cX4_readCup 10 = .ok (.iload_n 1, 1) := by decide +kernel
theorem dX4_readCup_11 : decode cX4_readCup 11 = .ok (.ifCond .eq 18, 3) := by decide +kernel
theorem dX4_readCup_14 : decode cX4_readCup 14 = .ok (.aload_n 0, 1) := by decide +kernel
theorem dX4_readCup_15 : decode cX4_readCup 15 = .ok (.getfield 22, 3) := by decide +kernel
theorem dX4_readCup_18 : decode cX4_readCup 18 = .ok (.aload_n 0, 1) := by decide +kernel
theorem dX4_readCup_19 : decode cX4_readCup 19 = .ok (.getfield 119, 3) := by decide +kernel
theorem dX4_readCup_22 : decode cX4_readCup 22 = .ok (.caload, 1) := by decide +kernel
theorem dX4_readCup_23 : decode cX4_readCup 23 = .ok (.bipush 48, 2) := by decide +kernel
theorem dX4_readCup_25 : decode cX4_readCup 25 = .ok (.isub, 1) := by decide +kernel
theorem dX4_readCup_26 : decode cX4_readCup 26 = .ok (.goto 4, 3) := by decide +kernel
theorem dX4_readCup_29 : decode cX4_readCup 29 = .ok (.iconst 0, 1) := by decide +kernel
theorem dX4_readCup_30 : decode cX4_readCup 30 = .ok (.putfield 126, 3) := by decide +kernel
theorem dX4_readCup_33 : decode cX4_readCup 33 = .ok (.aload_n 0, 1) := by decide +kernel
theorem dX4_readCup_34 : decode cX4_readCup 34 = .ok (.dup, 1) := by decide +kernel
theorem dX4_readCup_35 : decode cX4_readCup 35 = .ok (.getfield 119, 3) := by decide +kernel
theorem dX4_readCup_38 : decode cX4_readCup 38 = .ok (.iload_n 1, 1) := by decide +kernel
theorem dX4_readCup_39 : decode cX4_readCup 39 = .ok (.ifCond .eq 7, 3) := by decide +kernel
theorem dX4_readCup_42 : decode cX4_readCup 42 = .ok (.iconst 1, 1) := by decide +kernel
theorem dX4_readCup_43 : decode cX4_readCup 43 = .ok (.goto 4, 3) := by decide +kernel
theorem dX4_readCup_46 : decode cX4_readCup 46 = .ok (.iconst 0, 1) := by decide +kernel
theorem dX4_readCup_47 : decode cX4_readCup 47 = .ok (.iadd, 1) := by decide +kernel
theorem dX4_readCup_48 : decode cX4_readCup 48 = .ok (.putfield 119, 3) := by decide +kernel
theorem dX4_readCup_51 : decode cX4_readCup 51 = .ok (.iload_n 1, 1) := by decide +kernel
theorem dX4_readCup_52 : decode cX4_readCup 52 = .ok (.ireturn, 1) := by decide +kernel
theorem dX4_readNumber_0 : decode cX4_readNumber 0 = .ok (.aload_n 0, 1) := by decide +kernel
theorem dX4_readNumber_1 : decode cX4_readNumber 1 = .ok (.bipush 48, 2) := by decide +kernel
theorem dX4_readNumber_3 : decode cX4_readNumber 3 = .ok (.iload_n 1, 1) := by decide +kernel
theorem dX4_readNumber_4 : decode cX4_readNumber 4 = .ok (.iadd, 1) := by decide +kernel
theorem dX4_readNumber_5 : decode cX4_readNumber 5 = .ok (.bipush 57, 2) := by decide +kernel
theorem dX4_readNumber_7 : decode cX4_readNumber 7 = .ok (.invokevirtual 122, 3) := by decide +kernel
theorem dX4_readNumber_10 : decode cX4_readNumber 10 = .ok (.ifCond .ne 5, 3) := by decide +kernel
theorem dX4_readNumber_13 : decode cX4_readNumber 13 = .ok (.iconst 0, 1) := by decide +kernel
theorem dX4_readNumber_14 : decode cX4_readNumber 14 = .ok (.ireturn, 1) := by decide +kernel
theorem dX4_readNumber_15 : decode cX4_readNumber 15 = .ok (.aload_n 0, 1) := by decide +kernel
theorem dX4_readNumber_16 : decode cX4_readNumber 16 = .ok (.aload_n 0, 1) := by decide +kernel
theorem dX4_readNumber_17 : decode cX4_readNumber 17 = .ok (.getfield 22, 3) := by decide +kernel
theorem dX4_readNumber_20 : decode cX4_readNumber 20 = .ok (.aload_n 0, 1) := by decide +kernel
theorem dX4_readNumber_21 : decode cX4_readNumber 21 = .ok (.getfield 119, 3) := by decide +kernel
theorem dX4_readNumber_24 : decode cX4_readNumber 24 = .ok (.caload, 1) := by decide +kernel
theorem dX4_readNumber_25 : decode cX4_readNumber 25 = .ok (.bipush 48, 2) := by decide +kernel
theorem dX4_readNumber_27 : decode cX4_readNumber 27 = .ok (.isub, 1) := by decide +kernel
theorem dX4_readNumber_28 : decode cX4_readNumber 28 = .ok (.putfield 129, 3) := by decide +kernel
theorem dX4_readNumber_31 : decode cX4_readNumber 31 = .ok (.aload_n 0, 1) := by decide +kernel
theorem dX4_readNumber_32 : decode cX4_readNumber 32 = .ok (.dup, 1) := by decide +kernel
theorem dX4_readNumber_33 : decode cX4_readNumber 33 = .ok (.getfield 119, 3) := by decide +kernel
theorem dX4_readNumber_36 : decode cX4_readNumber 36 = .ok (.iconst 1, 1) := by decide +kernel
theorem dX4_readNumber_37 : decode cX4_readNumber 37 = .ok (.iadd, 1) := by decide +kernel
theorem dX4_readNumber_38 : decode cX4_readNumber 38 = .ok (.putfield 119, 3) := by decide +kernel
theorem dX4_readNumber_41 : decode cX4_readNumber 41 = .ok (.aload_n 0, 1) := by decide +kernel
theorem dX4_readNumber_42 : decode cX4_readNumber 42 = .ok (.getfield 129, 3) := by decide +kernel
theorem dX4_readNumber_45 : decode cX4_readNumber 45 = .ok (.ifCond .le 75, 3) := by decide +kernel
theorem dX4_readNumber_48 : decode cX4_readNumber 48 = .ok (.aload_n 0, 1) := by decide +kernel
theorem dX4_readNumber_49 : decode cX4_readNumber 49 = .ok (.bipush 48, 2) := by decide +kernel
theorem dX4_readNumber_51 : decode cX4_readNumber 51 = .ok (.bipush 57, 2) := by decide +kernel
theorem dX4_readNumber_53 : decode cX4_readNumber 53 = .ok (.invokevirtual 122, 3) := by decide +kernel
theorem dX4_readNumber_56 : decode cX4_readNumber 56 = .ok (.ifCond .eq 64, 3) := by decide +kernel
theorem dX4_readNumber_59 : decode cX4_readNumber 59 = .ok (.bipush 10, 2) := by decide +kernel
theorem dX4_readNumber_61 : decode cX4_readNumber 61 = .ok (.aload_n 0, 1) := by decide +kernel
theorem dX4_readNumber_62 : decode cX4_readNumber 62 = .ok (.getfield 129, 3) := by decide +kernel
theorem dX4_readNumber_65 : decode cX4_readNumber 65 = .ok (.imul, 1) := by decide +kernel
theorem dX4_readNumber_66 : decode cX4_readNumber 66 = .ok (.aload_n 0, 1) := by decide +kernel
theorem dX4_readNumber_67 : decode cX4_readNumber 67 = .ok (.getfield 22, 3) := by decide +kernel
theorem dX4_readNumber_70 : decode cX4_readNumber 70 = .ok (.aload_n 0, 1) := by decide +kernel
theorem dX4_readNumber_71 : decode cX4_readNumber 71 = .ok (.getfield 119, 3) := by decide +kernel
theorem dX4_readNumber_74 : decode cX4_readNumber 74 = .ok (.caload, 1) := by decide +kernel
theorem dX4_readNumber_75 : decode cX4_readNumber 75 = .ok (.iadd, 1) := by decide +kernel
theorem dX4_readNumber_76 : decode cX4_readNumber 76 = .ok (.bipush 48, 2) := by decide +kernel
theorem dX4_readNumber_78 : decode cX4_readNumber 78 = .ok (.isub, 1) := by decide +kernel
theorem dX4_readNumber_79 : decode cX4_readNumber 79 = .ok (.iload_n 2, 1) := by decide +kernel
theorem dX4_readNumber_80 : decode cX4_readNumber 80 = .ok (.if_icmp .gt 40, 3) := by decide +kernel
theorem dX4_readNumber_83 : decode cX4_readNumber 83 = .ok (.aload_n 0, 1) := by decide +kernel
theorem dX4_readNumber_84 : decode cX4_readNumber 84 = .ok (.bipush 10, 2) := by decide +kernel
theorem dX4_readNumber_86 : decode cX4_readNumber 86 = .ok (.aload_n 0, 1) := by decide +kernel
theorem dX4_readNumber_87 : decode cX4_readNumber 87 = .ok (.getfield 129, 3) := by decide +kernel
theorem dX4_readNumber_90 : decode cX4_readNumber 90 = .ok (.imul, 1) := by decide +kernel
theorem dX4_readNumber_91 : decode cX4_readNumber 91 = .ok (.aload_n 0, 1) := by decide +kernel
theorem dX4_readNumber_92 : decode cX4_readNumber 92 = .ok (.getfield 22, 3) := by decide +kernel
theorem dX4_readNumber_95 : decode cX4_readNumber 95 = .ok (.aload_n 0, 1) := by decide +kernel
theorem dX4_readNumber_96 : decode cX4_readNumber 96 = .ok (.getfield 119, 3) := by decide +kernel
theorem dX4_readNumber_99 : decode cX4_readNumber 99 = .ok (.caload, 1) := by decide +kernel
theorem dX4_readNumber_100 : decode cX4_readNumber 100 = .ok (.iadd, 1) := by decide +kernel
theorem dX4_readNumber_101 : decode cX4_readNumber 101 = .ok (.bipush 48, 2) := by decide +kernel
theorem dX4_readNumber_103 : decode cX4_readNumber 103 = .ok (.isub, 1) := by decide +kernel
theorem dX4_readNumber_104 : decode cX4_readNumber 104 = .ok (.putfield 129, 3) := by decide +kernel
theorem dX4_readNumber_107 : decode cX4_readNumber 107 = .ok (.aload_n 0, 1) := by decide +kernel
theorem dX4_readNumber_108 : decode cX4_readNumber 108 = .ok (.dup, 1) := by decide +kernel
theorem dX4_readNumber_109 : decode cX4_readNumber 109 = .ok (.getfield 119, 3) := by decide +kernel
theorem dX4_readNumber_112 : decode cX4_readNumber 112 = .ok (.iconst 1, 1) := by decide +kernel
theorem dX4_readNumber_113 : decode cX4_readNumber 113 = .ok (.iadd, 1) := by decide +kernel
theorem dX4_readNumber_114 : decode cX4_readNumber 114 = .ok (.putfield 119, 3) := by decide +kernel
theorem dX4_readNumber_117 : decode cX4_readNumber 117 = .ok (.goto (-76), 3) := by decide +kernel
theorem dX4_readNumber_120 : decode cX4_readNumber 120 = .ok (.iconst 1, 1) := by decide +kernel
theorem dX4_readNumber_121 : decode cX4_readNumber 121 = .ok (.ireturn, 1) := by decide +kernel
theorem dX4_readThing_0 : decode cX4_readThing 0 = .ok (.aload_n 0, 1) := by decide +kernel
theorem dX4_readThing_1 : decode cX4_readThing 1 = .ok (.aload_n 0, 1) := by decide +kernel
theorem dX4_readThing_2 : decode cX4_readThing 2 = .ok (.getfield 119, 3) := by decide +kernel
theorem dX4_readThing_5 : decode cX4_readThing 5 = .ok (.aload_n 0, 1) := by decide +kernel
theorem dX4_readThing_6 : decode cX4_readThing 6 = .ok (.getfield 116, 3) := by decide +kernel
theorem dX4_readThing_9 : decode cX4_readThing 9 = .ok (.if_icmp .ge 15, 3) := by decide +kernel
theorem dX4_readThing_12 : decode cX4_readThing 12 = .ok (.aload_n 0, 1) := by decide +kernel
theorem dX4_readThing_13 : decode cX4_readThing 13 = .ok (.getfield 22, 3) := by decide +kernel
theorem dX4_readThing_16 : decode cX4_readThing 16 = .ok (.aload_n 0, 1) := by decide +kernel
theorem dX4_readThing_17 : decode cX4_readThing 17 = .ok (.getfield 119, 3) := by decide +kernel
theorem dX4_readThing_20 : decode cX4_readThing 20 = .ok (.caload, 1) := by decide +kernel
theorem dX4_readThing_21 : decode cX4_readThing 21 = .ok (.goto 4, 3) := by decide +kernel
theorem dX4_readThing_24 : decode cX4_readThing 24 = .ok (.iconst 0, 1) := by decide +kernel
theorem dX4_readThing_25 : decode cX4_readThing 25 = .ok (.putfield 132, 3) := by decide +kernel
theorem dX4_readThing_28 : decode cX4_readThing 28 = .ok (.aload_n 0, 1) := by decide +kernel
theorem dX4_readThing_29 : decode cX4_readThing 29 = .ok (.dup, 1) := by decide +kernel
theorem dX4_readThing_30 : decode cX4_readThing 30 = .ok (.getfield 119, 3) := by decide +kernel
theorem dX4_readThing_33 : decode cX4_readThing 33 = .ok (.iconst 1, 1) := by decide +kernel
theorem dX4_readThing_34 : decode cX4_readThing 34 = .ok (.iadd, 1) := by decide +kernel
theorem dX4_readThing_35 : decode cX4_readThing 35 = .ok (.putfield 119, 3) := by decide +kernel
theorem dX4_readThing_38 : decode cX4_readThing 38 = .ok (.aload_n 0, 1) := by decide +kernel
theorem dX4_readThing_39 : decode cX4_readThing 39 = .ok (.getfield 132, 3) := by decide +kernel
theorem dX4_readThing_42 : decode cX4_readThing 42 = .ok (.lookupswitch 160 #[(46, 152), (102, 115), (103, 147), (104, 50), (115, 83)], 50) := by decide +kernel
theorem dX4_readThing_92 : decode cX4_readThing 92 = .ok (.aload_n 0, 1) := by decide +kernel
theorem dX4_readThing_93 : decode cX4_readThing 93 = .ok (.invokevirtual 135, 3) := by decide +kernel
theorem dX4_readThing_96 : decode cX4_readThing 96 = .ok (.ifCond .eq 27, 3) := by decide +kernel
theorem dX4_readThing_99 : decode cX4_readThing 99 = .ok (.aload_n 0, 1) := by decide +kernel
theorem dX4_readThing_100 : decode cX4_readThing 100 = .ok (.bipush 64, 2) := by decide +kernel
theorem dX4_readThing_102 : decode cX4_readThing 102 = .ok (.invokevirtual 139, 3) := by decide +kernel
theorem dX4_readThing_105 : decode cX4_readThing 105 = .ok (.ifCond .eq 18, 3) := by decide +kernel
theorem dX4_readThing_108 : decode cX4_readThing 108 = .ok (.aload_n 0, 1) := by decide +kernel
theorem dX4_readThing_109 : decode cX4_readThing 109 = .ok (.iconst 0, 1) := by decide +kernel
theorem dX4_readThing_110 : decode cX4_readThing 110 = .ok (.sipush 239, 3) := by decide +kernel
theorem dX4_readThing_113 : decode cX4_readThing 113 = .ok (.invokevirtual 142, 3) := by decide +kernel
theorem dX4_readThing_116 : decode cX4_readThing 116 = .ok (.ifCond .eq 7, 3) := by decide +kernel
theorem dX4_readThing_119 : decode cX4_readThing 119 = .ok (.iconst 1, 1) := by decide +kernel
theorem dX4_readThing_120 : decode cX4_readThing 120 = .ok (.goto 4, 3) := by decide +kernel
theorem dX4_readThing_123 : decode cX4_readThing 123 = .ok (.iconst 0, 1) := by decide +kernel
theorem dX4_readThing_124 : decode cX4_readThing 124 = .ok (.ireturn, 1) := by decide +kernel
theorem dX4_readThing_125 : decode cX4_readThing 125 = .ok (.aload_n 0, 1) := by decide +kernel
theorem dX4_readThing_126 : decode cX4_readThing 126 = .ok (.invokevirtual 135, 3) := by decide +kernel
theorem dX4_readThing_129 : decode cX4_readThing 129 = .ok (.ifCond .eq 26, 3) := by decide +kernel
theorem dX4_readThing_132 : decode cX4_readThing 132 = .ok (.aload_n 0, 1) := by decide +kernel
theorem dX4_readThing_133 : decode cX4_readThing 133 = .ok (.bipush 61, 2) := by decide +kernel
theorem dX4_readThing_135 : decode cX4_readThing 135 = .ok (.invokevirtual 139, 3) := by decide +kernel
theorem dX4_readThing_138 : decode cX4_readThing 138 = .ok (.ifCond .eq 17, 3) := by decide +kernel
theorem dX4_readThing_141 : decode cX4_readThing 141 = .ok (.aload_n 0, 1) := by decide +kernel
theorem dX4_readThing_142 : decode cX4_readThing 142 = .ok (.iconst 1, 1) := by decide +kernel
theorem dX4_readThing_143 : decode cX4_readThing 143 = .ok (.bipush 99, 2) := by decide +kernel
theorem dX4_readThing_145 : decode cX4_readThing 145 = .ok (.invokevirtual 142, 3) := by decide +kernel
theorem dX4_readThing_148 : decode cX4_readThing 148 = .ok (.ifCond .eq 7, 3) := by decide +kernel
theorem dX4_readThing_151 : decode cX4_readThing 151 = .ok (.iconst 1, 1) := by decide +kernel
theorem dX4_readThing_152 : decode cX4_readThing 152 = .ok (.goto 4, 3) := by decide +kernel
theorem dX4_readThing_155 : decode cX4_readThing 155 = .ok (.iconst 0, 1) := by decide +kernel
theorem dX4_readThing_156 : decode cX4_readThing 156 = .ok (.ireturn, 1) := by decide +kernel
theorem dX4_readThing_157 : decode cX4_readThing 157 = .ok (.aload_n 0, 1) := by decide +kernel
theorem dX4_readThing_158 : decode cX4_readThing 158 = .ok (.invokevirtual 135, 3) := by decide +kernel
theorem dX4_readThing_161 : decode cX4_readThing 161 = .ok (.ifCond .eq 26, 3) := by decide +kernel
theorem dX4_readThing_164 : decode cX4_readThing 164 = .ok (.aload_n 0, 1) := by decide +kernel
theorem dX4_readThing_165 : decode cX4_readThing 165 = .ok (.bipush 43, 2) := by decide +kernel
theorem dX4_readThing_167 : decode cX4_readThing 167 = .ok (.invokevirtual 139, 3) := by decide +kernel
theorem dX4_readThing_170 : decode cX4_readThing 170 = .ok (.ifCond .eq 17, 3) := by decide +kernel
theorem dX4_readThing_173 : decode cX4_readThing 173 = .ok (.aload_n 0, 1) := by decide +kernel
theorem dX4_readThing_174 : decode cX4_readThing 174 = .ok (.iconst 1, 1) := by decide +kernel
theorem dX4_readThing_175 : decode cX4_readThing 175 = .ok (.bipush 99, 2) := by decide +kernel
theorem dX4_readThing_177 : decode cX4_readThing 177 = .ok (.invokevirtual 142, 3) := by decide +kernel
theorem dX4_readThing_180 : decode cX4_readThing 180 = .ok (.ifCond .eq 7, 3) := by decide +kernel
theorem dX4_readThing_183 : decode cX4_readThing 183 = .ok (.iconst 1, 1) := by decide +kernel
theorem dX4_readThing_184 : decode cX4_readThing 184 = .ok (.goto 4, 3) := by decide +kernel
theorem dX4_readThing_187 : decode cX4_readThing 187 = .ok (.iconst 0, 1) := by decide +kernel
theorem dX4_readThing_188 : decode cX4_readThing 188 = .ok (.ireturn, 1) := by decide +kernel
theorem dX4_readThing_189 : decode cX4_readThing 189 = .ok (.aload_n 0, 1) := by decide +kernel
theorem dX4_readThing_190 : decode cX4_readThing 190 = .ok (.invokevirtual 135, 3) := by decide +kernel
theorem dX4_readThing_193 : decode cX4_readThing 193 = .ok (.ireturn, 1) := by decide +kernel
theorem dX4_readThing_194 : decode cX4_readThing 194 = .ok (.aload_n 0, 1) := by decide +kernel
theorem dX4_readThing_195 : decode cX4_readThing 195 = .ok (.iconst 1, 1) := by decide +kernel
theorem dX4_readThing_196 : decode cX4_readThing 196 = .ok (.bipush 99, 2) := by decide +kernel
theorem dX4_readThing_198 : decode cX4_readThing 198 = .ok (.invokevirtual 142, 3) := by decide +kernel
theorem dX4_readThing_201 : decode cX4_readThing 201 = .ok (.ireturn, 1) := by decide +kernel
theorem dX4_readThing_202 : decode cX4_readThing 202 = .ok (.aload_n 0, 1) := by decide +kernel
theorem dX4_readThing_203 : decode cX4_readThing 203 = .ok (.dup, 1) := by decide +kernel
theorem dX4_readThing_204 : decode cX4_readThing 204 = .ok (.getfield 119, 3) := by decide +kernel
theorem dX4_readThing_207 : decode cX4_readThing 207 = .ok (.iconst 1, 1) := by decide +kernel
theorem dX4_readThing_208 : decode cX4_readThing 208 = .ok (.isub, 1) := by decide +kernel
theorem dX4_readThing_209 : decode cX4_readThing 209 = .ok (.putfield 119, 3) := by decide +kernel
theorem dX4_readThing_212 : decode cX4_readThing 212 = .ok (.iconst 0, 1) := by decide +kernel
theorem dX4_readThing_213 : decode cX4_readThing 213 = .ok (.ireturn, 1) := by decide +kernel
theorem dX4_does_0 : decode cX4_does 0 = .ok (.aload_n 0, 1) := by decide +kernel
theorem dX4_does_1 : decode cX4_does 1 = .ok (.getfield 132, 3) := by decide +kernel
theorem dX4_does_4 : decode cX4_does 4 = .ok (.lookupswitch 93 #[(102, 71), (103, 84), (104, 44), (115, 57)], 44) := by decide +kernel
theorem dX4_does_48 : decode cX4_does 48 = .ok (.aload_n 0, 1) := by decide +kernel
theorem dX4_does_49 : decode cX4_does 49 = .ok (.aload_n 0, 1) := by decide +kernel
theorem dX4_does_50 : decode cX4_does 50 = .ok (.getfield 126, 3) := by decide +kernel
theorem dX4_does_53 : decode cX4_does 53 = .ok (.aload_n 0, 1) := by decide +kernel
theorem dX4_does_54 : decode cX4_does 54 = .ok (.getfield 129, 3) := by decide +kernel
theorem dX4_does_57 : decode cX4_does 57 = .ok (.invokevirtual 101, 3) := by decide +kernel
theorem dX4_does_60 : decode cX4_does 60 = .ok (.ireturn, 1) := by decide +kernel
theorem dX4_does_61 : decode cX4_does 61 = .ok (.aload_n 0, 1) := by decide +kernel
theorem dX4_does_62 : decode cX4_does 62 = .ok (.aload_n 0, 1) := by decide +kernel
theorem dX4_does_63 : decode cX4_does 63 = .ok (.getfield 126, 3) := by decide +kernel
theorem dX4_does_66 : decode cX4_does 66 = .ok (.iconst 0, 1) := by decide +kernel
theorem dX4_does_67 : decode cX4_does 67 = .ok (.aload_n 0, 1) := by decide +kernel
theorem dX4_does_68 : decode cX4_does 68 = .ok (.getfield 129, 3) := by decide +kernel
theorem dX4_does_71 : decode cX4_does 71 = .ok (.invokevirtual 91, 3) := by decide +kernel
theorem dX4_does_74 : decode cX4_does 74 = .ok (.ireturn, 1) := by decide +kernel
theorem dX4_does_75 : decode cX4_does 75 = .ok (.aload_n 0, 1) := by decide +kernel
theorem dX4_does_76 : decode cX4_does 76 = .ok (.aload_n 0, 1) := by decide +kernel
theorem dX4_does_77 : decode cX4_does 77 = .ok (.getfield 126, 3) := by decide +kernel
theorem dX4_does_80 : decode cX4_does 80 = .ok (.aload_n 0, 1) := by decide +kernel
theorem dX4_does_81 : decode cX4_does 81 = .ok (.getfield 129, 3) := by decide +kernel
theorem dX4_does_84 : decode cX4_does 84 = .ok (.invokevirtual 107, 3) := by decide +kernel
theorem dX4_does_87 : decode cX4_does 87 = .ok (.ireturn, 1) := by decide +kernel
theorem dX4_does_88 : decode cX4_does 88 = .ok (.aload_n 0, 1) := by decide +kernel
theorem dX4_does_89 : decode cX4_does 89 = .ok (.aload_n 0, 1) := by decide +kernel
theorem dX4_does_90 : decode cX4_does 90 = .ok (.getfield 126, 3) := by decide +kernel
theorem dX4_does_93 : decode cX4_does 93 = .ok (.invokevirtual 104, 3) := by decide +kernel
theorem dX4_does_96 : decode cX4_does 96 = .ok (.ireturn, 1) := by decide +kernel
theorem dX4_does_97 : decode cX4_does 97 = .ok (.aload_n 0, 1) := by decide +kernel
theorem dX4_does_98 : decode cX4_does 98 = .ok (.aload_n 0, 1) := by decide +kernel
theorem dX4_does_99 : decode cX4_does 99 = .ok (.getfield 129, 3) := by decide +kernel
theorem dX4_does_102 : decode cX4_does 102 = .ok (.invokevirtual 113, 3) := by decide +kernel
theorem dX4_does_105 : decode cX4_does 105 = .ok (.ireturn, 1) := by decide +kernel
theorem dX4_readText_0 : decode cX4_readText 0 = .ok (.aload_n 0, 1) := by decide +kernel
theorem dX4_readText_1 : decode cX4_readText 1 = .ok (.iconst 0, 1) := by decide +kernel
theorem dX4_readText_2 : decode cX4_readText 2 = .ok (.putfield 119, 3) := by decide +kernel
theorem dX4_readText_5 : decode cX4_readText 5 = .ok (.aload_n 0, 1) := by decide +kernel
theorem dX4_readText_6 : decode cX4_readText 6 = .ok (.iconst 0, 1) := by decide +kernel
theorem dX4_readText_7 : decode cX4_readText 7 = .ok (.putfield 145, 3) := by decide +kernel
theorem dX4_readText_10 : decode cX4_readText 10 = .ok (.aload_n 0, 1) := by decide +kernel
theorem dX4_readText_11 : decode cX4_readText 11 = .ok (.iconst 0, 1) := by decide +kernel
theorem dX4_readText_12 : decode cX4_readText 12 = .ok (.putfield 148, 3) := by decide +kernel
theorem dX4_readText_15 : decode cX4_readText 15 = .ok (.aload_n 0, 1) := by decide +kernel
theorem dX4_readText_16 : decode cX4_readText 16 = .ok (.invokevirtual 151, 3) := by decide +kernel
theorem dX4_readText_19 : decode cX4_readText 19 = .ok (.istore_n 2, 1) := by decide +kernel
theorem dX4_readText_20 : decode cX4_readText 20 = .ok (.iload_n 2, 1) := by decide +kernel
theorem dX4_readText_21 : decode cX4_readText 21 = .ok (.ifCond .eq 81, 3) := by decide +kernel
theorem dX4_readText_24 : decode cX4_readText 24 = .ok (.iload_n 1, 1) := by decide +kernel
theorem dX4_readText_25 : decode cX4_readText 25 = .ok (.ifCond .eq 10, 3) := by decide +kernel
theorem dX4_readText_28 : decode cX4_readText 28 = .ok (.aload_n 0, 1) := by decide +kernel
theorem dX4_readText_29 : decode cX4_readText 29 = .ok (.invokevirtual 154, 3) := by decide +kernel
theorem dX4_readText_32 : decode cX4_readText 32 = .ok (.goto 4, 3) := by decide +kernel
theorem dX4_readText_35 : decode cX4_readText 35 = .ok (.iconst 0, 1) := by decide +kernel
theorem dX4_readText_36 : decode cX4_readText 36 = .ok (.istore_n 3, 1) := by decide +kernel
theorem dX4_readText_37 : decode cX4_readText 37 = .ok (.iload_n 3, 1) := by decide +kernel
theorem dX4_readText_38 : decode cX4_readText 38 = .ok (.ifCond .ge 16, 3) := by decide +kernel
theorem dX4_readText_41 : decode cX4_readText 41 = .ok (.iload_n 3, 1) := by decide +kernel
theorem dX4_readText_42 : decode cX4_readText 42 = .ok (.bipush (-5), 2) := by decide +kernel
theorem dX4_readText_44 : decode cX4_readText 44 = .ok (.if_icmp .eq 10, 3) := by decide +kernel
theorem dX4_readText_47 : decode cX4_readText 47 = .ok (.aload_n 0, 1) := by decide +kernel
theorem dX4_readText_48 : decode cX4_readText 48 = .ok (.iload_n 3, 1) := by decide +kernel
theorem dX4_readText_49 : decode cX4_readText 49 = .ok (.putfield 148, 3) := by decide +kernel
theorem dX4_readText_52 : decode cX4_readText 52 = .ok (.iconst 1, 1) := by decide +kernel
theorem dX4_readText_53 : decode cX4_readText 53 = .ok (.ireturn, 1) := by decide +kernel
theorem dX4_readText_54 : decode cX4_readText 54 = .ok (.aload_n 0, 1) := by decide +kernel
theorem dX4_readText_55 : decode cX4_readText 55 = .ok (.dup, 1) := by decide +kernel
theorem dX4_readText_56 : decode cX4_readText 56 = .ok (.getfield 145, 3) := by decide +kernel
theorem dX4_readText_59 : decode cX4_readText 59 = .ok (.iconst 1, 1) := by decide +kernel
theorem dX4_readText_60 : decode cX4_readText 60 = .ok (.iadd, 1) := by decide +kernel
theorem dX4_readText_61 : decode cX4_readText 61 = .ok (.putfield 145, 3) := by decide +kernel
theorem dX4_readText_64 : decode cX4_readText 64 = .ok (.aload_n 0, 1) := by decide +kernel
theorem dX4_readText_65 : decode cX4_readText 65 = .ok (.getfield 119, 3) := by decide +kernel
theorem dX4_readText_68 : decode cX4_readText 68 = .ok (.aload_n 0, 1) := by decide +kernel
theorem dX4_readText_69 : decode cX4_readText 69 = .ok (.getfield 116, 3) := by decide +kernel
theorem dX4_readText_72 : decode cX4_readText 72 = .ok (.if_icmp .ne 5, 3) := by decide +kernel
theorem dX4_readText_75 : decode cX4_readText 75 = .ok (.iconst 1, 1) := by decide +kernel
theorem dX4_readText_76 : decode cX4_readText 76 = .ok (.ireturn, 1) := by decide +kernel
theorem dX4_readText_77 : decode cX4_readText 77 = .ok (.aload_n 0, 1) := by decide +kernel
theorem dX4_readText_78 : decode cX4_readText 78 = .ok (.bipush 59, 2) := by decide +kernel
theorem dX4_readText_80 : decode cX4_readText 80 = .ok (.invokevirtual 139, 3) := by decide +kernel
theorem dX4_readText_83 : decode cX4_readText 83 = .ok (.ifCond .eq 14, 3) := by decide +kernel
theorem dX4_readText_86 : decode cX4_readText 86 = .ok (.aload_n 0, 1) := by decide +kernel
theorem dX4_readText_87 : decode cX4_readText 87 = .ok (.invokevirtual 151, 3) := by decide +kernel
theorem dX4_readText_90 : decode cX4_readText 90 = .ok (.ifCond .eq 7, 3) := by decide +kernel
theorem dX4_readText_93 : decode cX4_readText 93 = .ok (.iconst 1, 1) := by decide +kernel
theorem dX4_readText_94 : decode cX4_readText 94 = .ok (.goto 4, 3) := by decide +kernel
theorem dX4_readText_97 : decode cX4_readText 97 = .ok (.iconst 0, 1) := by decide +kernel
theorem dX4_readText_98 : decode cX4_readText 98 = .ok (.istore_n 2, 1) := by decide +kernel
theorem dX4_readText_99 : decode cX4_readText 99 = .ok (.goto (-79), 3) := by decide +kernel
theorem dX4_readText_102 : decode cX4_readText 102 = .ok (.iconst 0, 1) := by decide +kernel
theorem dX4_readText_103 : decode cX4_readText 103 = .ok (.ireturn, 1) := by decide +kernel
theorem dX4_perform_0 : decode cX4_perform 0 = .ok (.aload_n 0, 1) := by decide +kernel
theorem dX4_perform_1 : decode cX4_perform 1 = .ok (.iconst 0, 1) := by decide +kernel
theorem dX4_perform_2 : decode cX4_perform 2 = .ok (.invokevirtual 158, 3) := by decide +kernel
theorem dX4_perform_5 : decode cX4_perform 5 = .ok (.ifCond .ne 11, 3) := by decide +kernel
theorem dX4_perform_8 : decode cX4_perform 8 = .ok (.bipush (-100), 2) := by decide +kernel
theorem dX4_perform_10 : decode cX4_perform 10 = .ok (.aload_n 0, 1) := by decide +kernel
theorem dX4_perform_11 : decode cX4_perform 11 = .ok (.getfield 119, 3) := by decide +kernel
theorem dX4_perform_14 : decode cX4_perform 14 = .ok (.isub, 1) := by decide +kernel
theorem dX4_perform_15 : decode cX4_perform 15 = .ok (.ireturn, 1) := by decide +kernel
theorem dX4_perform_16 : decode cX4_perform 16 = .ok (.aload_n 0, 1) := by decide +kernel
theorem dX4_perform_17 : decode cX4_perform 17 = .ok (.invokevirtual 88, 3) := by decide +kernel
theorem dX4_perform_20 : decode cX4_perform 20 = .ok (.aload_n 0, 1) := by decide +kernel
theorem dX4_perform_21 : decode cX4_perform 21 = .ok (.iconst 1, 1) := by decide +kernel
theorem dX4_perform_22 : decode cX4_perform 22 = .ok (.invokevirtual 158, 3) := by decide +kernel
theorem dX4_perform_25 : decode cX4_perform 25 = .ok (.istore_n 1, 1) := by decide +kernel
theorem dX4_perform_26 : decode cX4_perform 26 = .ok (.aload_n 0, 1) := by decide +kernel
theorem dX4_perform_27 : decode cX4_perform 27 = .ok (.getfield 148, 3) := by decide +kernel
theorem dX4_perform_30 : decode cX4_perform 30 = .ok (.ifCond .ge 35, 3) := by decide +kernel
theorem dX4_perform_33 : decode cX4_perform 33 = .ok (.aload_n 0, 1) := by decide +kernel
theorem dX4_perform_34 : decode cX4_perform 34 = .ok (.getfield 19, 3) := by decide +kernel
theorem dX4_perform_37 : decode cX4_perform 37 = .ok (.iconst 0, 1) := by decide +kernel
theorem dX4_perform_38 : decode cX4_perform 38 = .ok (.aload_n 0, 1) := by decide +kernel
theorem dX4_perform_39 : decode cX4_perform 39 = .ok (.getfield 7, 3) := by decide +kernel
theorem dX4_perform_42 : decode cX4_perform 42 = .ok (.iconst 0, 1) := by decide +kernel
theorem dX4_perform_43 : decode cX4_perform 43 = .ok (.invokestatic 45, 3) := by decide +kernel
theorem dX4_perform_46 : decode cX4_perform 46 = .ok (.aload_n 0, 1) := by decide +kernel
theorem dX4_perform_47 : decode cX4_perform 47 = .ok (.aload_n 0, 1) := by decide +kernel
theorem dX4_perform_48 : decode cX4_perform 48 = .ok (.getfield 145, 3) := by decide +kernel
theorem dX4_perform_51 : decode cX4_perform 51 = .ok (.putfield 26, 3) := by decide +kernel
theorem dX4_perform_54 : decode cX4_perform 54 = .ok (.aload_n 0, 1) := by decide +kernel
theorem dX4_perform_55 : decode cX4_perform 55 = .ok (.aload_n 0, 1) := by decide +kernel
theorem dX4_perform_56 : decode cX4_perform 56 = .ok (.getfield 148, 3) := by decide +kernel
theorem dX4_perform_59 : decode cX4_perform 59 = .ok (.putfield 162, 3) := by decide +kernel
theorem dX4_perform_62 : decode cX4_perform 62 = .ok (.bipush (-4), 2) := by decide +kernel
theorem dX4_perform_64 : decode cX4_perform 64 = .ok (.ireturn, 1) := by decide +kernel
theorem dX4_perform_65 : decode cX4_perform 65 = .ok (.aload_n 0, 1) := by decide +kernel
theorem dX4_perform_66 : decode cX4_perform 66 = .ok (.aload_n 0, 1) := by decide +kernel
theorem dX4_perform_67 : decode cX4_perform 67 = .ok (.getfield 19, 3) := by decide +kernel
theorem dX4_perform_70 : decode cX4_perform 70 = .ok (.invokevirtual 84, 3) := by decide +kernel
theorem dX4_perform_73 : decode cX4_perform 73 = .ok (.iload_n 1, 1) := by decide +kernel
theorem dX4_perform_74 : decode cX4_perform 74 = .ok (.ifCond .eq 10, 3) := by decide +kernel
theorem dX4_perform_77 : decode cX4_perform 77 = .ok (.aload_n 0, 1) := by decide +kernel
theorem dX4_perform_78 : decode cX4_perform 78 = .ok (.getfield 145, 3) := by decide +kernel
theorem dX4_perform_81 : decode cX4_perform 81 = .ok (.goto 4, 3) := by decide +kernel
theorem dX4_perform_84 : decode cX4_perform 84 = .ok (.iconst 0, 1) := by decide +kernel
theorem dX4_perform_85 : decode cX4_perform 85 = .ok (.ireturn, 1) := by decide +kernel
theorem dX4_stopped_0 : decode cX4_stopped 0 = .ok (.iload_n 1, 1) := by decide +kernel
theorem dX4_stopped_1 : decode cX4_stopped 1 = .ok (.iconst 0, 1) := by decide +kernel
theorem dX4_stopped_2 : decode cX4_stopped 2 = .ok (.iconst 1, 1) := by decide +kernel
theorem dX4_stopped_3 : decode cX4_stopped 3 = .ok (.invokestatic 38, 3) := by decide +kernel
theorem dX4_stopped_6 : decode cX4_stopped 6 = .ok (.ifCond .ne 6, 3) := by decide +kernel
theorem dX4_stopped_9 : decode cX4_stopped 9 = .ok (.bipush (-2), 2) := by decide +kernel
theorem dX4_stopped_11 : decode cX4_stopped 11 = .ok (.ireturn, 1) := by decide +kernel
theorem dX4_stopped_12 : decode cX4_stopped 12 = .ok (.aload_n 0, 1) := by decide +kernel
theorem dX4_stopped_13 : decode cX4_stopped 13 = .ok (.getfield 26, 3) := by decide +kernel
theorem dX4_stopped_16 : decode cX4_stopped 16 = .ok (.bipush (-5), 2) := by decide +kernel
theorem dX4_stopped_18 : decode cX4_stopped 18 = .ok (.if_icmp .ne 8, 3) := by decide +kernel
theorem dX4_stopped_21 : decode cX4_stopped 21 = .ok (.bipush (-5), 2) := by decide +kernel
theorem dX4_stopped_23 : decode cX4_stopped 23 = .ok (.goto 18, 3) := by decide +kernel
theorem dX4_stopped_26 : decode cX4_stopped 26 = .ok (.iload_n 1, 1) := by decide +kernel
theorem dX4_stopped_27 : decode cX4_stopped 27 = .ok (.ifCond .ne 10, 3) := by decide +kernel
theorem dX4_stopped_30 : decode cX4_stopped 30 = .ok (.aload_n 0, 1) := by decide +kernel
theorem dX4_stopped_31 : decode cX4_stopped 31 = .ok (.getfield 26, 3) := by decide +kernel
theorem dX4_stopped_34 : decode cX4_stopped 34 = .ok (.goto 7, 3) := by decide +kernel
theorem dX4_stopped_37 : decode cX4_stopped 37 = .ok (.aload_n 0, 1) := by decide +kernel
theorem dX4_stopped_38 : decode cX4_stopped 38 = .ok (.getfield 162, 3) := by decide +kernel
theorem dX4_stopped_41 : decode cX4_stopped 41 = .ok (.ireturn, 1) := by decide +kernel
theorem dX4_undo_0 : decode cX4_undo 0 = .ok (.aload_n 0, 1) := by decide +kernel
theorem dX4_undo_1 : decode cX4_undo 1 = .ok (.getfield 42, 3) := by decide +kernel
theorem dX4_undo_4 : decode cX4_undo 4 = .ok (.ifCond .ne 6, 3) := by decide +kernel
theorem dX4_undo_7 : decode cX4_undo 7 = .ok (.bipush (-5), 2) := by decide +kernel
theorem dX4_undo_9 : decode cX4_undo 9 = .ok (.ireturn, 1) := by decide +kernel
theorem dX4_undo_10 : decode cX4_undo 10 = .ok (.aload_n 0, 1) := by decide +kernel
theorem dX4_undo_11 : decode cX4_undo 11 = .ok (.dup, 1) := by decide +kernel
theorem dX4_undo_12 : decode cX4_undo 12 = .ok (.getfield 42, 3) := by decide +kernel
theorem dX4_undo_15 : decode cX4_undo 15 = .ok (.iconst 1, 1) := by decide +kernel
theorem dX4_undo_16 : decode cX4_undo 16 = .ok (.isub, 1) := by decide +kernel
theorem dX4_undo_17 : decode cX4_undo 17 = .ok (.putfield 42, 3) := by decide +kernel
theorem dX4_undo_20 : decode cX4_undo 20 = .ok (.aload_n 0, 1) := by decide +kernel
theorem dX4_undo_21 : decode cX4_undo 21 = .ok (.getfield 13, 3) := by decide +kernel
theorem dX4_undo_24 : decode cX4_undo 24 = .ok (.bipush 104, 2) := by decide +kernel
theorem dX4_undo_26 : decode cX4_undo 26 = .ok (.aload_n 0, 1) := by decide +kernel
theorem dX4_undo_27 : decode cX4_undo 27 = .ok (.getfield 42, 3) := by decide +kernel
theorem dX4_undo_30 : decode cX4_undo 30 = .ok (.imul, 1) := by decide +kernel
theorem dX4_undo_31 : decode cX4_undo 31 = .ok (.aload_n 0, 1) := by decide +kernel
theorem dX4_undo_32 : decode cX4_undo 32 = .ok (.getfield 7, 3) := by decide +kernel
theorem dX4_undo_35 : decode cX4_undo 35 = .ok (.iconst 0, 1) := by decide +kernel
theorem dX4_undo_36 : decode cX4_undo 36 = .ok (.invokestatic 45, 3) := by decide +kernel
theorem dX4_undo_39 : decode cX4_undo 39 = .ok (.aload_n 0, 1) := by decide +kernel
theorem dX4_undo_40 : decode cX4_undo 40 = .ok (.getfield 42, 3) := by decide +kernel
theorem dX4_undo_43 : decode cX4_undo 43 = .ok (.ireturn, 1) := by decide +kernel
theorem dX4_keep_0 : decode cX4_keep 0 = .ok (.aload_n 0, 1) := by decide +kernel
theorem dX4_keep_1 : decode cX4_keep 1 = .ok (.getfield 7, 3) := by decide +kernel
theorem dX4_keep_4 : decode cX4_keep 4 = .ok (.iconst 0, 1) := by decide +kernel
theorem dX4_keep_5 : decode cX4_keep 5 = .ok (.aload_n 0, 1) := by decide +kernel
theorem dX4_keep_6 : decode cX4_keep 6 = .ok (.getfield 16, 3) := by decide +kernel
theorem dX4_keep_9 : decode cX4_keep 9 = .ok (.iconst 0, 1) := by decide +kernel
theorem dX4_keep_10 : decode cX4_keep 10 = .ok (.invokestatic 45, 3) := by decide +kernel
theorem dX4_keep_13 : decode cX4_keep 13 = .ok (.aload_n 0, 1) := by decide +kernel
theorem dX4_keep_14 : decode cX4_keep 14 = .ok (.iconst 1, 1) := by decide +kernel
theorem dX4_keep_15 : decode cX4_keep 15 = .ok (.putfield 165, 3) := by decide +kernel
theorem dX4_keep_18 : decode cX4_keep 18 = .ok (.aload_n 0, 1) := by decide +kernel
theorem dX4_keep_19 : decode cX4_keep 19 = .ok (.getfield 7, 3) := by decide +kernel
theorem dX4_keep_22 : decode cX4_keep 22 = .ok (.iconst 0, 1) := by decide +kernel
theorem dX4_keep_23 : decode cX4_keep 23 = .ok (.iaload, 1) := by decide +kernel
theorem dX4_keep_24 : decode cX4_keep 24 = .ok (.ireturn, 1) := by decide +kernel
theorem dX4_restore_0 : decode cX4_restore 0 = .ok (.aload_n 0, 1) := by decide +kernel
theorem dX4_restore_1 : decode cX4_restore 1 = .ok (.getfield 165, 3) := by decide +kernel
theorem dX4_restore_4 : decode cX4_restore 4 = .ok (.ifCond .ne 6, 3) := by decide +kernel
theorem dX4_restore_7 : decode cX4_restore 7 = .ok (.bipush (-5), 2) := by decide +kernel
theorem dX4_restore_9 : decode cX4_restore 9 = .ok (.ireturn, 1) := by decide +kernel
theorem dX4_restore_10 : decode cX4_restore 10 = .ok (.aload_n 0, 1) := by decide +kernel
theorem dX4_restore_11 : decode cX4_restore 11 = .ok (.aload_n 0, 1) := by decide +kernel
theorem dX4_restore_12 : decode cX4_restore 12 = .ok (.getfield 7, 3) := by decide +kernel
theorem dX4_restore_15 : decode cX4_restore 15 = .ok (.invokevirtual 84, 3) := by decide +kernel
theorem dX4_restore_18 : decode cX4_restore 18 = .ok (.aload_n 0, 1) := by decide +kernel
theorem dX4_restore_19 : decode cX4_restore 19 = .ok (.getfield 16, 3) := by decide +kernel
theorem dX4_restore_22 : decode cX4_restore 22 = .ok (.iconst 0, 1) := by decide +kernel
theorem dX4_restore_23 : decode cX4_restore 23 = .ok (.aload_n 0, 1) := by decide +kernel
theorem dX4_restore_24 : decode cX4_restore 24 = .ok (.getfield 7, 3) := by decide +kernel
theorem dX4_restore_27 : decode cX4_restore 27 = .ok (.iconst 0, 1) := by decide +kernel
theorem dX4_restore_28 : decode cX4_restore 28 = .ok (.invokestatic 45, 3) := by decide +kernel
theorem dX4_restore_31 : decode cX4_restore 31 = .ok (.aload_n 0, 1) := by decide +kernel
theorem dX4_restore_32 : decode cX4_restore 32 = .ok (.getfield 7, 3) := by decide +kernel
theorem dX4_restore_35 : decode cX4_restore 35 = .ok (.iconst 0, 1) := by decide +kernel
theorem dX4_restore_36 : decode cX4_restore 36 = .ok (.iaload, 1) := by decide +kernel
theorem dX4_restore_37 : decode cX4_restore 37 = .ok (.ireturn, 1) := by decide +kernel
theorem dX4_cup_0 : decode cX4_cup 0 = .ok (.iload_n 1, 1) := by decide +kernel
theorem dX4_cup_1 : decode cX4_cup 1 = .ok (.invokestatic 71, 3) := by decide +kernel
theorem dX4_cup_4 : decode cX4_cup 4 = .ok (.ifCond .ne 5, 3) := by decide +kernel
theorem dX4_cup_7 : decode cX4_cup 7 = .ok (.iconst (-1), 1) := by decide +kernel
theorem dX4_cup_8 : decode cX4_cup 8 = .ok (.ireturn, 1) := by decide +kernel
theorem dX4_cup_9 : decode cX4_cup 9 = .ok (.iload_n 2, 1) := by decide +kernel
theorem dX4_cup_10 : decode cX4_cup 10 = .ok (.iconst 0, 1) := by decide +kernel
theorem dX4_cup_11 : decode cX4_cup 11 = .ok (.bipush 11, 2) := by decide +kernel
theorem dX4_cup_13 : decode cX4_cup 13 = .ok (.invokestatic 38, 3) := by decide +kernel
theorem dX4_cup_16 : decode cX4_cup 16 = .ok (.ifCond .ne 6, 3) := by decide +kernel
theorem dX4_cup_19 : decode cX4_cup 19 = .ok (.bipush (-2), 2) := by decide +kernel
theorem dX4_cup_21 : decode cX4_cup 21 = .ok (.ireturn, 1) := by decide +kernel
theorem dX4_cup_22 : decode cX4_cup 22 = .ok (.iload_n 2, 1) := by decide +kernel
theorem dX4_cup_23 : decode cX4_cup 23 = .ok (.iconst 4, 1) := by decide +kernel
theorem dX4_cup_24 : decode cX4_cup 24 = .ok (.if_icmp .ne 18, 3) := by decide +kernel
theorem dX4_cup_27 : decode cX4_cup 27 = .ok (.aload_n 0, 1) := by decide +kernel
theorem dX4_cup_28 : decode cX4_cup 28 = .ok (.iload_n 1, 1) := by decide +kernel
theorem dX4_cup_29 : decode cX4_cup 29 = .ok (.iconst 4, 1) := by decide +kernel
theorem dX4_cup_30 : decode cX4_cup 30 = .ok (.invokevirtual 49, 3) := by decide +kernel
theorem dX4_cup_33 : decode cX4_cup 33 = .ok (.iconst (-1), 1) := by decide +kernel
theorem dX4_cup_34 : decode cX4_cup 34 = .ok (.if_icmp .ne 8, 3) := by decide +kernel
theorem dX4_cup_37 : decode cX4_cup 37 = .ok (.bipush (-5), 2) := by decide +kernel
theorem dX4_cup_39 : decode cX4_cup 39 = .ok (.goto 9, 3) := by decide +kernel
theorem dX4_cup_42 : decode cX4_cup 42 = .ok (.aload_n 0, 1) := by decide +kernel
theorem dX4_cup_43 : decode cX4_cup 43 = .ok (.iload_n 1, 1) := by decide +kernel
theorem dX4_cup_44 : decode cX4_cup 44 = .ok (.iload_n 2, 1) := by decide +kernel
theorem dX4_cup_45 : decode cX4_cup 45 = .ok (.invokevirtual 49, 3) := by decide +kernel
theorem dX4_cup_48 : decode cX4_cup 48 = .ok (.ireturn, 1) := by decide +kernel
theorem dX4_reason_0 : decode cX4_reason 0 = .ok (.iload_n 1, 1) := by decide +kernel
theorem dX4_reason_1 : decode cX4_reason 1 = .ok (.invokestatic 71, 3) := by decide +kernel
theorem dX4_reason_4 : decode cX4_reason 4 = .ok (.ifCond .ne 5, 3) := by decide +kernel
theorem dX4_reason_7 : decode cX4_reason 7 = .ok (.iconst (-1), 1) := by decide +kernel
theorem dX4_reason_8 : decode cX4_reason 8 = .ok (.ireturn, 1) := by decide +kernel
theorem dX4_reason_9 : decode cX4_reason 9 = .ok (.aload_n 0, 1) := by decide +kernel
theorem dX4_reason_10 : decode cX4_reason 10 = .ok (.iload_n 1, 1) := by decide +kernel
theorem dX4_reason_11 : decode cX4_reason 11 = .ok (.bipush 6, 2) := by decide +kernel
theorem dX4_reason_13 : decode cX4_reason 13 = .ok (.invokevirtual 49, 3) := by decide +kernel
theorem dX4_reason_16 : decode cX4_reason 16 = .ok (.iconst 1, 1) := by decide +kernel
theorem dX4_reason_17 : decode cX4_reason 17 = .ok (.if_icmp .ne 24, 3) := by decide +kernel
theorem dX4_reason_20 : decode cX4_reason 20 = .ok (.aload_n 0, 1) := by decide +kernel
theorem dX4_reason_21 : decode cX4_reason 21 = .ok (.aload_n 0, 1) := by decide +kernel
theorem dX4_reason_22 : decode cX4_reason 22 = .ok (.getfield 7, 3) := by decide +kernel
theorem dX4_reason_25 : decode cX4_reason 25 = .ok (.iconst 0, 1) := by decide +kernel
theorem dX4_reason_26 : decode cX4_reason 26 = .ok (.iaload, 1) := by decide +kernel
theorem dX4_reason_27 : decode cX4_reason 27 = .ok (.invokevirtual 64, 3) := by decide +kernel
theorem dX4_reason_30 : decode cX4_reason 30 = .ok (.aload_n 0, 1) := by decide +kernel
theorem dX4_reason_31 : decode cX4_reason 31 = .ok (.iload_n 1, 1) := by decide +kernel
theorem dX4_reason_32 : decode cX4_reason 32 = .ok (.iconst 4, 1) := by decide +kernel
theorem dX4_reason_33 : decode cX4_reason 33 = .ok (.invokevirtual 49, 3) := by decide +kernel
theorem dX4_reason_36 : decode cX4_reason 36 = .ok (.if_icmp .eq 5, 3) := by decide +kernel
theorem dX4_reason_39 : decode cX4_reason 39 = .ok (.iconst 1, 1) := by decide +kernel
theorem dX4_reason_40 : decode cX4_reason 40 = .ok (.ireturn, 1) := by decide +kernel
theorem dX4_reason_41 : decode cX4_reason 41 = .ok (.aload_n 0, 1) := by decide +kernel
theorem dX4_reason_42 : decode cX4_reason 42 = .ok (.iload_n 1, 1) := by decide +kernel
theorem dX4_reason_43 : decode cX4_reason 43 = .ok (.bipush 6, 2) := by decide +kernel
theorem dX4_reason_45 : decode cX4_reason 45 = .ok (.invokevirtual 49, 3) := by decide +kernel
theorem dX4_reason_48 : decode cX4_reason 48 = .ok (.ifCond .ne 16, 3) := by decide +kernel
theorem dX4_reason_51 : decode cX4_reason 51 = .ok (.aload_n 0, 1) := by decide +kernel
theorem dX4_reason_52 : decode cX4_reason 52 = .ok (.iload_n 1, 1) := by decide +kernel
theorem dX4_reason_53 : decode cX4_reason 53 = .ok (.iconst 5, 1) := by decide +kernel
theorem dX4_reason_54 : decode cX4_reason 54 = .ok (.invokevirtual 49, 3) := by decide +kernel
theorem dX4_reason_57 : decode cX4_reason 57 = .ok (.ifCond .ne 7, 3) := by decide +kernel
theorem dX4_reason_60 : decode cX4_reason 60 = .ok (.iconst 2, 1) := by decide +kernel
theorem dX4_reason_61 : decode cX4_reason 61 = .ok (.goto 18, 3) := by decide +kernel
theorem dX4_reason_64 : decode cX4_reason 64 = .ok (.aload_n 0, 1) := by decide +kernel
theorem dX4_reason_65 : decode cX4_reason 65 = .ok (.iload_n 1, 1) := by decide +kernel
theorem dX4_reason_66 : decode cX4_reason 66 = .ok (.iconst 1, 1) := by decide +kernel
theorem dX4_reason_67 : decode cX4_reason 67 = .ok (.invokevirtual 169, 3) := by decide +kernel
theorem dX4_reason_70 : decode cX4_reason 70 = .ok (.iconst 1, 1) := by decide +kernel
theorem dX4_reason_71 : decode cX4_reason 71 = .ok (.if_icmp .ne 7, 3) := by decide +kernel
theorem dX4_reason_74 : decode cX4_reason 74 = .ok (.iconst 0, 1) := by decide +kernel
theorem dX4_reason_75 : decode cX4_reason 75 = .ok (.goto 4, 3) := by decide +kernel
theorem dX4_reason_78 : decode cX4_reason 78 = .ok (.iconst 3, 1) := by decide +kernel
theorem dX4_reason_79 : decode cX4_reason 79 = .ok (.ireturn, 1) := by decide +kernel
theorem dX4_untilTip_0 : decode cX4_untilTip 0 = .ok (.aload_n 0, 1) := by decide +kernel
theorem dX4_untilTip_1 : decode cX4_untilTip 1 = .ok (.invokevirtual 88, 3) := by decide +kernel
theorem dX4_untilTip_4 : decode cX4_untilTip 4 = .ok (.iconst 0, 1) := by decide +kernel
theorem dX4_untilTip_5 : decode cX4_untilTip 5 = .ok (.istore_n 3, 1) := by decide +kernel
theorem dX4_untilTip_6 : decode cX4_untilTip 6 = .ok (.iconst 0, 1) := by decide +kernel
theorem dX4_untilTip_7 : decode cX4_untilTip 7 = .ok (.istore 4, 2) := by decide +kernel
theorem dX4_untilTip_9 : decode cX4_untilTip 9 = .ok (.iload_n 3, 1) := by decide +kernel
theorem dX4_untilTip_10 : decode cX4_untilTip 10 = .ok (.iload_n 2, 1) := by decide +kernel
theorem dX4_untilTip_11 : decode cX4_untilTip 11 = .ok (.if_icmp .ge 26, 3) := by decide +kernel
theorem dX4_untilTip_14 : decode cX4_untilTip 14 = .ok (.iload 4, 2) := by decide +kernel
theorem dX4_untilTip_16 : decode cX4_untilTip 16 = .ok (.ifCond .ne 21, 3) := by decide +kernel
theorem dX4_untilTip_19 : decode cX4_untilTip 19 = .ok (.aload_n 0, 1) := by decide +kernel
theorem dX4_untilTip_20 : decode cX4_untilTip 20 = .ok (.invokevirtual 81, 3) := by decide +kernel
theorem dX4_untilTip_23 : decode cX4_untilTip 23 = .ok (.iinc 3 1, 3) := by decide +kernel
theorem dX4_untilTip_26 : decode cX4_untilTip 26 = .ok (.aload_n 0, 1) := by decide +kernel
theorem dX4_untilTip_27 : decode cX4_untilTip 27 = .ok (.getfield 30, 3) := by decide +kernel
theorem dX4_untilTip_30 : decode cX4_untilTip 30 = .ok (.iload_n 1, 1) := by decide +kernel
theorem dX4_untilTip_31 : decode cX4_untilTip 31 = .ok (.baload, 1) := by decide +kernel
theorem dX4_untilTip_32 : decode cX4_untilTip 32 = .ok (.istore 4, 2) := by decide +kernel
theorem dX4_untilTip_34 : decode cX4_untilTip 34 = .ok (.goto (-25), 3) := by decide +kernel
theorem dX4_untilTip_37 : decode cX4_untilTip 37 = .ok (.aload_n 0, 1) := by decide +kernel
theorem dX4_untilTip_38 : decode cX4_untilTip 38 = .ok (.getfield 19, 3) := by decide +kernel
theorem dX4_untilTip_41 : decode cX4_untilTip 41 = .ok (.iconst 0, 1) := by decide +kernel
theorem dX4_untilTip_42 : decode cX4_untilTip 42 = .ok (.aload_n 0, 1) := by decide +kernel
theorem dX4_untilTip_43 : decode cX4_untilTip 43 = .ok (.getfield 7, 3) := by decide +kernel
theorem dX4_untilTip_46 : decode cX4_untilTip 46 = .ok (.iconst 0, 1) := by decide +kernel
theorem dX4_untilTip_47 : decode cX4_untilTip 47 = .ok (.invokestatic 45, 3) := by decide +kernel
theorem dX4_untilTip_50 : decode cX4_untilTip 50 = .ok (.iload 4, 2) := by decide +kernel
theorem dX4_untilTip_52 : decode cX4_untilTip 52 = .ok (.ifCond .eq 7, 3) := by decide +kernel
theorem dX4_untilTip_55 : decode cX4_untilTip 55 = .ok (.iload_n 3, 1) := by decide +kernel
theorem dX4_untilTip_56 : decode cX4_untilTip 56 = .ok (.goto 5, 3) := by decide +kernel
theorem dX4_untilTip_59 : decode cX4_untilTip 59 = .ok (.bipush (-5), 2) := by decide +kernel
theorem dX4_untilTip_61 : decode cX4_untilTip 61 = .ok (.ireturn, 1) := by decide +kernel
theorem dX4_hourOfTip_0 : decode cX4_hourOfTip 0 = .ok (.aload_n 0, 1) := by decide +kernel
theorem dX4_hourOfTip_1 : decode cX4_hourOfTip 1 = .ok (.iload_n 1, 1) := by decide +kernel
theorem dX4_hourOfTip_2 : decode cX4_hourOfTip 2 = .ok (.sipush 500, 3) := by decide +kernel
theorem dX4_hourOfTip_5 : decode cX4_hourOfTip 5 = .ok (.invokevirtual 169, 3) := by decide +kernel
theorem dX4_hourOfTip_8 : decode cX4_hourOfTip 8 = .ok (.istore_n 2, 1) := by decide +kernel
theorem dX4_hourOfTip_9 : decode cX4_hourOfTip 9 = .ok (.iload_n 2, 1) := by decide +kernel
theorem dX4_hourOfTip_10 : decode cX4_hourOfTip 10 = .ok (.bipush (-5), 2) := by decide +kernel
theorem dX4_hourOfTip_12 : decode cX4_hourOfTip 12 = .ok (.if_icmp .ne 8, 3) := by decide +kernel
theorem dX4_hourOfTip_15 : decode cX4_hourOfTip 15 = .ok (.bipush (-5), 2) := by decide +kernel
theorem dX4_hourOfTip_17 : decode cX4_hourOfTip 17 = .ok (.goto 17, 3) := by decide +kernel
theorem dX4_hourOfTip_20 : decode cX4_hourOfTip 20 = .ok (.aload_n 0, 1) := by decide +kernel
theorem dX4_hourOfTip_21 : decode cX4_hourOfTip 21 = .ok (.aload_n 0, 1) := by decide +kernel
theorem dX4_hourOfTip_22 : decode cX4_hourOfTip 22 = .ok (.getfield 7, 3) := by decide +kernel
theorem dX4_hourOfTip_25 : decode cX4_hourOfTip 25 = .ok (.iconst 0, 1) := by decide +kernel
theorem dX4_hourOfTip_26 : decode cX4_hourOfTip 26 = .ok (.iaload, 1) := by decide +kernel
theorem dX4_hourOfTip_27 : decode cX4_hourOfTip 27 = .ok (.iload_n 2, 1) := by decide +kernel
theorem dX4_hourOfTip_28 : decode cX4_hourOfTip 28 = .ok (.iadd, 1) := by decide +kernel
theorem dX4_hourOfTip_29 : decode cX4_hourOfTip 29 = .ok (.iconst 1, 1) := by decide +kernel
theorem dX4_hourOfTip_30 : decode cX4_hourOfTip 30 = .ok (.isub, 1) := by decide +kernel
theorem dX4_hourOfTip_31 : decode cX4_hourOfTip 31 = .ok (.invokevirtual 64, 3) := by decide +kernel
theorem dX4_hourOfTip_34 : decode cX4_hourOfTip 34 = .ok (.ireturn, 1) := by decide +kernel
theorem dX4_tipsIn_0 : decode cX4_tipsIn 0 = .ok (.iload_n 1, 1) := by decide +kernel
theorem dX4_tipsIn_1 : decode cX4_tipsIn 1 = .ok (.invokestatic 71, 3) := by decide +kernel
theorem dX4_tipsIn_4 : decode cX4_tipsIn 4 = .ok (.ifCond .eq 14, 3) := by decide +kernel
theorem dX4_tipsIn_7 : decode cX4_tipsIn 7 = .ok (.aload_n 0, 1) := by decide +kernel
theorem dX4_tipsIn_8 : decode cX4_tipsIn 8 = .ok (.iload_n 1, 1) := by decide +kernel
theorem dX4_tipsIn_9 : decode cX4_tipsIn 9 = .ok (.sipush 500, 3) := by decide +kernel
theorem dX4_tipsIn_12 : decode cX4_tipsIn 12 = .ok (.invokevirtual 169, 3) := by decide +kernel
theorem dX4_tipsIn_15 : decode cX4_tipsIn 15 = .ok (.goto 4, 3) := by decide +kernel
theorem dX4_tipsIn_18 : decode cX4_tipsIn 18 = .ok (.iconst (-1), 1) := by decide +kernel
theorem dX4_tipsIn_19 : decode cX4_tipsIn 19 = .ok (.ireturn, 1) := by decide +kernel
theorem dX4_tipsAt_0 : decode cX4_tipsAt 0 = .ok (.iload_n 1, 1) := by decide +kernel
theorem dX4_tipsAt_1 : decode cX4_tipsAt 1 = .ok (.invokestatic 71, 3) := by decide +kernel
theorem dX4_tipsAt_4 : decode cX4_tipsAt 4 = .ok (.ifCond .eq 11, 3) := by decide +kernel
theorem dX4_tipsAt_7 : decode cX4_tipsAt 7 = .ok (.aload_n 0, 1) := by decide +kernel
theorem dX4_tipsAt_8 : decode cX4_tipsAt 8 = .ok (.iload_n 1, 1) := by decide +kernel
theorem dX4_tipsAt_9 : decode cX4_tipsAt 9 = .ok (.invokevirtual 172, 3) := by decide +kernel
theorem dX4_tipsAt_12 : decode cX4_tipsAt 12 = .ok (.goto 4, 3) := by decide +kernel
theorem dX4_tipsAt_15 : decode cX4_tipsAt 15 = .ok (.iconst (-1), 1) := by decide +kernel
theorem dX4_tipsAt_16 : decode cX4_tipsAt 16 = .ok (.ireturn, 1) := by decide +kernel
theorem dX4_starving_0 : decode cX4_starving 0 = .ok (.bipush (-5), 2) := by decide +kernel
theorem dX4_starving_2 : decode cX4_starving 2 = .ok (.istore_n 1, 1) := by decide +kernel
theorem dX4_starving_3 : decode cX4_starving 3 = .ok (.bipush 7, 2) := by decide +kernel
theorem dX4_starving_5 : decode cX4_starving 5 = .ok (.istore_n 2, 1) := by decide +kernel
theorem dX4_starving_6 : decode cX4_starving 6 = .ok (.iload_n 2, 1) := by decide +kernel
theorem dX4_starving_7 : decode cX4_starving 7 = .ok (.ifCond .lt 28, 3) := by decide +kernel
theorem dX4_starving_10 : decode cX4_starving 10 = .ok (.aload_n 0, 1) := by decide +kernel
theorem dX4_starving_11 : decode cX4_starving 11 = .ok (.iload_n 2, 1) := by decide +kernel
theorem dX4_starving_12 : decode cX4_starving 12 = .ok (.sipush 500, 3) := by decide +kernel
theorem dX4_starving_15 : decode cX4_starving 15 = .ok (.invokevirtual 169, 3) := by decide +kernel
theorem dX4_starving_18 : decode cX4_starving 18 = .ok (.bipush (-5), 2) := by decide +kernel
theorem dX4_starving_20 : decode cX4_starving 20 = .ok (.if_icmp .ne 7, 3) := by decide +kernel
theorem dX4_starving_23 : decode cX4_starving 23 = .ok (.iload_n 2, 1) := by decide +kernel
theorem dX4_starving_24 : decode cX4_starving 24 = .ok (.goto 4, 3) := by decide +kernel
theorem dX4_starving_27 : decode cX4_starving 27 = .ok (.iload_n 1, 1) := by decide +kernel
theorem dX4_starving_28 : decode cX4_starving 28 = .ok (.istore_n 1, 1) := by decide +kernel
theorem dX4_starving_29 : decode cX4_starving 29 = .ok (.iinc 2 (-1), 3) := by decide +kernel
theorem dX4_starving_32 : decode cX4_starving 32 = .ok (.goto (-26), 3) := by decide +kernel
theorem dX4_starving_35 : decode cX4_starving 35 = .ok (.iload_n 1, 1) := by decide +kernel
theorem dX4_starving_36 : decode cX4_starving 36 = .ok (.ireturn, 1) := by decide +kernel
theorem dX4_bestSize_0 : decode cX4_bestSize 0 = .ok (.iload_n 1, 1) := by decide +kernel
theorem dX4_bestSize_1 : decode cX4_bestSize 1 = .ok (.invokestatic 71, 3) := by decide +kernel
theorem dX4_bestSize_4 : decode cX4_bestSize 4 = .ok (.ifCond .ne 5, 3) := by decide +kernel
theorem dX4_bestSize_7 : decode cX4_bestSize 7 = .ok (.iconst (-1), 1) := by decide +kernel
theorem dX4_bestSize_8 : decode cX4_bestSize 8 = .ok (.ireturn, 1) := by decide +kernel
theorem dX4_bestSize_9 : decode cX4_bestSize 9 = .ok (.aload_n 0, 1) := by decide +kernel
theorem dX4_bestSize_10 : decode cX4_bestSize 10 = .ok (.iload_n 1, 1) := by decide +kernel
theorem dX4_bestSize_11 : decode cX4_bestSize 11 = .ok (.iconst 4, 1) := by decide +kernel
theorem dX4_bestSize_12 : decode cX4_bestSize 12 = .ok (.invokevirtual 49, 3) := by decide +kernel
theorem dX4_bestSize_15 : decode cX4_bestSize 15 = .ok (.iconst (-1), 1) := by decide +kernel
theorem dX4_bestSize_16 : decode cX4_bestSize 16 = .ok (.if_icmp .ne 6, 3) := by decide +kernel
theorem dX4_bestSize_19 : decode cX4_bestSize 19 = .ok (.bipush (-4), 2) := by decide +kernel
theorem dX4_bestSize_21 : decode cX4_bestSize 21 = .ok (.ireturn, 1) := by decide +kernel
theorem dX4_bestSize_22 : decode cX4_bestSize 22 = .ok (.aload_n 0, 1) := by decide +kernel
theorem dX4_bestSize_23 : decode cX4_bestSize 23 = .ok (.iload_n 1, 1) := by decide +kernel
theorem dX4_bestSize_24 : decode cX4_bestSize 24 = .ok (.iconst 0, 1) := by decide +kernel
theorem dX4_bestSize_25 : decode cX4_bestSize 25 = .ok (.invokevirtual 49, 3) := by decide +kernel
theorem dX4_bestSize_28 : decode cX4_bestSize 28 = .ok (.istore_n 2, 1) := by decide +kernel
theorem dX4_bestSize_29 : decode cX4_bestSize 29 = .ok (.bipush (-5), 2) := by decide +kernel
theorem dX4_bestSize_31 : decode cX4_bestSize 31 = .ok (.istore_n 3, 1) := by decide +kernel
theorem dX4_bestSize_32 : decode cX4_bestSize 32 = .ok (.iconst 1, 1) := by decide +kernel
theorem dX4_bestSize_33 : decode cX4_bestSize 33 = .ok (.istore 4, 2) := by decide +kernel
theorem dX4_bestSize_35 : decode cX4_bestSize 35 = .ok (.iload 4, 2) := by decide +kernel
theorem dX4_bestSize_37 : decode cX4_bestSize 37 = .ok (.bipush 99, 2) := by decide +kernel
theorem dX4_bestSize_39 : decode cX4_bestSize 39 = .ok (.if_icmp .gt 45, 3) := by decide +kernel
theorem dX4_bestSize_42 : decode cX4_bestSize 42 = .ok (.iload_n 3, 1) := by decide +kernel
theorem dX4_bestSize_43 : decode cX4_bestSize 43 = .ok (.bipush (-5), 2) := by decide +kernel
theorem dX4_bestSize_45 : decode cX4_bestSize 45 = .ok (.if_icmp .ne 39, 3) := by decide +kernel
theorem dX4_bestSize_48 : decode cX4_bestSize 48 = .ok (.aload_n 0, 1) := by decide +kernel
theorem dX4_bestSize_49 : decode cX4_bestSize 49 = .ok (.iload_n 1, 1) := by decide +kernel
theorem dX4_bestSize_50 : decode cX4_bestSize 50 = .ok (.iconst 0, 1) := by decide +kernel
theorem dX4_bestSize_51 : decode cX4_bestSize 51 = .ok (.iload 4, 2) := by decide +kernel
theorem dX4_bestSize_53 : decode cX4_bestSize 53 = .ok (.invokevirtual 34, 3) := by decide +kernel
theorem dX4_bestSize_56 : decode cX4_bestSize 56 = .ok (.aload_n 0, 1) := by decide +kernel
theorem dX4_bestSize_57 : decode cX4_bestSize 57 = .ok (.iload_n 1, 1) := by decide +kernel
theorem dX4_bestSize_58 : decode cX4_bestSize 58 = .ok (.invokevirtual 172, 3) := by decide +kernel
theorem dX4_bestSize_61 : decode cX4_bestSize 61 = .ok (.aload_n 0, 1) := by decide +kernel
theorem dX4_bestSize_62 : decode cX4_bestSize 62 = .ok (.iload_n 1, 1) := by decide +kernel
theorem dX4_bestSize_63 : decode cX4_bestSize 63 = .ok (.iconst 4, 1) := by decide +kernel
theorem dX4_bestSize_64 : decode cX4_bestSize 64 = .ok (.invokevirtual 49, 3) := by decide +kernel
theorem dX4_bestSize_67 : decode cX4_bestSize 67 = .ok (.if_icmp .ne 8, 3) := by decide +kernel
theorem dX4_bestSize_70 : decode cX4_bestSize 70 = .ok (.iload 4, 2) := by decide +kernel
theorem dX4_bestSize_72 : decode cX4_bestSize 72 = .ok (.goto 5, 3) := by decide +kernel
theorem dX4_bestSize_75 : decode cX4_bestSize 75 = .ok (.bipush (-5), 2) := by decide +kernel
theorem dX4_bestSize_77 : decode cX4_bestSize 77 = .ok (.istore_n 3, 1) := by decide +kernel
theorem dX4_bestSize_78 : decode cX4_bestSize 78 = .ok (.iinc 4 1, 3) := by decide +kernel
theorem dX4_bestSize_81 : decode cX4_bestSize 81 = .ok (.goto (-46), 3) := by decide +kernel
theorem dX4_bestSize_84 : decode cX4_bestSize 84 = .ok (.aload_n 0, 1) := by decide +kernel
theorem dX4_bestSize_85 : decode cX4_bestSize 85 = .ok (.iload_n 1, 1) := by decide +kernel
theorem dX4_bestSize_86 : decode cX4_bestSize 86 = .ok (.iconst 0, 1) := by decide +kernel
theorem dX4_bestSize_87 : decode cX4_bestSize 87 = .ok (.iload_n 2, 1) := by decide +kernel
theorem dX4_bestSize_88 : decode cX4_bestSize 88 = .ok (.invokevirtual 34, 3) := by decide +kernel
theorem dX4_bestSize_91 : decode cX4_bestSize 91 = .ok (.iload_n 3, 1) := by decide +kernel
theorem dX4_bestSize_92 : decode cX4_bestSize 92 = .ok (.ireturn, 1) := by decide +kernel
theorem dX4_ifTicks_0 : decode cX4_ifTicks 0 = .ok (.iload_n 1, 1) := by decide +kernel
theorem dX4_ifTicks_1 : decode cX4_ifTicks 1 = .ok (.iconst 1, 1) := by decide +kernel
theorem dX4_ifTicks_2 : decode cX4_ifTicks 2 = .ok (.sipush 500, 3) := by decide +kernel
theorem dX4_ifTicks_5 : decode cX4_ifTicks 5 = .ok (.invokestatic 38, 3) := by decide +kernel
theorem dX4_ifTicks_8 : decode cX4_ifTicks 8 = .ok (.ifCond .eq 12, 3) := by decide +kernel
theorem dX4_ifTicks_11 : decode cX4_ifTicks 11 = .ok (.iload_n 2, 1) := by decide +kernel
theorem dX4_ifTicks_12 : decode cX4_ifTicks 12 = .ok (.iconst 0, 1) := by decide +kernel
theorem dX4_ifTicks_13 : decode cX4_ifTicks 13 = .ok (.iconst 3, 1) := by decide +kernel
theorem dX4_ifTicks_14 : decode cX4_ifTicks 14 = .ok (.invokestatic 38, 3) := by decide +kernel
theorem dX4_ifTicks_17 : decode cX4_ifTicks 17 = .ok (.ifCond .ne 6, 3) := by decide +kernel
theorem dX4_ifTicks_20 : decode cX4_ifTicks 20 = .ok (.bipush (-2), 2) := by decide +kernel
theorem dX4_ifTicks_22 : decode cX4_ifTicks 22 = .ok (.ireturn, 1) := by decide +kernel
theorem dX4_ifTicks_23 : decode cX4_ifTicks 23 = .ok (.iload_n 2, 1) := by decide +kernel
theorem dX4_ifTicks_24 : decode cX4_ifTicks 24 = .ok (.iconst 3, 1) := by decide +kernel
theorem dX4_ifTicks_25 : decode cX4_ifTicks 25 = .ok (.if_icmp .ne 8, 3) := by decide +kernel
theorem dX4_ifTicks_28 : decode cX4_ifTicks 28 = .ok (.bipush 8, 2) := by decide +kernel
theorem dX4_ifTicks_30 : decode cX4_ifTicks 30 = .ok (.goto 7, 3) := by decide +kernel
theorem dX4_ifTicks_33 : decode cX4_ifTicks 33 = .ok (.bipush 9, 2) := by decide +kernel
theorem dX4_ifTicks_35 : decode cX4_ifTicks 35 = .ok (.iload_n 2, 1) := by decide +kernel
theorem dX4_ifTicks_36 : decode cX4_ifTicks 36 = .ok (.iadd, 1) := by decide +kernel
theorem dX4_ifTicks_37 : decode cX4_ifTicks 37 = .ok (.istore_n 3, 1) := by decide +kernel
theorem dX4_ifTicks_38 : decode cX4_ifTicks 38 = .ok (.aload_n 0, 1) := by decide +kernel
theorem dX4_ifTicks_39 : decode cX4_ifTicks 39 = .ok (.invokevirtual 88, 3) := by decide +kernel
theorem dX4_ifTicks_42 : decode cX4_ifTicks 42 = .ok (.aload_n 0, 1) := by decide +kernel
theorem dX4_ifTicks_43 : decode cX4_ifTicks 43 = .ok (.iload_n 3, 1) := by decide +kernel
theorem dX4_ifTicks_44 : decode cX4_ifTicks 44 = .ok (.invokevirtual 78, 3) := by decide +kernel
theorem dX4_ifTicks_47 : decode cX4_ifTicks 47 = .ok (.istore 4, 2) := by decide +kernel
theorem dX4_ifTicks_49 : decode cX4_ifTicks 49 = .ok (.iconst 0, 1) := by decide +kernel
theorem dX4_ifTicks_50 : decode cX4_ifTicks 50 = .ok (.istore 5, 2) := by decide +kernel
theorem dX4_ifTicks_52 : decode cX4_ifTicks 52 = .ok (.iload 5, 2) := by decide +kernel
theorem dX4_ifTicks_54 : decode cX4_ifTicks 54 = .ok (.iload_n 1, 1) := by decide +kernel
theorem dX4_ifTicks_55 : decode cX4_ifTicks 55 = .ok (.if_icmp .ge 13, 3) := by decide +kernel
theorem dX4_ifTicks_58 : decode cX4_ifTicks 58 = .ok (.aload_n 0, 1) := by decide +kernel
theorem dX4_ifTicks_59 : decode cX4_ifTicks 59 = .ok (.invokevirtual 81, 3) := by decide +kernel
theorem dX4_ifTicks_62 : decode cX4_ifTicks 62 = .ok (.iinc 5 1, 3) := by decide +kernel
theorem dX4_ifTicks_65 : decode cX4_ifTicks 65 = .ok (.goto (-13), 3) := by decide +kernel
theorem dX4_ifTicks_68 : decode cX4_ifTicks 68 = .ok (.aload_n 0, 1) := by decide +kernel
theorem dX4_ifTicks_69 : decode cX4_ifTicks 69 = .ok (.iload_n 3, 1) := by decide +kernel
theorem dX4_ifTicks_70 : decode cX4_ifTicks 70 = .ok (.invokevirtual 78, 3) := by decide +kernel
theorem dX4_ifTicks_73 : decode cX4_ifTicks 73 = .ok (.iload 4, 2) := by decide +kernel
theorem dX4_ifTicks_75 : decode cX4_ifTicks 75 = .ok (.isub, 1) := by decide +kernel
theorem dX4_ifTicks_76 : decode cX4_ifTicks 76 = .ok (.istore 5, 2) := by decide +kernel
theorem dX4_ifTicks_78 : decode cX4_ifTicks 78 = .ok (.aload_n 0, 1) := by decide +kernel
theorem dX4_ifTicks_79 : decode cX4_ifTicks 79 = .ok (.getfield 19, 3) := by decide +kernel
theorem dX4_ifTicks_82 : decode cX4_ifTicks 82 = .ok (.iconst 0, 1) := by decide +kernel
theorem dX4_ifTicks_83 : decode cX4_ifTicks 83 = .ok (.aload_n 0, 1) := by decide +kernel
theorem dX4_ifTicks_84 : decode cX4_ifTicks 84 = .ok (.getfield 7, 3) := by decide +kernel
theorem dX4_ifTicks_87 : decode cX4_ifTicks 87 = .ok (.iconst 0, 1) := by decide +kernel
theorem dX4_ifTicks_88 : decode cX4_ifTicks 88 = .ok (.invokestatic 45, 3) := by decide +kernel
theorem dX4_ifTicks_91 : decode cX4_ifTicks 91 = .ok (.iload 5, 2) := by decide +kernel
theorem dX4_ifTicks_93 : decode cX4_ifTicks 93 = .ok (.ireturn, 1) := by decide +kernel
theorem dX4_highest_0 : decode cX4_highest 0 = .ok (.iconst 0, 1) := by decide +kernel
theorem dX4_highest_1 : decode cX4_highest 1 = .ok (.istore_n 1, 1) := by decide +kernel
theorem dX4_highest_2 : decode cX4_highest 2 = .ok (.iconst 1, 1) := by decide +kernel
theorem dX4_highest_3 : decode cX4_highest 3 = .ok (.istore_n 2, 1) := by decide +kernel
theorem dX4_highest_4 : decode cX4_highest 4 = .ok (.iload_n 2, 1) := by decide +kernel
theorem dX4_highest_5 : decode cX4_highest 5 = .ok (.bipush 8, 2) := by decide +kernel
theorem dX4_highest_7 : decode cX4_highest 7 = .ok (.if_icmp .ge 32, 3) := by decide +kernel
theorem dX4_highest_10 : decode cX4_highest 10 = .ok (.aload_n 0, 1) := by decide +kernel
theorem dX4_highest_11 : decode cX4_highest 11 = .ok (.iload_n 2, 1) := by decide +kernel
theorem dX4_highest_12 : decode cX4_highest 12 = .ok (.bipush 7, 2) := by decide +kernel
theorem dX4_highest_14 : decode cX4_highest 14 = .ok (.invokevirtual 49, 3) := by decide +kernel
theorem dX4_highest_17 : decode cX4_highest 17 = .ok (.aload_n 0, 1) := by decide +kernel
theorem dX4_highest_18 : decode cX4_highest 18 = .ok (.iload_n 1, 1) := by decide +kernel
theorem dX4_highest_19 : decode cX4_highest 19 = .ok (.bipush 7, 2) := by decide +kernel
theorem dX4_highest_21 : decode cX4_highest 21 = .ok (.invokevirtual 49, 3) := by decide +kernel
theorem dX4_highest_24 : decode cX4_highest 24 = .ok (.if_icmp .le 7, 3) := by decide +kernel
theorem dX4_highest_27 : decode cX4_highest 27 = .ok (.iload_n 2, 1) := by decide +kernel
theorem dX4_highest_28 : decode cX4_highest 28 = .ok (.goto 4, 3) := by decide +kernel
theorem dX4_highest_31 : decode cX4_highest 31 = .ok (.iload_n 1, 1) := by decide +kernel
theorem dX4_highest_32 : decode cX4_highest 32 = .ok (.istore_n 1, 1) := by decide +kernel
theorem dX4_highest_33 : decode cX4_highest 33 = .ok (.iinc 2 1, 3) := by decide +kernel
theorem dX4_highest_36 : decode cX4_highest 36 = .ok (.goto (-32), 3) := by decide +kernel
theorem dX4_highest_39 : decode cX4_highest 39 = .ok (.aload_n 0, 1) := by decide +kernel
theorem dX4_highest_40 : decode cX4_highest 40 = .ok (.iload_n 1, 1) := by decide +kernel
theorem dX4_highest_41 : decode cX4_highest 41 = .ok (.bipush 7, 2) := by decide +kernel
theorem dX4_highest_43 : decode cX4_highest 43 = .ok (.invokevirtual 49, 3) := by decide +kernel
theorem dX4_highest_46 : decode cX4_highest 46 = .ok (.ifCond .ne 8, 3) := by decide +kernel
theorem dX4_highest_49 : decode cX4_highest 49 = .ok (.bipush (-5), 2) := by decide +kernel
theorem dX4_highest_51 : decode cX4_highest 51 = .ok (.goto 4, 3) := by decide +kernel
theorem dX4_highest_54 : decode cX4_highest 54 = .ok (.iload_n 1, 1) := by decide +kernel
theorem dX4_highest_55 : decode cX4_highest 55 = .ok (.ireturn, 1) := by decide +kernel
theorem dX4_full_0 : decode cX4_full 0 = .ok (.iconst 0, 1) := by decide +kernel
theorem dX4_full_1 : decode cX4_full 1 = .ok (.istore_n 1, 1) := by decide +kernel
theorem dX4_full_2 : decode cX4_full 2 = .ok (.iconst 0, 1) := by decide +kernel
theorem dX4_full_3 : decode cX4_full 3 = .ok (.istore_n 2, 1) := by decide +kernel
theorem dX4_full_4 : decode cX4_full 4 = .ok (.iload_n 2, 1) := by decide +kernel
theorem dX4_full_5 : decode cX4_full 5 = .ok (.bipush 8, 2) := by decide +kernel
theorem dX4_full_7 : decode cX4_full 7 = .ok (.if_icmp .ge 25, 3) := by decide +kernel
theorem dX4_full_10 : decode cX4_full 10 = .ok (.iload_n 1, 1) := by decide +kernel
theorem dX4_full_11 : decode cX4_full 11 = .ok (.aload_n 0, 1) := by decide +kernel
theorem dX4_full_12 : decode cX4_full 12 = .ok (.iload_n 2, 1) := by decide +kernel
theorem dX4_full_13 : decode cX4_full 13 = .ok (.invokevirtual 53, 3) := by decide +kernel
theorem dX4_full_16 : decode cX4_full 16 = .ok (.ifCond .eq 7, 3) := by decide +kernel
theorem dX4_full_19 : decode cX4_full 19 = .ok (.iconst 1, 1) := by decide +kernel
theorem dX4_full_20 : decode cX4_full 20 = .ok (.goto 4, 3) := by decide +kernel
theorem dX4_full_23 : decode cX4_full 23 = .ok (.iconst 0, 1) := by decide +kernel
theorem dX4_full_24 : decode cX4_full 24 = .ok (.iadd, 1) := by decide +kernel
theorem dX4_full_25 : decode cX4_full 25 = .ok (.istore_n 1, 1) := by decide +kernel
theorem dX4_full_26 : decode cX4_full 26 = .ok (.iinc 2 1, 3) := by decide +kernel
theorem dX4_full_29 : decode cX4_full 29 = .ok (.goto (-25), 3) := by decide +kernel
theorem dX4_full_32 : decode cX4_full 32 = .ok (.iload_n 1, 1) := by decide +kernel
theorem dX4_full_33 : decode cX4_full 33 = .ok (.ireturn, 1) := by decide +kernel
theorem dX4_count_0 : decode cX4_count 0 = .ok (.iload_n 1, 1) := by decide +kernel
theorem dX4_count_1 : decode cX4_count 1 = .ok (.tableswitch 168 0 14 #[75, 82, 93, 99, 106, 113, 120, 127, 134, 141, 146, 146, 146, 158, 163], 75) := by decide +kernel
theorem dX4_count_76 : decode cX4_count 76 = .ok (.aload_n 0, 1) := by decide +kernel
theorem dX4_count_77 : decode cX4_count 77 = .ok (.getfield 7, 3) := by decide +kernel
theorem dX4_count_80 : decode cX4_count 80 = .ok (.iconst 0, 1) := by decide +kernel
theorem dX4_count_81 : decode cX4_count 81 = .ok (.iaload, 1) := by decide +kernel
theorem dX4_count_82 : decode cX4_count 82 = .ok (.ireturn, 1) := by decide +kernel
theorem dX4_count_83 : decode cX4_count 83 = .ok (.aload_n 0, 1) := by decide +kernel
theorem dX4_count_84 : decode cX4_count 84 = .ok (.aload_n 0, 1) := by decide +kernel
theorem dX4_count_85 : decode cX4_count 85 = .ok (.getfield 7, 3) := by decide +kernel
theorem dX4_count_88 : decode cX4_count 88 = .ok (.iconst 0, 1) := by decide +kernel
theorem dX4_count_89 : decode cX4_count 89 = .ok (.iaload, 1) := by decide +kernel
theorem dX4_count_90 : decode cX4_count 90 = .ok (.invokevirtual 64, 3) := by decide +kernel
theorem dX4_count_93 : decode cX4_count 93 = .ok (.ireturn, 1) := by decide +kernel
theorem dX4_count_94 : decode cX4_count 94 = .ok (.aload_n 0, 1) := by decide +kernel
theorem dX4_count_95 : decode cX4_count 95 = .ok (.iconst 3, 1) := by decide +kernel
theorem dX4_count_96 : decode cX4_count 96 = .ok (.invokevirtual 78, 3) := by decide +kernel
theorem dX4_count_99 : decode cX4_count 99 = .ok (.ireturn, 1) := by decide +kernel
theorem dX4_count_100 : decode cX4_count 100 = .ok (.aload_n 0, 1) := by decide +kernel
theorem dX4_count_101 : decode cX4_count 101 = .ok (.getfield 7, 3) := by decide +kernel
theorem dX4_count_104 : decode cX4_count 104 = .ok (.iconst 1, 1) := by decide +kernel
theorem dX4_count_105 : decode cX4_count 105 = .ok (.iaload, 1) := by decide +kernel
theorem dX4_count_106 : decode cX4_count 106 = .ok (.ireturn, 1) := by decide +kernel
theorem dX4_count_107 : decode cX4_count 107 = .ok (.aload_n 0, 1) := by decide +kernel
theorem dX4_count_108 : decode cX4_count 108 = .ok (.getfield 7, 3) := by decide +kernel
theorem dX4_count_111 : decode cX4_count 111 = .ok (.iconst 2, 1) := by decide +kernel
theorem dX4_count_112 : decode cX4_count 112 = .ok (.iaload, 1) := by decide +kernel
theorem dX4_count_113 : decode cX4_count 113 = .ok (.ireturn, 1) := by decide +kernel
theorem dX4_count_114 : decode cX4_count 114 = .ok (.aload_n 0, 1) := by decide +kernel
theorem dX4_count_115 : decode cX4_count 115 = .ok (.getfield 7, 3) := by decide +kernel
theorem dX4_count_118 : decode cX4_count 118 = .ok (.iconst 3, 1) := by decide +kernel
theorem dX4_count_119 : decode cX4_count 119 = .ok (.iaload, 1) := by decide +kernel
theorem dX4_count_120 : decode cX4_count 120 = .ok (.ireturn, 1) := by decide +kernel
theorem dX4_count_121 : decode cX4_count 121 = .ok (.aload_n 0, 1) := by decide +kernel
theorem dX4_count_122 : decode cX4_count 122 = .ok (.getfield 7, 3) := by decide +kernel
theorem dX4_count_125 : decode cX4_count 125 = .ok (.iconst 4, 1) := by decide +kernel
theorem dX4_count_126 : decode cX4_count 126 = .ok (.iaload, 1) := by decide +kernel
theorem dX4_count_127 : decode cX4_count 127 = .ok (.ireturn, 1) := by decide +kernel
theorem dX4_count_128 : decode cX4_count 128 = .ok (.aload_n 0, 1) := by decide +kernel
theorem dX4_count_129 : decode cX4_count 129 = .ok (.bipush 8, 2) := by decide +kernel
theorem dX4_count_131 : decode cX4_count 131 = .ok (.invokevirtual 78, 3) := by decide +kernel
theorem dX4_count_134 : decode cX4_count 134 = .ok (.ireturn, 1) := by decide +kernel
theorem dX4_count_135 : decode cX4_count 135 = .ok (.aload_n 0, 1) := by decide +kernel
theorem dX4_count_136 : decode cX4_count 136 = .ok (.bipush 9, 2) := by decide +kernel
theorem dX4_count_138 : decode cX4_count 138 = .ok (.invokevirtual 78, 3) := by decide +kernel
theorem dX4_count_141 : decode cX4_count 141 = .ok (.ireturn, 1) := by decide +kernel
theorem dX4_count_142 : decode cX4_count 142 = .ok (.aload_n 0, 1) := by decide +kernel
theorem dX4_count_143 : decode cX4_count 143 = .ok (.invokevirtual 175, 3) := by decide +kernel
theorem dX4_count_146 : decode cX4_count 146 = .ok (.ireturn, 1) := by decide +kernel
theorem dX4_count_147 : decode cX4_count 147 = .ok (.aload_n 0, 1) := by decide +kernel
theorem dX4_count_148 : decode cX4_count 148 = .ok (.getfield 7, 3) := by decide +kernel
theorem dX4_count_151 : decode cX4_count 151 = .ok (.iconst 5, 1) := by decide +kernel
theorem dX4_count_152 : decode cX4_count 152 = .ok (.iload_n 1, 1) := by decide +kernel
theorem dX4_count_153 : decode cX4_count 153 = .ok (.iadd, 1) := by decide +kernel
theorem dX4_count_154 : decode cX4_count 154 = .ok (.bipush 10, 2) := by decide +kernel
theorem dX4_count_156 : decode cX4_count 156 = .ok (.isub, 1) := by decide +kernel
theorem dX4_count_157 : decode cX4_count 157 = .ok (.iaload, 1) := by decide +kernel
theorem dX4_count_158 : decode cX4_count 158 = .ok (.ireturn, 1) := by decide +kernel
theorem dX4_count_159 : decode cX4_count 159 = .ok (.aload_n 0, 1) := by decide +kernel
theorem dX4_count_160 : decode cX4_count 160 = .ok (.getfield 42, 3) := by decide +kernel
theorem dX4_count_163 : decode cX4_count 163 = .ok (.ireturn, 1) := by decide +kernel
theorem dX4_count_164 : decode cX4_count 164 = .ok (.aload_n 0, 1) := by decide +kernel
theorem dX4_count_165 : decode cX4_count 165 = .ok (.getfield 116, 3) := by decide +kernel
theorem dX4_count_168 : decode cX4_count 168 = .ok (.ireturn, 1) := by decide +kernel
theorem dX4_count_169 : decode cX4_count 169 = .ok (.bipush (-2), 2) := by decide +kernel
theorem dX4_count_171 : decode cX4_count 171 = .ok (.ireturn, 1) := by decide +kernel
theorem dL_law_0 : decode cL_law 0 = .ok (.new 7, 3) := by decide +kernel
theorem dL_law_3 : decode cL_law 3 = .ok (.dup, 1) := by decide +kernel
theorem dL_law_4 : decode cL_law 4 = .ok (.invokespecial 9, 3) := by decide +kernel
theorem dL_law_7 : decode cL_law 7 = .ok (.astore_n 1, 1) := by decide +kernel
theorem dL_law_8 : decode cL_law 8 = .ok (.new 10, 3) := by decide +kernel
theorem dL_law_11 : decode cL_law 11 = .ok (.dup, 1) := by decide +kernel
theorem dL_law_12 : decode cL_law 12 = .ok (.invokespecial 12, 3) := by decide +kernel
theorem dL_law_15 : decode cL_law 15 = .ok (.astore_n 2, 1) := by decide +kernel
theorem dL_law_16 : decode cL_law 16 = .ok (.iconst 0, 1) := by decide +kernel
theorem dL_law_17 : decode cL_law 17 = .ok (.istore_n 3, 1) := by decide +kernel
theorem dL_law_18 : decode cL_law 18 = .ok (.iload_n 3, 1) := by decide +kernel
theorem dL_law_19 : decode cL_law 19 = .ok (.aload_n 0, 1) := by decide +kernel
theorem dL_law_20 : decode cL_law 20 = .ok (.arraylength, 1) := by decide +kernel
theorem dL_law_21 : decode cL_law 21 = .ok (.iconst 4, 1) := by decide +kernel
theorem dL_law_22 : decode cL_law 22 = .ok (.isub, 1) := by decide +kernel
theorem dL_law_23 : decode cL_law 23 = .ok (.if_icmp .gt 654, 3) := by decide +kernel
theorem dL_law_26 : decode cL_law 26 = .ok (.aload_n 0, 1) := by decide +kernel
theorem dL_law_27 : decode cL_law 27 = .ok (.iload_n 3, 1) := by decide +kernel
theorem dL_law_28 : decode cL_law 28 = .ok (.iaload, 1) := by decide +kernel
theorem dL_law_29 : decode cL_law 29 = .ok (.bipush 31, 2) := by decide +kernel
theorem dL_law_31 : decode cL_law 31 = .ok (.iand, 1) := by decide +kernel
theorem dL_law_32 : decode cL_law 32 = .ok (.tableswitch 639 0 22 #[108, 151, 174, 207, 230, 263, 296, 319, 344, 357, 370, 393, 406, 419, 432, 465, 488, 511, 534, 547, 570, 603, 616], 108) := by decide +kernel
theorem dL_law_140 : decode cL_law 140 = .ok (.aload_n 1, 1) := by decide +kernel
theorem dL_law_141 : decode cL_law 141 = .ok (.aload_n 0, 1) := by decide +kernel
theorem dL_law_142 : decode cL_law 142 = .ok (.iload_n 3, 1) := by decide +kernel
theorem dL_law_143 : decode cL_law 143 = .ok (.iconst 1, 1) := by decide +kernel
theorem dL_law_144 : decode cL_law 144 = .ok (.iadd, 1) := by decide +kernel
theorem dL_law_145 : decode cL_law 145 = .ok (.iaload, 1) := by decide +kernel
theorem dL_law_146 : decode cL_law 146 = .ok (.aload_n 0, 1) := by decide +kernel
theorem dL_law_147 : decode cL_law 147 = .ok (.iload_n 3, 1) := by decide +kernel
theorem dL_law_148 : decode cL_law 148 = .ok (.iconst 2, 1) := by decide +kernel
theorem dL_law_149 : decode cL_law 149 = .ok (.iadd, 1) := by decide +kernel
theorem dL_law_150 : decode cL_law 150 = .ok (.iaload, 1) := by decide +kernel
theorem dL_law_151 : decode cL_law 151 = .ok (.aload_n 0, 1) := by decide +kernel
theorem dL_law_152 : decode cL_law 152 = .ok (.iload_n 3, 1) := by decide +kernel
theorem dL_law_153 : decode cL_law 153 = .ok (.iconst 3, 1) := by decide +kernel
theorem dL_law_154 : decode cL_law 154 = .ok (.iadd, 1) := by decide +kernel
theorem dL_law_155 : decode cL_law 155 = .ok (.iaload, 1) := by decide +kernel
theorem dL_law_156 : decode cL_law 156 = .ok (.invokevirtual 13, 3) := by decide +kernel
theorem dL_law_159 : decode cL_law 159 = .ok (.aload_n 2, 1) := by decide +kernel
theorem dL_law_160 : decode cL_law 160 = .ok (.aload_n 0, 1) := by decide +kernel
theorem dL_law_161 : decode cL_law 161 = .ok (.iload_n 3, 1) := by decide +kernel
theorem dL_law_162 : decode cL_law 162 = .ok (.iconst 1, 1) := by decide +kernel
theorem dL_law_163 : decode cL_law 163 = .ok (.iadd, 1) := by decide +kernel
theorem dL_law_164 : decode cL_law 164 = .ok (.iaload, 1) := by decide +kernel
theorem dL_law_165 : decode cL_law 165 = .ok (.aload_n 0, 1) := by decide +kernel
theorem dL_law_166 : decode cL_law 166 = .ok (.iload_n 3, 1) := by decide +kernel
theorem dL_law_167 : decode cL_law 167 = .ok (.iconst 2, 1) := by decide +kernel
theorem dL_law_168 : decode cL_law 168 = .ok (.iadd, 1) := by decide +kernel
theorem dL_law_169 : decode cL_law 169 = .ok (.iaload, 1) := by decide +kernel
theorem dL_law_170 : decode cL_law 170 = .ok (.aload_n 0, 1) := by decide +kernel
theorem dL_law_171 : decode cL_law 171 = .ok (.iload_n 3, 1) := by decide +kernel
theorem dL_law_172 : decode cL_law 172 = .ok (.iconst 3, 1) := by decide +kernel
theorem dL_law_173 : decode cL_law 173 = .ok (.iadd, 1) := by decide +kernel
theorem dL_law_174 : decode cL_law 174 = .ok (.iaload, 1) := by decide +kernel
theorem dL_law_175 : decode cL_law 175 = .ok (.invokevirtual 17, 3) := by decide +kernel
theorem dL_law_178 : decode cL_law 178 = .ok (.if_icmp .eq 493, 3) := by decide +kernel
theorem dL_law_181 : decode cL_law 181 = .ok (.iconst 0, 1) := by decide +kernel
theorem dL_law_182 : decode cL_law 182 = .ok (.ireturn, 1) := by decide +kernel
theorem dL_law_183 : decode cL_law 183 = .ok (.aload_n 1, 1) := by decide +kernel
theorem dL_law_184 : decode cL_law 184 = .ok (.aload_n 0, 1) := by decide +kernel
theorem dL_law_185 : decode cL_law 185 = .ok (.iload_n 3, 1) := by decide +kernel
theorem dL_law_186 : decode cL_law 186 = .ok (.iconst 1, 1) := by decide +kernel
theorem dL_law_187 : decode cL_law 187 = .ok (.iadd, 1) := by decide +kernel
theorem dL_law_188 : decode cL_law 188 = .ok (.iaload, 1) := by decide +kernel
theorem dL_law_189 : decode cL_law 189 = .ok (.invokevirtual 18, 3) := by decide +kernel
theorem dL_law_192 : decode cL_law 192 = .ok (.aload_n 2, 1) := by decide +kernel
theorem dL_law_193 : decode cL_law 193 = .ok (.aload_n 0, 1) := by decide +kernel
theorem dL_law_194 : decode cL_law 194 = .ok (.iload_n 3, 1) := by decide +kernel
theorem dL_law_195 : decode cL_law 195 = .ok (.iconst 1, 1) := by decide +kernel
theorem dL_law_196 : decode cL_law 196 = .ok (.iadd, 1) := by decide +kernel
theorem dL_law_197 : decode cL_law 197 = .ok (.iaload, 1) := by decide +kernel
theorem dL_law_198 : decode cL_law 198 = .ok (.invokevirtual 22, 3) := by decide +kernel
theorem dL_law_201 : decode cL_law 201 = .ok (.if_icmp .eq 470, 3) := by decide +kernel
theorem dL_law_204 : decode cL_law 204 = .ok (.iconst 0, 1) := by decide +kernel
theorem dL_law_205 : decode cL_law 205 = .ok (.ireturn, 1) := by decide +kernel
theorem dL_law_206 : decode cL_law 206 = .ok (.aload_n 1, 1) := by decide +kernel
theorem dL_law_207 : decode cL_law 207 = .ok (.aload_n 0, 1) := by decide +kernel
theorem dL_law_208 : decode cL_law 208 = .ok (.iload_n 3, 1) := by decide +kernel
theorem dL_law_209 : decode cL_law 209 = .ok (.iconst 1, 1) := by decide +kernel
theorem dL_law_210 : decode cL_law 210 = .ok (.iadd, 1) := by decide +kernel
theorem dL_law_211 : decode cL_law 211 = .ok (.iaload, 1) := by decide +kernel
theorem dL_law_212 : decode cL_law 212 = .ok (.aload_n 0, 1) := by decide +kernel
theorem dL_law_213 : decode cL_law 213 = .ok (.iload_n 3, 1) := by decide +kernel
theorem dL_law_214 : decode cL_law 214 = .ok (.iconst 2, 1) := by decide +kernel
theorem dL_law_215 : decode cL_law 215 = .ok (.iadd, 1) := by decide +kernel
theorem dL_law_216 : decode cL_law 216 = .ok (.iaload, 1) := by decide +kernel
theorem dL_law_217 : decode cL_law 217 = .ok (.invokevirtual 23, 3) := by decide +kernel
theorem dL_law_220 : decode cL_law 220 = .ok (.aload_n 2, 1) := by decide +kernel
theorem dL_law_221 : decode cL_law 221 = .ok (.aload_n 0, 1) := by decide +kernel
theorem dL_law_222 : decode cL_law 222 = .ok (.iload_n 3, 1) := by decide +kernel
theorem dL_law_223 : decode cL_law 223 = .ok (.iconst 1, 1) := by decide +kernel
theorem dL_law_224 : decode cL_law 224 = .ok (.iadd, 1) := by decide +kernel
theorem dL_law_225 : decode cL_law 225 = .ok (.iaload, 1) := by decide +kernel
theorem dL_law_226 : decode cL_law 226 = .ok (.aload_n 0, 1) := by decide +kernel
theorem dL_law_227 : decode cL_law 227 = .ok (.iload_n 3, 1) := by decide +kernel
theorem dL_law_228 : decode cL_law 228 = .ok (.iconst 2, 1) := by decide +kernel
theorem dL_law_229 : decode cL_law 229 = .ok (.iadd, 1) := by decide +kernel
theorem dL_law_230 : decode cL_law 230 = .ok (.iaload, 1) := by decide +kernel
theorem dL_law_231 : decode cL_law 231 = .ok (.invokevirtual 27, 3) := by decide +kernel
theorem dL_law_234 : decode cL_law 234 = .ok (.if_icmp .eq 437, 3) := by decide +kernel
theorem dL_law_237 : decode cL_law 237 = .ok (.iconst 0, 1) := by decide +kernel
theorem dL_law_238 : decode cL_law 238 = .ok (.ireturn, 1) := by decide +kernel
theorem dL_law_239 : decode cL_law 239 = .ok (.aload_n 1, 1) := by decide +kernel
theorem dL_law_240 : decode cL_law 240 = .ok (.aload_n 0, 1) := by decide +kernel
theorem dL_law_241 : decode cL_law 241 = .ok (.iload_n 3, 1) := by decide +kernel
theorem dL_law_242 : decode cL_law 242 = .ok (.iconst 1, 1) := by decide +kernel
theorem dL_law_243 : decode cL_law 243 = .ok (.iadd, 1) := by decide +kernel
theorem dL_law_244 : decode cL_law 244 = .ok (.iaload, 1) := by decide +kernel
theorem dL_law_245 : decode cL_law 245 = .ok (.invokevirtual 28, 3) := by decide +kernel
theorem dL_law_248 : decode cL_law 248 = .ok (.aload_n 2, 1) := by decide +kernel
theorem dL_law_249 : decode cL_law 249 = .ok (.aload_n 0, 1) := by decide +kernel
theorem dL_law_250 : decode cL_law 250 = .ok (.iload_n 3, 1) := by decide +kernel
theorem dL_law_251 : decode cL_law 251 = .ok (.iconst 1, 1) := by decide +kernel
theorem dL_law_252 : decode cL_law 252 = .ok (.iadd, 1) := by decide +kernel
theorem dL_law_253 : decode cL_law 253 = .ok (.iaload, 1) := by decide +kernel
theorem dL_law_254 : decode cL_law 254 = .ok (.invokevirtual 31, 3) := by decide +kernel
theorem dL_law_257 : decode cL_law 257 = .ok (.if_icmp .eq 414, 3) := by decide +kernel
theorem dL_law_260 : decode cL_law 260 = .ok (.iconst 0, 1) := by decide +kernel
theorem dL_law_261 : decode cL_law 261 = .ok (.ireturn, 1) := by decide +kernel
theorem dL_law_262 : decode cL_law 262 = .ok (.aload_n 1, 1) := by decide +kernel
theorem dL_law_263 : decode cL_law 263 = .ok (.aload_n 0, 1) := by decide +kernel
theorem dL_law_264 : decode cL_law 264 = .ok (.iload_n 3, 1) := by decide +kernel
theorem dL_law_265 : decode cL_law 265 = .ok (.iconst 1, 1) := by decide +kernel
theorem dL_law_266 : decode cL_law 266 = .ok (.iadd, 1) := by decide +kernel
theorem dL_law_267 : decode cL_law 267 = .ok (.iaload, 1) := by decide +kernel
theorem dL_law_268 : decode cL_law 268 = .ok (.aload_n 0, 1) := by decide +kernel
theorem dL_law_269 : decode cL_law 269 = .ok (.iload_n 3, 1) := by decide +kernel
theorem dL_law_270 : decode cL_law 270 = .ok (.iconst 2, 1) := by decide +kernel
theorem dL_law_271 : decode cL_law 271 = .ok (.iadd, 1) := by decide +kernel
theorem dL_law_272 : decode cL_law 272 = .ok (.iaload, 1) := by decide +kernel
theorem dL_law_273 : decode cL_law 273 = .ok (.invokevirtual 32, 3) := by decide +kernel
theorem dL_law_276 : decode cL_law 276 = .ok (.aload_n 2, 1) := by decide +kernel
theorem dL_law_277 : decode cL_law 277 = .ok (.aload_n 0, 1) := by decide +kernel
theorem dL_law_278 : decode cL_law 278 = .ok (.iload_n 3, 1) := by decide +kernel
theorem dL_law_279 : decode cL_law 279 = .ok (.iconst 1, 1) := by decide +kernel
theorem dL_law_280 : decode cL_law 280 = .ok (.iadd, 1) := by decide +kernel
theorem dL_law_281 : decode cL_law 281 = .ok (.iaload, 1) := by decide +kernel
theorem dL_law_282 : decode cL_law 282 = .ok (.aload_n 0, 1) := by decide +kernel
theorem dL_law_283 : decode cL_law 283 = .ok (.iload_n 3, 1) := by decide +kernel
theorem dL_law_284 : decode cL_law 284 = .ok (.iconst 2, 1) := by decide +kernel
theorem dL_law_285 : decode cL_law 285 = .ok (.iadd, 1) := by decide +kernel
theorem dL_law_286 : decode cL_law 286 = .ok (.iaload, 1) := by decide +kernel
theorem dL_law_287 : decode cL_law 287 = .ok (.invokevirtual 35, 3) := by decide +kernel
theorem dL_law_290 : decode cL_law 290 = .ok (.if_icmp .eq 381, 3) := by decide +kernel
theorem dL_law_293 : decode cL_law 293 = .ok (.iconst 0, 1) := by decide +kernel
theorem dL_law_294 : decode cL_law 294 = .ok (.ireturn, 1) := by decide +kernel
theorem dL_law_295 : decode cL_law 295 = .ok (.aload_n 1, 1) := by decide +kernel
theorem dL_law_296 : decode cL_law 296 = .ok (.aload_n 0, 1) := by decide +kernel
theorem dL_law_297 : decode cL_law 297 = .ok (.iload_n 3, 1) := by decide +kernel
theorem dL_law_298 : decode cL_law 298 = .ok (.iconst 1, 1) := by decide +kernel
theorem dL_law_299 : decode cL_law 299 = .ok (.iadd, 1) := by decide +kernel
theorem dL_law_300 : decode cL_law 300 = .ok (.iaload, 1) := by decide +kernel
theorem dL_law_301 : decode cL_law 301 = .ok (.aload_n 0, 1) := by decide +kernel
theorem dL_law_302 : decode cL_law 302 = .ok (.iload_n 3, 1) := by decide +kernel
theorem dL_law_303 : decode cL_law 303 = .ok (.iconst 2, 1) := by decide +kernel
theorem dL_law_304 : decode cL_law 304 = .ok (.iadd, 1) := by decide +kernel
theorem dL_law_305 : decode cL_law 305 = .ok (.iaload, 1) := by decide +kernel
theorem dL_law_306 : decode cL_law 306 = .ok (.invokevirtual 36, 3) := by decide +kernel
theorem dL_law_309 : decode cL_law 309 = .ok (.aload_n 2, 1) := by decide +kernel
theorem dL_law_310 : decode cL_law 310 = .ok (.aload_n 0, 1) := by decide +kernel
theorem dL_law_311 : decode cL_law 311 = .ok (.iload_n 3, 1) := by decide +kernel
theorem dL_law_312 : decode cL_law 312 = .ok (.iconst 1, 1) := by decide +kernel
theorem dL_law_313 : decode cL_law 313 = .ok (.iadd, 1) := by decide +kernel
theorem dL_law_314 : decode cL_law 314 = .ok (.iaload, 1) := by decide +kernel
theorem dL_law_315 : decode cL_law 315 = .ok (.aload_n 0, 1) := by decide +kernel
theorem dL_law_316 : decode cL_law 316 = .ok (.iload_n 3, 1) := by decide +kernel
theorem dL_law_317 : decode cL_law 317 = .ok (.iconst 2, 1) := by decide +kernel
theorem dL_law_318 : decode cL_law 318 = .ok (.iadd, 1) := by decide +kernel
theorem dL_law_319 : decode cL_law 319 = .ok (.iaload, 1) := by decide +kernel
theorem dL_law_320 : decode cL_law 320 = .ok (.invokevirtual 39, 3) := by decide +kernel
theorem dL_law_323 : decode cL_law 323 = .ok (.if_icmp .eq 348, 3) := by decide +kernel
theorem dL_law_326 : decode cL_law 326 = .ok (.iconst 0, 1) := by decide +kernel
theorem dL_law_327 : decode cL_law 327 = .ok (.ireturn, 1) := by decide +kernel
theorem dL_law_328 : decode cL_law 328 = .ok (.aload_n 1, 1) := by decide +kernel
theorem dL_law_329 : decode cL_law 329 = .ok (.aload_n 0, 1) := by decide +kernel
theorem dL_law_330 : decode cL_law 330 = .ok (.iload_n 3, 1) := by decide +kernel
theorem dL_law_331 : decode cL_law 331 = .ok (.iconst 1, 1) := by decide +kernel
theorem dL_law_332 : decode cL_law 332 = .ok (.iadd, 1) := by decide +kernel
theorem dL_law_333 : decode cL_law 333 = .ok (.iaload, 1) := by decide +kernel
theorem dL_law_334 : decode cL_law 334 = .ok (.invokevirtual 40, 3) := by decide +kernel
theorem dL_law_337 : decode cL_law 337 = .ok (.aload_n 2, 1) := by decide +kernel
theorem dL_law_338 : decode cL_law 338 = .ok (.aload_n 0, 1) := by decide +kernel
theorem dL_law_339 : decode cL_law 339 = .ok (.iload_n 3, 1) := by decide +kernel
theorem dL_law_340 : decode cL_law 340 = .ok (.iconst 1, 1) := by decide +kernel
theorem dL_law_341 : decode cL_law 341 = .ok (.iadd, 1) := by decide +kernel
theorem dL_law_342 : decode cL_law 342 = .ok (.iaload, 1) := by decide +kernel
theorem dL_law_343 : decode cL_law 343 = .ok (.invokevirtual 43, 3) := by decide +kernel
theorem dL_law_346 : decode cL_law 346 = .ok (.if_icmp .eq 325, 3) := by decide +kernel
theorem dL_law_349 : decode cL_law 349 = .ok (.iconst 0, 1) := by decide +kernel
theorem dL_law_350 : decode cL_law 350 = .ok (.ireturn, 1) := by decide +kernel
theorem dL_law_351 : decode cL_law 351 = .ok (.aload_n 1, 1) := by decide +kernel
theorem dL_law_352 : decode cL_law 352 = .ok (.aload_n 0, 1) := by decide +kernel
theorem dL_law_353 : decode cL_law 353 = .ok (.iload_n 3, 1) := by decide +kernel
theorem dL_law_354 : decode cL_law 354 = .ok (.iconst 1, 1) := by decide +kernel
theorem dL_law_355 : decode cL_law 355 = .ok (.iadd, 1) := by decide +kernel
theorem dL_law_356 : decode cL_law 356 = .ok (.iaload, 1) := by decide +kernel
theorem dL_law_357 : decode cL_law 357 = .ok (.i2c, 1) := by decide +kernel
theorem dL_law_358 : decode cL_law 358 = .ok (.invokevirtual 44, 3) := by decide +kernel
theorem dL_law_361 : decode cL_law 361 = .ok (.aload_n 2, 1) := by decide +kernel
theorem dL_law_362 : decode cL_law 362 = .ok (.aload_n 0, 1) := by decide +kernel
theorem dL_law_363 : decode cL_law 363 = .ok (.iload_n 3, 1) := by decide +kernel
theorem dL_law_364 : decode cL_law 364 = .ok (.iconst 1, 1) := by decide +kernel
theorem dL_law_365 : decode cL_law 365 = .ok (.iadd, 1) := by decide +kernel
theorem dL_law_366 : decode cL_law 366 = .ok (.iaload, 1) := by decide +kernel
theorem dL_law_367 : decode cL_law 367 = .ok (.i2c, 1) := by decide +kernel
theorem dL_law_368 : decode cL_law 368 = .ok (.invokevirtual 48, 3) := by decide +kernel
theorem dL_law_371 : decode cL_law 371 = .ok (.if_icmp .eq 300, 3) := by decide +kernel
theorem dL_law_374 : decode cL_law 374 = .ok (.iconst 0, 1) := by decide +kernel
theorem dL_law_375 : decode cL_law 375 = .ok (.ireturn, 1) := by decide +kernel
theorem dL_law_376 : decode cL_law 376 = .ok (.aload_n 1, 1) := by decide +kernel
theorem dL_law_377 : decode cL_law 377 = .ok (.invokevirtual 49, 3) := by decide +kernel
theorem dL_law_380 : decode cL_law 380 = .ok (.aload_n 2, 1) := by decide +kernel
theorem dL_law_381 : decode cL_law 381 = .ok (.invokevirtual 53, 3) := by decide +kernel
theorem dL_law_384 : decode cL_law 384 = .ok (.if_icmp .eq 287, 3) := by decide +kernel
theorem dL_law_387 : decode cL_law 387 = .ok (.iconst 0, 1) := by decide +kernel
theorem dL_law_388 : decode cL_law 388 = .ok (.ireturn, 1) := by decide +kernel
theorem dL_law_389 : decode cL_law 389 = .ok (.aload_n 1, 1) := by decide +kernel
theorem dL_law_390 : decode cL_law 390 = .ok (.invokevirtual 54, 3) := by decide +kernel
theorem dL_law_393 : decode cL_law 393 = .ok (.aload_n 2, 1) := by decide +kernel
theorem dL_law_394 : decode cL_law 394 = .ok (.invokevirtual 57, 3) := by decide +kernel
theorem dL_law_397 : decode cL_law 397 = .ok (.if_icmp .eq 274, 3) := by decide +kernel
theorem dL_law_400 : decode cL_law 400 = .ok (.iconst 0, 1) := by decide +kernel
theorem dL_law_401 : decode cL_law 401 = .ok (.ireturn, 1) := by decide +kernel
theorem dL_law_402 : decode cL_law 402 = .ok (.aload_n 1, 1) := by decide +kernel
theorem dL_law_403 : decode cL_law 403 = .ok (.aload_n 0, 1) := by decide +kernel
theorem dL_law_404 : decode cL_law 404 = .ok (.iload_n 3, 1) := by decide +kernel
theorem dL_law_405 : decode cL_law 405 = .ok (.iconst 1, 1) := by decide +kernel
theorem dL_law_406 : decode cL_law 406 = .ok (.iadd, 1) := by decide +kernel
theorem dL_law_407 : decode cL_law 407 = .ok (.iaload, 1) := by decide +kernel
theorem dL_law_408 : decode cL_law 408 = .ok (.invokevirtual 58, 3) := by decide +kernel
theorem dL_law_411 : decode cL_law 411 = .ok (.aload_n 2, 1) := by decide +kernel
theorem dL_law_412 : decode cL_law 412 = .ok (.aload_n 0, 1) := by decide +kernel
theorem dL_law_413 : decode cL_law 413 = .ok (.iload_n 3, 1) := by decide +kernel
theorem dL_law_414 : decode cL_law 414 = .ok (.iconst 1, 1) := by decide +kernel
theorem dL_law_415 : decode cL_law 415 = .ok (.iadd, 1) := by decide +kernel
theorem dL_law_416 : decode cL_law 416 = .ok (.iaload, 1) := by decide +kernel
theorem dL_law_417 : decode cL_law 417 = .ok (.invokevirtual 61, 3) := by decide +kernel
theorem dL_law_420 : decode cL_law 420 = .ok (.if_icmp .eq 251, 3) := by decide +kernel
theorem dL_law_423 : decode cL_law 423 = .ok (.iconst 0, 1) := by decide +kernel
theorem dL_law_424 : decode cL_law 424 = .ok (.ireturn, 1) := by decide +kernel
theorem dL_law_425 : decode cL_law 425 = .ok (.aload_n 1, 1) := by decide +kernel
theorem dL_law_426 : decode cL_law 426 = .ok (.invokevirtual 62, 3) := by decide +kernel
theorem dL_law_429 : decode cL_law 429 = .ok (.aload_n 2, 1) := by decide +kernel
theorem dL_law_430 : decode cL_law 430 = .ok (.invokevirtual 65, 3) := by decide +kernel
theorem dL_law_433 : decode cL_law 433 = .ok (.if_icmp .eq 238, 3) := by decide +kernel
theorem dL_law_436 : decode cL_law 436 = .ok (.iconst 0, 1) := by decide +kernel
theorem dL_law_437 : decode cL_law 437 = .ok (.ireturn, 1) := by decide +kernel
theorem dL_law_438 : decode cL_law 438 = .ok (.aload_n 1, 1) := by decide +kernel
theorem dL_law_439 : decode cL_law 439 = .ok (.invokevirtual 66, 3) := by decide +kernel
theorem dL_law_442 : decode cL_law 442 = .ok (.aload_n 2, 1) := by decide +kernel
theorem dL_law_443 : decode cL_law 443 = .ok (.invokevirtual 69, 3) := by decide +kernel
theorem dL_law_446 : decode cL_law 446 = .ok (.if_icmp .eq 225, 3) := by decide +kernel
theorem dL_law_449 : decode cL_law 449 = .ok (.iconst 0, 1) := by decide +kernel
theorem dL_law_450 : decode cL_law 450 = .ok (.ireturn, 1) := by decide +kernel
theorem dL_law_451 : decode cL_law 451 = .ok (.aload_n 1, 1) := by decide +kernel
theorem dL_law_452 : decode cL_law 452 = .ok (.invokevirtual 70, 3) := by decide +kernel
theorem dL_law_455 : decode cL_law 455 = .ok (.aload_n 2, 1) := by decide +kernel
theorem dL_law_456 : decode cL_law 456 = .ok (.invokevirtual 73, 3) := by decide +kernel
theorem dL_law_459 : decode cL_law 459 = .ok (.if_icmp .eq 212, 3) := by decide +kernel
theorem dL_law_462 : decode cL_law 462 = .ok (.iconst 0, 1) := by decide +kernel
theorem dL_law_463 : decode cL_law 463 = .ok (.ireturn, 1) := by decide +kernel
theorem dL_law_464 : decode cL_law 464 = .ok (.aload_n 1, 1) := by decide +kernel
theorem dL_law_465 : decode cL_law 465 = .ok (.aload_n 0, 1) := by decide +kernel
theorem dL_law_466 : decode cL_law 466 = .ok (.iload_n 3, 1) := by decide +kernel
theorem dL_law_467 : decode cL_law 467 = .ok (.iconst 1, 1) := by decide +kernel
theorem dL_law_468 : decode cL_law 468 = .ok (.iadd, 1) := by decide +kernel
theorem dL_law_469 : decode cL_law 469 = .ok (.iaload, 1) := by decide +kernel
theorem dL_law_470 : decode cL_law 470 = .ok (.aload_n 0, 1) := by decide +kernel
theorem dL_law_471 : decode cL_law 471 = .ok (.iload_n 3, 1) := by decide +kernel
theorem dL_law_472 : decode cL_law 472 = .ok (.iconst 2, 1) := by decide +kernel
theorem dL_law_473 : decode cL_law 473 = .ok (.iadd, 1) := by decide +kernel
theorem dL_law_474 : decode cL_law 474 = .ok (.iaload, 1) := by decide +kernel
theorem dL_law_475 : decode cL_law 475 = .ok (.invokevirtual 74, 3) := by decide +kernel
theorem dL_law_478 : decode cL_law 478 = .ok (.aload_n 2, 1) := by decide +kernel
theorem dL_law_479 : decode cL_law 479 = .ok (.aload_n 0, 1) := by decide +kernel
theorem dL_law_480 : decode cL_law 480 = .ok (.iload_n 3, 1) := by decide +kernel
theorem dL_law_481 : decode cL_law 481 = .ok (.iconst 1, 1) := by decide +kernel
theorem dL_law_482 : decode cL_law 482 = .ok (.iadd, 1) := by decide +kernel
theorem dL_law_483 : decode cL_law 483 = .ok (.iaload, 1) := by decide +kernel
theorem dL_law_484 : decode cL_law 484 = .ok (.aload_n 0, 1) := by decide +kernel
theorem dL_law_485 : decode cL_law 485 = .ok (.iload_n 3, 1) := by decide +kernel
theorem dL_law_486 : decode cL_law 486 = .ok (.iconst 2, 1) := by decide +kernel
theorem dL_law_487 : decode cL_law 487 = .ok (.iadd, 1) := by decide +kernel
theorem dL_law_488 : decode cL_law 488 = .ok (.iaload, 1) := by decide +kernel
theorem dL_law_489 : decode cL_law 489 = .ok (.invokevirtual 77, 3) := by decide +kernel
theorem dL_law_492 : decode cL_law 492 = .ok (.if_icmp .eq 179, 3) := by decide +kernel
theorem dL_law_495 : decode cL_law 495 = .ok (.iconst 0, 1) := by decide +kernel
theorem dL_law_496 : decode cL_law 496 = .ok (.ireturn, 1) := by decide +kernel
theorem dL_law_497 : decode cL_law 497 = .ok (.aload_n 1, 1) := by decide +kernel
theorem dL_law_498 : decode cL_law 498 = .ok (.aload_n 0, 1) := by decide +kernel
theorem dL_law_499 : decode cL_law 499 = .ok (.iload_n 3, 1) := by decide +kernel
theorem dL_law_500 : decode cL_law 500 = .ok (.iconst 1, 1) := by decide +kernel
theorem dL_law_501 : decode cL_law 501 = .ok (.iadd, 1) := by decide +kernel
theorem dL_law_502 : decode cL_law 502 = .ok (.iaload, 1) := by decide +kernel
theorem dL_law_503 : decode cL_law 503 = .ok (.invokevirtual 78, 3) := by decide +kernel
theorem dL_law_506 : decode cL_law 506 = .ok (.aload_n 2, 1) := by decide +kernel
theorem dL_law_507 : decode cL_law 507 = .ok (.aload_n 0, 1) := by decide +kernel
theorem dL_law_508 : decode cL_law 508 = .ok (.iload_n 3, 1) := by decide +kernel
theorem dL_law_509 : decode cL_law 509 = .ok (.iconst 1, 1) := by decide +kernel
theorem dL_law_510 : decode cL_law 510 = .ok (.iadd, 1) := by decide +kernel
theorem dL_law_511 : decode cL_law 511 = .ok (.iaload, 1) := by decide +kernel
theorem dL_law_512 : decode cL_law 512 = .ok (.invokevirtual 81, 3) := by decide +kernel
theorem dL_law_515 : decode cL_law 515 = .ok (.if_icmp .eq 156, 3) := by decide +kernel
theorem dL_law_518 : decode cL_law 518 = .ok (.iconst 0, 1) := by decide +kernel
theorem dL_law_519 : decode cL_law 519 = .ok (.ireturn, 1) := by decide +kernel
theorem dL_law_520 : decode cL_law 520 = .ok (.aload_n 1, 1) := by decide +kernel
theorem dL_law_521 : decode cL_law 521 = .ok (.aload_n 0, 1) := by decide +kernel
theorem dL_law_522 : decode cL_law 522 = .ok (.iload_n 3, 1) := by decide +kernel
theorem dL_law_523 : decode cL_law 523 = .ok (.iconst 1, 1) := by decide +kernel
theorem dL_law_524 : decode cL_law 524 = .ok (.iadd, 1) := by decide +kernel
theorem dL_law_525 : decode cL_law 525 = .ok (.iaload, 1) := by decide +kernel
theorem dL_law_526 : decode cL_law 526 = .ok (.invokevirtual 82, 3) := by decide +kernel
theorem dL_law_529 : decode cL_law 529 = .ok (.aload_n 2, 1) := by decide +kernel
theorem dL_law_530 : decode cL_law 530 = .ok (.aload_n 0, 1) := by decide +kernel
theorem dL_law_531 : decode cL_law 531 = .ok (.iload_n 3, 1) := by decide +kernel
theorem dL_law_532 : decode cL_law 532 = .ok (.iconst 1, 1) := by decide +kernel
theorem dL_law_533 : decode cL_law 533 = .ok (.iadd, 1) := by decide +kernel
theorem dL_law_534 : decode cL_law 534 = .ok (.iaload, 1) := by decide +kernel
theorem dL_law_535 : decode cL_law 535 = .ok (.invokevirtual 85, 3) := by decide +kernel
theorem dL_law_538 : decode cL_law 538 = .ok (.if_icmp .eq 133, 3) := by decide +kernel
theorem dL_law_541 : decode cL_law 541 = .ok (.iconst 0, 1) := by decide +kernel
theorem dL_law_542 : decode cL_law 542 = .ok (.ireturn, 1) := by decide +kernel
theorem dL_law_543 : decode cL_law 543 = .ok (.aload_n 1, 1) := by decide +kernel
theorem dL_law_544 : decode cL_law 544 = .ok (.aload_n 0, 1) := by decide +kernel
theorem dL_law_545 : decode cL_law 545 = .ok (.iload_n 3, 1) := by decide +kernel
theorem dL_law_546 : decode cL_law 546 = .ok (.iconst 1, 1) := by decide +kernel
theorem dL_law_547 : decode cL_law 547 = .ok (.iadd, 1) := by decide +kernel
theorem dL_law_548 : decode cL_law 548 = .ok (.iaload, 1) := by decide +kernel
theorem dL_law_549 : decode cL_law 549 = .ok (.invokevirtual 86, 3) := by decide +kernel
theorem dL_law_552 : decode cL_law 552 = .ok (.aload_n 2, 1) := by decide +kernel
theorem dL_law_553 : decode cL_law 553 = .ok (.aload_n 0, 1) := by decide +kernel
theorem dL_law_554 : decode cL_law 554 = .ok (.iload_n 3, 1) := by decide +kernel
theorem dL_law_555 : decode cL_law 555 = .ok (.iconst 1, 1) := by decide +kernel
theorem dL_law_556 : decode cL_law 556 = .ok (.iadd, 1) := by decide +kernel
theorem dL_law_557 : decode cL_law 557 = .ok (.iaload, 1) := by decide +kernel
theorem dL_law_558 : decode cL_law 558 = .ok (.invokevirtual 89, 3) := by decide +kernel
theorem dL_law_561 : decode cL_law 561 = .ok (.if_icmp .eq 110, 3) := by decide +kernel
theorem dL_law_564 : decode cL_law 564 = .ok (.iconst 0, 1) := by decide +kernel
theorem dL_law_565 : decode cL_law 565 = .ok (.ireturn, 1) := by decide +kernel
theorem dL_law_566 : decode cL_law 566 = .ok (.aload_n 1, 1) := by decide +kernel
theorem dL_law_567 : decode cL_law 567 = .ok (.invokevirtual 90, 3) := by decide +kernel
theorem dL_law_570 : decode cL_law 570 = .ok (.aload_n 2, 1) := by decide +kernel
theorem dL_law_571 : decode cL_law 571 = .ok (.invokevirtual 93, 3) := by decide +kernel
theorem dL_law_574 : decode cL_law 574 = .ok (.if_icmp .eq 97, 3) := by decide +kernel
theorem dL_law_577 : decode cL_law 577 = .ok (.iconst 0, 1) := by decide +kernel
theorem dL_law_578 : decode cL_law 578 = .ok (.ireturn, 1) := by decide +kernel
theorem dL_law_579 : decode cL_law 579 = .ok (.aload_n 1, 1) := by decide +kernel
theorem dL_law_580 : decode cL_law 580 = .ok (.aload_n 0, 1) := by decide +kernel
theorem dL_law_581 : decode cL_law 581 = .ok (.iload_n 3, 1) := by decide +kernel
theorem dL_law_582 : decode cL_law 582 = .ok (.iconst 1, 1) := by decide +kernel
theorem dL_law_583 : decode cL_law 583 = .ok (.iadd, 1) := by decide +kernel
theorem dL_law_584 : decode cL_law 584 = .ok (.iaload, 1) := by decide +kernel
theorem dL_law_585 : decode cL_law 585 = .ok (.invokevirtual 94, 3) := by decide +kernel
theorem dL_law_588 : decode cL_law 588 = .ok (.aload_n 2, 1) := by decide +kernel
theorem dL_law_589 : decode cL_law 589 = .ok (.aload_n 0, 1) := by decide +kernel
theorem dL_law_590 : decode cL_law 590 = .ok (.iload_n 3, 1) := by decide +kernel
theorem dL_law_591 : decode cL_law 591 = .ok (.iconst 1, 1) := by decide +kernel
theorem dL_law_592 : decode cL_law 592 = .ok (.iadd, 1) := by decide +kernel
theorem dL_law_593 : decode cL_law 593 = .ok (.iaload, 1) := by decide +kernel
theorem dL_law_594 : decode cL_law 594 = .ok (.invokevirtual 97, 3) := by decide +kernel
theorem dL_law_597 : decode cL_law 597 = .ok (.if_icmp .eq 74, 3) := by decide +kernel
theorem dL_law_600 : decode cL_law 600 = .ok (.iconst 0, 1) := by decide +kernel
theorem dL_law_601 : decode cL_law 601 = .ok (.ireturn, 1) := by decide +kernel
theorem dL_law_602 : decode cL_law 602 = .ok (.aload_n 1, 1) := by decide +kernel
theorem dL_law_603 : decode cL_law 603 = .ok (.aload_n 0, 1) := by decide +kernel
theorem dL_law_604 : decode cL_law 604 = .ok (.iload_n 3, 1) := by decide +kernel
theorem dL_law_605 : decode cL_law 605 = .ok (.iconst 1, 1) := by decide +kernel
theorem dL_law_606 : decode cL_law 606 = .ok (.iadd, 1) := by decide +kernel
theorem dL_law_607 : decode cL_law 607 = .ok (.iaload, 1) := by decide +kernel
theorem dL_law_608 : decode cL_law 608 = .ok (.aload_n 0, 1) := by decide +kernel
theorem dL_law_609 : decode cL_law 609 = .ok (.iload_n 3, 1) := by decide +kernel
theorem dL_law_610 : decode cL_law 610 = .ok (.iconst 2, 1) := by decide +kernel
theorem dL_law_611 : decode cL_law 611 = .ok (.iadd, 1) := by decide +kernel
theorem dL_law_612 : decode cL_law 612 = .ok (.iaload, 1) := by decide +kernel
theorem dL_law_613 : decode cL_law 613 = .ok (.invokevirtual 98, 3) := by decide +kernel
theorem dL_law_616 : decode cL_law 616 = .ok (.aload_n 2, 1) := by decide +kernel
theorem dL_law_617 : decode cL_law 617 = .ok (.aload_n 0, 1) := by decide +kernel
theorem dL_law_618 : decode cL_law 618 = .ok (.iload_n 3, 1) := by decide +kernel
theorem dL_law_619 : decode cL_law 619 = .ok (.iconst 1, 1) := by decide +kernel
theorem dL_law_620 : decode cL_law 620 = .ok (.iadd, 1) := by decide +kernel
theorem dL_law_621 : decode cL_law 621 = .ok (.iaload, 1) := by decide +kernel
theorem dL_law_622 : decode cL_law 622 = .ok (.aload_n 0, 1) := by decide +kernel
theorem dL_law_623 : decode cL_law 623 = .ok (.iload_n 3, 1) := by decide +kernel
theorem dL_law_624 : decode cL_law 624 = .ok (.iconst 2, 1) := by decide +kernel
theorem dL_law_625 : decode cL_law 625 = .ok (.iadd, 1) := by decide +kernel
theorem dL_law_626 : decode cL_law 626 = .ok (.iaload, 1) := by decide +kernel
theorem dL_law_627 : decode cL_law 627 = .ok (.invokevirtual 101, 3) := by decide +kernel
theorem dL_law_630 : decode cL_law 630 = .ok (.if_icmp .eq 41, 3) := by decide +kernel
theorem dL_law_633 : decode cL_law 633 = .ok (.iconst 0, 1) := by decide +kernel
theorem dL_law_634 : decode cL_law 634 = .ok (.ireturn, 1) := by decide +kernel
theorem dL_law_635 : decode cL_law 635 = .ok (.aload_n 1, 1) := by decide +kernel
theorem dL_law_636 : decode cL_law 636 = .ok (.invokevirtual 102, 3) := by decide +kernel
theorem dL_law_639 : decode cL_law 639 = .ok (.aload_n 2, 1) := by decide +kernel
theorem dL_law_640 : decode cL_law 640 = .ok (.invokevirtual 105, 3) := by decide +kernel
theorem dL_law_643 : decode cL_law 643 = .ok (.if_icmp .eq 28, 3) := by decide +kernel
theorem dL_law_646 : decode cL_law 646 = .ok (.iconst 0, 1) := by decide +kernel
theorem dL_law_647 : decode cL_law 647 = .ok (.ireturn, 1) := by decide +kernel
theorem dL_law_648 : decode cL_law 648 = .ok (.aload_n 1, 1) := by decide +kernel
theorem dL_law_649 : decode cL_law 649 = .ok (.aload_n 0, 1) := by decide +kernel
theorem dL_law_650 : decode cL_law 650 = .ok (.iload_n 3, 1) := by decide +kernel
theorem dL_law_651 : decode cL_law 651 = .ok (.iconst 1, 1) := by decide +kernel
theorem dL_law_652 : decode cL_law 652 = .ok (.iadd, 1) := by decide +kernel
theorem dL_law_653 : decode cL_law 653 = .ok (.iaload, 1) := by decide +kernel
theorem dL_law_654 : decode cL_law 654 = .ok (.invokevirtual 106, 3) := by decide +kernel
theorem dL_law_657 : decode cL_law 657 = .ok (.aload_n 2, 1) := by decide +kernel
theorem dL_law_658 : decode cL_law 658 = .ok (.aload_n 0, 1) := by decide +kernel
theorem dL_law_659 : decode cL_law 659 = .ok (.iload_n 3, 1) := by decide +kernel
theorem dL_law_660 : decode cL_law 660 = .ok (.iconst 1, 1) := by decide +kernel
theorem dL_law_661 : decode cL_law 661 = .ok (.iadd, 1) := by decide +kernel
theorem dL_law_662 : decode cL_law 662 = .ok (.iaload, 1) := by decide +kernel
theorem dL_law_663 : decode cL_law 663 = .ok (.invokevirtual 109, 3) := by decide +kernel
theorem dL_law_666 : decode cL_law 666 = .ok (.if_icmp .eq 5, 3) := by decide +kernel
theorem dL_law_669 : decode cL_law 669 = .ok (.iconst 0, 1) := by decide +kernel
theorem dL_law_670 : decode cL_law 670 = .ok (.ireturn, 1) := by decide +kernel
theorem dL_law_671 : decode cL_law 671 = .ok (.iinc 3 4, 3) := by decide +kernel
theorem dL_law_674 : decode cL_law 674 = .ok (.goto (-656), 3) := by decide +kernel
theorem dL_law_677 : decode cL_law 677 = .ok (.iconst 1, 1) := by decide +kernel
theorem dL_law_678 : decode cL_law 678 = .ok (.ireturn, 1) := by decide +kernel
end
section
/-! ===== MY KIT: one word for what a walk carries of the heap (zw), one form of contract (Zc: from this world, with these arguments, it answers v and leaves that world), rows over them ===== -/
/-- the links to nest mates that the class has: words that are kept, but stand outside GoodIn -/
def zN (U : State) : Prop := va_Nw (.methodLinkNest RX0 55 yX3_asNumber "CupFountain") U ∧ va_Nw (.methodLinkNest RX1 58 yX3_isWithin "CupFountain") U ∧ va_Nw (.methodLinkNest RX2 70 yX3_isWithin "CupFountain") U ∧ va_Nw (.methodLinkNest RX2 80 yX3_asNumber "CupFountain") U ∧ va_Nw (.methodLinkNest RX3 31 yX1_init "CupFountain") U
theorem zN_warm {s U : State} (hW : s.WarmedH U.vm) (h : zN s) : zN U := ⟨va_Nw.warmM hW h.1, va_Nw.warmM hW h.2.1, va_Nw.warmM hW h.2.2.1, va_Nw.warmM hW h.2.2.2.1, va_Nw.warmM hW h.2.2.2.2⟩
theorem zN_same {u U : State} (e : u.vm = U.vm) (h : zN u) : zN U := ⟨va_Nw.same rfl e h.1, va_Nw.same rfl e h.2.1, va_Nw.same rfl e h.2.2.1, va_Nw.same rfl e h.2.2.2.1, va_Nw.same rfl e h.2.2.2.2⟩
abbrev zy (ca : Nat → ClassId) : List (ClassId × FieldType) := [(ca 0, .char), (ca 1, .int), (ca 2, .boolean), (ca 3, .object "CupFountain$Cup"), (ca 4, .object "CupFountain$State")]
def zK (G : va_G) (ca : Nat → ClassId) (U : State) : Prop := va_K G vwCl (zy ca) U ∧ zN U
def zw (G : va_G) (ca : Nat → ClassId) (A : Nat → Prop) (H0 : Heap) (s : State) (ws : va_W) (H : Heap) (locs : List Loc) : Prop :=
  zK G ca s ∧ va_P G vwCl ws H ∧ va_D A ws ∧ va_S A H0 H locs ∧ ∀ q, H0.size ≤ q → A q
def zPre (G : va_G) (ca : Nat → ClassId) (av : List Value) (w0 : va_W) (sz : Nat) : Array Value → State → Prop :=
  va_Pc av (fun U => U.heap.size = sz ∧ va_P G vwCl w0 U.heap ∧ zK G ca U ∧ va_D (fun _ => True) w0)
def zPostA (G : va_G) (ca : Nat → ClassId) (v : Option Value) (w1 : va_W) (A : Nat → Prop) : Array Value → State → Outcome → State → Prop :=
  fun _ st oc t => oc = .returned v ∧ va_P G vwCl w1 t.heap ∧ va_D A w1 ∧ va_F A st t
def Zc (l : Launch) (G : va_G) (ca : Nat → ClassId) (y : MethodName) (ws : List Cond) (rm : Room) (av : List Value) (w0 : va_W) (v : Option Value) (w1 : va_W) : Prop :=
  ∀ sz : Nat, Met l y ws rm (zPre G ca av w0 sz) (zPostA G ca v w1 (va_A w0 sz)) 0 0 (va_A w0 sz)
def zEnd (G : va_G) (ca : Nat → ClassId) (below : List Frame) (args : Array Value) (s : State) (A : Nat → Prop) (v : Option Value) (w1 : va_W) : State → Prop :=
  MQ below (zPostA G ca v w1 A) args s 0 0 A
theorem Zc.of {l : Launch} {G : va_G} {ca : Nat → ClassId} {y : MethodName} {ws ws' : List Cond} {rm : Room} {av : List Value} {w0 w1 : va_W} {v : Option Value} {cc : ByteArray} {maxL : Nat} {ret : Option FieldType}
    (hy : plainName y.cls = true) (hw : ws = Cond.code y cc maxL ret :: ws') (hlen : (lg_sl av).length ≤ maxL)
    (body : ∀ (p : Program) (e : Env) (s : State) (m : MethodId) (below : List Frame) (meth : Method) (c : Code) (A : Nat → Prop) (args : Array Value) (Q : State → Prop) (ls : Array Slot), p.tables.exec = Jvm.exec → c.code = cc → meth.sig.returnType = ret → c.maxLocals = maxL → s.vm.findClass y.cls = some m.cls → (∀ w ∈ ws, w.before args s = true) → meth.locks = false → Q = zEnd G ca below args s A v w1 → lv_has ls maxL (lv_args 0 av) → zw G ca A s.heap s w0 s.heap [] →
      W p l e rm s m args below meth c s.heap [] 0 0 Q (F0 m 0 ls [])) : Zc l G ca y ws rm av w0 v w1 := by
  intro sz
  refine Met.ofW (cc := cc) (maxL := maxL) (ret := ret) hy hw ?_
  intro p e s m args below meth c s₁ B hml hv
  obtain ⟨rfl, hsz, hP, hK, hD0⟩ := hv
  have hts := atoms_spec (ws := ws) B.pre
  have hown : s.vm.findClass y.cls = some m.cls := findClass_of_methodNamed B.named
  subst hsz
  have hD := hD0.self (sz := s.heap.size)
  have hA : ∀ q : Nat, s.heap.size ≤ q → va_A w0 s.heap.size q := fun q h => Or.inr h
  have hS : va_S (va_A w0 s.heap.size) s.heap s.heap [] := va_S.rf
  have hl := lv_entry av (n := maxL) hlen
  rw [lg_entry_eq]
  exact body p e s m below meth c _ _ _ _ B.exec B.bytes B.returns hml hown hts B.notSynchronized rfl hl ⟨hK, hP, hD, hS, hA⟩
section ZW
variable {p : Program} {l : Launch} {e : Env} {R : Room} {s : State} {m : MethodId} {args : Array Value} {below : List Frame} {meth : Method} {c : Code} {H : Heap} {locs : List Loc} {cells slots : Nat} {Q : State → Prop}
variable {cc : ByteArray} {pc : Nat} {ls : Array Slot} {rest : List Value} {G : va_G} {ca : Nat → ClassId} {A : Nat → Prop} {a : Nat} {ws ws1 : va_W} {H0 : Heap} {own ref C : String} {T : u_T} {N ci index : Nat} {Ts : List Cond} {av : List Value} {w1 : va_W} {v : Option Value}
theorem z_get (hexec : p.tables.exec = Jvm.exec) (hb : c.code = cc) (hts : ∀ w ∈ Ts, w.before args s = true) (hin : ∀ w ∈ u_ws C T N, w ∈ Ts) (hown : s.vm.findClass own = some m.cls) (hz : zw G ca A H0 s ws H locs) (q0 : Nat) {fs : List Value} (he : ws[q0]? = some (a, .inr (ci, fs))) (hc : vwCl[ci]? = some (C, T, N)) (k : Nat) (hk : k < N) (hlink : (Cond.fieldLink own index ref (T k).2.1 (T k).2.2.1).before args s = true) (hsame : (T k).1 = ref) {v : Value} (hv : fs[k]? = some v) (hdg : decode cc pc = .ok (.getfield index, 3))
    (kk : W p l e R s m args below meth c H locs cells slots Q (F0 m (pc + 3) ls (v :: rest))) : W p l e R s m args below meth c H locs cells slots Q (F0 m pc ls (.ref a :: rest)) :=
  va_get hexec hb hts hin hown hz.1.1 hz.2.1 q0 he hc k hk hlink (fun _ h => hsame ▸ h) hv hdg kk
theorem z_put (hexec : p.tables.exec = Jvm.exec) (hb : c.code = cc) (hts : ∀ w ∈ Ts, w.before args s = true) (hin : ∀ w ∈ u_ws C T N, w ∈ Ts) (ty0 : Nat → FieldType) (hty : ∀ k, k < N → parseFieldDescriptor (T k).2.2.1 = some (ty0 k)) (hnm : ∀ a, a < N → ∀ b, b < N → a ≠ b → (T a).2.1 ≠ (T b).2.1) (hown : s.vm.findClass own = some m.cls) (hz : zw G ca A H0 s ws H locs) (q0 : Nat) {fs : List Value} (he : ws[q0]? = some (a, .inr (ci, fs))) (hc : vwCl[ci]? = some (C, T, N)) (k : Nat) (hk : k < N) (hlink : (Cond.fieldLink own index ref (T k).2.1 (T k).2.2.1).before args s = true) (hsame : (T k).1 = ref) (hfin : (T k).2.2.2 = false) {v : Value} (hn : narrow (ty0 k) v = v) (hfit : fits (ty0 k) v = true) (hl : k < fs.length) (hw : ws.set q0 (a, .inr (ci, fs.set k v)) = ws1)
    (hdg : decode cc pc = .ok (.putfield index, 3)) (kk : ∀ (H1 : Heap) (locs1 : List Loc), zw G ca A H0 s ws1 H1 locs1 → W p l e R s m args below meth c H1 locs1 cells slots Q (F0 m (pc + 3) ls rest)) : W p l e R s m args below meth c H locs cells slots Q (F0 m pc ls (v :: .ref a :: rest)) := by
  subst hw
  exact va_put hexec hb hts hin ty0 hty hnm hown hz.1.1 hz.2.1 hz.2.2.1 hz.2.2.2.1 q0 he hc k hk hlink (fun _ h => hsame ▸ h) hfin (hty k hk) hn hfit hl hdg (fun H1 locs1 h1 h2 h3 => kk H1 locs1 ⟨hz.1, h1, h2, h3, hz.2.2.2.2⟩)
theorem z_iald (hexec : p.tables.exec = Jvm.exec) (hb : c.code = cc) (hz : zw G ca A H0 s ws H locs) (q0 : Nat) {n : Nat} {f : Nat → Int32} (ha : ws[q0]? = some (a, .inl (ca 1, n, .inl f))) {i : Int32} (j : Nat) (hi : i = nI j) (hj : j < n) (hn : n < 2 ^ 31) {x : Int32} (hv : f j = x) (hdg : decode cc pc = .ok (.iaload, 1))
    (kk : W p l e R s m args below meth c H locs cells slots Q (F0 m (pc + 1) ls (.int x :: rest))) : W p l e R s m args below meth c H locs cells slots Q (F0 m pc ls (.int i :: .ref a :: rest)) := by
  subst hi
  refine va_iald hexec hb hz.1.1 hz.2.1 q0 1 ha rfl (vp_in_nI hj hn) hdg ?_
  rw [nI_clamp (Nat.lt_trans hj hn), hv]
  exact kk
theorem z_cald (hexec : p.tables.exec = Jvm.exec) (hb : c.code = cc) (hz : zw G ca A H0 s ws H locs) (q0 : Nat) {n : Nat} {f : Nat → Int32} (ha : ws[q0]? = some (a, .inl (ca 0, n, .inl f))) {i : Int32} (j : Nat) (hi : i = nI j) (hj : j < n) (hn : n < 2 ^ 31) {x : Int32} (hv : f j = x) (hdg : decode cc pc = .ok (.caload, 1))
    (kk : W p l e R s m args below meth c H locs cells slots Q (F0 m (pc + 1) ls (.int x :: rest))) : W p l e R s m args below meth c H locs cells slots Q (F0 m pc ls (.int i :: .ref a :: rest)) := by
  subst hi
  refine va_cald hexec hb hz.1.1 hz.2.1 q0 0 ha rfl (vp_in_nI hj hn) hdg ?_
  rw [nI_clamp (Nat.lt_trans hj hn), hv]
  exact kk
theorem z_zald (hexec : p.tables.exec = Jvm.exec) (hb : c.code = cc) (hz : zw G ca A H0 s ws H locs) (q0 : Nat) {n : Nat} {f : Nat → Int32} (ha : ws[q0]? = some (a, .inl (ca 2, n, .inl f))) {i : Int32} (j : Nat) (hi : i = nI j) (hj : j < n) (hn : n < 2 ^ 31) {x : Int32} (hv : f j = x) (hdg : decode cc pc = .ok (.baload, 1))
    (kk : W p l e R s m args below meth c H locs cells slots Q (F0 m (pc + 1) ls (.int x :: rest))) : W p l e R s m args below meth c H locs cells slots Q (F0 m pc ls (.int i :: .ref a :: rest)) := by
  subst hi
  refine va_zald hexec hb hz.1.1 hz.2.1 q0 2 ha rfl (vp_in_nI hj hn) hdg ?_
  rw [nI_clamp (Nat.lt_trans hj hn), hv]
  exact kk
theorem z_iast (hexec : p.tables.exec = Jvm.exec) (hb : c.code = cc) (hz : zw G ca A H0 s ws H locs) (q0 : Nat) {n : Nat} {f : Nat → Int32} (ha : ws[q0]? = some (a, .inl (ca 1, n, .inl f))) {i x : Int32} (j : Nat) (hi : i = nI j) (hj : j < n) (hn : n < 2 ^ 31) (hw : ws.set q0 (a, .inl (ca 1, n, .inl (upd f j x))) = ws1) (hdg : decode cc pc = .ok (.iastore, 1))
    (kk : ∀ (H1 : Heap) (locs1 : List Loc), zw G ca A H0 s ws1 H1 locs1 → W p l e R s m args below meth c H1 locs1 cells slots Q (F0 m (pc + 1) ls rest)) : W p l e R s m args below meth c H locs cells slots Q (F0 m pc ls (.int x :: .int i :: .ref a :: rest)) := by
  subst hi
  subst hw
  refine va_iast hexec hb hz.1.1 hz.2.1 hz.2.2.1 hz.2.2.2.1 q0 1 ha rfl (vp_in_nI hj hn) hdg (fun H1 locs1 h1 h2 h3 => ?_)
  rw [nI_clamp (Nat.lt_trans hj hn)] at h1 h2
  exact kk H1 locs1 ⟨hz.1, h1, h2, h3, hz.2.2.2.2⟩
theorem z_cast (hexec : p.tables.exec = Jvm.exec) (hb : c.code = cc) (hz : zw G ca A H0 s ws H locs) (q0 : Nat) {n : Nat} {f : Nat → Int32} (ha : ws[q0]? = some (a, .inl (ca 0, n, .inl f))) {i x : Int32} (j : Nat) (hi : i = nI j) (hj : j < n) (hn : n < 2 ^ 31) (hw : ws.set q0 (a, .inl (ca 0, n, .inl (upd f j (vp_nar .char x)))) = ws1) (hdg : decode cc pc = .ok (.castore, 1))
    (kk : ∀ (H1 : Heap) (locs1 : List Loc), zw G ca A H0 s ws1 H1 locs1 → W p l e R s m args below meth c H1 locs1 cells slots Q (F0 m (pc + 1) ls rest)) : W p l e R s m args below meth c H locs cells slots Q (F0 m pc ls (.int x :: .int i :: .ref a :: rest)) := by
  subst hi
  subst hw
  refine va_cast hexec hb hz.1.1 hz.2.1 hz.2.2.1 hz.2.2.2.1 q0 0 ha rfl (vp_in_nI hj hn) hdg (fun H1 locs1 h1 h2 h3 => ?_)
  rw [nI_clamp (Nat.lt_trans hj hn)] at h1 h2
  exact kk H1 locs1 ⟨hz.1, h1, h2, h3, hz.2.2.2.2⟩
theorem z_zast (hexec : p.tables.exec = Jvm.exec) (hb : c.code = cc) (hz : zw G ca A H0 s ws H locs) (q0 : Nat) {n : Nat} {f : Nat → Int32} (ha : ws[q0]? = some (a, .inl (ca 2, n, .inl f))) {i x : Int32} (j : Nat) (hi : i = nI j) (hj : j < n) (hn : n < 2 ^ 31) (hw : ws.set q0 (a, .inl (ca 2, n, .inl (upd f j (vp_nar .boolean x)))) = ws1) (hdg : decode cc pc = .ok (.bastore, 1))
    (kk : ∀ (H1 : Heap) (locs1 : List Loc), zw G ca A H0 s ws1 H1 locs1 → W p l e R s m args below meth c H1 locs1 cells slots Q (F0 m (pc + 1) ls rest)) : W p l e R s m args below meth c H locs cells slots Q (F0 m pc ls (.int x :: .int i :: .ref a :: rest)) := by
  subst hi
  subst hw
  refine va_zast hexec hb hz.1.1 hz.2.1 hz.2.2.1 hz.2.2.2.1 q0 2 ha rfl (vp_in_nI hj hn) hdg (fun H1 locs1 h1 h2 h3 => ?_)
  rw [nI_clamp (Nat.lt_trans hj hn)] at h1 h2
  exact kk H1 locs1 ⟨hz.1, h1, h2, h3, hz.2.2.2.2⟩
theorem z_aald (hexec : p.tables.exec = Jvm.exec) (hb : c.code = cc) (hz : zw G ca A H0 s ws H locs) (q0 t0 : Nat) {C : String} {n b : Nat} {cA : ClassId} {f : Nat → Option Nat} (ha : ws[q0]? = some (a, .inl (cA, n, .inr (.inr (.inr (.inr f)))))) (ht : (zy ca)[t0]? = some (cA, .object C)) {i : Int32} (j : Nat) (hi : i = nI j) (hj : j < n) (hn : n < 2 ^ 31) (hf : f j = some b) (hdg : decode cc pc = .ok (.aaload, 1))
    (kk : W p l e R s m args below meth c H locs cells slots Q (F0 m (pc + 1) ls (.ref b :: rest))) : W p l e R s m args below meth c H locs cells slots Q (F0 m pc ls (.int i :: .ref a :: rest)) := by
  subst hi
  refine va_aldq hexec hb hz.1.1 hz.2.1 q0 t0 ha ht (vp_in_nI hj hn) hdg ?_
  rw [nI_clamp (Nat.lt_trans hj hn), hf]
  exact kk
theorem z_alen (hexec : p.tables.exec = Jvm.exec) (hb : c.code = cc) (hz : zw G ca A H0 s ws H locs) (q0 t0 : Nat) {x : vp_A} {cA : ClassId} (ha : ws[q0]? = some (a, .inl (cA, x))) {ty : FieldType} (ht : (zy ca)[t0]? = some (cA, ty)) {v : Int32} (hv : Int32.ofNat x.1 = v) (hdg : decode cc pc = .ok (.arraylength, 1))
    (kk : W p l e R s m args below meth c H locs cells slots Q (F0 m (pc + 1) ls (.int v :: rest))) : W p l e R s m args below meth c H locs cells slots Q (F0 m pc ls (.ref a :: rest)) :=
  va_alen hexec hb hz.1.1 hz.2.1 q0 t0 ha ht hv hdg kk
/-- the ends: what is answered and the world are the contract's -/
theorem z_iret (hexec : p.tables.exec = Jvm.exec) (hb : c.code = cc) (hr : meth.sig.returnType = some .int) (hlocks : meth.locks = false) (hQ : Q = zEnd G ca below args s A v w1) (hz : zw G ca A s.heap s ws H locs) {x : Int32} (hdg : decode cc pc = .ok (.ireturn, 1)) (hv : v = some (.int x)) (hw : w1 = ws) : W p l e R s m args below meth c H locs 0 0 Q (F0 m pc ls [.int x]) := by
  subst hQ
  subst hv
  subst hw
  obtain ⟨hK, hP, hD, hS, hA⟩ := hz
  exact W.iret hexec hb hr (fun t ht hW => ⟨rfl, by rw [ht]; exact hP, hD, hS.F ht⟩) hS.2.2 hdg hlocks
theorem z_zret (hexec : p.tables.exec = Jvm.exec) (hb : c.code = cc) (hr : meth.sig.returnType = some .boolean) (hlocks : meth.locks = false) (hQ : Q = zEnd G ca below args s A v w1) (hz : zw G ca A s.heap s ws H locs) {x : Int32} (hn : narrow .boolean (.int x) = .int x) (hdg : decode cc pc = .ok (.ireturn, 1)) (hv : v = some (.int x)) (hw : w1 = ws) : W p l e R s m args below meth c H locs 0 0 Q (F0 m pc ls [.int x]) := by
  subst hQ
  subst hv
  subst hw
  obtain ⟨hK, hP, hD, hS, hA⟩ := hz
  exact W.zret hexec hb hr hn (fun t ht hW => ⟨rfl, by rw [ht]; exact hP, hD, hS.F ht⟩) hS.2.2 hdg hlocks
theorem z_vret (hexec : p.tables.exec = Jvm.exec) (hb : c.code = cc) (hr : meth.sig.returnType = none) (hlocks : meth.locks = false) (hQ : Q = zEnd G ca below args s A v w1) (hz : zw G ca A s.heap s ws H locs) (hdg : decode cc pc = .ok (.return_, 1)) (hv : v = none) (hw : w1 = ws) : W p l e R s m args below meth c H locs 0 0 Q (F0 m pc ls []) := by
  subst hQ
  subst hv
  subst hw
  obtain ⟨hK, hP, hD, hS, hA⟩ := hz
  exact W.vret hexec hb hr (fun t ht hW => ⟨rfl, by rw [ht]; exact hP, hD, hS.F ht⟩) hS.2.2 hdg hlocks
theorem z_aret (hexec : p.tables.exec = Jvm.exec) (hb : c.code = cc) {rt : FieldType} (hr : meth.sig.returnType = some rt) (hrt : (∃ n, rt = .object n) ∨ ∃ t, rt = .array t) (hlocks : meth.locks = false) (hQ : Q = zEnd G ca below args s A v w1) (hz : zw G ca A s.heap s ws H locs) {x : Value} (hx : x = .null ∨ ∃ a, x = .ref a) (hdg : decode cc pc = .ok (.areturn, 1)) (hv : v = some x) (hw : w1 = ws) : W p l e R s m args below meth c H locs 0 0 Q (F0 m pc ls [x]) := by
  subst hQ
  subst hv
  subst hw
  obtain ⟨hK, hP, hD, hS, hA⟩ := hz
  exact W.aret hexec hb hr hrt hx (fun t ht hW => ⟨rfl, by rw [ht]; exact hP, hD, hS.F ht⟩) hS.2.2 hdg hlocks
/-- another name of the top number -/
theorem z_top {x y : Int32} (e0 : x = y) (kk : W p l e R s m args below meth c H locs cells slots Q (F0 m pc ls (.int y :: rest))) : W p l e R s m args below meth c H locs cells slots Q (F0 m pc ls (.int x :: rest)) := e0 ▸ kk
/-- another name of the same world -/
theorem zw.as (hz : zw G ca A H0 s ws H locs) (h : ws = ws1) : zw G ca A H0 s ws1 H locs := h ▸ hz
end ZW
/-! the cells of a world in another order -/
theorem zP_mem {D : va_G} {cl : List vw_C} {ws : va_W} {H : Heap} : va_P D cl ws H ↔ ∀ q ∈ ws, va_at D cl q H :=
  ⟨fun h q hq => by obtain ⟨i, hi⟩ := List.getElem?_of_mem hq; exact h i q hi, fun h k q hk => h q (List.mem_of_getElem? hk)⟩
theorem zD_iff {A : Nat → Prop} {ws : va_W} : va_D A ws ↔ (ws.map (fun q => q.1)).Nodup ∧ ∀ q ∈ ws, A q.1 := by
  constructor
  · intro h
    refine ⟨?_, fun q hq => by obtain ⟨i, hi⟩ := List.getElem?_of_mem hq; exact h.2 i q hi⟩
    rw [List.nodup_iff_pairwise_ne, List.pairwise_iff_getElem]
    intro i j hi hj hij e
    rw [List.length_map] at hi hj
    rw [List.getElem_map, List.getElem_map] at e
    have := h.1 i j ws[i] ws[j] (List.getElem?_eq_getElem hi) (List.getElem?_eq_getElem hj) e
    omega
  · intro h
    refine ⟨fun i j p q hp hq e => ?_, fun k q hk => h.2 q (List.mem_of_getElem? hk)⟩
    obtain ⟨hi, ei⟩ := List.getElem?_eq_some_iff.mp hp
    obtain ⟨hj, ej⟩ := List.getElem?_eq_some_iff.mp hq
    have hn := h.1
    rw [List.nodup_iff_pairwise_ne, List.pairwise_iff_getElem] at hn
    rcases Nat.lt_trichotomy i j with g | g | g
    · exact absurd (by rw [List.getElem_map, List.getElem_map, ei, ej]; exact e) (hn i j (by rw [List.length_map]; exact hi) (by rw [List.length_map]; exact hj) g)
    · exact g
    · exact absurd (by rw [List.getElem_map, List.getElem_map, ei, ej]; exact e.symm) (hn j i (by rw [List.length_map]; exact hj) (by rw [List.length_map]; exact hi) g)
theorem zP_perm {D : va_G} {cl : List vw_C} {ws ws1 : va_W} {H : Heap} (p : ws.Perm ws1) (h : va_P D cl ws H) : va_P D cl ws1 H :=
  zP_mem.mpr fun q hq => zP_mem.mp h q (p.mem_iff.mpr hq)
theorem zD_perm {A : Nat → Prop} {ws ws1 : va_W} (p : ws.Perm ws1) (h : va_D A ws) : va_D A ws1 :=
  zD_iff.mpr ⟨(p.map _).nodup_iff.mp (zD_iff.mp h).1, fun q hq => (zD_iff.mp h).2 q (p.mem_iff.mpr hq)⟩
theorem zw.perm {G : va_G} {ca : Nat → ClassId} {A : Nat → Prop} {H0 : Heap} {s : State} {ws ws1 : va_W} {H : Heap} {locs : List Loc} (hz : zw G ca A H0 s ws H locs) (p : ws.Perm ws1) : zw G ca A H0 s ws1 H locs :=
  ⟨hz.1, zP_perm p hz.2.1, zD_perm p hz.2.2.1, hz.2.2.2⟩
/-- the frame rule: the callee's cells ahead, the rest behind -/
theorem z_join {G : va_G} {ca : Nat → ClassId} {A : Nat → Prop} {ws wc wc1 wr : va_W} {H H1 : Heap} (hP : va_P G vwCl ws H) (hD : va_D A ws) (pm : ws.Perm (wc ++ wr)) (hF : ∀ q, va_A wc H.size q → A q) (hk : ∀ q : Nat, q < H.size → ¬ va_A wc H.size q → H1[q]? = H[q]?) (hP1 : va_P G vwCl wc1 H1) (hD1 : va_D (va_A wc H.size) wc1) : va_P G vwCl (wc1 ++ wr) H1 ∧ va_D A (wc1 ++ wr) := by
  have hPp := zP_perm pm hP
  have hDp := zD_perm pm hD
  have hPr : va_P G vwCl wr H := zP_mem.mpr fun q hq => zP_mem.mp hPp q (List.mem_append_right _ hq)
  have hDn := (zD_iff.mp hDp).1
  rw [List.map_append, List.nodup_append] at hDn
  have hDr : va_D A wr := zD_iff.mpr ⟨hDn.2.1, fun q hq => (zD_iff.mp hDp).2 q (List.mem_append_right _ hq)⟩
  have apart : ∀ (k : Nat) (q : Nat × va_E), wr[k]? = some q → q.1 < H.size ∧ ¬ va_A wc H.size q.1 := by
    intro k q hq
    have hl := (hPr k q hq).lt
    refine ⟨hl, fun h => ?_⟩
    rcases h with ⟨k2, e, h⟩ | h
    · exact hDn.2.2 q.1 (List.mem_map.mpr ⟨(q.1, e), List.mem_of_getElem? h, rfl⟩) q.1 (List.mem_map.mpr ⟨q, List.mem_of_getElem? hq, rfl⟩) rfl
    · omega
  refine ⟨hP1.app (hPr.kept fun k q hq => hk q.1 (apart k q hq).1 (apart k q hq).2), va_D.app (hD1.weaken (fun k q _ h => hF q.1 h)) hDr (fun i j x y hx hy hxy => ?_)⟩
  exact (apart j y hy).2 (by rw [← hxy]; exact hD1.2 i x hx)
theorem z_freeA {A : Nat → Prop} {ws wc wr : va_W} {H0 H : Heap} {locs : List Loc} (hD : va_D A ws) (hS : va_S A H0 H locs) (hA : ∀ q, H0.size ≤ q → A q) (pm : ws.Perm (wc ++ wr)) : ∀ q, va_A wc H.size q → A q := by
  intro q h
  rcases h with ⟨k, e, h⟩ | h
  · exact (zD_iff.mp (zD_perm pm hD)).2 (q, e) (List.mem_append_left _ (List.mem_of_getElem? h))
  · exact hA q (Nat.le_trans hS.1 h)
section ZC
variable {p : Program} {l : Launch} {e : Env} {R : Room} {s : State} {m : MethodId} {args : Array Value} {below : List Frame} {meth : Method} {c : Code} {H : Heap} {locs : List Loc} {cells slots : Nat} {Q : State → Prop}
variable {cc bytes : ByteArray} {pc nL maxL index n : Nat} {ls : Array Slot} {rest As : List Value} {G : va_G} {ca : Nat → ClassId} {A : Nat → Prop} {b : Nat} {ws ws1 wc wc1 : va_W} {H0 : Heap} {own C host : String} {Ts wy : List Cond} {y : MethodName} {ret : Option FieldType} {rm : Room} {v : Option Value}
theorem z_blind {av : List Value} {w0 : va_W} {sz : Nat} : FrameBlind (zPre G ca av w0 sz) := fun a U g mk q => by
  obtain ⟨q0, q1, qP, qK, qD⟩ := q
  exact ⟨q0, q1, qP, ⟨va_K.moved (u := U) (U := U.calling g mk a) (Vm.Alike.refl U.vm) qK.1, zN_same (u := U) (U := U.calling g mk a) rfl qK.2⟩, qD⟩
theorem z_back {st0 : List Value} {aa : Array Value} (hr : va_Run p l e R s m args below meth c H locs cells slots 0 0 (F0 m pc ls st0) rest (zPostA G ca v wc1 (va_A wc H.size) aa) (va_A wc H.size)) (hz : zw G ca A H0 s ws H locs) (wr : va_W) (pm : ws.Perm (wc ++ wr)) (pm1 : (wc1 ++ wr).Perm ws1)
    (kk : ∀ (H1 : Heap) (locs1 : List Loc), zw G ca A H0 s ws1 H1 locs1 → W p l e R s m args below meth c H1 locs1 cells slots Q (F0 m (pc + 3) ls (v.toList ++ rest))) : W p l e R s m args below meth c H locs cells slots Q (F0 m pc ls st0) := by
  intro T hT X
  obtain ⟨v', st₀, t, T', L, h0, X', hL, e1, e2, ⟨hv, hP1, hD1, hz1, hk⟩, st⟩ := hr T hT X
  cases hv
  rw [h0] at hz1 hk
  obtain ⟨hK, hP, hD, hS, hA⟩ := hz
  have hF := z_freeA hD hS hA pm
  obtain ⟨hP2, hD2⟩ := z_join (ca := ca) hP hD pm hF hk hP1 hD1
  have hS2 : va_S A H0 T'.heap (locs ++ L) := ⟨Nat.le_trans hS.1 (by rw [e1]; exact hz1), fun q h1 h2 => by rw [e1, hk q (Nat.lt_of_lt_of_le h1 hS.1) (fun z => h2 (hF q z))]; exact hS.2.1 q h1 h2, fun q hq => by
      rcases List.mem_append.mp hq with h | h
      · exact hS.2.2 q h
      · exact hF _ (hL q h)⟩
  obtain ⟨t2, a1, b1⟩ := kk T'.heap (locs ++ L) ⟨hK, zP_perm pm1 (by rw [e1]; exact hP2), zD_perm pm1 hD2, hS2, hA⟩ T' rfl X'
  exact ⟨t2, st t2 a1, b1⟩
theorem z_ready (hz : zw G ca A H0 s ws H locs) (wr : va_W) (pm : ws.Perm (wc ++ wr)) (av : List Value) : ∀ U : State, U.heap = H → s.WarmedH U.vm → zPre G ca av wc H.size av.toArray U := by
  intro U hU hW
  obtain ⟨hK, hP, hD, hS, hA⟩ := hz
  have hPc : va_P G vwCl wc H := zP_mem.mpr fun q hq => zP_mem.mp (zP_perm pm hP) q (List.mem_append_left _ hq)
  have hDn := (zD_iff.mp (zD_perm pm hD)).1
  rw [List.map_append, List.nodup_append] at hDn
  exact ⟨rfl, by rw [hU], by rw [hU]; exact hPc, ⟨va_K.moved hW.alike hK.1, zN_warm hW hK.2⟩, zD_iff.mpr ⟨hDn.1, fun _ _ => trivial⟩⟩
theorem z_recv {ci : Nat} {r : vw_C} {fs : List Value} {tl : va_W} (hz : zw G ca A H0 s ws H locs) (wr : va_W) (pm : ws.Perm (wc ++ wr)) (hwc : wc = (b, .inr (ci, fs)) :: tl) (hc : vwCl[ci]? = some r) : ∃ cellB : Cell, H[b]? = some cellB ∧ cellB.vm.isStatics = false ∧ s.vm.findClass r.1 = some cellB.cls := by
  obtain ⟨hK, hP, -⟩ := hz
  have hPc : va_P G vwCl wc H := zP_mem.mpr fun q hq => zP_mem.mp (zP_perm pm hP) q (List.mem_append_left _ hq)
  exact va_recv hK.1 hPc (ci := ci) (q0 := 0) (q := r) hc (by rw [hwc]; rfl)
/-- invokevirtual: 'wr' is the rest of the world -/
theorem z_runV (S : CallFix p m c cc nL s args Ts own) (hM : Zc l G ca y wy rm (.ref b :: As) wc v wc1) (cw : CallW R s args own C index y bytes maxL ret wy rm 0 0 n) (hz : zw G ca A H0 s ws H locs) (wr : va_W) (pm : ws.Perm (wc ++ wr)) (pm1 : (wc1 ++ wr).Perm ws1) {ci : Nat} {T : u_T} {N : Nat} {fs : List Value} {tl : va_W} (hwc : wc = (b, .inr (ci, fs)) :: tl) (hc : vwCl[ci]? = some (C, T, N))
    (hn : As.length = n) (hsize : ls.size = nL) (hW : (rest.map fun v => v.category).sum ≤ 8) {st1 : List Value} (hst : v.toList ++ rest = st1) (hdg : decode cc pc = .ok (.invokevirtual index, 3)) (hf : cells ≤ R.cells ∧ slots ≤ R.slots)
    (kk : ∀ (H1 : Heap) (locs1 : List Loc), zw G ca A H0 s ws1 H1 locs1 → W p l e R s m args below meth c H1 locs1 cells slots Q (F0 m (pc + 3) ls st1)) : W p l e R s m args below meth c H locs cells slots Q (F0 m pc ls (As.reverse ++ .ref b :: rest)) := by
  subst hst
  exact z_back (va_runV (As := As) (rest := rest) S (hM H.size) cw ⟨z_blind, z_recv (r := (C, T, N)) hz wr pm hwc hc, z_ready hz wr pm _⟩ rfl hn hsize rfl (lv_room hW) hdg hf) hz wr pm pm1 kk
theorem z_runS (S : CallFix p m c cc nL s args Ts own) (hM : Zc l G ca y wy rm As wc v wc1) (cw : CallB R s args own index y bytes maxL ret wy rm 0 0 n ∧ (Cond.static y).before args s = true) (hz : zw G ca A H0 s ws H locs) (wr : va_W) (pm : ws.Perm (wc ++ wr)) (pm1 : (wc1 ++ wr).Perm ws1)
    (hn : As.length = n) (hsize : ls.size = nL) (hW : (rest.map fun v => v.category).sum ≤ 8) {st1 : List Value} (hst : v.toList ++ rest = st1) (hdg : decode cc pc = .ok (.invokestatic index, 3)) (hf : cells ≤ R.cells ∧ slots ≤ R.slots)
    (kk : ∀ (H1 : Heap) (locs1 : List Loc), zw G ca A H0 s ws1 H1 locs1 → W p l e R s m args below meth c H1 locs1 cells slots Q (F0 m (pc + 3) ls st1)) : W p l e R s m args below meth c H locs cells slots Q (F0 m pc ls (As.reverse ++ rest)) := by
  subst hst
  exact z_back (va_runS (As := As) (rest := rest) S (hM H.size) cw ⟨z_blind, z_ready hz wr pm _⟩ rfl hn hsize rfl (lv_room hW) hdg hf) hz wr pm pm1 kk
theorem z_runSN (S : CallFix p m c cc nL s args Ts own) (hM : Zc l G ca y wy rm As wc v wc1) (cw : va_CN R s args own index y host bytes maxL ret wy rm 0 0 n ∧ (Cond.static y).before args s = true ∧ True) (hz : zw G ca A H0 s ws H locs) (wr : va_W) (pm : ws.Perm (wc ++ wr)) (pm1 : (wc1 ++ wr).Perm ws1)
    (hn : As.length = n) (hsize : ls.size = nL) (hW : (rest.map fun v => v.category).sum ≤ 8) {st1 : List Value} (hst : v.toList ++ rest = st1) (hdg : decode cc pc = .ok (.invokestatic index, 3)) (hf : cells ≤ R.cells ∧ slots ≤ R.slots)
    (kk : ∀ (H1 : Heap) (locs1 : List Loc), zw G ca A H0 s ws1 H1 locs1 → W p l e R s m args below meth c H1 locs1 cells slots Q (F0 m (pc + 3) ls st1)) : W p l e R s m args below meth c H locs cells slots Q (F0 m pc ls (As.reverse ++ rest)) := by
  subst hst
  exact z_back (va_runSN (As := As) (rest := rest) S (hM H.size) cw ⟨z_blind, z_ready hz wr pm _⟩ rfl hn hsize rfl (lv_room hW) hdg hf) hz wr pm pm1 kk
end ZC
/-- nothing beside the callee's cells -/
theorem zp_all {ws : va_W} : ws.Perm (ws ++ []) := by rw [List.append_nil]
theorem zp_all' {ws : va_W} : (ws ++ []).Perm ws := by rw [List.append_nil]
/-- the callee touches no cell -/
theorem zp_no {ws : va_W} : ws.Perm ([] ++ ws) := List.Perm.refl _
end
section
/-! ===== THE WORLDS: the reference's seven cells; a state's ten; the plan's five; a cup's one ===== -/
def cupF (c : Nat → Int32) : List Value := [.int (c 0), .int (c 1), .int (c 2), .int (c 3), .int (c 4), .int (c 5), .int (c 6), .int (c 7), .int (c 8), .int (c 9), .int (c 10), .int (c 11)]
def wC (o : Nat) (c : Nat → Int32) : va_W := [(o, .inr (0, cupF c))]
def wS (ca : Nat → ClassId) (a : Nat → Nat) (h : Nat → Int32) (c : Nat → Nat → Int32) : va_W :=
  [(a 0, .inr (2, [.ref (a 1), .int (h 0), .int (h 5), .int (h 6), .int (h 7), .int (h 1), .int (h 2), .int (h 3), .int (h 4)])), (a 1, .inl (ca 3, 8, .inr (.inr (.inr (.inr (fun i => some (a (2 + i)))))))),
   (a 2, .inr (0, cupF (c 0))), (a 3, .inr (0, cupF (c 1))), (a 4, .inr (0, cupF (c 2))), (a 5, .inr (0, cupF (c 3))), (a 6, .inr (0, cupF (c 4))), (a 7, .inr (0, cupF (c 5))), (a 8, .inr (0, cupF (c 6))), (a 9, .inr (0, cupF (c 7)))]
def wP (ca : Nat → ClassId) (a : Nat → Nat) (f tx kd wh nu : Nat → Int32) : va_W :=
  [(a 0, .inr (1, [.ref (a 1), .int (f 1), .ref (a 2), .ref (a 3), .ref (a 4), .int (f 5), .int (f 6)])), (a 1, .inl (ca 0, 60, .inl tx)), (a 2, .inl (ca 1, 60, .inl kd)), (a 3, .inl (ca 1, 60, .inl wh)), (a 4, .inl (ca 1, 60, .inl nu))]
def wM (ca : Nat → ClassId) (a : Nat → Nat) (f sx hi sn be tx ti : Nat → Int32) : va_W :=
  [(a 0, .inr (4, [.ref (a 1), .ref (a 2), .int (f 2), .ref (a 3), .int (f 4), .ref (a 4), .ref (a 5), .int (f 7), .int (f 8), .int (f 9), .ref (a 6), .int (f 11), .int (f 12), .int (f 13), .int (f 14), .int (f 15), .int (f 16)])),
   (a 1, .inl (ca 1, 104, .inl sx)), (a 2, .inl (ca 1, 416, .inl hi)), (a 3, .inl (ca 1, 104, .inl sn)), (a 4, .inl (ca 1, 104, .inl be)), (a 5, .inl (ca 0, 60, .inl tx)), (a 6, .inl (ca 2, 8, .inl ti))]
/-- the reference's row of numbers, by its head and its cups -/
def enc (h : Nat → Int32) (c : Nat → Nat → Int32) : Nat → Int32 := fun j => if j < 8 then h j else c ((j - 8) / 12) ((j - 8) % 12)
/-- one number of one cup -/
def u2 (c : Nat → Nat → Int32) (k w : Nat) (x : Int32) : Nat → Nat → Int32 := fun k2 w2 => if k2 = k ∧ w2 = w then x else c k2 w2
abbrev mm (ca : Nat → ClassId) (a : Nat → Nat) (f h : Nat → Int32) (c : Nat → Nat → Int32) (hi sn be tx ti : Nat → Int32) : va_W := wM ca a f (enc h c) hi sn be tx ti
theorem u2_s {c : Nat → Nat → Int32} {k w : Nat} {x : Int32} : u2 c k w x k w = x := by simp [u2]
theorem u2_n {c : Nat → Nat → Int32} {k w k2 w2 : Nat} {x : Int32} (h : ¬ (k2 = k ∧ w2 = w)) : u2 c k w x k2 w2 = c k2 w2 := by simp [u2, h]
theorem u2_nw {c : Nat → Nat → Int32} {k w k2 w2 : Nat} {x : Int32} (h : w2 ≠ w) : u2 c k w x k2 w2 = c k2 w2 := u2_n fun q => h q.2
theorem u2_nk {c : Nat → Nat → Int32} {k w k2 w2 : Nat} {x : Int32} (h : k2 ≠ k) : u2 c k w x k2 w2 = c k2 w2 := u2_n fun q => h q.1
theorem enc_h {h : Nat → Int32} {c : Nat → Nat → Int32} {j : Nat} (hj : j < 8) : enc h c j = h j := by simp [enc, hj]
theorem enc_c {h : Nat → Int32} {c : Nat → Nat → Int32} {k w : Nat} (hw : w < 12) : enc h c (8 + 12 * k + w) = c k w := by
  have h1 : ¬ 8 + 12 * k + w < 8 := by omega
  have h2 : (8 + 12 * k + w - 8) / 12 = k := by omega
  have h3 : (8 + 12 * k + w - 8) % 12 = w := by omega
  simp [enc, h1, h2, h3]
theorem enc_uh {h : Nat → Int32} {c : Nat → Nat → Int32} {j : Nat} {x : Int32} (hj : j < 8) : upd (enc h c) j x = enc (upd h j x) c := by
  funext i
  by_cases e : i = j
  · subst e
    rw [enc_h hj, pk_us, pk_us]
  · rw [pk_un e]
    by_cases hi : i < 8
    · rw [enc_h hi, enc_h hi, pk_un e]
    · simp [enc, hi]
theorem enc_uc {h : Nat → Int32} {c : Nat → Nat → Int32} {k w : Nat} {x : Int32} (hw : w < 12) : upd (enc h c) (8 + 12 * k + w) x = enc h (u2 c k w x) := by
  funext i
  by_cases e : i = 8 + 12 * k + w
  · subst e
    rw [pk_us, enc_c hw, u2_s]
  · rw [pk_un e]
    by_cases hi : i < 8
    · rw [enc_h hi, enc_h hi]
    · have hne : ¬ ((i - 8) / 12 = k ∧ (i - 8) % 12 = w) := by omega
      simp [enc, hi, u2, hne]
theorem arr_congr {cA : ClassId} {n : Nat} {f g : Nat → Int32} (h : ∀ j, j < n → f j = g j) : vp_cell cA (n, .inl f) = vp_cell cA (n, .inl g) := by
  rw [vp_cell_i, vp_cell_i]
  simp only [arrV]
  congr 1
  apply Array.ext
  · simp
  · intro i h1 h2
    simp only [Array.size_ofFn] at h1
    simp [h i (by simpa using h1)]
/-- a permutation by places -/
theorem filterMap_range {α : Type} (l : List α) : (List.range l.length).filterMap (fun i => l[i]?) = l := by
  induction l with
  | nil => rfl
  | cons x l ih =>
    rw [List.length_cons, List.range_succ_eq_map]
    simp only [List.filterMap_cons, List.filterMap_map, List.getElem?_cons_zero, Function.comp_def, Nat.succ_eq_add_one, List.getElem?_cons_succ, ih]
theorem z_pick {ws wc : va_W} (is : List Nat) (h : is.isPerm (List.range ws.length) = true) (e : is.filterMap (fun i => ws[i]?) = wc) : ws.Perm wc := by
  have p := List.isPerm_iff.mp h
  have q := p.filterMap (fun i => ws[i]?)
  rw [filterMap_range, e] at q
  exact q.symm
theorem nI_ix (k w : Nat) : 8 + 12 * nI k + nI w = nI (8 + 12 * k + w) := by
  rw [show (8 : Int32) = nI 8 from rfl, show (12 : Int32) = nI 12 from rfl, pk_mul, nI_add, nI_add]
end
section
/-! ===== what the reference's methods do, as functions of the head h and the cups c ===== -/
def inF (x lo hi : Int32) : Int32 := if x < lo then 0 else if hi < x then 0 else 1
theorem inF_n (x lo hi : Int32) : narrow .boolean (.int (inF x lo hi)) = .int (inF x lo hi) := by
  unfold inF; split
  · rfl
  · split <;> rfl
theorem inF_01 (x lo hi : Int32) : inF x lo hi = 0 ∨ inF x lo hi = 1 := by
  unfold inF; split
  · exact Or.inl rfl
  · split
    · exact Or.inl rfl
    · exact Or.inr rfl
theorem inF_ne {x lo hi : Int32} (h : ¬ inF x lo hi = 0) : ¬ x < lo ∧ ¬ hi < x := by
  unfold inF at h
  split at h
  · exact absurd rfl h
  · rename_i h1
    split at h
    · exact absurd rfl h
    · rename_i h2; exact ⟨h1, h2⟩
theorem i32_nI {x lo hi : Int32} {n : Nat} (hlo : lo = 0 ∨ lo = 1) (hhi : hi = nI n) (hn : n < 2 ^ 31) (h : ¬ x < lo ∧ ¬ hi < x) : ∃ k, k ≤ n ∧ x = nI k := by
  have h0 : ¬ x < 0 := by
    intro q
    apply h.1
    rcases hlo with e | e
    · rw [e]; exact q
    · rw [e]; exact Int32.lt_trans q (by decide)
  obtain ⟨j, hj, e⟩ := nI_of h0
  refine ⟨j, ?_, e⟩
  have h2 := h.2
  rw [e, hhi, nI_ltI hn hj] at h2
  omega
theorem isCup_pos {x : Int32} (h : ¬ inF x 0 7 = 0) : ∃ k, k < 8 ∧ x = nI k := by
  obtain ⟨k, hk, e⟩ := i32_nI (n := 7) (Or.inl rfl) rfl (by decide) (inF_ne h)
  exact ⟨k, by omega, e⟩
def nn (x : Int32) : Nat := x.toNatClampNeg
theorem nn_nI {n : Nat} (h : n < 2 ^ 31) : nn (nI n) = n := nI_clamp h
def hrF (h : Nat → Int32) (t : Int32) : Int32 := t - t / h 7 * h 7
def fullF (c : Nat → Nat → Int32) (k : Nat) : Int32 := if c k 3 < c k 0 then 0 else 1
theorem fullF_n (c : Nat → Nat → Int32) (k : Nat) : narrow .boolean (.int (fullF c k)) = .int (fullF c k) := by
  unfold fullF; split <;> rfl
def pourH (h : Nat → Int32) (t : Nat) (x : Int32) : Nat → Int32 := if t = 8 then upd h 1 (h 1 + x) else h
def pourC (c : Nat → Nat → Int32) (t : Nat) (x : Int32) : Nat → Nat → Int32 := if t = 8 then c else u2 c t 3 (c t 3 + x)
def whenF (hour its : Int32) : Nat := if hour = its then 9 else if its ≤ hour then 11 else 10
theorem whenF_lt (hour its : Int32) : whenF hour its < 12 := by unfold whenF; split <;> (try split) <;> decide
def tipC (c : Nat → Nat → Int32) (k : Nat) (hour : Int32) : Nat → Nat → Int32 :=
  if c k 4 = -1 then u2 c k 8 (c k 8 + 1) else u2 (u2 c k 8 (c k 8 + 1)) k (whenF hour (c k 4)) (u2 c k 8 (c k 8 + 1) k (whenF hour (c k 4)) + 1)
def opF (c : Nat → Nat → Int32) (k : Nat) (hour : Int32) : Int32 := if c k 6 = 1 then (if hour = c k 4 then 1 else 0) else (if c k 5 = 1 then 1 else 0)
def tpF (c : Nat → Nat → Int32) (k : Nat) (hour : Int32) : Int32 := if fullF c k = 0 then 0 else if opF c k hour = 0 then 0 else 1
theorem tpF_n (c : Nat → Nat → Int32) (k : Nat) (hour : Int32) : vp_nar .boolean (tpF c k hour) = tpF c k hour := by
  unfold tpF; split
  · rfl
  · split <;> rfl
def jetF (c : Nat → Nat → Int32) (k : Nat) : Int32 := if 10 * c k 3 / c k 0 ≤ 30 then 10 * c k 3 / c k 0 else 30
def tokH (h : Nat → Int32) (c : Nat → Nat → Int32) (k : Nat) (hour : Int32) : Nat → Int32 :=
  if tpF c k hour = 0 then (if c k 3 ≤ 9999 then h else upd h 1 (h 1 + (c k 3 - 9999))) else pourH h (nn (c k 2)) (c k 3)
def tokC (c : Nat → Nat → Int32) (k : Nat) (hour : Int32) : Nat → Nat → Int32 :=
  if tpF c k hour = 0 then (if c k 3 ≤ 9999 then u2 c k 7 0 else u2 (u2 c k 7 0) k 3 9999) else tipC (pourC (u2 (u2 c k 7 (jetF c k)) k 3 0) (nn (c k 2)) (c k 3)) k hour
abbrev HC : Type := (Nat → Int32) × (Nat → Nat → Int32)
/-- the cups one after the other: tipping or keeping -/
def it1 (hour : Int32) (p : HC) : Nat → HC
  | 0 => p
  | n + 1 => (tokH (it1 hour p n).1 (it1 hour p n).2 n hour, tokC (it1 hour p n).2 n hour)
def itT (hour : Int32) (p : HC) (ti : Nat → Int32) : Nat → Nat → Int32
  | 0 => ti
  | n + 1 => upd (itT hour p ti n) n (tpF (it1 hour p n).2 n hour)
theorem it1_0 (hour : Int32) (p : HC) : it1 hour p 0 = p := rfl
theorem it1_s (hour : Int32) (p : HC) (n : Nat) : it1 hour p (n + 1) = (tokH (it1 hour p n).1 (it1 hour p n).2 n hour, tokC (it1 hour p n).2 n hour) := rfl
theorem itT_0 (hour : Int32) (p : HC) (ti : Nat → Int32) : itT hour p ti 0 = ti := rfl
theorem itT_s (hour : Int32) (p : HC) (ti : Nat → Int32) (n : Nat) : itT hour p ti (n + 1) = upd (itT hour p ti n) n (tpF (it1 hour p n).2 n hour) := rfl
def drF (c : Nat → Nat → Int32) (k : Nat) : Int32 := if c k 3 ≤ c k 1 then c k 3 else c k 1
/-- and each drips -/
def it2 (p : HC) : Nat → HC
  | 0 => p
  | n + 1 => (upd (it2 p n).1 2 ((it2 p n).1 2 + drF (it2 p n).2 n), u2 (it2 p n).2 n 3 ((it2 p n).2 n 3 - drF (it2 p n).2 n))
theorem it2_0 (p : HC) : it2 p 0 = p := rfl
theorem it2_s (p : HC) (n : Nat) : it2 p (n + 1) = (upd (it2 p n).1 2 ((it2 p n).1 2 + drF (it2 p n).2 n), u2 (it2 p n).2 n 3 ((it2 p n).2 n 3 - drF (it2 p n).2 n)) := rfl
def backF (h : Nat → Int32) : Int32 := if h 1 ≤ h 6 then h 1 else h 6
def springH (h : Nat → Int32) : Nat → Int32 := upd (upd h 1 (h 1 - backF h)) 3 (h 3 + h 5)
def springP (p : HC) : HC := (springH p.1, u2 p.2 0 3 (p.2 0 3 + (backF p.1 + p.1 5)))
def hourP (p : HC) : Int32 := hrF p.1 (p.1 0)
-- chosen, not defined: so nothing is unrolled where a tick is compared with a tick
theorem tick1_x : ∃ f : HC → HC, ∀ p, f p = it1 (hourP p) (springP p) 8 := ⟨_, fun _ => rfl⟩
noncomputable def tick1 : HC → HC := Classical.choose tick1_x
theorem tick1_d (p : HC) : tick1 p = it1 (hourP p) (springP p) 8 := Classical.choose_spec tick1_x p
theorem tick2_x : ∃ f : HC → HC, ∀ p, f p = it2 (tick1 p) 8 := ⟨_, fun _ => rfl⟩
noncomputable def tick2 : HC → HC := Classical.choose tick2_x
theorem tick2_d (p : HC) : tick2 p = it2 (tick1 p) 8 := Classical.choose_spec tick2_x p
/-- A TICK -/
noncomputable def tickP (p : HC) : HC := (upd (tick2 p).1 0 ((tick2 p).1 0 + 1), (tick2 p).2)
theorem tickP_1 (p : HC) : (tickP p).1 = upd (tick2 p).1 0 ((tick2 p).1 0 + 1) := rfl
theorem tickP_2 (p : HC) : (tickP p).2 = (tick2 p).2 := rfl
theorem tickT_x : ∃ f : HC → (Nat → Int32) → Nat → Int32, ∀ p ti, f p ti = itT (hourP p) (springP p) ti 8 := ⟨_, fun _ _ => rfl⟩
noncomputable def tickT : HC → (Nat → Int32) → Nat → Int32 := Classical.choose tickT_x
theorem tickT_d (p : HC) (ti : Nat → Int32) : tickT p ti = itT (hourP p) (springP p) ti 8 := Classical.choose_spec tickT_x p ti
def sumF (c : Nat → Nat → Int32) (w : Nat) : Nat → Int32
  | 0 => 0
  | n + 1 => sumF c w n + c n w
/-! what a tick leaves as it was -/
theorem hrF_upd {h : Nat → Int32} {t x : Int32} {j : Nat} (hj : j ≠ 7) : hrF (upd h j x) t = hrF h t := by simp [hrF, pk_un (Ne.symm hj)]
theorem tipC_w {c : Nat → Nat → Int32} {k k2 w : Nat} {hour : Int32} (hw : w < 8) : tipC c k hour k2 w = c k2 w := by
  have h9 : whenF hour (c k 4) = 9 ∨ whenF hour (c k 4) = 11 ∨ whenF hour (c k 4) = 10 := by unfold whenF; split <;> (try split) <;> simp
  unfold tipC
  split
  · exact u2_nw (by omega)
  · rw [u2_nw (by omega), u2_nw (by omega)]
theorem pourC_w {c : Nat → Nat → Int32} {t k2 w : Nat} {x : Int32} (hw : w ≠ 3) : pourC c t x k2 w = c k2 w := by
  unfold pourC
  split
  · rfl
  · exact u2_nw hw
theorem tokC_w {h : Nat → Int32} {c : Nat → Nat → Int32} {k k2 w : Nat} {hour : Int32} (hw : w < 8) (h3 : w ≠ 3) (h7 : w ≠ 7) : tokC c k hour k2 w = c k2 w := by
  unfold tokC
  split
  · split
    · exact u2_nw h7
    · rw [u2_nw h3, u2_nw h7]
  · rw [tipC_w hw, pourC_w h3, u2_nw h3, u2_nw h7]
theorem pourH_j {h : Nat → Int32} {t j : Nat} {x : Int32} (hj : j ≠ 1) : pourH h t x j = h j := by
  unfold pourH
  split
  · exact pk_un hj
  · rfl
theorem tokH_j {h : Nat → Int32} {c : Nat → Nat → Int32} {k j : Nat} {hour : Int32} (hj : j ≠ 1) : tokH h c k hour j = h j := by
  unfold tokH
  split
  · split
    · rfl
    · exact pk_un hj
  · exact pourH_j hj
theorem it1_w (hour : Int32) (p : HC) (n k2 w : Nat) (hw : w < 8) (h3 : w ≠ 3) (h7 : w ≠ 7) : (it1 hour p n).2 k2 w = p.2 k2 w := by
  induction n with
  | zero => rfl
  | succ n ih => exact (tokC_w (h := p.1) hw h3 h7).trans ih
theorem it1_j (hour : Int32) (p : HC) (n j : Nat) (hj : j ≠ 1) : (it1 hour p n).1 j = p.1 j := by
  induction n with
  | zero => rfl
  | succ n ih => exact (tokH_j hj).trans ih
theorem it2_w (p : HC) (n k2 w : Nat) (h3 : w ≠ 3) : (it2 p n).2 k2 w = p.2 k2 w := by
  induction n with
  | zero => rfl
  | succ n ih => exact (u2_nw h3).trans ih
theorem it2_j (p : HC) (n j : Nat) (hj : j ≠ 2) : (it2 p n).1 j = p.1 j := by
  induction n with
  | zero => rfl
  | succ n ih => exact (pk_un hj).trans ih
theorem springP_w (p : HC) (k2 w : Nat) (h3 : w ≠ 3) : (springP p).2 k2 w = p.2 k2 w := u2_nw h3
theorem springP_j (p : HC) (j : Nat) (h1 : j ≠ 1) (h3 : j ≠ 3) : (springP p).1 j = p.1 j := by
  show upd (upd p.1 1 _) 3 _ j = _
  rw [pk_un h3, pk_un h1]
theorem tickP_w (p : HC) (k2 w : Nat) (hw : w < 8) (h3 : w ≠ 3) (h7 : w ≠ 7) : (tickP p).2 k2 w = p.2 k2 w :=
  show (tick2 p).2 k2 w = p.2 k2 w by rw [tick2_d, tick1_d]; exact (it2_w _ _ _ _ h3).trans ((it1_w _ _ _ _ _ hw h3 h7).trans (springP_w _ _ _ h3))
theorem tickP_j (p : HC) (j : Nat) (h : 4 ≤ j) : (tickP p).1 j = p.1 j := by
  rw [tickP_1, pk_un (by omega), tick2_d, tick1_d]
  exact ((it2_j _ _ _ (by omega)).trans ((it1_j _ _ _ _ (by omega)).trans (springP_j _ _ (by omega) (by omega))))
/-- what the reference needs of a state, that nothing is thrown: a day is not 0, no size is 0, water goes on -/
def okP (p : HC) : Prop := ¬ p.1 7 = 0 ∧ ∀ k, k < 8 → ¬ p.2 k 0 = 0 ∧ p.2 k 2 = nI (nn (p.2 k 2)) ∧ nn (p.2 k 2) ≤ 8
theorem okP.tick {p : HC} (h : okP p) : okP (tickP p) :=
  ⟨by rw [tickP_j _ _ (by decide)]; exact h.1, fun k hk => by
    rw [tickP_w _ _ _ (by decide) (by decide) (by decide), tickP_w _ _ _ (by decide) (by decide) (by decide)]
    exact h.2 k hk⟩
noncomputable def tkN (p : HC) : Nat → HC
  | 0 => p
  | n + 1 => tickP (tkN p n)
noncomputable def tkT (p : HC) (ti : Nat → Int32) : Nat → Nat → Int32
  | 0 => ti
  | n + 1 => tickT (tkN p n) (tkT p ti n)
theorem tkN_0 (p : HC) : tkN p 0 = p := rfl
theorem tkN_s (p : HC) (n : Nat) : tkN p (n + 1) = tickP (tkN p n) := rfl
theorem tkT_0 (p : HC) (ti : Nat → Int32) : tkT p ti 0 = ti := rfl
theorem tkT_s (p : HC) (ti : Nat → Int32) (n : Nat) : tkT p ti (n + 1) = tickT (tkN p n) (tkT p ti n) := rfl
theorem okP.ticks {p : HC} (h : okP p) (n : Nat) : okP (tkN p n) := by
  induction n with
  | zero => exact h
  | succ n ih => exact ih.tick
def isValF (cup which value : Int32) : Int32 := if which = 0 then inF value 1 99 else if which = 1 then inF value 0 9 else if which = 2 then (if inF value (cup + 1) 8 = 0 then 0 else 1) else 0
theorem isValF_n (cup which value : Int32) : narrow .boolean (.int (isValF cup which value)) = .int (isValF cup which value) := by
  unfold isValF
  split
  · exact inF_n _ _ _
  · split
    · exact inF_n _ _ _
    · split
      · split <;> rfl
      · rfl
theorem isVal_pos {cup which value : Int32} (h : ¬ isValF cup which value = 0) : ∃ w, w < 3 ∧ which = nI w := by
  unfold isValF at h
  split at h
  · rename_i e; exact ⟨0, by decide, e⟩
  · split at h
    · rename_i e; exact ⟨1, by decide, e⟩
    · split at h
      · rename_i e; exact ⟨2, by decide, e⟩
      · exact absurd rfl h
/-! the acts: answer (R), head (H) and cups (C) behind them -/
def setR (c : Nat → Nat → Int32) (cup which value : Int32) : Int32 := if inF cup 0 7 = 0 then -1 else if isValF cup which value = 0 then -2 else if c (nn cup) (nn which) = value then -5 else c (nn cup) (nn which)
def setC (c : Nat → Nat → Int32) (cup which value : Int32) : Nat → Nat → Int32 := if inF cup 0 7 = 0 then c else if isValF cup which value = 0 then c else u2 c (nn cup) (nn which) value
def turnR (c : Nat → Nat → Int32) (cup : Int32) : Int32 := if inF cup 0 7 = 0 then -1 else if c (nn cup) 6 = 1 then -4 else 1 - c (nn cup) 5
def turnC (c : Nat → Nat → Int32) (cup : Int32) : Nat → Nat → Int32 := if inF cup 0 7 = 0 then c else if c (nn cup) 6 = 1 then c else u2 c (nn cup) 5 (1 - c (nn cup) 5)
def hourR (c : Nat → Nat → Int32) (cup hour : Int32) : Int32 := if inF cup 0 7 = 0 then -1 else if inF hour (-1) 239 = 0 then -2 else if c (nn cup) 4 = hour then -5 else if c (nn cup) 4 = -1 then 240 else c (nn cup) 4
def hourC (c : Nat → Nat → Int32) (cup hour : Int32) : Nat → Nat → Int32 := if inF cup 0 7 = 0 then c else if inF hour (-1) 239 = 0 then c else if c (nn cup) 4 = hour then c else if hour = -1 then u2 (u2 (u2 c (nn cup) 4 hour) (nn cup) 6 0) (nn cup) 5 1 else u2 c (nn cup) 4 hour
def guardR (c : Nat → Nat → Int32) (cup : Int32) : Int32 := if inF cup 0 7 = 0 then -1 else if c (nn cup) 4 = -1 then -4 else 1 - c (nn cup) 6
def guardC (c : Nat → Nat → Int32) (cup : Int32) : Nat → Nat → Int32 := if inF cup 0 7 = 0 then c else if c (nn cup) 4 = -1 then c else u2 (u2 c (nn cup) 5 (c (nn cup) 6)) (nn cup) 6 (1 - c (nn cup) 6)
def fillR (c : Nat → Nat → Int32) (cup water : Int32) : Int32 := if inF cup 0 7 = 0 then -1 else if inF water 1 99 = 0 then -2 else if c (nn cup) 3 + water ≤ 9999 then c (nn cup) 3 + water else -3
def fillC (c : Nat → Nat → Int32) (cup water : Int32) : Nat → Nat → Int32 := if inF cup 0 7 = 0 then c else if inF water 1 99 = 0 then c else if c (nn cup) 3 + water ≤ 9999 then u2 c (nn cup) 3 (c (nn cup) 3 + water) else c
def fillH (h : Nat → Int32) (c : Nat → Nat → Int32) (cup water : Int32) : Nat → Int32 := if inF cup 0 7 = 0 then h else if inF water 1 99 = 0 then h else if c (nn cup) 3 + water ≤ 9999 then upd h 4 (h 4 + water) else h
def putR (h : Nat → Int32) (which value : Int32) : Int32 := if inF which 0 2 = 0 then -1 else if inF value (if which = 2 then 1 else 0) (if which = 2 then 240 else 99) = 0 then -2 else if h (5 + nn which) = value then -5 else h (5 + nn which)
def putH (h : Nat → Int32) (which value : Int32) : Nat → Int32 := if inF which 0 2 = 0 then h else if inF value (if which = 2 then 1 else 0) (if which = 2 then 240 else 99) = 0 then h else upd h (5 + nn which) value
noncomputable def passR (p : HC) (ticks : Int32) : Int32 := if inF ticks 1 99 = 0 then -2 else if p.1 0 + ticks ≤ 99999 then sumF (tkN p (nn ticks)).2 8 8 - sumF p.2 8 8 else -3
def passN (p : HC) (ticks : Int32) : Nat := if inF ticks 1 99 = 0 then 0 else if p.1 0 + ticks ≤ 99999 then nn ticks else 0
end
section
def rm_X4_in : Room := { frames := 0, cells := 0, slots := 0, locals := 0 }
set_option maxRecDepth 20000 in
theorem hdV_X4_in : yX4_in.cls = RX4 ∧ yX4_in.cls ≠ "java/lang/invoke/MethodHandle" ∧ yX4_in.cls ≠ "java/lang/invoke/VarHandle" ∧ (parseMethodDescriptor yX4_in.desc).map (fun d => d.parameters.length) = some 3 := by decide +kernel
set_option maxHeartbeats 4000000 in
set_option maxRecDepth 100000 in
/-- in: 1 within, else 0 -/
theorem k_X4_in (l : Launch) (G : va_G) (ca : Nat → ClassId) (x lo hi : Int32) : Zc l G ca yX4_in (zws yX4_in cX4_in 3 (some .boolean)) rm_X4_in [.int x, .int lo, .int hi] ([]) (some (.int (inF x lo hi))) ([]) := by
  refine Zc.of (cc := cX4_in) (maxL := 3) (ret := (some .boolean)) (by decide) rfl (Nat.le_of_ble_eq_true rfl) ?_
  intro pg ev s0 mt below meth cd A args Q ls hx hb hr hml hown hts hlk hQ hl hz
  have hl : lv_has ls 3 [(0, .int x), (1, .int lo), (2, .int hi)] := hl
  refine lv_iload_n (pc := 0) hx hb dX4_in_0 rfl (lv_at hl 0 rfl) ?_
  refine lv_iload_n (pc := 1) hx hb dX4_in_1 rfl (lv_at hl 1 rfl) ?_
  have J1 : ∀ (H : Heap) (locs : List Loc) (ls : Array Slot), zw G ca A s0.heap s0 ([]) H locs → lv_has ls 3 [(0, .int x), (1, .int lo), (2, .int hi)] → W pg l ev rm_X4_in s0 mt args below meth cd H locs 0 0 Q (F0 mt 15 ls [.int (inF x lo hi)]) := by
    intro H locs ls hz hl
    exact z_zret (pc := 15) hx hb hr hlk hQ hz (inF_n x lo hi) dX4_in_15 (by rfl) (by rfl)
  refine lv_icmp_lt (pc := 2) (tgt := 14) hx hb dX4_in_2 (by decide) (fun c_2 => ?_) (fun c_2 => ?_)
  · refine lv_iconst (v := 0) (pc := 14) hx hb dX4_in_14 (by decide) ?_
    exact z_top (by first | rfl | (simp only [inF, if_pos c_2])) (J1 _ _ _ hz (lv_sub hl [0, 1, 2] rfl))
  · refine lv_iload_n (pc := 5) hx hb dX4_in_5 rfl (lv_at hl 0 rfl) ?_
    refine lv_iload_n (pc := 6) hx hb dX4_in_6 rfl (lv_at hl 2 rfl) ?_
    refine lv_icmp_gt (pc := 7) (tgt := 14) hx hb dX4_in_7 (by decide) (fun c_7 => ?_) (fun c_7 => ?_)
    · refine lv_iconst (v := 0) (pc := 14) hx hb dX4_in_14 (by decide) ?_
      exact z_top (by first | rfl | (simp only [inF, if_neg c_2, if_pos c_7])) (J1 _ _ _ hz (lv_sub hl [0, 1, 2] rfl))
    · refine lv_iconst (v := 1) (pc := 10) hx hb dX4_in_10 (by decide) ?_
      refine lv_goto (tgt := 15) (pc := 11) hx hb dX4_in_11 (by decide) ?_
      exact z_top (by first | rfl | (simp only [inF, if_neg c_2, if_neg c_7])) (J1 _ _ _ hz (lv_sub hl [0, 1, 2] rfl))

def rm_X4_isCup : Room := { frames := 1, cells := 0, slots := 0, locals := 22 }
set_option maxRecDepth 20000 in
theorem hdV_X4_isCup : yX4_isCup.cls = RX4 ∧ yX4_isCup.cls ≠ "java/lang/invoke/MethodHandle" ∧ yX4_isCup.cls ≠ "java/lang/invoke/VarHandle" ∧ (parseMethodDescriptor yX4_isCup.desc).map (fun d => d.parameters.length) = some 1 := by decide +kernel
set_option maxHeartbeats 4000000 in
set_option maxRecDepth 100000 in
theorem k_X4_isCup (l : Launch) (G : va_G) (ca : Nat → ClassId) (x : Int32) : Zc l G ca yX4_isCup (zws yX4_isCup cX4_isCup 1 (some .boolean)) rm_X4_isCup [.int x] ([]) (some (.int (inF x 0 7))) ([]) := by
  refine Zc.of (cc := cX4_isCup) (maxL := 1) (ret := (some .boolean)) (by decide) rfl (Nat.le_of_ble_eq_true rfl) ?_
  intro pg ev s0 mt below meth cd A args Q ls hx hb hr hml hown hts hlk hQ hl hz
  have hl : lv_has ls 1 [(0, .int x)] := hl
  refine lv_iload_n (pc := 0) hx hb dX4_isCup_0 rfl (lv_at hl 0 rfl) ?_
  refine lv_iconst (v := 0) (pc := 1) hx hb dX4_isCup_1 (by decide) ?_
  refine lv_bipush (v := 7) (pc := 2) hx hb dX4_isCup_2 (by decide) ?_
  refine z_runS (pc := 4) (As := [.int x, .int 0, .int 7]) (rest := []) (ws1 := []) ⟨hx, hb, hml, hown, hts⟩ (k_X4_in l G ca x 0 7) (cwS 3 hts (zgoodS zsub wq_7_4 wq_7_5 wq_1_5 wq_7_6) rfl rfl rfl hdV_X4_in ⟨Nat.le_of_ble_eq_true rfl, Nat.le_of_ble_eq_true rfl⟩) hz ([]) zp_no (List.Perm.refl _) rfl hl.1 (Nat.le_of_ble_eq_true rfl) (st1 := [.int (inF x 0 7)]) rfl dX4_isCup_4 ⟨Nat.zero_le _, Nat.zero_le _⟩ (fun H locs hz => ?_)
  exact z_zret (pc := 7) hx hb hr hlk hQ hz (inF_n _ _ _) dX4_isCup_7 (by first | rfl | (simp only [])) (by first | rfl | (simp only []))

def rm_X4_of : Room := { frames := 0, cells := 0, slots := 0, locals := 0 }
set_option maxRecDepth 20000 in
theorem hdV_X4_of : yX4_of.cls = RX4 ∧ yX4_of.cls ≠ "java/lang/invoke/MethodHandle" ∧ yX4_of.cls ≠ "java/lang/invoke/VarHandle" ∧ (parseMethodDescriptor yX4_of.desc).map (fun d => d.parameters.length) = some 2 := by decide +kernel
set_option maxHeartbeats 4000000 in
set_option maxRecDepth 100000 in
theorem k_X4_of (l : Launch) (G : va_G) (ca : Nat → ClassId) (a : Nat → Nat) (f h : Nat → Int32) (c : Nat → Nat → Int32) (hi sn be tx ti : Nat → Int32) (k w : Nat) (hk : k < 8) (hw : w < 12) : Zc l G ca yX4_of (zws yX4_of cX4_of 3 (some .int)) rm_X4_of [.ref (a 0), .int (nI k), .int (nI w)] (mm ca a f h c hi sn be tx ti) (some (.int (c k w))) (mm ca a f h c hi sn be tx ti) := by
  refine Zc.of (cc := cX4_of) (maxL := 3) (ret := (some .int)) (by decide) rfl (Nat.le_of_ble_eq_true rfl) ?_
  intro pg ev s0 mt below meth cd A args Q ls hx hb hr hml hown hts hlk hQ hl hz
  have L7 : (Cond.fieldLink RX4 7 "CupFountainModel" "s" "[I").before args s0 = true := hts _ (zsub _ wq_4_4)
  have hinX4 : ∀ w ∈ wsX40, w ∈ zws yX4_of cX4_of 3 (some .int) := fun w h => zsub w (wl_wsX40 w h)
  have hl : lv_has ls 3 [(0, .ref (a 0)), (1, .int (nI k)), (2, .int (nI w))] := hl
  refine lv_aload_n (pc := 0) hx hb dX4_of_0 rfl (lv_at hl 0 rfl) ?_
  refine z_get (own := RX4) (ref := "CupFountainModel") (C := RX4) (T := TX4) (N := 17) (ci := 4) (v := .ref (a 1)) (pc := 1) hx hb hts hinX4 hown hz 0 rfl rfl 0 (by decide) L7 rfl rfl dX4_of_1 ?_
  refine lv_bipush (v := 8) (pc := 4) hx hb dX4_of_4 (by decide) ?_
  refine lv_bipush (v := 12) (pc := 6) hx hb dX4_of_6 (by decide) ?_
  refine lv_iload_n (pc := 8) hx hb dX4_of_8 rfl (lv_at hl 1 rfl) ?_
  refine lv_imul (pc := 9) hx hb dX4_of_9 ?_
  refine lv_iadd (pc := 10) hx hb dX4_of_10 ?_
  refine lv_iload_n (pc := 11) hx hb dX4_of_11 rfl (lv_at hl 2 rfl) ?_
  refine lv_iadd (pc := 12) hx hb dX4_of_12 ?_
  refine z_iald (x := c k w) (pc := 13) hx hb hz 1 rfl (8 + 12 * k + w) (nI_ix k w) (by omega) (by decide) (enc_c hw) dX4_of_13 ?_
  exact z_iret (pc := 14) hx hb hr hlk hQ hz dX4_of_14 (by first | rfl | (simp only [])) (by first | rfl | (simp only []))

def rm_X4_lay : Room := { frames := 0, cells := 0, slots := 0, locals := 0 }
set_option maxRecDepth 20000 in
theorem hdV_X4_lay : yX4_lay.cls = RX4 ∧ yX4_lay.cls ≠ "java/lang/invoke/MethodHandle" ∧ yX4_lay.cls ≠ "java/lang/invoke/VarHandle" ∧ (parseMethodDescriptor yX4_lay.desc).map (fun d => d.parameters.length) = some 3 := by decide +kernel
set_option maxHeartbeats 4000000 in
set_option maxRecDepth 100000 in
theorem k_X4_lay (l : Launch) (G : va_G) (ca : Nat → ClassId) (a : Nat → Nat) (f h : Nat → Int32) (c : Nat → Nat → Int32) (hi sn be tx ti : Nat → Int32) (k w : Nat) (x : Int32) (hk : k < 8) (hw : w < 12) : Zc l G ca yX4_lay (zws yX4_lay cX4_lay 4 none) rm_X4_lay [.ref (a 0), .int (nI k), .int (nI w), .int x] (mm ca a f h c hi sn be tx ti) none (mm ca a f h (u2 c k w x) hi sn be tx ti) := by
  refine Zc.of (cc := cX4_lay) (maxL := 4) (ret := none) (by decide) rfl (Nat.le_of_ble_eq_true rfl) ?_
  intro pg ev s0 mt below meth cd A args Q ls hx hb hr hml hown hts hlk hQ hl hz
  have L7 : (Cond.fieldLink RX4 7 "CupFountainModel" "s" "[I").before args s0 = true := hts _ (zsub _ wq_4_4)
  have hinX4 : ∀ w ∈ wsX40, w ∈ zws yX4_lay cX4_lay 4 none := fun w h => zsub w (wl_wsX40 w h)
  have hl : lv_has ls 4 [(0, .ref (a 0)), (1, .int (nI k)), (2, .int (nI w)), (3, .int x)] := hl
  refine lv_aload_n (pc := 0) hx hb dX4_lay_0 rfl (lv_at hl 0 rfl) ?_
  refine z_get (own := RX4) (ref := "CupFountainModel") (C := RX4) (T := TX4) (N := 17) (ci := 4) (v := .ref (a 1)) (pc := 1) hx hb hts hinX4 hown hz 0 rfl rfl 0 (by decide) L7 rfl rfl dX4_lay_1 ?_
  refine lv_bipush (v := 8) (pc := 4) hx hb dX4_lay_4 (by decide) ?_
  refine lv_bipush (v := 12) (pc := 6) hx hb dX4_lay_6 (by decide) ?_
  refine lv_iload_n (pc := 8) hx hb dX4_lay_8 rfl (lv_at hl 1 rfl) ?_
  refine lv_imul (pc := 9) hx hb dX4_lay_9 ?_
  refine lv_iadd (pc := 10) hx hb dX4_lay_10 ?_
  refine lv_iload_n (pc := 11) hx hb dX4_lay_11 rfl (lv_at hl 2 rfl) ?_
  refine lv_iadd (pc := 12) hx hb dX4_lay_12 ?_
  refine lv_iload_n (pc := 13) hx hb dX4_lay_13 rfl (lv_at hl 3 rfl) ?_
  refine z_iast (ws1 := mm ca a f h (u2 c k w x) hi sn be tx ti) (pc := 14) hx hb hz 1 rfl (8 + 12 * k + w) (nI_ix k w) (by omega) (by decide) (by rw [enc_uc hw]; rfl) dX4_lay_14 (fun H locs hz => ?_)
  exact z_vret (pc := 15) hx hb hr hlk hQ hz dX4_lay_15 rfl (by first | rfl | (simp only []))

def rm_X4_hourOf : Room := { frames := 0, cells := 0, slots := 0, locals := 0 }
set_option maxRecDepth 20000 in
theorem hdV_X4_hourOf : yX4_hourOf.cls = RX4 ∧ yX4_hourOf.cls ≠ "java/lang/invoke/MethodHandle" ∧ yX4_hourOf.cls ≠ "java/lang/invoke/VarHandle" ∧ (parseMethodDescriptor yX4_hourOf.desc).map (fun d => d.parameters.length) = some 1 := by decide +kernel
set_option maxHeartbeats 4000000 in
set_option maxRecDepth 100000 in
theorem k_X4_hourOf (l : Launch) (G : va_G) (ca : Nat → ClassId) (a : Nat → Nat) (f h : Nat → Int32) (c : Nat → Nat → Int32) (hi sn be tx ti : Nat → Int32) (x : Int32) (hd : ¬ h 7 = 0) : Zc l G ca yX4_hourOf (zws yX4_hourOf cX4_hourOf 2 (some .int)) rm_X4_hourOf [.ref (a 0), .int x] (mm ca a f h c hi sn be tx ti) (some (.int (hrF h x))) (mm ca a f h c hi sn be tx ti) := by
  refine Zc.of (cc := cX4_hourOf) (maxL := 2) (ret := (some .int)) (by decide) rfl (Nat.le_of_ble_eq_true rfl) ?_
  intro pg ev s0 mt below meth cd A args Q ls hx hb hr hml hown hts hlk hQ hl hz
  have L7 : (Cond.fieldLink RX4 7 "CupFountainModel" "s" "[I").before args s0 = true := hts _ (zsub _ wq_4_4)
  have hinX4 : ∀ w ∈ wsX40, w ∈ zws yX4_hourOf cX4_hourOf 2 (some .int) := fun w h => zsub w (wl_wsX40 w h)
  have hl : lv_has ls 2 [(0, .ref (a 0)), (1, .int x)] := hl
  refine lv_iload_n (pc := 0) hx hb dX4_hourOf_0 rfl (lv_at hl 1 rfl) ?_
  refine lv_aload_n (pc := 1) hx hb dX4_hourOf_1 rfl (lv_at hl 0 rfl) ?_
  refine z_get (own := RX4) (ref := "CupFountainModel") (C := RX4) (T := TX4) (N := 17) (ci := 4) (v := .ref (a 1)) (pc := 2) hx hb hts hinX4 hown hz 0 rfl rfl 0 (by decide) L7 rfl rfl dX4_hourOf_2 ?_
  refine lv_bipush (v := 7) (pc := 5) hx hb dX4_hourOf_5 (by decide) ?_
  refine z_iald (x := h 7) (pc := 7) hx hb hz 1 rfl 7 rfl (by decide) (by decide) (enc_h (by decide)) dX4_hourOf_7 ?_
  refine lv_irem (pc := 8) hx hb dX4_hourOf_8 hd ?_
  exact z_iret (pc := 9) hx hb hr hlk hQ hz dX4_hourOf_9 (by first | rfl | (simp only [hrF])) (by first | rfl | (simp only [hrF]))

def rm_X4_isFull : Room := { frames := 1, cells := 0, slots := 0, locals := 22 }
set_option maxRecDepth 20000 in
theorem hdV_X4_isFull : yX4_isFull.cls = RX4 ∧ yX4_isFull.cls ≠ "java/lang/invoke/MethodHandle" ∧ yX4_isFull.cls ≠ "java/lang/invoke/VarHandle" ∧ (parseMethodDescriptor yX4_isFull.desc).map (fun d => d.parameters.length) = some 1 := by decide +kernel
set_option maxHeartbeats 4000000 in
set_option maxRecDepth 100000 in
theorem k_X4_isFull (l : Launch) (G : va_G) (ca : Nat → ClassId) (a : Nat → Nat) (f h : Nat → Int32) (c : Nat → Nat → Int32) (hi sn be tx ti : Nat → Int32) (k : Nat) (hk : k < 8) : Zc l G ca yX4_isFull (zws yX4_isFull cX4_isFull 2 (some .boolean)) rm_X4_isFull [.ref (a 0), .int (nI k)] (mm ca a f h c hi sn be tx ti) (some (.int (fullF c k))) (mm ca a f h c hi sn be tx ti) := by
  refine Zc.of (cc := cX4_isFull) (maxL := 2) (ret := (some .boolean)) (by decide) rfl (Nat.le_of_ble_eq_true rfl) ?_
  intro pg ev s0 mt below meth cd A args Q ls hx hb hr hml hown hts hlk hQ hl hz
  have hl : lv_has ls 2 [(0, .ref (a 0)), (1, .int (nI k))] := hl
  refine lv_aload_n (pc := 0) hx hb dX4_isFull_0 rfl (lv_at hl 0 rfl) ?_
  refine lv_iload_n (pc := 1) hx hb dX4_isFull_1 rfl (lv_at hl 1 rfl) ?_
  refine lv_iconst (v := 3) (pc := 2) hx hb dX4_isFull_2 (by decide) ?_
  refine z_runV (pc := 3) (As := [.int (nI k), .int 3]) (rest := []) (ws1 := mm ca a f h c hi sn be tx ti) ⟨hx, hb, hml, hown, hts⟩ (k_X4_of l G ca a f h c hi sn be tx ti k 3 (by assumption) (by decide)) (cwV 2 hts (zgoodV zsub wq_7_10 wq_7_11 wq_7_12 wq_1_5 wq_7_13) rfl rfl rfl hdV_X4_of ⟨Nat.le_of_ble_eq_true rfl, Nat.le_of_ble_eq_true rfl⟩) hz [] zp_all zp_all' rfl rfl rfl hl.1 (Nat.le_of_ble_eq_true rfl) (st1 := [.int (c k 3)]) rfl dX4_isFull_3 ⟨Nat.zero_le _, Nat.zero_le _⟩ (fun H locs hz => ?_)
  refine lv_aload_n (pc := 6) hx hb dX4_isFull_6 rfl (lv_at hl 0 rfl) ?_
  refine lv_iload_n (pc := 7) hx hb dX4_isFull_7 rfl (lv_at hl 1 rfl) ?_
  refine lv_iconst (v := 0) (pc := 8) hx hb dX4_isFull_8 (by decide) ?_
  refine z_runV (pc := 9) (As := [.int (nI k), .int 0]) (rest := [.int (c k 3)]) (ws1 := mm ca a f h c hi sn be tx ti) ⟨hx, hb, hml, hown, hts⟩ (k_X4_of l G ca a f h c hi sn be tx ti k 0 (by assumption) (by decide)) (cwV 2 hts (zgoodV zsub wq_7_10 wq_7_11 wq_7_12 wq_1_5 wq_7_13) rfl rfl rfl hdV_X4_of ⟨Nat.le_of_ble_eq_true rfl, Nat.le_of_ble_eq_true rfl⟩) hz [] zp_all zp_all' rfl rfl rfl hl.1 (Nat.le_of_ble_eq_true rfl) (st1 := [.int (c k 0), .int (c k 3)]) rfl dX4_isFull_9 ⟨Nat.zero_le _, Nat.zero_le _⟩ (fun H locs hz => ?_)
  have J1 : ∀ (H : Heap) (locs : List Loc) (ls : Array Slot), zw G ca A s0.heap s0 (mm ca a f h c hi sn be tx ti) H locs → lv_has ls 2 [(0, .ref (a 0)), (1, .int (nI k))] → W pg l ev rm_X4_isFull s0 mt args below meth cd H locs 0 0 Q (F0 mt 20 ls [.int (fullF c k)]) := by
    intro H locs ls hz hl
    exact z_zret (pc := 20) hx hb hr hlk hQ hz (fullF_n c k) dX4_isFull_20 (by first | rfl | (simp only [fullF])) (by first | rfl | (simp only [fullF]))
  refine lv_icmp_lt (pc := 12) (tgt := 19) hx hb dX4_isFull_12 (by decide) (fun c_12 => ?_) (fun c_12 => ?_)
  · refine lv_iconst (v := 0) (pc := 19) hx hb dX4_isFull_19 (by decide) ?_
    exact z_top (by first | rfl | (simp only [fullF, if_pos c_12])) (J1 _ _ _ hz (lv_sub hl [0, 1] rfl))
  · refine lv_iconst (v := 1) (pc := 15) hx hb dX4_isFull_15 (by decide) ?_
    refine lv_goto (tgt := 20) (pc := 16) hx hb dX4_isFull_16 (by decide) ?_
    exact z_top (by first | rfl | (simp only [fullF, if_neg c_12])) (J1 _ _ _ hz (lv_sub hl [0, 1] rfl))

def rm_X4_pour : Room := { frames := 1, cells := 0, slots := 0, locals := 23 }
set_option maxRecDepth 20000 in
theorem hdV_X4_pour : yX4_pour.cls = RX4 ∧ yX4_pour.cls ≠ "java/lang/invoke/MethodHandle" ∧ yX4_pour.cls ≠ "java/lang/invoke/VarHandle" ∧ (parseMethodDescriptor yX4_pour.desc).map (fun d => d.parameters.length) = some 2 := by decide +kernel
set_option maxHeartbeats 4000000 in
set_option maxRecDepth 100000 in
theorem k_X4_pour (l : Launch) (G : va_G) (ca : Nat → ClassId) (a : Nat → Nat) (f h : Nat → Int32) (c : Nat → Nat → Int32) (hi sn be tx ti : Nat → Int32) (t : Nat) (y x : Int32) (hy : y = nI t) (ht : t ≤ 8) : Zc l G ca yX4_pour (zws yX4_pour cX4_pour 3 none) rm_X4_pour [.ref (a 0), .int y, .int x] (mm ca a f h c hi sn be tx ti) none (mm ca a f (pourH h t x) (pourC c t x) hi sn be tx ti) := by
  refine Zc.of (cc := cX4_pour) (maxL := 3) (ret := none) (by decide) rfl (Nat.le_of_ble_eq_true rfl) ?_
  intro pg ev s0 mt below meth cd A args Q ls hx hb hr hml hown hts hlk hQ hl hz
  have L7 : (Cond.fieldLink RX4 7 "CupFountainModel" "s" "[I").before args s0 = true := hts _ (zsub _ wq_4_4)
  have hinX4 : ∀ w ∈ wsX40, w ∈ zws yX4_pour cX4_pour 3 none := fun w h => zsub w (wl_wsX40 w h)
  have hl : lv_has ls 3 [(0, .ref (a 0)), (1, .int y), (2, .int x)] := hl
  subst hy
  refine lv_iload_n (pc := 0) hx hb dX4_pour_0 rfl (lv_at hl 1 rfl) ?_
  refine lv_bipush (v := 8) (pc := 1) hx hb dX4_pour_1 (by decide) ?_
  refine lv_icmp_ne (pc := 3) (tgt := 19) hx hb dX4_pour_3 (by decide) (fun c_3 => ?_) (fun c_3 => ?_)
  · have ht8 : ¬ t = 8 := fun q => c_3 (by rw [q]; rfl)
    have ht7 : t < 8 := by omega
    refine lv_aload_n (pc := 19) hx hb dX4_pour_19 rfl (lv_at hl 0 rfl) ?_
    refine lv_iload_n (pc := 20) hx hb dX4_pour_20 rfl (lv_at hl 1 rfl) ?_
    refine lv_iconst (v := 3) (pc := 21) hx hb dX4_pour_21 (by decide) ?_
    refine lv_aload_n (pc := 22) hx hb dX4_pour_22 rfl (lv_at hl 0 rfl) ?_
    refine lv_iload_n (pc := 23) hx hb dX4_pour_23 rfl (lv_at hl 1 rfl) ?_
    refine lv_iconst (v := 3) (pc := 24) hx hb dX4_pour_24 (by decide) ?_
    refine z_runV (pc := 25) (As := [.int (nI t), .int 3]) (rest := [.int 3, .int (nI t), .ref (a 0)]) (ws1 := mm ca a f h c hi sn be tx ti) ⟨hx, hb, hml, hown, hts⟩ (k_X4_of l G ca a f h c hi sn be tx ti t 3 ht7 (by decide)) (cwV 2 hts (zgoodV zsub wq_7_10 wq_7_11 wq_7_12 wq_1_5 wq_7_13) rfl rfl rfl hdV_X4_of ⟨Nat.le_of_ble_eq_true rfl, Nat.le_of_ble_eq_true rfl⟩) hz [] zp_all zp_all' rfl rfl rfl hl.1 (Nat.le_of_ble_eq_true rfl) (st1 := [.int (c t 3), .int 3, .int (nI t), .ref (a 0)]) rfl dX4_pour_25 ⟨Nat.zero_le _, Nat.zero_le _⟩ (fun H locs hz => ?_)
    refine lv_iload_n (pc := 28) hx hb dX4_pour_28 rfl (lv_at hl 2 rfl) ?_
    refine lv_iadd (pc := 29) hx hb dX4_pour_29 ?_
    refine z_runV (pc := 30) (As := [.int (nI t), .int 3, .int ((c t 3) + x)]) (rest := []) (ws1 := mm ca a f h (u2 c t 3 ((c t 3) + x)) hi sn be tx ti) ⟨hx, hb, hml, hown, hts⟩ (k_X4_lay l G ca a f h c hi sn be tx ti t 3 ((c t 3) + x) ht7 (by decide)) (cwV 3 hts (zgoodV zsub wq_4_12 wq_4_13 wq_4_14 wq_1_5 wq_4_15) rfl rfl rfl hdV_X4_lay ⟨Nat.le_of_ble_eq_true rfl, Nat.le_of_ble_eq_true rfl⟩) hz [] zp_all zp_all' rfl rfl rfl hl.1 (Nat.le_of_ble_eq_true rfl) (st1 := []) rfl dX4_pour_30 ⟨Nat.zero_le _, Nat.zero_le _⟩ (fun H locs hz => ?_)
    exact z_vret (pc := 33) hx hb hr hlk hQ hz dX4_pour_33 rfl (by first | rfl | (simp only [pourH, pourC, if_neg c_3, if_neg ht8]))
  · have ht8 : t = 8 := (nI_eq (by omega) (by decide)).mp c_3
    refine lv_aload_n (pc := 6) hx hb dX4_pour_6 rfl (lv_at hl 0 rfl) ?_
    refine z_get (own := RX4) (ref := "CupFountainModel") (C := RX4) (T := TX4) (N := 17) (ci := 4) (v := .ref (a 1)) (pc := 7) hx hb hts hinX4 hown hz 0 rfl rfl 0 (by decide) L7 rfl rfl dX4_pour_7 ?_
    refine lv_iconst (v := 1) (pc := 10) hx hb dX4_pour_10 (by decide) ?_
    refine lv_dup2_11 (pc := 11) hx hb dX4_pour_11 rfl rfl ?_
    refine z_iald (x := h 1) (pc := 12) hx hb hz 1 rfl 1 rfl (by decide) (by decide) (enc_h (by decide)) dX4_pour_12 ?_
    refine lv_iload_n (pc := 13) hx hb dX4_pour_13 rfl (lv_at hl 2 rfl) ?_
    refine lv_iadd (pc := 14) hx hb dX4_pour_14 ?_
    refine z_iast (ws1 := mm ca a f (upd h 1 ((h 1) + x)) c hi sn be tx ti) (pc := 15) hx hb hz 1 rfl 1 rfl (by decide) (by decide) (by rw [enc_uh (by decide)]; rfl) dX4_pour_15 (fun H locs hz => ?_)
    refine lv_goto (tgt := 33) (pc := 16) hx hb dX4_pour_16 (by decide) ?_
    exact z_vret (pc := 33) hx hb hr hlk hQ hz dX4_pour_33 rfl (by first | rfl | (simp only [pourH, pourC, if_pos c_3, if_pos ht8]))

theorem k_X4_pour_c (l : Launch) (G : va_G) (ca : Nat → ClassId) (a : Nat → Nat) (f h : Nat → Int32) (c : Nat → Nat → Int32) (hi sn be tx ti : Nat → Int32) (t : Nat) (x : Int32) (ht : t < 8) : Zc l G ca yX4_pour (zws yX4_pour cX4_pour 3 none) rm_X4_pour [.ref (a 0), .int (nI t), .int x] (mm ca a f h c hi sn be tx ti) none (mm ca a f h (u2 c t 3 (c t 3 + x)) hi sn be tx ti) := by
  have h9 := k_X4_pour l G ca a f h c hi sn be tx ti t _ x rfl (by omega)
  have hne : ¬ t = 8 := by omega
  simp only [pourH, pourC, if_neg hne] at h9
  exact h9

def rm_X4_countTip : Room := { frames := 1, cells := 0, slots := 0, locals := 23 }
set_option maxRecDepth 20000 in
theorem hdV_X4_countTip : yX4_countTip.cls = RX4 ∧ yX4_countTip.cls ≠ "java/lang/invoke/MethodHandle" ∧ yX4_countTip.cls ≠ "java/lang/invoke/VarHandle" ∧ (parseMethodDescriptor yX4_countTip.desc).map (fun d => d.parameters.length) = some 2 := by decide +kernel
set_option maxHeartbeats 4000000 in
set_option maxRecDepth 100000 in
theorem k_X4_countTip (l : Launch) (G : va_G) (ca : Nat → ClassId) (a : Nat → Nat) (f h : Nat → Int32) (c : Nat → Nat → Int32) (hi sn be tx ti : Nat → Int32) (k : Nat) (hour : Int32) (hk : k < 8) : Zc l G ca yX4_countTip (zws yX4_countTip cX4_countTip 5 none) rm_X4_countTip [.ref (a 0), .int (nI k), .int hour] (mm ca a f h c hi sn be tx ti) none (mm ca a f h (tipC c k hour) hi sn be tx ti) := by
  refine Zc.of (cc := cX4_countTip) (maxL := 5) (ret := none) (by decide) rfl (Nat.le_of_ble_eq_true rfl) ?_
  intro pg ev s0 mt below meth cd A args Q ls hx hb hr hml hown hts hlk hQ hl hz
  have hl : lv_has ls 5 [(0, .ref (a 0)), (1, .int (nI k)), (2, .int hour)] := hl
  refine lv_aload_n (pc := 0) hx hb dX4_countTip_0 rfl (lv_at hl 0 rfl) ?_
  refine lv_iload_n (pc := 1) hx hb dX4_countTip_1 rfl (lv_at hl 1 rfl) ?_
  refine lv_iconst (v := 4) (pc := 2) hx hb dX4_countTip_2 (by decide) ?_
  refine z_runV (pc := 3) (As := [.int (nI k), .int 4]) (rest := []) (ws1 := mm ca a f h c hi sn be tx ti) ⟨hx, hb, hml, hown, hts⟩ (k_X4_of l G ca a f h c hi sn be tx ti k 4 (by assumption) (by decide)) (cwV 2 hts (zgoodV zsub wq_7_10 wq_7_11 wq_7_12 wq_1_5 wq_7_13) rfl rfl rfl hdV_X4_of ⟨Nat.le_of_ble_eq_true rfl, Nat.le_of_ble_eq_true rfl⟩) hz [] zp_all zp_all' rfl rfl rfl hl.1 (Nat.le_of_ble_eq_true rfl) (st1 := [.int (c k 4)]) rfl dX4_countTip_3 ⟨Nat.zero_le _, Nat.zero_le _⟩ (fun H locs hz => ?_)
  refine lv_istore_n (lv' := [(3, .int (c k 4)), (0, .ref (a 0)), (1, .int (nI k)), (2, .int hour)]) (pc := 6) hx hb dX4_countTip_6 rfl hl (by decide) rfl (fun ls hl => ?_)
  refine lv_aload_n (pc := 7) hx hb dX4_countTip_7 rfl (lv_at hl 1 rfl) ?_
  refine lv_iload_n (pc := 8) hx hb dX4_countTip_8 rfl (lv_at hl 2 rfl) ?_
  refine lv_bipush (v := 8) (pc := 9) hx hb dX4_countTip_9 (by decide) ?_
  refine lv_aload_n (pc := 11) hx hb dX4_countTip_11 rfl (lv_at hl 1 rfl) ?_
  refine lv_iload_n (pc := 12) hx hb dX4_countTip_12 rfl (lv_at hl 2 rfl) ?_
  refine lv_bipush (v := 8) (pc := 13) hx hb dX4_countTip_13 (by decide) ?_
  refine z_runV (pc := 15) (As := [.int (nI k), .int 8]) (rest := [.int 8, .int (nI k), .ref (a 0)]) (ws1 := mm ca a f h c hi sn be tx ti) ⟨hx, hb, hml, hown, hts⟩ (k_X4_of l G ca a f h c hi sn be tx ti k 8 (by assumption) (by decide)) (cwV 2 hts (zgoodV zsub wq_7_10 wq_7_11 wq_7_12 wq_1_5 wq_7_13) rfl rfl rfl hdV_X4_of ⟨Nat.le_of_ble_eq_true rfl, Nat.le_of_ble_eq_true rfl⟩) hz [] zp_all zp_all' rfl rfl rfl hl.1 (Nat.le_of_ble_eq_true rfl) (st1 := [.int (c k 8), .int 8, .int (nI k), .ref (a 0)]) rfl dX4_countTip_15 ⟨Nat.zero_le _, Nat.zero_le _⟩ (fun H locs hz => ?_)
  refine lv_iconst (v := 1) (pc := 18) hx hb dX4_countTip_18 (by decide) ?_
  refine lv_iadd (pc := 19) hx hb dX4_countTip_19 ?_
  refine z_runV (pc := 20) (As := [.int (nI k), .int 8, .int ((c k 8) + 1)]) (rest := []) (ws1 := mm ca a f h (u2 c k 8 ((c k 8) + 1)) hi sn be tx ti) ⟨hx, hb, hml, hown, hts⟩ (k_X4_lay l G ca a f h c hi sn be tx ti k 8 ((c k 8) + 1) (by assumption) (by decide)) (cwV 3 hts (zgoodV zsub wq_4_12 wq_4_13 wq_4_14 wq_1_5 wq_4_15) rfl rfl rfl hdV_X4_lay ⟨Nat.le_of_ble_eq_true rfl, Nat.le_of_ble_eq_true rfl⟩) hz [] zp_all zp_all' rfl rfl rfl hl.1 (Nat.le_of_ble_eq_true rfl) (st1 := []) rfl dX4_countTip_20 ⟨Nat.zero_le _, Nat.zero_le _⟩ (fun H locs hz => ?_)
  refine lv_iload_n (pc := 23) hx hb dX4_countTip_23 rfl (lv_at hl 0 rfl) ?_
  refine lv_iconst (v := -1) (pc := 24) hx hb dX4_countTip_24 (by decide) ?_
  refine lv_icmp_eq (pc := 25) (tgt := 68) hx hb dX4_countTip_25 (by decide) (fun c_25 => ?_) (fun c_25 => ?_)
  · exact z_vret (pc := 68) hx hb hr hlk hQ hz dX4_countTip_68 rfl (by simp only [tipC, if_pos c_25])
  · refine lv_iload_n (pc := 28) hx hb dX4_countTip_28 rfl (lv_at hl 3 rfl) ?_
    refine lv_iload_n (pc := 29) hx hb dX4_countTip_29 rfl (lv_at hl 0 rfl) ?_
    have J1 : ∀ (H : Heap) (locs : List Loc) (ls : Array Slot), zw G ca A s0.heap s0 (mm ca a f h (u2 c k 8 ((c k 8) + 1)) hi sn be tx ti) H locs → lv_has ls 5 [(3, .int (c k 4)), (0, .ref (a 0)), (1, .int (nI k)), (2, .int hour)] → W pg l ev rm_X4_countTip s0 mt args below meth cd H locs 0 0 Q (F0 mt 50 ls [.int (nI (whenF hour (c k 4)))]) := by
      intro H locs ls hz hl
      refine lv_istore (lv' := [(4, .int (nI (whenF hour (c k 4)))), (3, .int (c k 4)), (0, .ref (a 0)), (1, .int (nI k)), (2, .int hour)]) (pc := 50) hx hb dX4_countTip_50 hl (by decide) rfl (fun ls hl => ?_)
      refine lv_aload_n (pc := 52) hx hb dX4_countTip_52 rfl (lv_at hl 2 rfl) ?_
      refine lv_iload_n (pc := 53) hx hb dX4_countTip_53 rfl (lv_at hl 3 rfl) ?_
      refine lv_iload (pc := 54) hx hb dX4_countTip_54 (lv_at hl 0 rfl) ?_
      refine lv_aload_n (pc := 56) hx hb dX4_countTip_56 rfl (lv_at hl 2 rfl) ?_
      refine lv_iload_n (pc := 57) hx hb dX4_countTip_57 rfl (lv_at hl 3 rfl) ?_
      refine lv_iload (pc := 58) hx hb dX4_countTip_58 (lv_at hl 0 rfl) ?_
      refine z_runV (pc := 60) (As := [.int (nI k), .int (nI (whenF hour (c k 4)))]) (rest := [.int (nI (whenF hour (c k 4))), .int (nI k), .ref (a 0)]) (ws1 := mm ca a f h (u2 c k 8 ((c k 8) + 1)) hi sn be tx ti) ⟨hx, hb, hml, hown, hts⟩ (k_X4_of l G ca a f h (u2 c k 8 ((c k 8) + 1)) hi sn be tx ti k (whenF hour (c k 4)) (by assumption) (whenF_lt _ _)) (cwV 2 hts (zgoodV zsub wq_7_10 wq_7_11 wq_7_12 wq_1_5 wq_7_13) rfl rfl rfl hdV_X4_of ⟨Nat.le_of_ble_eq_true rfl, Nat.le_of_ble_eq_true rfl⟩) hz [] zp_all zp_all' rfl rfl rfl hl.1 (Nat.le_of_ble_eq_true rfl) (st1 := [.int ((u2 c k 8 ((c k 8) + 1)) k (whenF hour (c k 4))), .int (nI (whenF hour (c k 4))), .int (nI k), .ref (a 0)]) rfl dX4_countTip_60 ⟨Nat.zero_le _, Nat.zero_le _⟩ (fun H locs hz => ?_)
      refine lv_iconst (v := 1) (pc := 63) hx hb dX4_countTip_63 (by decide) ?_
      refine lv_iadd (pc := 64) hx hb dX4_countTip_64 ?_
      refine z_runV (pc := 65) (As := [.int (nI k), .int (nI (whenF hour (c k 4))), .int (((u2 c k 8 ((c k 8) + 1)) k (whenF hour (c k 4))) + 1)]) (rest := []) (ws1 := mm ca a f h (u2 (u2 c k 8 ((c k 8) + 1)) k (whenF hour (c k 4)) (((u2 c k 8 ((c k 8) + 1)) k (whenF hour (c k 4))) + 1)) hi sn be tx ti) ⟨hx, hb, hml, hown, hts⟩ (k_X4_lay l G ca a f h (u2 c k 8 ((c k 8) + 1)) hi sn be tx ti k (whenF hour (c k 4)) (((u2 c k 8 ((c k 8) + 1)) k (whenF hour (c k 4))) + 1) (by assumption) (whenF_lt _ _)) (cwV 3 hts (zgoodV zsub wq_4_12 wq_4_13 wq_4_14 wq_1_5 wq_4_15) rfl rfl rfl hdV_X4_lay ⟨Nat.le_of_ble_eq_true rfl, Nat.le_of_ble_eq_true rfl⟩) hz [] zp_all zp_all' rfl rfl rfl hl.1 (Nat.le_of_ble_eq_true rfl) (st1 := []) rfl dX4_countTip_65 ⟨Nat.zero_le _, Nat.zero_le _⟩ (fun H locs hz => ?_)
      exact z_vret (pc := 68) hx hb hr hlk hQ hz dX4_countTip_68 rfl (by simp only [tipC, if_neg c_25])
    refine lv_icmp_ne (pc := 30) (tgt := 38) hx hb dX4_countTip_30 (by decide) (fun c_30 => ?_) (fun c_30 => ?_)
    · refine lv_iload_n (pc := 38) hx hb dX4_countTip_38 rfl (lv_at hl 3 rfl) ?_
      refine lv_iload_n (pc := 39) hx hb dX4_countTip_39 rfl (lv_at hl 0 rfl) ?_
      refine lv_icmp_ge (pc := 40) (tgt := 48) hx hb dX4_countTip_40 (by decide) (fun c_40 => ?_) (fun c_40 => ?_)
      · refine lv_bipush (v := 11) (pc := 48) hx hb dX4_countTip_48 (by decide) ?_
        exact z_top (by unfold whenF; simp only [if_neg c_30, if_pos c_40]; rfl) (J1 _ _ _ hz (lv_sub hl [0, 1, 2, 3] rfl))
      · refine lv_bipush (v := 10) (pc := 43) hx hb dX4_countTip_43 (by decide) ?_
        refine lv_goto (tgt := 50) (pc := 45) hx hb dX4_countTip_45 (by decide) ?_
        exact z_top (by unfold whenF; simp only [if_neg c_30, if_neg c_40]; rfl) (J1 _ _ _ hz (lv_sub hl [0, 1, 2, 3] rfl))
    · refine lv_bipush (v := 9) (pc := 33) hx hb dX4_countTip_33 (by decide) ?_
      refine lv_goto (tgt := 50) (pc := 35) hx hb dX4_countTip_35 (by decide) ?_
      exact z_top (by unfold whenF; simp only [if_pos c_30]; rfl) (J1 _ _ _ hz (lv_sub hl [0, 1, 2, 3] rfl))

def rm_X4_tipOrKeep : Room := { frames := 2, cells := 0, slots := 0, locals := 47 }
set_option maxRecDepth 20000 in
theorem hdV_X4_tipOrKeep : yX4_tipOrKeep.cls = RX4 ∧ yX4_tipOrKeep.cls ≠ "java/lang/invoke/MethodHandle" ∧ yX4_tipOrKeep.cls ≠ "java/lang/invoke/VarHandle" ∧ (parseMethodDescriptor yX4_tipOrKeep.desc).map (fun d => d.parameters.length) = some 2 := by decide +kernel
set_option maxHeartbeats 4000000 in
set_option maxRecDepth 100000 in
theorem k_X4_tipOrKeep (l : Launch) (G : va_G) (ca : Nat → ClassId) (a : Nat → Nat) (f h : Nat → Int32) (c : Nat → Nat → Int32) (hi sn be tx ti : Nat → Int32) (k : Nat) (hour : Int32) (hk : k < 8) (hsz : ¬ c k 0 = 0) (ht1 : c k 2 = nI (nn (c k 2))) (ht2 : nn (c k 2) ≤ 8) : Zc l G ca yX4_tipOrKeep (zws yX4_tipOrKeep cX4_tipOrKeep 6 none) rm_X4_tipOrKeep [.ref (a 0), .int (nI k), .int hour] (mm ca a f h c hi sn be tx ti) none (mm ca a f (tokH h c k hour) (tokC c k hour) hi sn be tx (upd ti k (tpF c k hour))) := by
  refine Zc.of (cc := cX4_tipOrKeep) (maxL := 6) (ret := none) (by decide) rfl (Nat.le_of_ble_eq_true rfl) ?_
  intro pg ev s0 mt below meth cd A args Q ls hx hb hr hml hown hts hlk hQ hl hz
  have L30 : (Cond.fieldLink RX4 30 "CupFountainModel" "tipped" "[Z").before args s0 = true := hts _ (zsub _ wq_4_11)
  have L7 : (Cond.fieldLink RX4 7 "CupFountainModel" "s" "[I").before args s0 = true := hts _ (zsub _ wq_4_4)
  have hinX4 : ∀ w ∈ wsX40, w ∈ zws yX4_tipOrKeep cX4_tipOrKeep 6 none := fun w h => zsub w (wl_wsX40 w h)
  have hl : lv_has ls 6 [(0, .ref (a 0)), (1, .int (nI k)), (2, .int hour)] := hl
  refine lv_aload_n (pc := 0) hx hb dX4_tipOrKeep_0 rfl (lv_at hl 0 rfl) ?_
  refine lv_iload_n (pc := 1) hx hb dX4_tipOrKeep_1 rfl (lv_at hl 1 rfl) ?_
  refine lv_bipush (v := 6) (pc := 2) hx hb dX4_tipOrKeep_2 (by decide) ?_
  refine z_runV (pc := 4) (As := [.int (nI k), .int 6]) (rest := []) (ws1 := mm ca a f h c hi sn be tx ti) ⟨hx, hb, hml, hown, hts⟩ (k_X4_of l G ca a f h c hi sn be tx ti k 6 (by assumption) (by decide)) (cwV 2 hts (zgoodV zsub wq_7_10 wq_7_11 wq_7_12 wq_1_5 wq_7_13) rfl rfl rfl hdV_X4_of ⟨Nat.le_of_ble_eq_true rfl, Nat.le_of_ble_eq_true rfl⟩) hz [] zp_all zp_all' rfl rfl rfl hl.1 (Nat.le_of_ble_eq_true rfl) (st1 := [.int (c k 6)]) rfl dX4_tipOrKeep_4 ⟨Nat.zero_le _, Nat.zero_le _⟩ (fun H locs hz => ?_)
  refine lv_iconst (v := 1) (pc := 7) hx hb dX4_tipOrKeep_7 (by decide) ?_
  have J1 : ∀ (H : Heap) (locs : List Loc) (ls : Array Slot), zw G ca A s0.heap s0 (mm ca a f h c hi sn be tx ti) H locs → lv_has ls 6 [(0, .ref (a 0)), (1, .int (nI k)), (2, .int hour)] → W pg l ev rm_X4_tipOrKeep s0 mt args below meth cd H locs 0 0 Q (F0 mt 44 ls [.int (opF c k hour)]) := by
    intro H locs ls hz hl
    refine lv_istore_n (lv' := [(3, .int (opF c k hour)), (0, .ref (a 0)), (1, .int (nI k)), (2, .int hour)]) (pc := 44) hx hb dX4_tipOrKeep_44 rfl hl (by decide) rfl (fun ls hl => ?_)
    refine lv_aload_n (pc := 45) hx hb dX4_tipOrKeep_45 rfl (lv_at hl 1 rfl) ?_
    refine lv_iload_n (pc := 46) hx hb dX4_tipOrKeep_46 rfl (lv_at hl 2 rfl) ?_
    refine lv_iconst (v := 3) (pc := 47) hx hb dX4_tipOrKeep_47 (by decide) ?_
    refine z_runV (pc := 48) (As := [.int (nI k), .int 3]) (rest := []) (ws1 := mm ca a f h c hi sn be tx ti) ⟨hx, hb, hml, hown, hts⟩ (k_X4_of l G ca a f h c hi sn be tx ti k 3 (by assumption) (by decide)) (cwV 2 hts (zgoodV zsub wq_7_10 wq_7_11 wq_7_12 wq_1_5 wq_7_13) rfl rfl rfl hdV_X4_of ⟨Nat.le_of_ble_eq_true rfl, Nat.le_of_ble_eq_true rfl⟩) hz [] zp_all zp_all' rfl rfl rfl hl.1 (Nat.le_of_ble_eq_true rfl) (st1 := [.int (c k 3)]) rfl dX4_tipOrKeep_48 ⟨Nat.zero_le _, Nat.zero_le _⟩ (fun H locs hz => ?_)
    refine lv_istore (lv' := [(4, .int (c k 3)), (3, .int (opF c k hour)), (0, .ref (a 0)), (1, .int (nI k)), (2, .int hour)]) (pc := 51) hx hb dX4_tipOrKeep_51 hl (by decide) rfl (fun ls hl => ?_)
    refine lv_aload_n (pc := 53) hx hb dX4_tipOrKeep_53 rfl (lv_at hl 2 rfl) ?_
    refine z_get (own := RX4) (ref := "CupFountainModel") (C := RX4) (T := TX4) (N := 17) (ci := 4) (v := .ref (a 6)) (pc := 54) hx hb hts hinX4 hown hz 0 rfl rfl 10 (by decide) L30 rfl rfl dX4_tipOrKeep_54 ?_
    refine lv_iload_n (pc := 57) hx hb dX4_tipOrKeep_57 rfl (lv_at hl 3 rfl) ?_
    refine lv_aload_n (pc := 58) hx hb dX4_tipOrKeep_58 rfl (lv_at hl 2 rfl) ?_
    refine lv_iload_n (pc := 59) hx hb dX4_tipOrKeep_59 rfl (lv_at hl 3 rfl) ?_
    refine z_runV (pc := 60) (As := [.int (nI k)]) (rest := [.int (nI k), .ref (a 6)]) (ws1 := mm ca a f h c hi sn be tx ti) ⟨hx, hb, hml, hown, hts⟩ (k_X4_isFull l G ca a f h c hi sn be tx ti k (by assumption)) (cwV 1 hts (zgoodV zsub wq_15_7 wq_15_8 wq_15_9 wq_1_5 wq_15_10) rfl rfl rfl hdV_X4_isFull ⟨Nat.le_of_ble_eq_true rfl, Nat.le_of_ble_eq_true rfl⟩) hz [] zp_all zp_all' rfl rfl rfl hl.1 (Nat.le_of_ble_eq_true rfl) (st1 := [.int (fullF c k), .int (nI k), .ref (a 6)]) rfl dX4_tipOrKeep_60 ⟨Nat.zero_le _, Nat.zero_le _⟩ (fun H locs hz => ?_)
    have J2 : ∀ (H : Heap) (locs : List Loc) (ls : Array Slot), zw G ca A s0.heap s0 (mm ca a f h c hi sn be tx ti) H locs → lv_has ls 6 [(4, .int (c k 3)), (3, .int (opF c k hour)), (0, .ref (a 0)), (1, .int (nI k)), (2, .int hour)] → W pg l ev rm_X4_tipOrKeep s0 mt args below meth cd H locs 0 0 Q (F0 mt 75 ls [.int (tpF c k hour), .int (nI k), .ref (a 6)]) := by
      intro H locs ls hz hl
      refine z_zast (ws1 := mm ca a f h c hi sn be tx (upd ti k (tpF c k hour))) (pc := 75) hx hb hz 6 rfl k rfl hk (by decide) (by rw [tpF_n]; rfl) dX4_tipOrKeep_75 (fun H locs hz => ?_)
      refine lv_aload_n (pc := 76) hx hb dX4_tipOrKeep_76 rfl (lv_at hl 2 rfl) ?_
      refine z_get (own := RX4) (ref := "CupFountainModel") (C := RX4) (T := TX4) (N := 17) (ci := 4) (v := .ref (a 6)) (pc := 77) hx hb hts hinX4 hown hz 0 rfl rfl 10 (by decide) L30 rfl rfl dX4_tipOrKeep_77 ?_
      refine lv_iload_n (pc := 80) hx hb dX4_tipOrKeep_80 rfl (lv_at hl 3 rfl) ?_
      refine z_zald (x := tpF c k hour) (pc := 81) hx hb hz 6 rfl k rfl hk (by decide) pk_us dX4_tipOrKeep_81 ?_
      refine lv_if_eq (pc := 82) (tgt := 148) hx hb dX4_tipOrKeep_82 (by decide) (fun c_82 => ?_) (fun c_82 => ?_)
      · refine lv_aload_n (pc := 148) hx hb dX4_tipOrKeep_148 rfl (lv_at hl 2 rfl) ?_
        refine lv_iload_n (pc := 149) hx hb dX4_tipOrKeep_149 rfl (lv_at hl 3 rfl) ?_
        refine lv_bipush (v := 7) (pc := 150) hx hb dX4_tipOrKeep_150 (by decide) ?_
        refine lv_iconst (v := 0) (pc := 152) hx hb dX4_tipOrKeep_152 (by decide) ?_
        refine z_runV (pc := 153) (As := [.int (nI k), .int 7, .int 0]) (rest := []) (ws1 := mm ca a f h (u2 c k 7 0) hi sn be tx (upd ti k (tpF c k hour))) ⟨hx, hb, hml, hown, hts⟩ (k_X4_lay l G ca a f h c hi sn be tx (upd ti k (tpF c k hour)) k 7 0 (by assumption) (by decide)) (cwV 3 hts (zgoodV zsub wq_4_12 wq_4_13 wq_4_14 wq_1_5 wq_4_15) rfl rfl rfl hdV_X4_lay ⟨Nat.le_of_ble_eq_true rfl, Nat.le_of_ble_eq_true rfl⟩) hz [] zp_all zp_all' rfl rfl rfl hl.1 (Nat.le_of_ble_eq_true rfl) (st1 := []) rfl dX4_tipOrKeep_153 ⟨Nat.zero_le _, Nat.zero_le _⟩ (fun H locs hz => ?_)
        refine lv_iload (pc := 156) hx hb dX4_tipOrKeep_156 (lv_at hl 0 rfl) ?_
        refine lv_sipush (v := 9999) (pc := 158) hx hb dX4_tipOrKeep_158 (by decide) ?_
        refine lv_icmp_le (pc := 161) (tgt := 188) hx hb dX4_tipOrKeep_161 (by decide) (fun c_161 => ?_) (fun c_161 => ?_)
        · exact z_vret (pc := 188) hx hb hr hlk hQ hz dX4_tipOrKeep_188 rfl (by simp only [tokH, tokC, if_pos c_82, if_pos c_161])
        · refine lv_aload_n (pc := 164) hx hb dX4_tipOrKeep_164 rfl (lv_at hl 2 rfl) ?_
          refine lv_iload_n (pc := 165) hx hb dX4_tipOrKeep_165 rfl (lv_at hl 3 rfl) ?_
          refine lv_iconst (v := 3) (pc := 166) hx hb dX4_tipOrKeep_166 (by decide) ?_
          refine lv_sipush (v := 9999) (pc := 167) hx hb dX4_tipOrKeep_167 (by decide) ?_
          refine z_runV (pc := 170) (As := [.int (nI k), .int 3, .int 9999]) (rest := []) (ws1 := mm ca a f h (u2 (u2 c k 7 0) k 3 9999) hi sn be tx (upd ti k (tpF c k hour))) ⟨hx, hb, hml, hown, hts⟩ (k_X4_lay l G ca a f h (u2 c k 7 0) hi sn be tx (upd ti k (tpF c k hour)) k 3 9999 (by assumption) (by decide)) (cwV 3 hts (zgoodV zsub wq_4_12 wq_4_13 wq_4_14 wq_1_5 wq_4_15) rfl rfl rfl hdV_X4_lay ⟨Nat.le_of_ble_eq_true rfl, Nat.le_of_ble_eq_true rfl⟩) hz [] zp_all zp_all' rfl rfl rfl hl.1 (Nat.le_of_ble_eq_true rfl) (st1 := []) rfl dX4_tipOrKeep_170 ⟨Nat.zero_le _, Nat.zero_le _⟩ (fun H locs hz => ?_)
          refine lv_aload_n (pc := 173) hx hb dX4_tipOrKeep_173 rfl (lv_at hl 2 rfl) ?_
          refine z_get (own := RX4) (ref := "CupFountainModel") (C := RX4) (T := TX4) (N := 17) (ci := 4) (v := .ref (a 1)) (pc := 174) hx hb hts hinX4 hown hz 0 rfl rfl 0 (by decide) L7 rfl rfl dX4_tipOrKeep_174 ?_
          refine lv_iconst (v := 1) (pc := 177) hx hb dX4_tipOrKeep_177 (by decide) ?_
          refine lv_dup2_11 (pc := 178) hx hb dX4_tipOrKeep_178 rfl rfl ?_
          refine z_iald (x := h 1) (pc := 179) hx hb hz 1 rfl 1 rfl (by decide) (by decide) (enc_h (by decide)) dX4_tipOrKeep_179 ?_
          refine lv_iload (pc := 180) hx hb dX4_tipOrKeep_180 (lv_at hl 0 rfl) ?_
          refine lv_sipush (v := 9999) (pc := 182) hx hb dX4_tipOrKeep_182 (by decide) ?_
          refine lv_isub (pc := 185) hx hb dX4_tipOrKeep_185 ?_
          refine lv_iadd (pc := 186) hx hb dX4_tipOrKeep_186 ?_
          refine z_iast (ws1 := mm ca a f (upd h 1 ((h 1) + ((c k 3) - 9999))) (u2 (u2 c k 7 0) k 3 9999) hi sn be tx (upd ti k (tpF c k hour))) (pc := 187) hx hb hz 1 rfl 1 rfl (by decide) (by decide) (by rw [enc_uh (by decide)]; rfl) dX4_tipOrKeep_187 (fun H locs hz => ?_)
          exact z_vret (pc := 188) hx hb hr hlk hQ hz dX4_tipOrKeep_188 rfl (by simp only [tokH, tokC, if_pos c_82, if_neg c_161])
      · refine lv_bipush (v := 10) (pc := 85) hx hb dX4_tipOrKeep_85 (by decide) ?_
        refine lv_iload (pc := 87) hx hb dX4_tipOrKeep_87 (lv_at hl 0 rfl) ?_
        refine lv_imul (pc := 89) hx hb dX4_tipOrKeep_89 ?_
        refine lv_aload_n (pc := 90) hx hb dX4_tipOrKeep_90 rfl (lv_at hl 2 rfl) ?_
        refine lv_iload_n (pc := 91) hx hb dX4_tipOrKeep_91 rfl (lv_at hl 3 rfl) ?_
        refine lv_iconst (v := 0) (pc := 92) hx hb dX4_tipOrKeep_92 (by decide) ?_
        refine z_runV (pc := 93) (As := [.int (nI k), .int 0]) (rest := [.int (10 * (c k 3))]) (ws1 := mm ca a f h c hi sn be tx (upd ti k (tpF c k hour))) ⟨hx, hb, hml, hown, hts⟩ (k_X4_of l G ca a f h c hi sn be tx (upd ti k (tpF c k hour)) k 0 (by assumption) (by decide)) (cwV 2 hts (zgoodV zsub wq_7_10 wq_7_11 wq_7_12 wq_1_5 wq_7_13) rfl rfl rfl hdV_X4_of ⟨Nat.le_of_ble_eq_true rfl, Nat.le_of_ble_eq_true rfl⟩) hz [] zp_all zp_all' rfl rfl rfl hl.1 (Nat.le_of_ble_eq_true rfl) (st1 := [.int (c k 0), .int (10 * (c k 3))]) rfl dX4_tipOrKeep_93 ⟨Nat.zero_le _, Nat.zero_le _⟩ (fun H locs hz => ?_)
        refine lv_idiv (pc := 96) hx hb dX4_tipOrKeep_96 hsz ?_
        refine lv_istore (lv' := [(5, .int ((10 * (c k 3)) / (c k 0))), (4, .int (c k 3)), (3, .int (opF c k hour)), (0, .ref (a 0)), (1, .int (nI k)), (2, .int hour)]) (pc := 97) hx hb dX4_tipOrKeep_97 hl (by decide) rfl (fun ls hl => ?_)
        refine lv_aload_n (pc := 99) hx hb dX4_tipOrKeep_99 rfl (lv_at hl 3 rfl) ?_
        refine lv_iload_n (pc := 100) hx hb dX4_tipOrKeep_100 rfl (lv_at hl 4 rfl) ?_
        refine lv_bipush (v := 7) (pc := 101) hx hb dX4_tipOrKeep_101 (by decide) ?_
        refine lv_iload (pc := 103) hx hb dX4_tipOrKeep_103 (lv_at hl 0 rfl) ?_
        refine lv_bipush (v := 30) (pc := 105) hx hb dX4_tipOrKeep_105 (by decide) ?_
        have J3 : ∀ (H : Heap) (locs : List Loc) (ls : Array Slot), zw G ca A s0.heap s0 (mm ca a f h c hi sn be tx (upd ti k (tpF c k hour))) H locs → lv_has ls 6 [(5, .int ((10 * (c k 3)) / (c k 0))), (4, .int (c k 3)), (3, .int (opF c k hour)), (0, .ref (a 0)), (1, .int (nI k)), (2, .int hour)] → W pg l ev rm_X4_tipOrKeep s0 mt args below meth cd H locs 0 0 Q (F0 mt 117 ls [.int (jetF c k), .int 7, .int (nI k), .ref (a 0)]) := by
          intro H locs ls hz hl
          refine z_runV (pc := 117) (As := [.int (nI k), .int 7, .int (jetF c k)]) (rest := []) (ws1 := mm ca a f h (u2 c k 7 (jetF c k)) hi sn be tx (upd ti k (tpF c k hour))) ⟨hx, hb, hml, hown, hts⟩ (k_X4_lay l G ca a f h c hi sn be tx (upd ti k (tpF c k hour)) k 7 (jetF c k) (by assumption) (by decide)) (cwV 3 hts (zgoodV zsub wq_4_12 wq_4_13 wq_4_14 wq_1_5 wq_4_15) rfl rfl rfl hdV_X4_lay ⟨Nat.le_of_ble_eq_true rfl, Nat.le_of_ble_eq_true rfl⟩) hz [] zp_all zp_all' rfl rfl rfl hl.1 (Nat.le_of_ble_eq_true rfl) (st1 := []) rfl dX4_tipOrKeep_117 ⟨Nat.zero_le _, Nat.zero_le _⟩ (fun H locs hz => ?_)
          refine lv_aload_n (pc := 120) hx hb dX4_tipOrKeep_120 rfl (lv_at hl 3 rfl) ?_
          refine lv_iload_n (pc := 121) hx hb dX4_tipOrKeep_121 rfl (lv_at hl 4 rfl) ?_
          refine lv_iconst (v := 3) (pc := 122) hx hb dX4_tipOrKeep_122 (by decide) ?_
          refine lv_iconst (v := 0) (pc := 123) hx hb dX4_tipOrKeep_123 (by decide) ?_
          refine z_runV (pc := 124) (As := [.int (nI k), .int 3, .int 0]) (rest := []) (ws1 := mm ca a f h (u2 (u2 c k 7 (jetF c k)) k 3 0) hi sn be tx (upd ti k (tpF c k hour))) ⟨hx, hb, hml, hown, hts⟩ (k_X4_lay l G ca a f h (u2 c k 7 (jetF c k)) hi sn be tx (upd ti k (tpF c k hour)) k 3 0 (by assumption) (by decide)) (cwV 3 hts (zgoodV zsub wq_4_12 wq_4_13 wq_4_14 wq_1_5 wq_4_15) rfl rfl rfl hdV_X4_lay ⟨Nat.le_of_ble_eq_true rfl, Nat.le_of_ble_eq_true rfl⟩) hz [] zp_all zp_all' rfl rfl rfl hl.1 (Nat.le_of_ble_eq_true rfl) (st1 := []) rfl dX4_tipOrKeep_124 ⟨Nat.zero_le _, Nat.zero_le _⟩ (fun H locs hz => ?_)
          refine lv_aload_n (pc := 127) hx hb dX4_tipOrKeep_127 rfl (lv_at hl 3 rfl) ?_
          refine lv_aload_n (pc := 128) hx hb dX4_tipOrKeep_128 rfl (lv_at hl 3 rfl) ?_
          refine lv_iload_n (pc := 129) hx hb dX4_tipOrKeep_129 rfl (lv_at hl 4 rfl) ?_
          refine lv_iconst (v := 2) (pc := 130) hx hb dX4_tipOrKeep_130 (by decide) ?_
          refine z_runV (pc := 131) (As := [.int (nI k), .int 2]) (rest := [.ref (a 0)]) (ws1 := mm ca a f h (u2 (u2 c k 7 (jetF c k)) k 3 0) hi sn be tx (upd ti k (tpF c k hour))) ⟨hx, hb, hml, hown, hts⟩ (k_X4_of l G ca a f h (u2 (u2 c k 7 (jetF c k)) k 3 0) hi sn be tx (upd ti k (tpF c k hour)) k 2 (by assumption) (by decide)) (cwV 2 hts (zgoodV zsub wq_7_10 wq_7_11 wq_7_12 wq_1_5 wq_7_13) rfl rfl rfl hdV_X4_of ⟨Nat.le_of_ble_eq_true rfl, Nat.le_of_ble_eq_true rfl⟩) hz [] zp_all zp_all' rfl rfl rfl hl.1 (Nat.le_of_ble_eq_true rfl) (st1 := [.int ((u2 (u2 c k 7 (jetF c k)) k 3 0) k 2), .ref (a 0)]) rfl dX4_tipOrKeep_131 ⟨Nat.zero_le _, Nat.zero_le _⟩ (fun H locs hz => ?_)
          refine z_top (y := c k 2) (by rw [u2_nw (by decide), u2_nw (by decide)]) ?_
          refine lv_iload (pc := 134) hx hb dX4_tipOrKeep_134 (lv_at hl 1 rfl) ?_
          refine z_runV (pc := 136) (As := [.int (c k 2), .int (c k 3)]) (rest := []) (ws1 := mm ca a f (pourH h (nn (c k 2)) (c k 3)) (pourC (u2 (u2 c k 7 (jetF c k)) k 3 0) (nn (c k 2)) (c k 3)) hi sn be tx (upd ti k (tpF c k hour))) ⟨hx, hb, hml, hown, hts⟩ (k_X4_pour l G ca a f h (u2 (u2 c k 7 (jetF c k)) k 3 0) hi sn be tx (upd ti k (tpF c k hour)) (nn (c k 2)) (c k 2) (c k 3) ht1 ht2) (cwV 2 hts (zgoodV zsub wq_14_23 wq_15_0 wq_15_1 wq_1_5 wq_15_2) rfl rfl rfl hdV_X4_pour ⟨Nat.le_of_ble_eq_true rfl, Nat.le_of_ble_eq_true rfl⟩) hz [] zp_all zp_all' rfl rfl rfl hl.1 (Nat.le_of_ble_eq_true rfl) (st1 := []) rfl dX4_tipOrKeep_136 ⟨Nat.zero_le _, Nat.zero_le _⟩ (fun H locs hz => ?_)
          refine lv_aload_n (pc := 139) hx hb dX4_tipOrKeep_139 rfl (lv_at hl 3 rfl) ?_
          refine lv_iload_n (pc := 140) hx hb dX4_tipOrKeep_140 rfl (lv_at hl 4 rfl) ?_
          refine lv_iload_n (pc := 141) hx hb dX4_tipOrKeep_141 rfl (lv_at hl 5 rfl) ?_
          refine z_runV (pc := 142) (As := [.int (nI k), .int hour]) (rest := []) (ws1 := mm ca a f (pourH h (nn (c k 2)) (c k 3)) (tipC (pourC (u2 (u2 c k 7 (jetF c k)) k 3 0) (nn (c k 2)) (c k 3)) k hour) hi sn be tx (upd ti k (tpF c k hour))) ⟨hx, hb, hml, hown, hts⟩ (k_X4_countTip l G ca a f (pourH h (nn (c k 2)) (c k 3)) (pourC (u2 (u2 c k 7 (jetF c k)) k 3 0) (nn (c k 2)) (c k 3)) hi sn be tx (upd ti k (tpF c k hour)) k hour (by assumption)) (cwV 2 hts (zgoodV zsub wq_15_11 wq_15_12 wq_15_13 wq_1_5 wq_15_14) rfl rfl rfl hdV_X4_countTip ⟨Nat.le_of_ble_eq_true rfl, Nat.le_of_ble_eq_true rfl⟩) hz [] zp_all zp_all' rfl rfl rfl hl.1 (Nat.le_of_ble_eq_true rfl) (st1 := []) rfl dX4_tipOrKeep_142 ⟨Nat.zero_le _, Nat.zero_le _⟩ (fun H locs hz => ?_)
          refine lv_goto (tgt := 188) (pc := 145) hx hb dX4_tipOrKeep_145 (by decide) ?_
          exact z_vret (pc := 188) hx hb hr hlk hQ hz dX4_tipOrKeep_188 rfl (by simp only [tokH, tokC, if_neg c_82])
        refine lv_icmp_le (pc := 107) (tgt := 115) hx hb dX4_tipOrKeep_107 (by decide) (fun c_107 => ?_) (fun c_107 => ?_)
        · refine lv_iload (pc := 115) hx hb dX4_tipOrKeep_115 (lv_at hl 0 rfl) ?_
          exact z_top (by simp only [jetF, if_pos c_107]) (J3 _ _ _ hz (lv_sub hl [0, 1, 2, 3, 4, 5] rfl))
        · refine lv_bipush (v := 30) (pc := 110) hx hb dX4_tipOrKeep_110 (by decide) ?_
          refine lv_goto (tgt := 117) (pc := 112) hx hb dX4_tipOrKeep_112 (by decide) ?_
          exact z_top (by simp only [jetF, if_neg c_107]) (J3 _ _ _ hz (lv_sub hl [0, 1, 2, 3, 4, 5] rfl))
    refine lv_if_eq (pc := 63) (tgt := 74) hx hb dX4_tipOrKeep_63 (by decide) (fun c_63 => ?_) (fun c_63 => ?_)
    · refine lv_iconst (v := 0) (pc := 74) hx hb dX4_tipOrKeep_74 (by decide) ?_
      exact z_top (by simp only [tpF, if_pos c_63]) (J2 _ _ _ hz (lv_sub hl [0, 1, 2, 3, 4] rfl))
    · refine lv_iload_n (pc := 66) hx hb dX4_tipOrKeep_66 rfl (lv_at hl 1 rfl) ?_
      refine lv_if_eq (pc := 67) (tgt := 74) hx hb dX4_tipOrKeep_67 (by decide) (fun c_67 => ?_) (fun c_67 => ?_)
      · refine lv_iconst (v := 0) (pc := 74) hx hb dX4_tipOrKeep_74 (by decide) ?_
        exact z_top (by simp only [tpF, if_neg c_63, if_pos c_67]) (J2 _ _ _ hz (lv_sub hl [0, 1, 2, 3, 4] rfl))
      · refine lv_iconst (v := 1) (pc := 70) hx hb dX4_tipOrKeep_70 (by decide) ?_
        refine lv_goto (tgt := 75) (pc := 71) hx hb dX4_tipOrKeep_71 (by decide) ?_
        exact z_top (by simp only [tpF, if_neg c_63, if_neg c_67]) (J2 _ _ _ hz (lv_sub hl [0, 1, 2, 3, 4] rfl))
  refine lv_icmp_ne (pc := 8) (tgt := 29) hx hb dX4_tipOrKeep_8 (by decide) (fun c_8 => ?_) (fun c_8 => ?_)
  · refine lv_aload_n (pc := 29) hx hb dX4_tipOrKeep_29 rfl (lv_at hl 0 rfl) ?_
    refine lv_iload_n (pc := 30) hx hb dX4_tipOrKeep_30 rfl (lv_at hl 1 rfl) ?_
    refine lv_iconst (v := 5) (pc := 31) hx hb dX4_tipOrKeep_31 (by decide) ?_
    refine z_runV (pc := 32) (As := [.int (nI k), .int 5]) (rest := []) (ws1 := mm ca a f h c hi sn be tx ti) ⟨hx, hb, hml, hown, hts⟩ (k_X4_of l G ca a f h c hi sn be tx ti k 5 (by assumption) (by decide)) (cwV 2 hts (zgoodV zsub wq_7_10 wq_7_11 wq_7_12 wq_1_5 wq_7_13) rfl rfl rfl hdV_X4_of ⟨Nat.le_of_ble_eq_true rfl, Nat.le_of_ble_eq_true rfl⟩) hz [] zp_all zp_all' rfl rfl rfl hl.1 (Nat.le_of_ble_eq_true rfl) (st1 := [.int (c k 5)]) rfl dX4_tipOrKeep_32 ⟨Nat.zero_le _, Nat.zero_le _⟩ (fun H locs hz => ?_)
    refine lv_iconst (v := 1) (pc := 35) hx hb dX4_tipOrKeep_35 (by decide) ?_
    refine lv_icmp_ne (pc := 36) (tgt := 43) hx hb dX4_tipOrKeep_36 (by decide) (fun c_36 => ?_) (fun c_36 => ?_)
    · refine lv_iconst (v := 0) (pc := 43) hx hb dX4_tipOrKeep_43 (by decide) ?_
      exact z_top (by simp only [opF, if_neg c_8, if_neg c_36]) (J1 _ _ _ hz (lv_sub hl [0, 1, 2] rfl))
    · refine lv_iconst (v := 1) (pc := 39) hx hb dX4_tipOrKeep_39 (by decide) ?_
      refine lv_goto (tgt := 44) (pc := 40) hx hb dX4_tipOrKeep_40 (by decide) ?_
      exact z_top (by simp only [opF, if_neg c_8, if_pos c_36]) (J1 _ _ _ hz (lv_sub hl [0, 1, 2] rfl))
  · refine lv_iload_n (pc := 11) hx hb dX4_tipOrKeep_11 rfl (lv_at hl 2 rfl) ?_
    refine lv_aload_n (pc := 12) hx hb dX4_tipOrKeep_12 rfl (lv_at hl 0 rfl) ?_
    refine lv_iload_n (pc := 13) hx hb dX4_tipOrKeep_13 rfl (lv_at hl 1 rfl) ?_
    refine lv_iconst (v := 4) (pc := 14) hx hb dX4_tipOrKeep_14 (by decide) ?_
    refine z_runV (pc := 15) (As := [.int (nI k), .int 4]) (rest := [.int hour]) (ws1 := mm ca a f h c hi sn be tx ti) ⟨hx, hb, hml, hown, hts⟩ (k_X4_of l G ca a f h c hi sn be tx ti k 4 (by assumption) (by decide)) (cwV 2 hts (zgoodV zsub wq_7_10 wq_7_11 wq_7_12 wq_1_5 wq_7_13) rfl rfl rfl hdV_X4_of ⟨Nat.le_of_ble_eq_true rfl, Nat.le_of_ble_eq_true rfl⟩) hz [] zp_all zp_all' rfl rfl rfl hl.1 (Nat.le_of_ble_eq_true rfl) (st1 := [.int (c k 4), .int hour]) rfl dX4_tipOrKeep_15 ⟨Nat.zero_le _, Nat.zero_le _⟩ (fun H locs hz => ?_)
    refine lv_icmp_ne (pc := 18) (tgt := 25) hx hb dX4_tipOrKeep_18 (by decide) (fun c_18 => ?_) (fun c_18 => ?_)
    · refine lv_iconst (v := 0) (pc := 25) hx hb dX4_tipOrKeep_25 (by decide) ?_
      refine lv_goto (tgt := 44) (pc := 26) hx hb dX4_tipOrKeep_26 (by decide) ?_
      exact z_top (by simp only [opF, if_pos c_8, if_neg c_18]) (J1 _ _ _ hz (lv_sub hl [0, 1, 2] rfl))
    · refine lv_iconst (v := 1) (pc := 21) hx hb dX4_tipOrKeep_21 (by decide) ?_
      refine lv_goto (tgt := 44) (pc := 22) hx hb dX4_tipOrKeep_22 (by decide) ?_
      exact z_top (by simp only [opF, if_pos c_8, if_pos c_18]) (J1 _ _ _ hz (lv_sub hl [0, 1, 2] rfl))
end
section
def rm_X4_tick : Room := { frames := 3, cells := 0, slots := 0, locals := 72 }
set_option maxRecDepth 20000 in
theorem hdV_X4_tick : yX4_tick.cls = RX4 ∧ yX4_tick.cls ≠ "java/lang/invoke/MethodHandle" ∧ yX4_tick.cls ≠ "java/lang/invoke/VarHandle" ∧ (parseMethodDescriptor yX4_tick.desc).map (fun d => d.parameters.length) = some 0 := by decide +kernel
set_option maxHeartbeats 4000000 in
set_option maxRecDepth 100000 in
theorem k_X4_tick (l : Launch) (G : va_G) (ca : Nat → ClassId) (a : Nat → Nat) (f h : Nat → Int32) (c : Nat → Nat → Int32) (hi sn be tx ti : Nat → Int32) (hok : okP (h, c)) : Zc l G ca yX4_tick (zws yX4_tick cX4_tick 5 none) rm_X4_tick [.ref (a 0)] (mm ca a f h c hi sn be tx ti) none (mm ca a f ((tickP (h, c)).1) ((tickP (h, c)).2) hi sn be tx (tickT (h, c) ti)) := by
  refine Zc.of (cc := cX4_tick) (maxL := 5) (ret := none) (by decide) rfl (Nat.le_of_ble_eq_true rfl) ?_
  intro pg ev s0 mt below meth cd A args Q ls hx hb hr hml hown hts hlk hQ hl hz
  have L7 : (Cond.fieldLink RX4 7 "CupFountainModel" "s" "[I").before args s0 = true := hts _ (zsub _ wq_4_4)
  have hinX4 : ∀ w ∈ wsX40, w ∈ zws yX4_tick cX4_tick 5 none := fun w h => zsub w (wl_wsX40 w h)
  have hl : lv_has ls 5 [(0, .ref (a 0))] := hl
  refine lv_aload_n (pc := 0) hx hb dX4_tick_0 rfl (lv_at hl 0 rfl) ?_
  refine lv_aload_n (pc := 1) hx hb dX4_tick_1 rfl (lv_at hl 0 rfl) ?_
  refine z_get (own := RX4) (ref := "CupFountainModel") (C := RX4) (T := TX4) (N := 17) (ci := 4) (v := .ref (a 1)) (pc := 2) hx hb hts hinX4 hown hz 0 rfl rfl 0 (by decide) L7 rfl rfl dX4_tick_2 ?_
  refine lv_iconst (v := 0) (pc := 5) hx hb dX4_tick_5 (by decide) ?_
  refine z_iald (x := h 0) (pc := 6) hx hb hz 1 rfl 0 rfl (by decide) (by decide) (enc_h (by decide)) dX4_tick_6 ?_
  refine z_runV (pc := 7) (As := [.int (h 0)]) (rest := []) (ws1 := mm ca a f h c hi sn be tx ti) ⟨hx, hb, hml, hown, hts⟩ (k_X4_hourOf l G ca a f h c hi sn be tx ti (h 0) hok.1) (cwV 1 hts (zgoodV zsub wq_14_19 wq_14_20 wq_14_21 wq_1_5 wq_14_22) rfl rfl rfl hdV_X4_hourOf ⟨Nat.le_of_ble_eq_true rfl, Nat.le_of_ble_eq_true rfl⟩) hz [] zp_all zp_all' rfl rfl rfl hl.1 (Nat.le_of_ble_eq_true rfl) (st1 := [.int (hrF h (h 0))]) rfl dX4_tick_7 ⟨Nat.zero_le _, Nat.zero_le _⟩ (fun H locs hz => ?_)
  refine z_top (y := hourP (h, c)) rfl ?_
  refine lv_istore_n (lv' := [(1, .int (hourP (h, c))), (0, .ref (a 0))]) (pc := 10) hx hb dX4_tick_10 rfl hl (by decide) rfl (fun ls hl => ?_)
  refine lv_aload_n (pc := 11) hx hb dX4_tick_11 rfl (lv_at hl 1 rfl) ?_
  refine z_get (own := RX4) (ref := "CupFountainModel") (C := RX4) (T := TX4) (N := 17) (ci := 4) (v := .ref (a 1)) (pc := 12) hx hb hts hinX4 hown hz 0 rfl rfl 0 (by decide) L7 rfl rfl dX4_tick_12 ?_
  refine lv_bipush (v := 6) (pc := 15) hx hb dX4_tick_15 (by decide) ?_
  refine z_iald (x := h 6) (pc := 17) hx hb hz 1 rfl 6 rfl (by decide) (by decide) (enc_h (by decide)) dX4_tick_17 ?_
  refine lv_aload_n (pc := 18) hx hb dX4_tick_18 rfl (lv_at hl 1 rfl) ?_
  refine z_get (own := RX4) (ref := "CupFountainModel") (C := RX4) (T := TX4) (N := 17) (ci := 4) (v := .ref (a 1)) (pc := 19) hx hb hts hinX4 hown hz 0 rfl rfl 0 (by decide) L7 rfl rfl dX4_tick_19 ?_
  refine lv_iconst (v := 1) (pc := 22) hx hb dX4_tick_22 (by decide) ?_
  refine z_iald (x := h 1) (pc := 23) hx hb hz 1 rfl 1 rfl (by decide) (by decide) (enc_h (by decide)) dX4_tick_23 ?_
  have J1 : ∀ (H : Heap) (locs : List Loc) (ls : Array Slot), zw G ca A s0.heap s0 (mm ca a f h c hi sn be tx ti) H locs → lv_has ls 5 [(1, .int (hourP (h, c))), (0, .ref (a 0))] → W pg l ev rm_X4_tick s0 mt args below meth cd H locs 0 0 Q (F0 mt 43 ls [.int (backF h)]) := by
    intro H locs ls hz hl
    refine lv_istore_n (lv' := [(2, .int (backF h)), (1, .int (hourP (h, c))), (0, .ref (a 0))]) (pc := 43) hx hb dX4_tick_43 rfl hl (by decide) rfl (fun ls hl => ?_)
    refine lv_aload_n (pc := 44) hx hb dX4_tick_44 rfl (lv_at hl 2 rfl) ?_
    refine z_get (own := RX4) (ref := "CupFountainModel") (C := RX4) (T := TX4) (N := 17) (ci := 4) (v := .ref (a 1)) (pc := 45) hx hb hts hinX4 hown hz 0 rfl rfl 0 (by decide) L7 rfl rfl dX4_tick_45 ?_
    refine lv_iconst (v := 1) (pc := 48) hx hb dX4_tick_48 (by decide) ?_
    refine lv_dup2_11 (pc := 49) hx hb dX4_tick_49 rfl rfl ?_
    refine z_iald (x := h 1) (pc := 50) hx hb hz 1 rfl 1 rfl (by decide) (by decide) (enc_h (by decide)) dX4_tick_50 ?_
    refine lv_iload_n (pc := 51) hx hb dX4_tick_51 rfl (lv_at hl 0 rfl) ?_
    refine lv_isub (pc := 52) hx hb dX4_tick_52 ?_
    refine z_iast (ws1 := mm ca a f (upd h 1 ((h 1) - (backF h))) c hi sn be tx ti) (pc := 53) hx hb hz 1 rfl 1 rfl (by decide) (by decide) (by rw [enc_uh (by decide)]; rfl) dX4_tick_53 (fun H locs hz => ?_)
    refine lv_aload_n (pc := 54) hx hb dX4_tick_54 rfl (lv_at hl 2 rfl) ?_
    refine z_get (own := RX4) (ref := "CupFountainModel") (C := RX4) (T := TX4) (N := 17) (ci := 4) (v := .ref (a 1)) (pc := 55) hx hb hts hinX4 hown hz 0 rfl rfl 0 (by decide) L7 rfl rfl dX4_tick_55 ?_
    refine lv_iconst (v := 3) (pc := 58) hx hb dX4_tick_58 (by decide) ?_
    refine lv_dup2_11 (pc := 59) hx hb dX4_tick_59 rfl rfl ?_
    refine z_iald (x := h 3) (pc := 60) hx hb hz 1 rfl 3 rfl (by decide) (by decide) (enc_h (by decide)) dX4_tick_60 ?_
    refine lv_aload_n (pc := 61) hx hb dX4_tick_61 rfl (lv_at hl 2 rfl) ?_
    refine z_get (own := RX4) (ref := "CupFountainModel") (C := RX4) (T := TX4) (N := 17) (ci := 4) (v := .ref (a 1)) (pc := 62) hx hb hts hinX4 hown hz 0 rfl rfl 0 (by decide) L7 rfl rfl dX4_tick_62 ?_
    refine lv_iconst (v := 5) (pc := 65) hx hb dX4_tick_65 (by decide) ?_
    refine z_iald (x := h 5) (pc := 66) hx hb hz 1 rfl 5 rfl (by decide) (by decide) (enc_h (by decide)) dX4_tick_66 ?_
    refine lv_iadd (pc := 67) hx hb dX4_tick_67 ?_
    refine z_iast (ws1 := mm ca a f (upd (upd h 1 ((h 1) - (backF h))) 3 ((h 3) + (h 5))) c hi sn be tx ti) (pc := 68) hx hb hz 1 rfl 3 rfl (by decide) (by decide) (by rw [enc_uh (by decide)]; rfl) dX4_tick_68 (fun H locs hz => ?_)
    refine lv_aload_n (pc := 69) hx hb dX4_tick_69 rfl (lv_at hl 2 rfl) ?_
    refine lv_iconst (v := 0) (pc := 70) hx hb dX4_tick_70 (by decide) ?_
    refine lv_iload_n (pc := 71) hx hb dX4_tick_71 rfl (lv_at hl 0 rfl) ?_
    refine lv_aload_n (pc := 72) hx hb dX4_tick_72 rfl (lv_at hl 2 rfl) ?_
    refine z_get (own := RX4) (ref := "CupFountainModel") (C := RX4) (T := TX4) (N := 17) (ci := 4) (v := .ref (a 1)) (pc := 73) hx hb hts hinX4 hown hz 0 rfl rfl 0 (by decide) L7 rfl rfl dX4_tick_73 ?_
    refine lv_iconst (v := 5) (pc := 76) hx hb dX4_tick_76 (by decide) ?_
    refine z_iald (x := h 5) (pc := 77) hx hb hz 1 rfl 5 rfl (by decide) (by decide) (enc_h (by decide)) dX4_tick_77 ?_
    refine lv_iadd (pc := 78) hx hb dX4_tick_78 ?_
    refine z_runV (pc := 79) (As := [.int 0, .int ((backF h) + (h 5))]) (rest := []) (ws1 := mm ca a f (upd (upd h 1 ((h 1) - (backF h))) 3 ((h 3) + (h 5))) (u2 c 0 3 (c 0 3 + ((backF h) + (h 5)))) hi sn be tx ti) ⟨hx, hb, hml, hown, hts⟩ (k_X4_pour_c l G ca a f (upd (upd h 1 ((h 1) - (backF h))) 3 ((h 3) + (h 5))) c hi sn be tx ti 0 ((backF h) + (h 5)) (by decide)) (cwV 2 hts (zgoodV zsub wq_14_23 wq_15_0 wq_15_1 wq_1_5 wq_15_2) rfl rfl rfl hdV_X4_pour ⟨Nat.le_of_ble_eq_true rfl, Nat.le_of_ble_eq_true rfl⟩) hz [] zp_all zp_all' rfl rfl rfl hl.1 (Nat.le_of_ble_eq_true rfl) (st1 := []) rfl dX4_tick_79 ⟨Nat.zero_le _, Nat.zero_le _⟩ (fun H locs hz => ?_)
    refine lv_iconst (v := 0) (pc := 82) hx hb dX4_tick_82 (by decide) ?_
    refine lv_istore_n (lv' := [(3, .int 0), (2, .int (backF h)), (1, .int (hourP (h, c))), (0, .ref (a 0))]) (pc := 83) hx hb dX4_tick_83 rfl hl (by decide) rfl (fun ls hl => ?_)
    have loop2 : ∀ cnt k : Nat, k + cnt = 8 → ∀ (H : Heap) (locs : List Loc) (ls : Array Slot), zw G ca A s0.heap s0 (mm ca a f ((it1 (hourP (h, c)) (springP (h, c)) k).1) ((it1 (hourP (h, c)) (springP (h, c)) k).2) hi sn be tx (itT (hourP (h, c)) (springP (h, c)) ti k)) H locs → lv_has ls 5 [(3, .int (nI k)), (2, .int (backF h)), (1, .int (hourP (h, c))), (0, .ref (a 0))] → W pg l ev rm_X4_tick s0 mt args below meth cd H locs 0 0 Q (F0 mt 84 ls []) := by
      intro cnt
      induction cnt with
      | zero =>
        intro k hk9 H locs ls hz hl
        obtain rfl : 8 = k := by omega
        have hz := hz.as (show _ = mm ca a f ((tick1 (h, c)).1) ((tick1 (h, c)).2) hi sn be tx (tickT (h, c) ti) from by rw [← tick1_d, ← tickT_d])
        refine lv_iload_n (pc := 84) hx hb dX4_tick_84 rfl (lv_at hl 0 rfl) ?_
        refine lv_bipush (v := 8) (pc := 85) hx hb dX4_tick_85 (by decide) ?_
        refine lv_icmp_ge (pc := 87) (tgt := 102) hx hb dX4_tick_87 (by decide) (fun c_87 => ?_) (fun c9 => absurd (by decide) c9)
        refine lv_iconst (v := 0) (pc := 102) hx hb dX4_tick_102 (by decide) ?_
        refine lv_istore_n (lv' := [(3, .int 0), (2, .int (backF h)), (1, .int (hourP (h, c))), (0, .ref (a 0))]) (pc := 103) hx hb dX4_tick_103 rfl hl (by decide) rfl (fun ls hl => ?_)
        have loop3 : ∀ cnt k : Nat, k + cnt = 8 → ∀ (H : Heap) (locs : List Loc) (ls : Array Slot), zw G ca A s0.heap s0 (mm ca a f ((it2 (tick1 (h, c)) k).1) ((it2 (tick1 (h, c)) k).2) hi sn be tx (tickT (h, c) ti)) H locs → lv_has ls 5 [(3, .int (nI k)), (2, .int (backF h)), (1, .int (hourP (h, c))), (0, .ref (a 0))] → W pg l ev rm_X4_tick s0 mt args below meth cd H locs 0 0 Q (F0 mt 104 ls []) := by
          intro cnt
          induction cnt with
          | zero =>
            intro k hk9 H locs ls hz hl
            obtain rfl : 8 = k := by omega
            have hz := hz.as (show _ = mm ca a f ((tick2 (h, c)).1) ((tick2 (h, c)).2) hi sn be tx (tickT (h, c) ti) from by rw [← tick2_d])
            refine lv_iload_n (pc := 104) hx hb dX4_tick_104 rfl (lv_at hl 0 rfl) ?_
            refine lv_bipush (v := 8) (pc := 105) hx hb dX4_tick_105 (by decide) ?_
            refine lv_icmp_ge (pc := 107) (tgt := 174) hx hb dX4_tick_107 (by decide) (fun c_107 => ?_) (fun c9 => absurd (by decide) c9)
            refine lv_aload_n (pc := 174) hx hb dX4_tick_174 rfl (lv_at hl 3 rfl) ?_
            refine z_get (own := RX4) (ref := "CupFountainModel") (C := RX4) (T := TX4) (N := 17) (ci := 4) (v := .ref (a 1)) (pc := 175) hx hb hts hinX4 hown hz 0 rfl rfl 0 (by decide) L7 rfl rfl dX4_tick_175 ?_
            refine lv_iconst (v := 0) (pc := 178) hx hb dX4_tick_178 (by decide) ?_
            refine lv_dup2_11 (pc := 179) hx hb dX4_tick_179 rfl rfl ?_
            refine z_iald (x := (tick2 (h, c)).1 0) (pc := 180) hx hb hz 1 rfl 0 rfl (by decide) (by decide) (enc_h (by decide)) dX4_tick_180 ?_
            refine lv_iconst (v := 1) (pc := 181) hx hb dX4_tick_181 (by decide) ?_
            refine lv_iadd (pc := 182) hx hb dX4_tick_182 ?_
            refine z_iast (ws1 := mm ca a f (upd (tick2 (h, c)).1 0 (((tick2 (h, c)).1 0) + 1)) ((tick2 (h, c)).2) hi sn be tx (tickT (h, c) ti)) (pc := 183) hx hb hz 1 rfl 0 rfl (by decide) (by decide) (by rw [enc_uh (by decide)]; rfl) dX4_tick_183 (fun H locs hz => ?_)
            exact z_vret (pc := 184) hx hb hr hlk hQ hz dX4_tick_184 rfl (by rw [tickP_1, tickP_2])
          | succ cnt ih =>
            intro k hk9 H locs ls hz hl
            have hk : k < 8 := by omega
            refine lv_iload_n (pc := 104) hx hb dX4_tick_104 rfl (lv_at hl 0 rfl) ?_
            refine lv_bipush (v := 8) (pc := 105) hx hb dX4_tick_105 (by decide) ?_
            refine lv_icmp_ge (pc := 107) (tgt := 174) hx hb dX4_tick_107 (by decide) (fun c9 => absurd c9 (nI_ge hk (by decide))) (fun c_107 => ?_)
            refine lv_aload_n (pc := 110) hx hb dX4_tick_110 rfl (lv_at hl 3 rfl) ?_
            refine lv_iload_n (pc := 111) hx hb dX4_tick_111 rfl (lv_at hl 0 rfl) ?_
            refine lv_iconst (v := 1) (pc := 112) hx hb dX4_tick_112 (by decide) ?_
            refine z_runV (pc := 113) (As := [.int (nI k), .int 1]) (rest := []) (ws1 := mm ca a f ((it2 (tick1 (h, c)) k).1) ((it2 (tick1 (h, c)) k).2) hi sn be tx (tickT (h, c) ti)) ⟨hx, hb, hml, hown, hts⟩ (k_X4_of l G ca a f ((it2 (tick1 (h, c)) k).1) ((it2 (tick1 (h, c)) k).2) hi sn be tx (tickT (h, c) ti) k 1 (by assumption) (by decide)) (cwV 2 hts (zgoodV zsub wq_7_10 wq_7_11 wq_7_12 wq_1_5 wq_7_13) rfl rfl rfl hdV_X4_of ⟨Nat.le_of_ble_eq_true rfl, Nat.le_of_ble_eq_true rfl⟩) hz [] zp_all zp_all' rfl rfl rfl hl.1 (Nat.le_of_ble_eq_true rfl) (st1 := [.int (((it2 (tick1 (h, c)) k).2) k 1)]) rfl dX4_tick_113 ⟨Nat.zero_le _, Nat.zero_le _⟩ (fun H locs hz => ?_)
            refine lv_aload_n (pc := 116) hx hb dX4_tick_116 rfl (lv_at hl 3 rfl) ?_
            refine lv_iload_n (pc := 117) hx hb dX4_tick_117 rfl (lv_at hl 0 rfl) ?_
            refine lv_iconst (v := 3) (pc := 118) hx hb dX4_tick_118 (by decide) ?_
            refine z_runV (pc := 119) (As := [.int (nI k), .int 3]) (rest := [.int (((it2 (tick1 (h, c)) k).2) k 1)]) (ws1 := mm ca a f ((it2 (tick1 (h, c)) k).1) ((it2 (tick1 (h, c)) k).2) hi sn be tx (tickT (h, c) ti)) ⟨hx, hb, hml, hown, hts⟩ (k_X4_of l G ca a f ((it2 (tick1 (h, c)) k).1) ((it2 (tick1 (h, c)) k).2) hi sn be tx (tickT (h, c) ti) k 3 (by assumption) (by decide)) (cwV 2 hts (zgoodV zsub wq_7_10 wq_7_11 wq_7_12 wq_1_5 wq_7_13) rfl rfl rfl hdV_X4_of ⟨Nat.le_of_ble_eq_true rfl, Nat.le_of_ble_eq_true rfl⟩) hz [] zp_all zp_all' rfl rfl rfl hl.1 (Nat.le_of_ble_eq_true rfl) (st1 := [.int (((it2 (tick1 (h, c)) k).2) k 3), .int (((it2 (tick1 (h, c)) k).2) k 1)]) rfl dX4_tick_119 ⟨Nat.zero_le _, Nat.zero_le _⟩ (fun H locs hz => ?_)
            have J4 : ∀ (H : Heap) (locs : List Loc) (ls : Array Slot), zw G ca A s0.heap s0 (mm ca a f ((it2 (tick1 (h, c)) k).1) ((it2 (tick1 (h, c)) k).2) hi sn be tx (tickT (h, c) ti)) H locs → lv_has ls 5 [(3, .int (nI k)), (2, .int (backF h)), (1, .int (hourP (h, c))), (0, .ref (a 0))] → W pg l ev rm_X4_tick s0 mt args below meth cd H locs 0 0 Q (F0 mt 140 ls [.int (drF (it2 (tick1 (h, c)) k).2 k)]) := by
              intro H locs ls hz hl
              refine lv_istore (lv' := [(4, .int (drF (it2 (tick1 (h, c)) k).2 k)), (3, .int (nI k)), (2, .int (backF h)), (1, .int (hourP (h, c))), (0, .ref (a 0))]) (pc := 140) hx hb dX4_tick_140 hl (by decide) rfl (fun ls hl => ?_)
              refine lv_aload_n (pc := 142) hx hb dX4_tick_142 rfl (lv_at hl 4 rfl) ?_
              refine lv_iload_n (pc := 143) hx hb dX4_tick_143 rfl (lv_at hl 1 rfl) ?_
              refine lv_iconst (v := 3) (pc := 144) hx hb dX4_tick_144 (by decide) ?_
              refine lv_aload_n (pc := 145) hx hb dX4_tick_145 rfl (lv_at hl 4 rfl) ?_
              refine lv_iload_n (pc := 146) hx hb dX4_tick_146 rfl (lv_at hl 1 rfl) ?_
              refine lv_iconst (v := 3) (pc := 147) hx hb dX4_tick_147 (by decide) ?_
              refine z_runV (pc := 148) (As := [.int (nI k), .int 3]) (rest := [.int 3, .int (nI k), .ref (a 0)]) (ws1 := mm ca a f ((it2 (tick1 (h, c)) k).1) ((it2 (tick1 (h, c)) k).2) hi sn be tx (tickT (h, c) ti)) ⟨hx, hb, hml, hown, hts⟩ (k_X4_of l G ca a f ((it2 (tick1 (h, c)) k).1) ((it2 (tick1 (h, c)) k).2) hi sn be tx (tickT (h, c) ti) k 3 (by assumption) (by decide)) (cwV 2 hts (zgoodV zsub wq_7_10 wq_7_11 wq_7_12 wq_1_5 wq_7_13) rfl rfl rfl hdV_X4_of ⟨Nat.le_of_ble_eq_true rfl, Nat.le_of_ble_eq_true rfl⟩) hz [] zp_all zp_all' rfl rfl rfl hl.1 (Nat.le_of_ble_eq_true rfl) (st1 := [.int (((it2 (tick1 (h, c)) k).2) k 3), .int 3, .int (nI k), .ref (a 0)]) rfl dX4_tick_148 ⟨Nat.zero_le _, Nat.zero_le _⟩ (fun H locs hz => ?_)
              refine lv_iload (pc := 151) hx hb dX4_tick_151 (lv_at hl 0 rfl) ?_
              refine lv_isub (pc := 153) hx hb dX4_tick_153 ?_
              refine z_runV (pc := 154) (As := [.int (nI k), .int 3, .int ((((it2 (tick1 (h, c)) k).2) k 3) - (drF (it2 (tick1 (h, c)) k).2 k))]) (rest := []) (ws1 := mm ca a f ((it2 (tick1 (h, c)) k).1) (u2 ((it2 (tick1 (h, c)) k).2) k 3 ((((it2 (tick1 (h, c)) k).2) k 3) - (drF (it2 (tick1 (h, c)) k).2 k))) hi sn be tx (tickT (h, c) ti)) ⟨hx, hb, hml, hown, hts⟩ (k_X4_lay l G ca a f ((it2 (tick1 (h, c)) k).1) ((it2 (tick1 (h, c)) k).2) hi sn be tx (tickT (h, c) ti) k 3 ((((it2 (tick1 (h, c)) k).2) k 3) - (drF (it2 (tick1 (h, c)) k).2 k)) (by assumption) (by decide)) (cwV 3 hts (zgoodV zsub wq_4_12 wq_4_13 wq_4_14 wq_1_5 wq_4_15) rfl rfl rfl hdV_X4_lay ⟨Nat.le_of_ble_eq_true rfl, Nat.le_of_ble_eq_true rfl⟩) hz [] zp_all zp_all' rfl rfl rfl hl.1 (Nat.le_of_ble_eq_true rfl) (st1 := []) rfl dX4_tick_154 ⟨Nat.zero_le _, Nat.zero_le _⟩ (fun H locs hz => ?_)
              refine lv_aload_n (pc := 157) hx hb dX4_tick_157 rfl (lv_at hl 4 rfl) ?_
              refine z_get (own := RX4) (ref := "CupFountainModel") (C := RX4) (T := TX4) (N := 17) (ci := 4) (v := .ref (a 1)) (pc := 158) hx hb hts hinX4 hown hz 0 rfl rfl 0 (by decide) L7 rfl rfl dX4_tick_158 ?_
              refine lv_iconst (v := 2) (pc := 161) hx hb dX4_tick_161 (by decide) ?_
              refine lv_dup2_11 (pc := 162) hx hb dX4_tick_162 rfl rfl ?_
              refine z_iald (x := (it2 (tick1 (h, c)) k).1 2) (pc := 163) hx hb hz 1 rfl 2 rfl (by decide) (by decide) (enc_h (by decide)) dX4_tick_163 ?_
              refine lv_iload (pc := 164) hx hb dX4_tick_164 (lv_at hl 0 rfl) ?_
              refine lv_iadd (pc := 166) hx hb dX4_tick_166 ?_
              refine z_iast (ws1 := mm ca a f (upd (it2 (tick1 (h, c)) k).1 2 (((it2 (tick1 (h, c)) k).1 2) + (drF (it2 (tick1 (h, c)) k).2 k))) (u2 ((it2 (tick1 (h, c)) k).2) k 3 ((((it2 (tick1 (h, c)) k).2) k 3) - (drF (it2 (tick1 (h, c)) k).2 k))) hi sn be tx (tickT (h, c) ti)) (pc := 167) hx hb hz 1 rfl 2 rfl (by decide) (by decide) (by rw [enc_uh (by decide)]; rfl) dX4_tick_167 (fun H locs hz => ?_)
              refine lv_iinc (v := nI (k + 1)) (lv' := [(3, .int (nI (k + 1))), (4, .int (drF (it2 (tick1 (h, c)) k).2 k)), (2, .int (backF h)), (1, .int (hourP (h, c))), (0, .ref (a 0))]) (pc := 168) hx hb dX4_tick_168 hl (k := 1) rfl (nI_add k 1) (by decide) rfl (fun ls hl => ?_)
              refine lv_goto (tgt := 104) (pc := 171) hx hb dX4_tick_171 (by decide) ?_
              exact ih (k + 1) (by omega) _ _ _ (hz.as (by simp only [it2_s])) (lv_sub hl [0, 2, 3, 4] rfl)
            refine lv_icmp_ge (pc := 122) (tgt := 134) hx hb dX4_tick_122 (by decide) (fun c_122 => ?_) (fun c_122 => ?_)
            · refine lv_aload_n (pc := 134) hx hb dX4_tick_134 rfl (lv_at hl 3 rfl) ?_
              refine lv_iload_n (pc := 135) hx hb dX4_tick_135 rfl (lv_at hl 0 rfl) ?_
              refine lv_iconst (v := 3) (pc := 136) hx hb dX4_tick_136 (by decide) ?_
              refine z_runV (pc := 137) (As := [.int (nI k), .int 3]) (rest := []) (ws1 := mm ca a f ((it2 (tick1 (h, c)) k).1) ((it2 (tick1 (h, c)) k).2) hi sn be tx (tickT (h, c) ti)) ⟨hx, hb, hml, hown, hts⟩ (k_X4_of l G ca a f ((it2 (tick1 (h, c)) k).1) ((it2 (tick1 (h, c)) k).2) hi sn be tx (tickT (h, c) ti) k 3 (by assumption) (by decide)) (cwV 2 hts (zgoodV zsub wq_7_10 wq_7_11 wq_7_12 wq_1_5 wq_7_13) rfl rfl rfl hdV_X4_of ⟨Nat.le_of_ble_eq_true rfl, Nat.le_of_ble_eq_true rfl⟩) hz [] zp_all zp_all' rfl rfl rfl hl.1 (Nat.le_of_ble_eq_true rfl) (st1 := [.int (((it2 (tick1 (h, c)) k).2) k 3)]) rfl dX4_tick_137 ⟨Nat.zero_le _, Nat.zero_le _⟩ (fun H locs hz => ?_)
              exact z_top (by simp only [drF, if_pos c_122]) (J4 _ _ _ hz (lv_sub hl [0, 1, 2, 3] rfl))
            · refine lv_aload_n (pc := 125) hx hb dX4_tick_125 rfl (lv_at hl 3 rfl) ?_
              refine lv_iload_n (pc := 126) hx hb dX4_tick_126 rfl (lv_at hl 0 rfl) ?_
              refine lv_iconst (v := 1) (pc := 127) hx hb dX4_tick_127 (by decide) ?_
              refine z_runV (pc := 128) (As := [.int (nI k), .int 1]) (rest := []) (ws1 := mm ca a f ((it2 (tick1 (h, c)) k).1) ((it2 (tick1 (h, c)) k).2) hi sn be tx (tickT (h, c) ti)) ⟨hx, hb, hml, hown, hts⟩ (k_X4_of l G ca a f ((it2 (tick1 (h, c)) k).1) ((it2 (tick1 (h, c)) k).2) hi sn be tx (tickT (h, c) ti) k 1 (by assumption) (by decide)) (cwV 2 hts (zgoodV zsub wq_7_10 wq_7_11 wq_7_12 wq_1_5 wq_7_13) rfl rfl rfl hdV_X4_of ⟨Nat.le_of_ble_eq_true rfl, Nat.le_of_ble_eq_true rfl⟩) hz [] zp_all zp_all' rfl rfl rfl hl.1 (Nat.le_of_ble_eq_true rfl) (st1 := [.int (((it2 (tick1 (h, c)) k).2) k 1)]) rfl dX4_tick_128 ⟨Nat.zero_le _, Nat.zero_le _⟩ (fun H locs hz => ?_)
              refine lv_goto (tgt := 140) (pc := 131) hx hb dX4_tick_131 (by decide) ?_
              exact z_top (by simp only [drF, if_neg c_122]) (J4 _ _ _ hz (lv_sub hl [0, 1, 2, 3] rfl))
        exact loop3 8 0 (by omega) _ _ _ (hz.as (by rw [it2_0])) (lv_sub hl [0, 1, 2, 3] rfl)
      | succ cnt ih =>
        intro k hk9 H locs ls hz hl
        have hk : k < 8 := by omega
        refine lv_iload_n (pc := 84) hx hb dX4_tick_84 rfl (lv_at hl 0 rfl) ?_
        refine lv_bipush (v := 8) (pc := 85) hx hb dX4_tick_85 (by decide) ?_
        refine lv_icmp_ge (pc := 87) (tgt := 102) hx hb dX4_tick_87 (by decide) (fun c9 => absurd c9 (nI_ge hk (by decide))) (fun c_87 => ?_)
        refine lv_aload_n (pc := 90) hx hb dX4_tick_90 rfl (lv_at hl 3 rfl) ?_
        refine lv_iload_n (pc := 91) hx hb dX4_tick_91 rfl (lv_at hl 0 rfl) ?_
        refine lv_iload_n (pc := 92) hx hb dX4_tick_92 rfl (lv_at hl 2 rfl) ?_
        refine z_runV (pc := 93) (As := [.int (nI k), .int (hourP (h, c))]) (rest := []) (ws1 := mm ca a f (tokH ((it1 (hourP (h, c)) (springP (h, c)) k).1) ((it1 (hourP (h, c)) (springP (h, c)) k).2) k (hourP (h, c))) (tokC ((it1 (hourP (h, c)) (springP (h, c)) k).2) k (hourP (h, c))) hi sn be tx (upd (itT (hourP (h, c)) (springP (h, c)) ti k) k (tpF ((it1 (hourP (h, c)) (springP (h, c)) k).2) k (hourP (h, c))))) ⟨hx, hb, hml, hown, hts⟩ (k_X4_tipOrKeep l G ca a f ((it1 (hourP (h, c)) (springP (h, c)) k).1) ((it1 (hourP (h, c)) (springP (h, c)) k).2) hi sn be tx (itT (hourP (h, c)) (springP (h, c)) ti k) k (hourP (h, c)) (by assumption) (by rw [it1_w _ _ _ _ _ (by decide) (by decide) (by decide), springP_w _ _ _ (by decide)]; exact (hok.2 k hk).1) (by rw [it1_w _ _ _ _ _ (by decide) (by decide) (by decide), springP_w _ _ _ (by decide)]; exact (hok.2 k hk).2.1) (by rw [it1_w _ _ _ _ _ (by decide) (by decide) (by decide), springP_w _ _ _ (by decide)]; exact (hok.2 k hk).2.2)) (cwV 2 hts (zgoodV zsub wq_15_3 wq_15_4 wq_15_5 wq_1_5 wq_15_6) rfl rfl rfl hdV_X4_tipOrKeep ⟨Nat.le_of_ble_eq_true rfl, Nat.le_of_ble_eq_true rfl⟩) hz [] zp_all zp_all' rfl rfl rfl hl.1 (Nat.le_of_ble_eq_true rfl) (st1 := []) rfl dX4_tick_93 ⟨Nat.zero_le _, Nat.zero_le _⟩ (fun H locs hz => ?_)
        refine lv_iinc (v := nI (k + 1)) (lv' := [(3, .int (nI (k + 1))), (2, .int (backF h)), (1, .int (hourP (h, c))), (0, .ref (a 0))]) (pc := 96) hx hb dX4_tick_96 hl (k := 0) rfl (nI_add k 1) (by decide) rfl (fun ls hl => ?_)
        refine lv_goto (tgt := 84) (pc := 99) hx hb dX4_tick_99 (by decide) ?_
        exact ih (k + 1) (by omega) _ _ _ (hz.as (by simp only [it1_s, itT_s])) (lv_sub hl [0, 1, 2, 3] rfl)
    exact loop2 8 0 (by omega) _ _ _ (hz.as (by simp only [it1_0, itT_0, springP, springH])) (lv_sub hl [0, 1, 2, 3] rfl)
  refine lv_icmp_ge (pc := 24) (tgt := 37) hx hb dX4_tick_24 (by decide) (fun c_24 => ?_) (fun c_24 => ?_)
  · refine lv_aload_n (pc := 37) hx hb dX4_tick_37 rfl (lv_at hl 1 rfl) ?_
    refine z_get (own := RX4) (ref := "CupFountainModel") (C := RX4) (T := TX4) (N := 17) (ci := 4) (v := .ref (a 1)) (pc := 38) hx hb hts hinX4 hown hz 0 rfl rfl 0 (by decide) L7 rfl rfl dX4_tick_38 ?_
    refine lv_iconst (v := 1) (pc := 41) hx hb dX4_tick_41 (by decide) ?_
    refine z_iald (x := h 1) (pc := 42) hx hb hz 1 rfl 1 rfl (by decide) (by decide) (enc_h (by decide)) dX4_tick_42 ?_
    exact z_top (by simp only [backF, if_pos c_24]) (J1 _ _ _ hz (lv_sub hl [0, 1] rfl))
  · refine lv_aload_n (pc := 27) hx hb dX4_tick_27 rfl (lv_at hl 1 rfl) ?_
    refine z_get (own := RX4) (ref := "CupFountainModel") (C := RX4) (T := TX4) (N := 17) (ci := 4) (v := .ref (a 1)) (pc := 28) hx hb hts hinX4 hown hz 0 rfl rfl 0 (by decide) L7 rfl rfl dX4_tick_28 ?_
    refine lv_bipush (v := 6) (pc := 31) hx hb dX4_tick_31 (by decide) ?_
    refine z_iald (x := h 6) (pc := 33) hx hb hz 1 rfl 6 rfl (by decide) (by decide) (enc_h (by decide)) dX4_tick_33 ?_
    refine lv_goto (tgt := 43) (pc := 34) hx hb dX4_tick_34 (by decide) ?_
    exact z_top (by simp only [backF, if_neg c_24]) (J1 _ _ _ hz (lv_sub hl [0, 1] rfl))

def rm_X4_sumOf : Room := { frames := 1, cells := 0, slots := 0, locals := 22 }
set_option maxRecDepth 20000 in
theorem hdV_X4_sumOf : yX4_sumOf.cls = RX4 ∧ yX4_sumOf.cls ≠ "java/lang/invoke/MethodHandle" ∧ yX4_sumOf.cls ≠ "java/lang/invoke/VarHandle" ∧ (parseMethodDescriptor yX4_sumOf.desc).map (fun d => d.parameters.length) = some 1 := by decide +kernel
set_option maxHeartbeats 4000000 in
set_option maxRecDepth 100000 in
theorem k_X4_sumOf (l : Launch) (G : va_G) (ca : Nat → ClassId) (a : Nat → Nat) (f h : Nat → Int32) (c : Nat → Nat → Int32) (hi sn be tx ti : Nat → Int32) (w : Nat) (hw : w < 12) : Zc l G ca yX4_sumOf (zws yX4_sumOf cX4_sumOf 4 (some .int)) rm_X4_sumOf [.ref (a 0), .int (nI w)] (mm ca a f h c hi sn be tx ti) (some (.int (sumF c w 8))) (mm ca a f h c hi sn be tx ti) := by
  refine Zc.of (cc := cX4_sumOf) (maxL := 4) (ret := (some .int)) (by decide) rfl (Nat.le_of_ble_eq_true rfl) ?_
  intro pg ev s0 mt below meth cd A args Q ls hx hb hr hml hown hts hlk hQ hl hz
  have hl : lv_has ls 4 [(0, .ref (a 0)), (1, .int (nI w))] := hl
  refine lv_iconst (v := 0) (pc := 0) hx hb dX4_sumOf_0 (by decide) ?_
  refine lv_istore_n (lv' := [(2, .int 0), (0, .ref (a 0)), (1, .int (nI w))]) (pc := 1) hx hb dX4_sumOf_1 rfl hl (by decide) rfl (fun ls hl => ?_)
  refine lv_iconst (v := 0) (pc := 2) hx hb dX4_sumOf_2 (by decide) ?_
  refine lv_istore_n (lv' := [(3, .int 0), (2, .int 0), (0, .ref (a 0)), (1, .int (nI w))]) (pc := 3) hx hb dX4_sumOf_3 rfl hl (by decide) rfl (fun ls hl => ?_)
  have loop1 : ∀ cnt k : Nat, k + cnt = 8 → ∀ (H : Heap) (locs : List Loc) (ls : Array Slot), zw G ca A s0.heap s0 (mm ca a f h c hi sn be tx ti) H locs → lv_has ls 4 [(3, .int (nI k)), (2, .int (sumF c w k)), (0, .ref (a 0)), (1, .int (nI w))] → W pg l ev rm_X4_sumOf s0 mt args below meth cd H locs 0 0 Q (F0 mt 4 ls []) := by
    intro cnt
    induction cnt with
    | zero =>
      intro k hk9 H locs ls hz hl
      obtain rfl : 8 = k := by omega
      refine lv_iload_n (pc := 4) hx hb dX4_sumOf_4 rfl (lv_at hl 0 rfl) ?_
      refine lv_bipush (v := 8) (pc := 5) hx hb dX4_sumOf_5 (by decide) ?_
      refine lv_icmp_ge (pc := 7) (tgt := 25) hx hb dX4_sumOf_7 (by decide) (fun c_7 => ?_) (fun c9 => absurd (by decide) c9)
      refine lv_iload_n (pc := 25) hx hb dX4_sumOf_25 rfl (lv_at hl 1 rfl) ?_
      exact z_iret (pc := 26) hx hb hr hlk hQ hz dX4_sumOf_26 (by first | rfl | (simp only [if_pos c_7])) (by first | rfl | (simp only [if_pos c_7]))
    | succ cnt ih =>
      intro k hk9 H locs ls hz hl
      have hk : k < 8 := by omega
      refine lv_iload_n (pc := 4) hx hb dX4_sumOf_4 rfl (lv_at hl 0 rfl) ?_
      refine lv_bipush (v := 8) (pc := 5) hx hb dX4_sumOf_5 (by decide) ?_
      refine lv_icmp_ge (pc := 7) (tgt := 25) hx hb dX4_sumOf_7 (by decide) (fun c9 => absurd c9 (nI_ge hk (by decide))) (fun c_7 => ?_)
      refine lv_iload_n (pc := 10) hx hb dX4_sumOf_10 rfl (lv_at hl 1 rfl) ?_
      refine lv_aload_n (pc := 11) hx hb dX4_sumOf_11 rfl (lv_at hl 2 rfl) ?_
      refine lv_iload_n (pc := 12) hx hb dX4_sumOf_12 rfl (lv_at hl 0 rfl) ?_
      refine lv_iload_n (pc := 13) hx hb dX4_sumOf_13 rfl (lv_at hl 3 rfl) ?_
      refine z_runV (pc := 14) (As := [.int (nI k), .int (nI w)]) (rest := [.int (sumF c w k)]) (ws1 := mm ca a f h c hi sn be tx ti) ⟨hx, hb, hml, hown, hts⟩ (k_X4_of l G ca a f h c hi sn be tx ti k w (by assumption) (by assumption)) (cwV 2 hts (zgoodV zsub wq_7_10 wq_7_11 wq_7_12 wq_1_5 wq_7_13) rfl rfl rfl hdV_X4_of ⟨Nat.le_of_ble_eq_true rfl, Nat.le_of_ble_eq_true rfl⟩) hz [] zp_all zp_all' rfl rfl rfl hl.1 (Nat.le_of_ble_eq_true rfl) (st1 := [.int (c k w), .int (sumF c w k)]) rfl dX4_sumOf_14 ⟨Nat.zero_le _, Nat.zero_le _⟩ (fun H locs hz => ?_)
      refine lv_iadd (pc := 17) hx hb dX4_sumOf_17 ?_
      refine lv_istore_n (lv' := [(2, .int ((sumF c w k) + (c k w))), (3, .int (nI k)), (0, .ref (a 0)), (1, .int (nI w))]) (pc := 18) hx hb dX4_sumOf_18 rfl hl (by decide) rfl (fun ls hl => ?_)
      refine lv_iinc (v := nI (k + 1)) (lv' := [(3, .int (nI (k + 1))), (2, .int ((sumF c w k) + (c k w))), (0, .ref (a 0)), (1, .int (nI w))]) (pc := 19) hx hb dX4_sumOf_19 hl (k := 1) rfl (nI_add k 1) (by decide) rfl (fun ls hl => ?_)
      refine lv_goto (tgt := 4) (pc := 22) hx hb dX4_sumOf_22 (by decide) ?_
      exact ih (k + 1) (by omega) _ _ _ hz (lv_sub hl [0, 1, 2, 3] rfl)
  exact loop1 8 0 (by omega) _ _ _ hz (lv_sub hl [0, 1, 2, 3] rfl)

def rm_X4_isValue : Room := { frames := 1, cells := 0, slots := 0, locals := 22 }
set_option maxRecDepth 20000 in
theorem hdV_X4_isValue : yX4_isValue.cls = RX4 ∧ yX4_isValue.cls ≠ "java/lang/invoke/MethodHandle" ∧ yX4_isValue.cls ≠ "java/lang/invoke/VarHandle" ∧ (parseMethodDescriptor yX4_isValue.desc).map (fun d => d.parameters.length) = some 3 := by decide +kernel
set_option maxHeartbeats 4000000 in
set_option maxRecDepth 100000 in
theorem k_X4_isValue (l : Launch) (G : va_G) (ca : Nat → ClassId) (cup which value : Int32) : Zc l G ca yX4_isValue (zws yX4_isValue cX4_isValue 3 (some .boolean)) rm_X4_isValue [.int cup, .int which, .int value] ([]) (some (.int (isValF cup which value))) ([]) := by
  refine Zc.of (cc := cX4_isValue) (maxL := 3) (ret := (some .boolean)) (by decide) rfl (Nat.le_of_ble_eq_true rfl) ?_
  intro pg ev s0 mt below meth cd A args Q ls hx hb hr hml hown hts hlk hQ hl hz
  have hl : lv_has ls 3 [(0, .int cup), (1, .int which), (2, .int value)] := hl
  refine lv_iload_n (pc := 0) hx hb dX4_isValue_0 rfl (lv_at hl 1 rfl) ?_
  have J1 : ∀ (H : Heap) (locs : List Loc) (ls : Array Slot), zw G ca A s0.heap s0 ([]) H locs → lv_has ls 3 [(0, .int cup), (1, .int which), (2, .int value)] → W pg l ev rm_X4_isValue s0 mt args below meth cd H locs 0 0 Q (F0 mt 51 ls [.int (isValF cup which value)]) := by
    intro H locs ls hz hl
    exact z_zret (pc := 51) hx hb hr hlk hQ hz (isValF_n _ _ _) dX4_isValue_51 (by first | rfl | (simp only [isValF])) (by first | rfl | (simp only [isValF]))
  refine lv_if_ne (pc := 1) (tgt := 14) hx hb dX4_isValue_1 (by decide) (fun c_1 => ?_) (fun c_1 => ?_)
  · refine lv_iload_n (pc := 14) hx hb dX4_isValue_14 rfl (lv_at hl 1 rfl) ?_
    refine lv_iconst (v := 1) (pc := 15) hx hb dX4_isValue_15 (by decide) ?_
    refine lv_icmp_ne (pc := 16) (tgt := 29) hx hb dX4_isValue_16 (by decide) (fun c_16 => ?_) (fun c_16 => ?_)
    · refine lv_iload_n (pc := 29) hx hb dX4_isValue_29 rfl (lv_at hl 1 rfl) ?_
      refine lv_iconst (v := 2) (pc := 30) hx hb dX4_isValue_30 (by decide) ?_
      refine lv_icmp_ne (pc := 31) (tgt := 50) hx hb dX4_isValue_31 (by decide) (fun c_31 => ?_) (fun c_31 => ?_)
      · refine lv_iconst (v := 0) (pc := 50) hx hb dX4_isValue_50 (by decide) ?_
        exact z_top (by first | rfl | (simp only [isValF, if_neg c_1, if_neg c_16, if_neg c_31])) (J1 _ _ _ hz (lv_sub hl [0, 1, 2] rfl))
      · refine lv_iload_n (pc := 34) hx hb dX4_isValue_34 rfl (lv_at hl 2 rfl) ?_
        refine lv_iload_n (pc := 35) hx hb dX4_isValue_35 rfl (lv_at hl 0 rfl) ?_
        refine lv_iconst (v := 1) (pc := 36) hx hb dX4_isValue_36 (by decide) ?_
        refine lv_iadd (pc := 37) hx hb dX4_isValue_37 ?_
        refine lv_bipush (v := 8) (pc := 38) hx hb dX4_isValue_38 (by decide) ?_
        refine z_runS (pc := 40) (As := [.int value, .int (cup + 1), .int 8]) (rest := []) (ws1 := []) ⟨hx, hb, hml, hown, hts⟩ (k_X4_in l G ca value (cup + 1) 8) (cwS 3 hts (zgoodS zsub wq_7_4 wq_7_5 wq_1_5 wq_7_6) rfl rfl rfl hdV_X4_in ⟨Nat.le_of_ble_eq_true rfl, Nat.le_of_ble_eq_true rfl⟩) hz ([]) zp_no (List.Perm.refl _) rfl hl.1 (Nat.le_of_ble_eq_true rfl) (st1 := [.int (inF value (cup + 1) 8)]) rfl dX4_isValue_40 ⟨Nat.zero_le _, Nat.zero_le _⟩ (fun H locs hz => ?_)
        refine lv_if_eq (pc := 43) (tgt := 50) hx hb dX4_isValue_43 (by decide) (fun c_43 => ?_) (fun c_43 => ?_)
        · refine lv_iconst (v := 0) (pc := 50) hx hb dX4_isValue_50 (by decide) ?_
          exact z_top (by first | rfl | (simp only [isValF, if_neg c_1, if_neg c_16, if_pos c_31, if_pos c_43])) (J1 _ _ _ hz (lv_sub hl [0, 1, 2] rfl))
        · refine lv_iconst (v := 1) (pc := 46) hx hb dX4_isValue_46 (by decide) ?_
          refine lv_goto (tgt := 51) (pc := 47) hx hb dX4_isValue_47 (by decide) ?_
          exact z_top (by first | rfl | (simp only [isValF, if_neg c_1, if_neg c_16, if_pos c_31, if_neg c_43])) (J1 _ _ _ hz (lv_sub hl [0, 1, 2] rfl))
    · refine lv_iload_n (pc := 19) hx hb dX4_isValue_19 rfl (lv_at hl 2 rfl) ?_
      refine lv_iconst (v := 0) (pc := 20) hx hb dX4_isValue_20 (by decide) ?_
      refine lv_bipush (v := 9) (pc := 21) hx hb dX4_isValue_21 (by decide) ?_
      refine z_runS (pc := 23) (As := [.int value, .int 0, .int 9]) (rest := []) (ws1 := []) ⟨hx, hb, hml, hown, hts⟩ (k_X4_in l G ca value 0 9) (cwS 3 hts (zgoodS zsub wq_7_4 wq_7_5 wq_1_5 wq_7_6) rfl rfl rfl hdV_X4_in ⟨Nat.le_of_ble_eq_true rfl, Nat.le_of_ble_eq_true rfl⟩) hz ([]) zp_no (List.Perm.refl _) rfl hl.1 (Nat.le_of_ble_eq_true rfl) (st1 := [.int (inF value 0 9)]) rfl dX4_isValue_23 ⟨Nat.zero_le _, Nat.zero_le _⟩ (fun H locs hz => ?_)
      refine lv_goto (tgt := 51) (pc := 26) hx hb dX4_isValue_26 (by decide) ?_
      exact z_top (by first | rfl | (simp only [isValF, if_neg c_1, if_pos c_16])) (J1 _ _ _ hz (lv_sub hl [0, 1, 2] rfl))
  · refine lv_iload_n (pc := 4) hx hb dX4_isValue_4 rfl (lv_at hl 2 rfl) ?_
    refine lv_iconst (v := 1) (pc := 5) hx hb dX4_isValue_5 (by decide) ?_
    refine lv_bipush (v := 99) (pc := 6) hx hb dX4_isValue_6 (by decide) ?_
    refine z_runS (pc := 8) (As := [.int value, .int 1, .int 99]) (rest := []) (ws1 := []) ⟨hx, hb, hml, hown, hts⟩ (k_X4_in l G ca value 1 99) (cwS 3 hts (zgoodS zsub wq_7_4 wq_7_5 wq_1_5 wq_7_6) rfl rfl rfl hdV_X4_in ⟨Nat.le_of_ble_eq_true rfl, Nat.le_of_ble_eq_true rfl⟩) hz ([]) zp_no (List.Perm.refl _) rfl hl.1 (Nat.le_of_ble_eq_true rfl) (st1 := [.int (inF value 1 99)]) rfl dX4_isValue_8 ⟨Nat.zero_le _, Nat.zero_le _⟩ (fun H locs hz => ?_)
    refine lv_goto (tgt := 51) (pc := 11) hx hb dX4_isValue_11 (by decide) ?_
    exact z_top (by first | rfl | (simp only [isValF, if_pos c_1])) (J1 _ _ _ hz (lv_sub hl [0, 1, 2] rfl))
end
section
def rm_X4_doSetCup : Room := { frames := 2, cells := 0, slots := 0, locals := 44 }
set_option maxRecDepth 20000 in
theorem hdV_X4_doSetCup : yX4_doSetCup.cls = RX4 ∧ yX4_doSetCup.cls ≠ "java/lang/invoke/MethodHandle" ∧ yX4_doSetCup.cls ≠ "java/lang/invoke/VarHandle" ∧ (parseMethodDescriptor yX4_doSetCup.desc).map (fun d => d.parameters.length) = some 3 := by decide +kernel
set_option maxHeartbeats 4000000 in
set_option maxRecDepth 100000 in
theorem k_X4_doSetCup (l : Launch) (G : va_G) (ca : Nat → ClassId) (a : Nat → Nat) (f h : Nat → Int32) (c : Nat → Nat → Int32) (hi sn be tx ti : Nat → Int32) (cup which value : Int32) : Zc l G ca yX4_doSetCup (zws yX4_doSetCup cX4_doSetCup 5 (some .int)) rm_X4_doSetCup [.ref (a 0), .int cup, .int which, .int value] (mm ca a f h c hi sn be tx ti) (some (.int (setR c cup which value))) (mm ca a f h (setC c cup which value) hi sn be tx ti) := by
  refine Zc.of (cc := cX4_doSetCup) (maxL := 5) (ret := (some .int)) (by decide) rfl (Nat.le_of_ble_eq_true rfl) ?_
  intro pg ev s0 mt below meth cd A args Q ls hx hb hr hml hown hts hlk hQ hl hz
  have hl : lv_has ls 5 [(0, .ref (a 0)), (1, .int cup), (2, .int which), (3, .int value)] := hl
  refine lv_iload_n (pc := 0) hx hb dX4_doSetCup_0 rfl (lv_at hl 1 rfl) ?_
  refine z_runS (pc := 1) (As := [.int cup]) (rest := []) (ws1 := mm ca a f h c hi sn be tx ti) ⟨hx, hb, hml, hown, hts⟩ (k_X4_isCup l G ca cup) (cwS 1 hts (zgoodS zsub wq_7_1 wq_7_2 wq_1_5 wq_7_3) rfl rfl rfl hdV_X4_isCup ⟨Nat.le_of_ble_eq_true rfl, Nat.le_of_ble_eq_true rfl⟩) hz (mm ca a f h c hi sn be tx ti) zp_no (List.Perm.refl _) rfl hl.1 (Nat.le_of_ble_eq_true rfl) (st1 := [.int (inF cup 0 7)]) rfl dX4_doSetCup_1 ⟨Nat.zero_le _, Nat.zero_le _⟩ (fun H locs hz => ?_)
  refine lv_if_ne (pc := 4) (tgt := 9) hx hb dX4_doSetCup_4 (by decide) (fun c_4 => ?_) (fun c_4 => ?_)
  · obtain ⟨k, hk, rfl⟩ := isCup_pos c_4
    have hnk : nn (nI k) = k := nn_nI (by omega)
    refine lv_iload_n (pc := 9) hx hb dX4_doSetCup_9 rfl (lv_at hl 1 rfl) ?_
    refine lv_iload_n (pc := 10) hx hb dX4_doSetCup_10 rfl (lv_at hl 2 rfl) ?_
    refine lv_iload_n (pc := 11) hx hb dX4_doSetCup_11 rfl (lv_at hl 3 rfl) ?_
    refine z_runS (pc := 12) (As := [.int (nI k), .int which, .int value]) (rest := []) (ws1 := mm ca a f h c hi sn be tx ti) ⟨hx, hb, hml, hown, hts⟩ (k_X4_isValue l G ca (nI k) which value) (cwS 3 hts (zgoodS zsub wq_7_7 wq_7_8 wq_1_5 wq_7_9) rfl rfl rfl hdV_X4_isValue ⟨Nat.le_of_ble_eq_true rfl, Nat.le_of_ble_eq_true rfl⟩) hz (mm ca a f h c hi sn be tx ti) zp_no (List.Perm.refl _) rfl hl.1 (Nat.le_of_ble_eq_true rfl) (st1 := [.int (isValF (nI k) which value)]) rfl dX4_doSetCup_12 ⟨Nat.zero_le _, Nat.zero_le _⟩ (fun H locs hz => ?_)
    refine lv_if_ne (pc := 15) (tgt := 21) hx hb dX4_doSetCup_15 (by decide) (fun c_15 => ?_) (fun c_15 => ?_)
    · obtain ⟨w, hw, rfl⟩ := isVal_pos c_15
      have hnw : nn (nI w) = w := nn_nI (by omega)
      have hw12 : w < 12 := by omega
      refine lv_aload_n (pc := 21) hx hb dX4_doSetCup_21 rfl (lv_at hl 0 rfl) ?_
      refine lv_iload_n (pc := 22) hx hb dX4_doSetCup_22 rfl (lv_at hl 1 rfl) ?_
      refine lv_iload_n (pc := 23) hx hb dX4_doSetCup_23 rfl (lv_at hl 2 rfl) ?_
      refine z_runV (pc := 24) (As := [.int (nI k), .int (nI w)]) (rest := []) (ws1 := mm ca a f h c hi sn be tx ti) ⟨hx, hb, hml, hown, hts⟩ (k_X4_of l G ca a f h c hi sn be tx ti k w (by assumption) (by assumption)) (cwV 2 hts (zgoodV zsub wq_7_10 wq_7_11 wq_7_12 wq_1_5 wq_7_13) rfl rfl rfl hdV_X4_of ⟨Nat.le_of_ble_eq_true rfl, Nat.le_of_ble_eq_true rfl⟩) hz [] zp_all zp_all' rfl rfl rfl hl.1 (Nat.le_of_ble_eq_true rfl) (st1 := [.int (c k w)]) rfl dX4_doSetCup_24 ⟨Nat.zero_le _, Nat.zero_le _⟩ (fun H locs hz => ?_)
      refine lv_istore (lv' := [(4, .int (c k w)), (0, .ref (a 0)), (1, .int (nI k)), (2, .int (nI w)), (3, .int value)]) (pc := 27) hx hb dX4_doSetCup_27 hl (by decide) rfl (fun ls hl => ?_)
      refine lv_aload_n (pc := 29) hx hb dX4_doSetCup_29 rfl (lv_at hl 1 rfl) ?_
      refine lv_iload_n (pc := 30) hx hb dX4_doSetCup_30 rfl (lv_at hl 2 rfl) ?_
      refine lv_iload_n (pc := 31) hx hb dX4_doSetCup_31 rfl (lv_at hl 3 rfl) ?_
      refine lv_iload_n (pc := 32) hx hb dX4_doSetCup_32 rfl (lv_at hl 4 rfl) ?_
      refine z_runV (pc := 33) (As := [.int (nI k), .int (nI w), .int value]) (rest := []) (ws1 := mm ca a f h (u2 c k w value) hi sn be tx ti) ⟨hx, hb, hml, hown, hts⟩ (k_X4_lay l G ca a f h c hi sn be tx ti k w value (by assumption) (by assumption)) (cwV 3 hts (zgoodV zsub wq_4_12 wq_4_13 wq_4_14 wq_1_5 wq_4_15) rfl rfl rfl hdV_X4_lay ⟨Nat.le_of_ble_eq_true rfl, Nat.le_of_ble_eq_true rfl⟩) hz [] zp_all zp_all' rfl rfl rfl hl.1 (Nat.le_of_ble_eq_true rfl) (st1 := []) rfl dX4_doSetCup_33 ⟨Nat.zero_le _, Nat.zero_le _⟩ (fun H locs hz => ?_)
      refine lv_iload (pc := 36) hx hb dX4_doSetCup_36 (lv_at hl 0 rfl) ?_
      refine lv_iload_n (pc := 38) hx hb dX4_doSetCup_38 rfl (lv_at hl 4 rfl) ?_
      refine lv_icmp_ne (pc := 39) (tgt := 47) hx hb dX4_doSetCup_39 (by decide) (fun c_39 => ?_) (fun c_39 => ?_)
      · refine lv_iload (pc := 47) hx hb dX4_doSetCup_47 (lv_at hl 0 rfl) ?_
        exact z_iret (pc := 49) hx hb hr hlk hQ hz dX4_doSetCup_49 (by simp only [setR, if_neg c_4, if_neg c_15, if_neg c_39, hnk, hnw]) (by simp only [setC, if_neg c_4, if_neg c_15, if_neg c_39, hnk, hnw])
      · refine lv_bipush (v := -5) (pc := 42) hx hb dX4_doSetCup_42 (by decide) ?_
        refine lv_goto (tgt := 49) (pc := 44) hx hb dX4_doSetCup_44 (by decide) ?_
        exact z_iret (pc := 49) hx hb hr hlk hQ hz dX4_doSetCup_49 (by simp only [setR, if_neg c_4, if_neg c_15, if_pos c_39, hnk, hnw]) (by simp only [setC, if_neg c_4, if_neg c_15, if_pos c_39, hnk, hnw])
    · refine lv_bipush (v := -2) (pc := 18) hx hb dX4_doSetCup_18 (by decide) ?_
      exact z_iret (pc := 20) hx hb hr hlk hQ hz dX4_doSetCup_20 (by simp only [setR, if_neg c_4, if_pos c_15, hnk]) (by simp only [setC, if_neg c_4, if_pos c_15, hnk])
  · refine lv_iconst (v := -1) (pc := 7) hx hb dX4_doSetCup_7 (by decide) ?_
    exact z_iret (pc := 8) hx hb hr hlk hQ hz dX4_doSetCup_8 (by simp only [setR, if_pos c_4]) (by simp only [setC, if_pos c_4])

def rm_X4_doTurn : Room := { frames := 2, cells := 0, slots := 0, locals := 42 }
set_option maxRecDepth 20000 in
theorem hdV_X4_doTurn : yX4_doTurn.cls = RX4 ∧ yX4_doTurn.cls ≠ "java/lang/invoke/MethodHandle" ∧ yX4_doTurn.cls ≠ "java/lang/invoke/VarHandle" ∧ (parseMethodDescriptor yX4_doTurn.desc).map (fun d => d.parameters.length) = some 1 := by decide +kernel
set_option maxHeartbeats 4000000 in
set_option maxRecDepth 100000 in
theorem k_X4_doTurn (l : Launch) (G : va_G) (ca : Nat → ClassId) (a : Nat → Nat) (f h : Nat → Int32) (c : Nat → Nat → Int32) (hi sn be tx ti : Nat → Int32) (cup : Int32) : Zc l G ca yX4_doTurn (zws yX4_doTurn cX4_doTurn 2 (some .int)) rm_X4_doTurn [.ref (a 0), .int cup] (mm ca a f h c hi sn be tx ti) (some (.int (turnR c cup))) (mm ca a f h (turnC c cup) hi sn be tx ti) := by
  refine Zc.of (cc := cX4_doTurn) (maxL := 2) (ret := (some .int)) (by decide) rfl (Nat.le_of_ble_eq_true rfl) ?_
  intro pg ev s0 mt below meth cd A args Q ls hx hb hr hml hown hts hlk hQ hl hz
  have hl : lv_has ls 2 [(0, .ref (a 0)), (1, .int cup)] := hl
  refine lv_iload_n (pc := 0) hx hb dX4_doTurn_0 rfl (lv_at hl 1 rfl) ?_
  refine z_runS (pc := 1) (As := [.int cup]) (rest := []) (ws1 := mm ca a f h c hi sn be tx ti) ⟨hx, hb, hml, hown, hts⟩ (k_X4_isCup l G ca cup) (cwS 1 hts (zgoodS zsub wq_7_1 wq_7_2 wq_1_5 wq_7_3) rfl rfl rfl hdV_X4_isCup ⟨Nat.le_of_ble_eq_true rfl, Nat.le_of_ble_eq_true rfl⟩) hz (mm ca a f h c hi sn be tx ti) zp_no (List.Perm.refl _) rfl hl.1 (Nat.le_of_ble_eq_true rfl) (st1 := [.int (inF cup 0 7)]) rfl dX4_doTurn_1 ⟨Nat.zero_le _, Nat.zero_le _⟩ (fun H locs hz => ?_)
  refine lv_if_ne (pc := 4) (tgt := 9) hx hb dX4_doTurn_4 (by decide) (fun c_4 => ?_) (fun c_4 => ?_)
  · obtain ⟨k, hk, rfl⟩ := isCup_pos c_4
    have hnk : nn (nI k) = k := nn_nI (by omega)
    refine lv_aload_n (pc := 9) hx hb dX4_doTurn_9 rfl (lv_at hl 0 rfl) ?_
    refine lv_iload_n (pc := 10) hx hb dX4_doTurn_10 rfl (lv_at hl 1 rfl) ?_
    refine lv_bipush (v := 6) (pc := 11) hx hb dX4_doTurn_11 (by decide) ?_
    refine z_runV (pc := 13) (As := [.int (nI k), .int 6]) (rest := []) (ws1 := mm ca a f h c hi sn be tx ti) ⟨hx, hb, hml, hown, hts⟩ (k_X4_of l G ca a f h c hi sn be tx ti k 6 (by assumption) (by decide)) (cwV 2 hts (zgoodV zsub wq_7_10 wq_7_11 wq_7_12 wq_1_5 wq_7_13) rfl rfl rfl hdV_X4_of ⟨Nat.le_of_ble_eq_true rfl, Nat.le_of_ble_eq_true rfl⟩) hz [] zp_all zp_all' rfl rfl rfl hl.1 (Nat.le_of_ble_eq_true rfl) (st1 := [.int (c k 6)]) rfl dX4_doTurn_13 ⟨Nat.zero_le _, Nat.zero_le _⟩ (fun H locs hz => ?_)
    refine lv_iconst (v := 1) (pc := 16) hx hb dX4_doTurn_16 (by decide) ?_
    refine lv_icmp_ne (pc := 17) (tgt := 23) hx hb dX4_doTurn_17 (by decide) (fun c_17 => ?_) (fun c_17 => ?_)
    · refine lv_aload_n (pc := 23) hx hb dX4_doTurn_23 rfl (lv_at hl 0 rfl) ?_
      refine lv_iload_n (pc := 24) hx hb dX4_doTurn_24 rfl (lv_at hl 1 rfl) ?_
      refine lv_iconst (v := 5) (pc := 25) hx hb dX4_doTurn_25 (by decide) ?_
      refine lv_iconst (v := 1) (pc := 26) hx hb dX4_doTurn_26 (by decide) ?_
      refine lv_aload_n (pc := 27) hx hb dX4_doTurn_27 rfl (lv_at hl 0 rfl) ?_
      refine lv_iload_n (pc := 28) hx hb dX4_doTurn_28 rfl (lv_at hl 1 rfl) ?_
      refine lv_iconst (v := 5) (pc := 29) hx hb dX4_doTurn_29 (by decide) ?_
      refine z_runV (pc := 30) (As := [.int (nI k), .int 5]) (rest := [.int 1, .int 5, .int (nI k), .ref (a 0)]) (ws1 := mm ca a f h c hi sn be tx ti) ⟨hx, hb, hml, hown, hts⟩ (k_X4_of l G ca a f h c hi sn be tx ti k 5 (by assumption) (by decide)) (cwV 2 hts (zgoodV zsub wq_7_10 wq_7_11 wq_7_12 wq_1_5 wq_7_13) rfl rfl rfl hdV_X4_of ⟨Nat.le_of_ble_eq_true rfl, Nat.le_of_ble_eq_true rfl⟩) hz [] zp_all zp_all' rfl rfl rfl hl.1 (Nat.le_of_ble_eq_true rfl) (st1 := [.int (c k 5), .int 1, .int 5, .int (nI k), .ref (a 0)]) rfl dX4_doTurn_30 ⟨Nat.zero_le _, Nat.zero_le _⟩ (fun H locs hz => ?_)
      refine lv_isub (pc := 33) hx hb dX4_doTurn_33 ?_
      refine z_runV (pc := 34) (As := [.int (nI k), .int 5, .int (1 - (c k 5))]) (rest := []) (ws1 := mm ca a f h (u2 c k 5 (1 - (c k 5))) hi sn be tx ti) ⟨hx, hb, hml, hown, hts⟩ (k_X4_lay l G ca a f h c hi sn be tx ti k 5 (1 - (c k 5)) (by assumption) (by decide)) (cwV 3 hts (zgoodV zsub wq_4_12 wq_4_13 wq_4_14 wq_1_5 wq_4_15) rfl rfl rfl hdV_X4_lay ⟨Nat.le_of_ble_eq_true rfl, Nat.le_of_ble_eq_true rfl⟩) hz [] zp_all zp_all' rfl rfl rfl hl.1 (Nat.le_of_ble_eq_true rfl) (st1 := []) rfl dX4_doTurn_34 ⟨Nat.zero_le _, Nat.zero_le _⟩ (fun H locs hz => ?_)
      refine lv_aload_n (pc := 37) hx hb dX4_doTurn_37 rfl (lv_at hl 0 rfl) ?_
      refine lv_iload_n (pc := 38) hx hb dX4_doTurn_38 rfl (lv_at hl 1 rfl) ?_
      refine lv_iconst (v := 5) (pc := 39) hx hb dX4_doTurn_39 (by decide) ?_
      refine z_runV (pc := 40) (As := [.int (nI k), .int 5]) (rest := []) (ws1 := mm ca a f h (u2 c k 5 (1 - (c k 5))) hi sn be tx ti) ⟨hx, hb, hml, hown, hts⟩ (k_X4_of l G ca a f h (u2 c k 5 (1 - (c k 5))) hi sn be tx ti k 5 (by assumption) (by decide)) (cwV 2 hts (zgoodV zsub wq_7_10 wq_7_11 wq_7_12 wq_1_5 wq_7_13) rfl rfl rfl hdV_X4_of ⟨Nat.le_of_ble_eq_true rfl, Nat.le_of_ble_eq_true rfl⟩) hz [] zp_all zp_all' rfl rfl rfl hl.1 (Nat.le_of_ble_eq_true rfl) (st1 := [.int ((u2 c k 5 (1 - (c k 5))) k 5)]) rfl dX4_doTurn_40 ⟨Nat.zero_le _, Nat.zero_le _⟩ (fun H locs hz => ?_)
      refine z_top (y := 1 - c k 5) u2_s ?_
      exact z_iret (pc := 43) hx hb hr hlk hQ hz dX4_doTurn_43 (by simp only [turnR, if_neg c_4, if_neg c_17, hnk]) (by simp only [turnC, if_neg c_4, if_neg c_17, hnk])
    · refine lv_bipush (v := -4) (pc := 20) hx hb dX4_doTurn_20 (by decide) ?_
      exact z_iret (pc := 22) hx hb hr hlk hQ hz dX4_doTurn_22 (by simp only [turnR, if_neg c_4, if_pos c_17, hnk]) (by simp only [turnC, if_neg c_4, if_pos c_17, hnk])
  · refine lv_iconst (v := -1) (pc := 7) hx hb dX4_doTurn_7 (by decide) ?_
    exact z_iret (pc := 8) hx hb hr hlk hQ hz dX4_doTurn_8 (by simp only [turnR, if_pos c_4]) (by simp only [turnC, if_pos c_4])

def rm_X4_doSetHour : Room := { frames := 2, cells := 0, slots := 0, locals := 42 }
set_option maxRecDepth 20000 in
theorem hdV_X4_doSetHour : yX4_doSetHour.cls = RX4 ∧ yX4_doSetHour.cls ≠ "java/lang/invoke/MethodHandle" ∧ yX4_doSetHour.cls ≠ "java/lang/invoke/VarHandle" ∧ (parseMethodDescriptor yX4_doSetHour.desc).map (fun d => d.parameters.length) = some 2 := by decide +kernel
set_option maxHeartbeats 4000000 in
set_option maxRecDepth 100000 in
theorem k_X4_doSetHour (l : Launch) (G : va_G) (ca : Nat → ClassId) (a : Nat → Nat) (f h : Nat → Int32) (c : Nat → Nat → Int32) (hi sn be tx ti : Nat → Int32) (cup hour : Int32) : Zc l G ca yX4_doSetHour (zws yX4_doSetHour cX4_doSetHour 4 (some .int)) rm_X4_doSetHour [.ref (a 0), .int cup, .int hour] (mm ca a f h c hi sn be tx ti) (some (.int (hourR c cup hour))) (mm ca a f h (hourC c cup hour) hi sn be tx ti) := by
  refine Zc.of (cc := cX4_doSetHour) (maxL := 4) (ret := (some .int)) (by decide) rfl (Nat.le_of_ble_eq_true rfl) ?_
  intro pg ev s0 mt below meth cd A args Q ls hx hb hr hml hown hts hlk hQ hl hz
  have hl : lv_has ls 4 [(0, .ref (a 0)), (1, .int cup), (2, .int hour)] := hl
  refine lv_iload_n (pc := 0) hx hb dX4_doSetHour_0 rfl (lv_at hl 1 rfl) ?_
  refine z_runS (pc := 1) (As := [.int cup]) (rest := []) (ws1 := mm ca a f h c hi sn be tx ti) ⟨hx, hb, hml, hown, hts⟩ (k_X4_isCup l G ca cup) (cwS 1 hts (zgoodS zsub wq_7_1 wq_7_2 wq_1_5 wq_7_3) rfl rfl rfl hdV_X4_isCup ⟨Nat.le_of_ble_eq_true rfl, Nat.le_of_ble_eq_true rfl⟩) hz (mm ca a f h c hi sn be tx ti) zp_no (List.Perm.refl _) rfl hl.1 (Nat.le_of_ble_eq_true rfl) (st1 := [.int (inF cup 0 7)]) rfl dX4_doSetHour_1 ⟨Nat.zero_le _, Nat.zero_le _⟩ (fun H locs hz => ?_)
  refine lv_if_ne (pc := 4) (tgt := 9) hx hb dX4_doSetHour_4 (by decide) (fun c_4 => ?_) (fun c_4 => ?_)
  · obtain ⟨k, hk, rfl⟩ := isCup_pos c_4
    have hnk : nn (nI k) = k := nn_nI (by omega)
    refine lv_iload_n (pc := 9) hx hb dX4_doSetHour_9 rfl (lv_at hl 2 rfl) ?_
    refine lv_iconst (v := -1) (pc := 10) hx hb dX4_doSetHour_10 (by decide) ?_
    refine lv_sipush (v := 239) (pc := 11) hx hb dX4_doSetHour_11 (by decide) ?_
    refine z_runS (pc := 14) (As := [.int hour, .int (-1), .int 239]) (rest := []) (ws1 := mm ca a f h c hi sn be tx ti) ⟨hx, hb, hml, hown, hts⟩ (k_X4_in l G ca hour (-1) 239) (cwS 3 hts (zgoodS zsub wq_7_4 wq_7_5 wq_1_5 wq_7_6) rfl rfl rfl hdV_X4_in ⟨Nat.le_of_ble_eq_true rfl, Nat.le_of_ble_eq_true rfl⟩) hz (mm ca a f h c hi sn be tx ti) zp_no (List.Perm.refl _) rfl hl.1 (Nat.le_of_ble_eq_true rfl) (st1 := [.int (inF hour (-1) 239)]) rfl dX4_doSetHour_14 ⟨Nat.zero_le _, Nat.zero_le _⟩ (fun H locs hz => ?_)
    refine lv_if_ne (pc := 17) (tgt := 23) hx hb dX4_doSetHour_17 (by decide) (fun c_17 => ?_) (fun c_17 => ?_)
    · refine lv_aload_n (pc := 23) hx hb dX4_doSetHour_23 rfl (lv_at hl 0 rfl) ?_
      refine lv_iload_n (pc := 24) hx hb dX4_doSetHour_24 rfl (lv_at hl 1 rfl) ?_
      refine lv_iconst (v := 4) (pc := 25) hx hb dX4_doSetHour_25 (by decide) ?_
      refine z_runV (pc := 26) (As := [.int (nI k), .int 4]) (rest := []) (ws1 := mm ca a f h c hi sn be tx ti) ⟨hx, hb, hml, hown, hts⟩ (k_X4_of l G ca a f h c hi sn be tx ti k 4 (by assumption) (by decide)) (cwV 2 hts (zgoodV zsub wq_7_10 wq_7_11 wq_7_12 wq_1_5 wq_7_13) rfl rfl rfl hdV_X4_of ⟨Nat.le_of_ble_eq_true rfl, Nat.le_of_ble_eq_true rfl⟩) hz [] zp_all zp_all' rfl rfl rfl hl.1 (Nat.le_of_ble_eq_true rfl) (st1 := [.int (c k 4)]) rfl dX4_doSetHour_26 ⟨Nat.zero_le _, Nat.zero_le _⟩ (fun H locs hz => ?_)
      refine lv_istore_n (lv' := [(3, .int (c k 4)), (0, .ref (a 0)), (1, .int (nI k)), (2, .int hour)]) (pc := 29) hx hb dX4_doSetHour_29 rfl hl (by decide) rfl (fun ls hl => ?_)
      refine lv_iload_n (pc := 30) hx hb dX4_doSetHour_30 rfl (lv_at hl 0 rfl) ?_
      refine lv_iload_n (pc := 31) hx hb dX4_doSetHour_31 rfl (lv_at hl 3 rfl) ?_
      refine lv_icmp_ne (pc := 32) (tgt := 38) hx hb dX4_doSetHour_32 (by decide) (fun c_32 => ?_) (fun c_32 => ?_)
      · refine lv_aload_n (pc := 38) hx hb dX4_doSetHour_38 rfl (lv_at hl 1 rfl) ?_
        refine lv_iload_n (pc := 39) hx hb dX4_doSetHour_39 rfl (lv_at hl 2 rfl) ?_
        refine lv_iconst (v := 4) (pc := 40) hx hb dX4_doSetHour_40 (by decide) ?_
        refine lv_iload_n (pc := 41) hx hb dX4_doSetHour_41 rfl (lv_at hl 3 rfl) ?_
        refine z_runV (pc := 42) (As := [.int (nI k), .int 4, .int hour]) (rest := []) (ws1 := mm ca a f h (u2 c k 4 hour) hi sn be tx ti) ⟨hx, hb, hml, hown, hts⟩ (k_X4_lay l G ca a f h c hi sn be tx ti k 4 hour (by assumption) (by decide)) (cwV 3 hts (zgoodV zsub wq_4_12 wq_4_13 wq_4_14 wq_1_5 wq_4_15) rfl rfl rfl hdV_X4_lay ⟨Nat.le_of_ble_eq_true rfl, Nat.le_of_ble_eq_true rfl⟩) hz [] zp_all zp_all' rfl rfl rfl hl.1 (Nat.le_of_ble_eq_true rfl) (st1 := []) rfl dX4_doSetHour_42 ⟨Nat.zero_le _, Nat.zero_le _⟩ (fun H locs hz => ?_)
        refine lv_iload_n (pc := 45) hx hb dX4_doSetHour_45 rfl (lv_at hl 3 rfl) ?_
        refine lv_iconst (v := -1) (pc := 46) hx hb dX4_doSetHour_46 (by decide) ?_
        refine lv_icmp_ne (pc := 47) (tgt := 65) hx hb dX4_doSetHour_47 (by decide) (fun c_47 => ?_) (fun c_47 => ?_)
        · refine lv_iload_n (pc := 65) hx hb dX4_doSetHour_65 rfl (lv_at hl 0 rfl) ?_
          refine lv_iconst (v := -1) (pc := 66) hx hb dX4_doSetHour_66 (by decide) ?_
          refine lv_icmp_ne (pc := 67) (tgt := 76) hx hb dX4_doSetHour_67 (by decide) (fun c_67 => ?_) (fun c_67 => ?_)
          · refine lv_iload_n (pc := 76) hx hb dX4_doSetHour_76 rfl (lv_at hl 0 rfl) ?_
            exact z_iret (pc := 77) hx hb hr hlk hQ hz dX4_doSetHour_77 (by simp only [hourR, if_neg c_4, if_neg c_17, if_neg c_32, if_neg c_47, if_neg c_67, hnk]) (by simp only [hourC, if_neg c_4, if_neg c_17, if_neg c_32, if_neg c_47, if_neg c_67, hnk])
          · refine lv_sipush (v := 240) (pc := 70) hx hb dX4_doSetHour_70 (by decide) ?_
            refine lv_goto (tgt := 77) (pc := 73) hx hb dX4_doSetHour_73 (by decide) ?_
            exact z_iret (pc := 77) hx hb hr hlk hQ hz dX4_doSetHour_77 (by simp only [hourR, if_neg c_4, if_neg c_17, if_neg c_32, if_neg c_47, if_pos c_67, hnk]) (by simp only [hourC, if_neg c_4, if_neg c_17, if_neg c_32, if_neg c_47, if_pos c_67, hnk])
        · refine lv_aload_n (pc := 50) hx hb dX4_doSetHour_50 rfl (lv_at hl 1 rfl) ?_
          refine lv_iload_n (pc := 51) hx hb dX4_doSetHour_51 rfl (lv_at hl 2 rfl) ?_
          refine lv_bipush (v := 6) (pc := 52) hx hb dX4_doSetHour_52 (by decide) ?_
          refine lv_iconst (v := 0) (pc := 54) hx hb dX4_doSetHour_54 (by decide) ?_
          refine z_runV (pc := 55) (As := [.int (nI k), .int 6, .int 0]) (rest := []) (ws1 := mm ca a f h (u2 (u2 c k 4 hour) k 6 0) hi sn be tx ti) ⟨hx, hb, hml, hown, hts⟩ (k_X4_lay l G ca a f h (u2 c k 4 hour) hi sn be tx ti k 6 0 (by assumption) (by decide)) (cwV 3 hts (zgoodV zsub wq_4_12 wq_4_13 wq_4_14 wq_1_5 wq_4_15) rfl rfl rfl hdV_X4_lay ⟨Nat.le_of_ble_eq_true rfl, Nat.le_of_ble_eq_true rfl⟩) hz [] zp_all zp_all' rfl rfl rfl hl.1 (Nat.le_of_ble_eq_true rfl) (st1 := []) rfl dX4_doSetHour_55 ⟨Nat.zero_le _, Nat.zero_le _⟩ (fun H locs hz => ?_)
          refine lv_aload_n (pc := 58) hx hb dX4_doSetHour_58 rfl (lv_at hl 1 rfl) ?_
          refine lv_iload_n (pc := 59) hx hb dX4_doSetHour_59 rfl (lv_at hl 2 rfl) ?_
          refine lv_iconst (v := 5) (pc := 60) hx hb dX4_doSetHour_60 (by decide) ?_
          refine lv_iconst (v := 1) (pc := 61) hx hb dX4_doSetHour_61 (by decide) ?_
          refine z_runV (pc := 62) (As := [.int (nI k), .int 5, .int 1]) (rest := []) (ws1 := mm ca a f h (u2 (u2 (u2 c k 4 hour) k 6 0) k 5 1) hi sn be tx ti) ⟨hx, hb, hml, hown, hts⟩ (k_X4_lay l G ca a f h (u2 (u2 c k 4 hour) k 6 0) hi sn be tx ti k 5 1 (by assumption) (by decide)) (cwV 3 hts (zgoodV zsub wq_4_12 wq_4_13 wq_4_14 wq_1_5 wq_4_15) rfl rfl rfl hdV_X4_lay ⟨Nat.le_of_ble_eq_true rfl, Nat.le_of_ble_eq_true rfl⟩) hz [] zp_all zp_all' rfl rfl rfl hl.1 (Nat.le_of_ble_eq_true rfl) (st1 := []) rfl dX4_doSetHour_62 ⟨Nat.zero_le _, Nat.zero_le _⟩ (fun H locs hz => ?_)
          refine lv_iload_n (pc := 65) hx hb dX4_doSetHour_65 rfl (lv_at hl 0 rfl) ?_
          refine lv_iconst (v := -1) (pc := 66) hx hb dX4_doSetHour_66 (by decide) ?_
          refine lv_icmp_ne (pc := 67) (tgt := 76) hx hb dX4_doSetHour_67 (by decide) (fun c_67 => ?_) (fun c_67 => ?_)
          · refine lv_iload_n (pc := 76) hx hb dX4_doSetHour_76 rfl (lv_at hl 0 rfl) ?_
            exact z_iret (pc := 77) hx hb hr hlk hQ hz dX4_doSetHour_77 (by simp only [hourR, if_neg c_4, if_neg c_17, if_neg c_32, if_pos c_47, if_neg c_67, hnk]) (by simp only [hourC, if_neg c_4, if_neg c_17, if_neg c_32, if_pos c_47, if_neg c_67, hnk])
          · refine lv_sipush (v := 240) (pc := 70) hx hb dX4_doSetHour_70 (by decide) ?_
            refine lv_goto (tgt := 77) (pc := 73) hx hb dX4_doSetHour_73 (by decide) ?_
            exact z_iret (pc := 77) hx hb hr hlk hQ hz dX4_doSetHour_77 (by simp only [hourR, if_neg c_4, if_neg c_17, if_neg c_32, if_pos c_47, if_pos c_67, hnk]) (by simp only [hourC, if_neg c_4, if_neg c_17, if_neg c_32, if_pos c_47, if_pos c_67, hnk])
      · refine lv_bipush (v := -5) (pc := 35) hx hb dX4_doSetHour_35 (by decide) ?_
        exact z_iret (pc := 37) hx hb hr hlk hQ hz dX4_doSetHour_37 (by simp only [hourR, if_neg c_4, if_neg c_17, if_pos c_32, hnk]) (by simp only [hourC, if_neg c_4, if_neg c_17, if_pos c_32, hnk])
    · refine lv_bipush (v := -2) (pc := 20) hx hb dX4_doSetHour_20 (by decide) ?_
      exact z_iret (pc := 22) hx hb hr hlk hQ hz dX4_doSetHour_22 (by simp only [hourR, if_neg c_4, if_pos c_17, hnk]) (by simp only [hourC, if_neg c_4, if_pos c_17, hnk])
  · refine lv_iconst (v := -1) (pc := 7) hx hb dX4_doSetHour_7 (by decide) ?_
    exact z_iret (pc := 8) hx hb hr hlk hQ hz dX4_doSetHour_8 (by simp only [hourR, if_pos c_4]) (by simp only [hourC, if_pos c_4])

def rm_X4_doGuard : Room := { frames := 2, cells := 0, slots := 0, locals := 42 }
set_option maxRecDepth 20000 in
theorem hdV_X4_doGuard : yX4_doGuard.cls = RX4 ∧ yX4_doGuard.cls ≠ "java/lang/invoke/MethodHandle" ∧ yX4_doGuard.cls ≠ "java/lang/invoke/VarHandle" ∧ (parseMethodDescriptor yX4_doGuard.desc).map (fun d => d.parameters.length) = some 1 := by decide +kernel
set_option maxHeartbeats 4000000 in
set_option maxRecDepth 100000 in
theorem k_X4_doGuard (l : Launch) (G : va_G) (ca : Nat → ClassId) (a : Nat → Nat) (f h : Nat → Int32) (c : Nat → Nat → Int32) (hi sn be tx ti : Nat → Int32) (cup : Int32) : Zc l G ca yX4_doGuard (zws yX4_doGuard cX4_doGuard 2 (some .int)) rm_X4_doGuard [.ref (a 0), .int cup] (mm ca a f h c hi sn be tx ti) (some (.int (guardR c cup))) (mm ca a f h (guardC c cup) hi sn be tx ti) := by
  refine Zc.of (cc := cX4_doGuard) (maxL := 2) (ret := (some .int)) (by decide) rfl (Nat.le_of_ble_eq_true rfl) ?_
  intro pg ev s0 mt below meth cd A args Q ls hx hb hr hml hown hts hlk hQ hl hz
  have hl : lv_has ls 2 [(0, .ref (a 0)), (1, .int cup)] := hl
  refine lv_iload_n (pc := 0) hx hb dX4_doGuard_0 rfl (lv_at hl 1 rfl) ?_
  refine z_runS (pc := 1) (As := [.int cup]) (rest := []) (ws1 := mm ca a f h c hi sn be tx ti) ⟨hx, hb, hml, hown, hts⟩ (k_X4_isCup l G ca cup) (cwS 1 hts (zgoodS zsub wq_7_1 wq_7_2 wq_1_5 wq_7_3) rfl rfl rfl hdV_X4_isCup ⟨Nat.le_of_ble_eq_true rfl, Nat.le_of_ble_eq_true rfl⟩) hz (mm ca a f h c hi sn be tx ti) zp_no (List.Perm.refl _) rfl hl.1 (Nat.le_of_ble_eq_true rfl) (st1 := [.int (inF cup 0 7)]) rfl dX4_doGuard_1 ⟨Nat.zero_le _, Nat.zero_le _⟩ (fun H locs hz => ?_)
  refine lv_if_ne (pc := 4) (tgt := 9) hx hb dX4_doGuard_4 (by decide) (fun c_4 => ?_) (fun c_4 => ?_)
  · obtain ⟨k, hk, rfl⟩ := isCup_pos c_4
    have hnk : nn (nI k) = k := nn_nI (by omega)
    refine lv_aload_n (pc := 9) hx hb dX4_doGuard_9 rfl (lv_at hl 0 rfl) ?_
    refine lv_iload_n (pc := 10) hx hb dX4_doGuard_10 rfl (lv_at hl 1 rfl) ?_
    refine lv_iconst (v := 4) (pc := 11) hx hb dX4_doGuard_11 (by decide) ?_
    refine z_runV (pc := 12) (As := [.int (nI k), .int 4]) (rest := []) (ws1 := mm ca a f h c hi sn be tx ti) ⟨hx, hb, hml, hown, hts⟩ (k_X4_of l G ca a f h c hi sn be tx ti k 4 (by assumption) (by decide)) (cwV 2 hts (zgoodV zsub wq_7_10 wq_7_11 wq_7_12 wq_1_5 wq_7_13) rfl rfl rfl hdV_X4_of ⟨Nat.le_of_ble_eq_true rfl, Nat.le_of_ble_eq_true rfl⟩) hz [] zp_all zp_all' rfl rfl rfl hl.1 (Nat.le_of_ble_eq_true rfl) (st1 := [.int (c k 4)]) rfl dX4_doGuard_12 ⟨Nat.zero_le _, Nat.zero_le _⟩ (fun H locs hz => ?_)
    refine lv_iconst (v := -1) (pc := 15) hx hb dX4_doGuard_15 (by decide) ?_
    refine lv_icmp_ne (pc := 16) (tgt := 22) hx hb dX4_doGuard_16 (by decide) (fun c_16 => ?_) (fun c_16 => ?_)
    · refine lv_aload_n (pc := 22) hx hb dX4_doGuard_22 rfl (lv_at hl 0 rfl) ?_
      refine lv_iload_n (pc := 23) hx hb dX4_doGuard_23 rfl (lv_at hl 1 rfl) ?_
      refine lv_iconst (v := 5) (pc := 24) hx hb dX4_doGuard_24 (by decide) ?_
      refine lv_aload_n (pc := 25) hx hb dX4_doGuard_25 rfl (lv_at hl 0 rfl) ?_
      refine lv_iload_n (pc := 26) hx hb dX4_doGuard_26 rfl (lv_at hl 1 rfl) ?_
      refine lv_bipush (v := 6) (pc := 27) hx hb dX4_doGuard_27 (by decide) ?_
      refine z_runV (pc := 29) (As := [.int (nI k), .int 6]) (rest := [.int 5, .int (nI k), .ref (a 0)]) (ws1 := mm ca a f h c hi sn be tx ti) ⟨hx, hb, hml, hown, hts⟩ (k_X4_of l G ca a f h c hi sn be tx ti k 6 (by assumption) (by decide)) (cwV 2 hts (zgoodV zsub wq_7_10 wq_7_11 wq_7_12 wq_1_5 wq_7_13) rfl rfl rfl hdV_X4_of ⟨Nat.le_of_ble_eq_true rfl, Nat.le_of_ble_eq_true rfl⟩) hz [] zp_all zp_all' rfl rfl rfl hl.1 (Nat.le_of_ble_eq_true rfl) (st1 := [.int (c k 6), .int 5, .int (nI k), .ref (a 0)]) rfl dX4_doGuard_29 ⟨Nat.zero_le _, Nat.zero_le _⟩ (fun H locs hz => ?_)
      refine z_runV (pc := 32) (As := [.int (nI k), .int 5, .int (c k 6)]) (rest := []) (ws1 := mm ca a f h (u2 c k 5 (c k 6)) hi sn be tx ti) ⟨hx, hb, hml, hown, hts⟩ (k_X4_lay l G ca a f h c hi sn be tx ti k 5 (c k 6) (by assumption) (by decide)) (cwV 3 hts (zgoodV zsub wq_4_12 wq_4_13 wq_4_14 wq_1_5 wq_4_15) rfl rfl rfl hdV_X4_lay ⟨Nat.le_of_ble_eq_true rfl, Nat.le_of_ble_eq_true rfl⟩) hz [] zp_all zp_all' rfl rfl rfl hl.1 (Nat.le_of_ble_eq_true rfl) (st1 := []) rfl dX4_doGuard_32 ⟨Nat.zero_le _, Nat.zero_le _⟩ (fun H locs hz => ?_)
      refine lv_aload_n (pc := 35) hx hb dX4_doGuard_35 rfl (lv_at hl 0 rfl) ?_
      refine lv_iload_n (pc := 36) hx hb dX4_doGuard_36 rfl (lv_at hl 1 rfl) ?_
      refine lv_bipush (v := 6) (pc := 37) hx hb dX4_doGuard_37 (by decide) ?_
      refine lv_iconst (v := 1) (pc := 39) hx hb dX4_doGuard_39 (by decide) ?_
      refine lv_aload_n (pc := 40) hx hb dX4_doGuard_40 rfl (lv_at hl 0 rfl) ?_
      refine lv_iload_n (pc := 41) hx hb dX4_doGuard_41 rfl (lv_at hl 1 rfl) ?_
      refine lv_bipush (v := 6) (pc := 42) hx hb dX4_doGuard_42 (by decide) ?_
      refine z_runV (pc := 44) (As := [.int (nI k), .int 6]) (rest := [.int 1, .int 6, .int (nI k), .ref (a 0)]) (ws1 := mm ca a f h (u2 c k 5 (c k 6)) hi sn be tx ti) ⟨hx, hb, hml, hown, hts⟩ (k_X4_of l G ca a f h (u2 c k 5 (c k 6)) hi sn be tx ti k 6 (by assumption) (by decide)) (cwV 2 hts (zgoodV zsub wq_7_10 wq_7_11 wq_7_12 wq_1_5 wq_7_13) rfl rfl rfl hdV_X4_of ⟨Nat.le_of_ble_eq_true rfl, Nat.le_of_ble_eq_true rfl⟩) hz [] zp_all zp_all' rfl rfl rfl hl.1 (Nat.le_of_ble_eq_true rfl) (st1 := [.int ((u2 c k 5 (c k 6)) k 6), .int 1, .int 6, .int (nI k), .ref (a 0)]) rfl dX4_doGuard_44 ⟨Nat.zero_le _, Nat.zero_le _⟩ (fun H locs hz => ?_)
      rw [u2_nw (show (6 : Nat) ≠ 5 by decide)]
      refine lv_isub (pc := 47) hx hb dX4_doGuard_47 ?_
      refine z_runV (pc := 48) (As := [.int (nI k), .int 6, .int (1 - (c k 6))]) (rest := []) (ws1 := mm ca a f h (u2 (u2 c k 5 (c k 6)) k 6 (1 - (c k 6))) hi sn be tx ti) ⟨hx, hb, hml, hown, hts⟩ (k_X4_lay l G ca a f h (u2 c k 5 (c k 6)) hi sn be tx ti k 6 (1 - (c k 6)) (by assumption) (by decide)) (cwV 3 hts (zgoodV zsub wq_4_12 wq_4_13 wq_4_14 wq_1_5 wq_4_15) rfl rfl rfl hdV_X4_lay ⟨Nat.le_of_ble_eq_true rfl, Nat.le_of_ble_eq_true rfl⟩) hz [] zp_all zp_all' rfl rfl rfl hl.1 (Nat.le_of_ble_eq_true rfl) (st1 := []) rfl dX4_doGuard_48 ⟨Nat.zero_le _, Nat.zero_le _⟩ (fun H locs hz => ?_)
      refine lv_aload_n (pc := 51) hx hb dX4_doGuard_51 rfl (lv_at hl 0 rfl) ?_
      refine lv_iload_n (pc := 52) hx hb dX4_doGuard_52 rfl (lv_at hl 1 rfl) ?_
      refine lv_bipush (v := 6) (pc := 53) hx hb dX4_doGuard_53 (by decide) ?_
      refine z_runV (pc := 55) (As := [.int (nI k), .int 6]) (rest := []) (ws1 := mm ca a f h (u2 (u2 c k 5 (c k 6)) k 6 (1 - (c k 6))) hi sn be tx ti) ⟨hx, hb, hml, hown, hts⟩ (k_X4_of l G ca a f h (u2 (u2 c k 5 (c k 6)) k 6 (1 - (c k 6))) hi sn be tx ti k 6 (by assumption) (by decide)) (cwV 2 hts (zgoodV zsub wq_7_10 wq_7_11 wq_7_12 wq_1_5 wq_7_13) rfl rfl rfl hdV_X4_of ⟨Nat.le_of_ble_eq_true rfl, Nat.le_of_ble_eq_true rfl⟩) hz [] zp_all zp_all' rfl rfl rfl hl.1 (Nat.le_of_ble_eq_true rfl) (st1 := [.int ((u2 (u2 c k 5 (c k 6)) k 6 (1 - (c k 6))) k 6)]) rfl dX4_doGuard_55 ⟨Nat.zero_le _, Nat.zero_le _⟩ (fun H locs hz => ?_)
      refine z_top (y := 1 - c k 6) u2_s ?_
      exact z_iret (pc := 58) hx hb hr hlk hQ hz dX4_doGuard_58 (by simp only [guardR, if_neg c_4, if_neg c_16, hnk]) (by simp only [guardC, if_neg c_4, if_neg c_16, hnk])
    · refine lv_bipush (v := -4) (pc := 19) hx hb dX4_doGuard_19 (by decide) ?_
      exact z_iret (pc := 21) hx hb hr hlk hQ hz dX4_doGuard_21 (by simp only [guardR, if_neg c_4, if_pos c_16, hnk]) (by simp only [guardC, if_neg c_4, if_pos c_16, hnk])
  · refine lv_iconst (v := -1) (pc := 7) hx hb dX4_doGuard_7 (by decide) ?_
    exact z_iret (pc := 8) hx hb hr hlk hQ hz dX4_doGuard_8 (by simp only [guardR, if_pos c_4]) (by simp only [guardC, if_pos c_4])

def rm_X4_doFill : Room := { frames := 2, cells := 0, slots := 0, locals := 42 }
set_option maxRecDepth 20000 in
theorem hdV_X4_doFill : yX4_doFill.cls = RX4 ∧ yX4_doFill.cls ≠ "java/lang/invoke/MethodHandle" ∧ yX4_doFill.cls ≠ "java/lang/invoke/VarHandle" ∧ (parseMethodDescriptor yX4_doFill.desc).map (fun d => d.parameters.length) = some 2 := by decide +kernel
set_option maxHeartbeats 4000000 in
set_option maxRecDepth 100000 in
theorem k_X4_doFill (l : Launch) (G : va_G) (ca : Nat → ClassId) (a : Nat → Nat) (f h : Nat → Int32) (c : Nat → Nat → Int32) (hi sn be tx ti : Nat → Int32) (cup water : Int32) : Zc l G ca yX4_doFill (zws yX4_doFill cX4_doFill 3 (some .int)) rm_X4_doFill [.ref (a 0), .int cup, .int water] (mm ca a f h c hi sn be tx ti) (some (.int (fillR c cup water))) (mm ca a f (fillH h c cup water) (fillC c cup water) hi sn be tx ti) := by
  refine Zc.of (cc := cX4_doFill) (maxL := 3) (ret := (some .int)) (by decide) rfl (Nat.le_of_ble_eq_true rfl) ?_
  intro pg ev s0 mt below meth cd A args Q ls hx hb hr hml hown hts hlk hQ hl hz
  have L7 : (Cond.fieldLink RX4 7 "CupFountainModel" "s" "[I").before args s0 = true := hts _ (zsub _ wq_4_4)
  have hinX4 : ∀ w ∈ wsX40, w ∈ zws yX4_doFill cX4_doFill 3 (some .int) := fun w h => zsub w (wl_wsX40 w h)
  have hl : lv_has ls 3 [(0, .ref (a 0)), (1, .int cup), (2, .int water)] := hl
  refine lv_iload_n (pc := 0) hx hb dX4_doFill_0 rfl (lv_at hl 1 rfl) ?_
  refine z_runS (pc := 1) (As := [.int cup]) (rest := []) (ws1 := mm ca a f h c hi sn be tx ti) ⟨hx, hb, hml, hown, hts⟩ (k_X4_isCup l G ca cup) (cwS 1 hts (zgoodS zsub wq_7_1 wq_7_2 wq_1_5 wq_7_3) rfl rfl rfl hdV_X4_isCup ⟨Nat.le_of_ble_eq_true rfl, Nat.le_of_ble_eq_true rfl⟩) hz (mm ca a f h c hi sn be tx ti) zp_no (List.Perm.refl _) rfl hl.1 (Nat.le_of_ble_eq_true rfl) (st1 := [.int (inF cup 0 7)]) rfl dX4_doFill_1 ⟨Nat.zero_le _, Nat.zero_le _⟩ (fun H locs hz => ?_)
  refine lv_if_ne (pc := 4) (tgt := 9) hx hb dX4_doFill_4 (by decide) (fun c_4 => ?_) (fun c_4 => ?_)
  · obtain ⟨k, hk, rfl⟩ := isCup_pos c_4
    have hnk : nn (nI k) = k := nn_nI (by omega)
    refine lv_iload_n (pc := 9) hx hb dX4_doFill_9 rfl (lv_at hl 2 rfl) ?_
    refine lv_iconst (v := 1) (pc := 10) hx hb dX4_doFill_10 (by decide) ?_
    refine lv_bipush (v := 99) (pc := 11) hx hb dX4_doFill_11 (by decide) ?_
    refine z_runS (pc := 13) (As := [.int water, .int 1, .int 99]) (rest := []) (ws1 := mm ca a f h c hi sn be tx ti) ⟨hx, hb, hml, hown, hts⟩ (k_X4_in l G ca water 1 99) (cwS 3 hts (zgoodS zsub wq_7_4 wq_7_5 wq_1_5 wq_7_6) rfl rfl rfl hdV_X4_in ⟨Nat.le_of_ble_eq_true rfl, Nat.le_of_ble_eq_true rfl⟩) hz (mm ca a f h c hi sn be tx ti) zp_no (List.Perm.refl _) rfl hl.1 (Nat.le_of_ble_eq_true rfl) (st1 := [.int (inF water 1 99)]) rfl dX4_doFill_13 ⟨Nat.zero_le _, Nat.zero_le _⟩ (fun H locs hz => ?_)
    refine lv_if_ne (pc := 16) (tgt := 22) hx hb dX4_doFill_16 (by decide) (fun c_16 => ?_) (fun c_16 => ?_)
    · refine lv_aload_n (pc := 22) hx hb dX4_doFill_22 rfl (lv_at hl 0 rfl) ?_
      refine lv_iload_n (pc := 23) hx hb dX4_doFill_23 rfl (lv_at hl 1 rfl) ?_
      refine lv_iconst (v := 3) (pc := 24) hx hb dX4_doFill_24 (by decide) ?_
      refine z_runV (pc := 25) (As := [.int (nI k), .int 3]) (rest := []) (ws1 := mm ca a f h c hi sn be tx ti) ⟨hx, hb, hml, hown, hts⟩ (k_X4_of l G ca a f h c hi sn be tx ti k 3 (by assumption) (by decide)) (cwV 2 hts (zgoodV zsub wq_7_10 wq_7_11 wq_7_12 wq_1_5 wq_7_13) rfl rfl rfl hdV_X4_of ⟨Nat.le_of_ble_eq_true rfl, Nat.le_of_ble_eq_true rfl⟩) hz [] zp_all zp_all' rfl rfl rfl hl.1 (Nat.le_of_ble_eq_true rfl) (st1 := [.int (c k 3)]) rfl dX4_doFill_25 ⟨Nat.zero_le _, Nat.zero_le _⟩ (fun H locs hz => ?_)
      refine lv_iload_n (pc := 28) hx hb dX4_doFill_28 rfl (lv_at hl 2 rfl) ?_
      refine lv_iadd (pc := 29) hx hb dX4_doFill_29 ?_
      refine lv_sipush (v := 9999) (pc := 30) hx hb dX4_doFill_30 (by decide) ?_
      refine lv_icmp_le (pc := 33) (tgt := 39) hx hb dX4_doFill_33 (by decide) (fun c_33 => ?_) (fun c_33 => ?_)
      · refine lv_aload_n (pc := 39) hx hb dX4_doFill_39 rfl (lv_at hl 0 rfl) ?_
        refine lv_iload_n (pc := 40) hx hb dX4_doFill_40 rfl (lv_at hl 1 rfl) ?_
        refine lv_iconst (v := 3) (pc := 41) hx hb dX4_doFill_41 (by decide) ?_
        refine lv_aload_n (pc := 42) hx hb dX4_doFill_42 rfl (lv_at hl 0 rfl) ?_
        refine lv_iload_n (pc := 43) hx hb dX4_doFill_43 rfl (lv_at hl 1 rfl) ?_
        refine lv_iconst (v := 3) (pc := 44) hx hb dX4_doFill_44 (by decide) ?_
        refine z_runV (pc := 45) (As := [.int (nI k), .int 3]) (rest := [.int 3, .int (nI k), .ref (a 0)]) (ws1 := mm ca a f h c hi sn be tx ti) ⟨hx, hb, hml, hown, hts⟩ (k_X4_of l G ca a f h c hi sn be tx ti k 3 (by assumption) (by decide)) (cwV 2 hts (zgoodV zsub wq_7_10 wq_7_11 wq_7_12 wq_1_5 wq_7_13) rfl rfl rfl hdV_X4_of ⟨Nat.le_of_ble_eq_true rfl, Nat.le_of_ble_eq_true rfl⟩) hz [] zp_all zp_all' rfl rfl rfl hl.1 (Nat.le_of_ble_eq_true rfl) (st1 := [.int (c k 3), .int 3, .int (nI k), .ref (a 0)]) rfl dX4_doFill_45 ⟨Nat.zero_le _, Nat.zero_le _⟩ (fun H locs hz => ?_)
        refine lv_iload_n (pc := 48) hx hb dX4_doFill_48 rfl (lv_at hl 2 rfl) ?_
        refine lv_iadd (pc := 49) hx hb dX4_doFill_49 ?_
        refine z_runV (pc := 50) (As := [.int (nI k), .int 3, .int ((c k 3) + water)]) (rest := []) (ws1 := mm ca a f h (u2 c k 3 ((c k 3) + water)) hi sn be tx ti) ⟨hx, hb, hml, hown, hts⟩ (k_X4_lay l G ca a f h c hi sn be tx ti k 3 ((c k 3) + water) (by assumption) (by decide)) (cwV 3 hts (zgoodV zsub wq_4_12 wq_4_13 wq_4_14 wq_1_5 wq_4_15) rfl rfl rfl hdV_X4_lay ⟨Nat.le_of_ble_eq_true rfl, Nat.le_of_ble_eq_true rfl⟩) hz [] zp_all zp_all' rfl rfl rfl hl.1 (Nat.le_of_ble_eq_true rfl) (st1 := []) rfl dX4_doFill_50 ⟨Nat.zero_le _, Nat.zero_le _⟩ (fun H locs hz => ?_)
        refine lv_aload_n (pc := 53) hx hb dX4_doFill_53 rfl (lv_at hl 0 rfl) ?_
        refine z_get (own := RX4) (ref := "CupFountainModel") (C := RX4) (T := TX4) (N := 17) (ci := 4) (v := .ref (a 1)) (pc := 54) hx hb hts hinX4 hown hz 0 rfl rfl 0 (by decide) L7 rfl rfl dX4_doFill_54 ?_
        refine lv_iconst (v := 4) (pc := 57) hx hb dX4_doFill_57 (by decide) ?_
        refine lv_dup2_11 (pc := 58) hx hb dX4_doFill_58 rfl rfl ?_
        refine z_iald (x := h 4) (pc := 59) hx hb hz 1 rfl 4 rfl (by decide) (by decide) (enc_h (by decide)) dX4_doFill_59 ?_
        refine lv_iload_n (pc := 60) hx hb dX4_doFill_60 rfl (lv_at hl 2 rfl) ?_
        refine lv_iadd (pc := 61) hx hb dX4_doFill_61 ?_
        refine z_iast (ws1 := mm ca a f (upd h 4 ((h 4) + water)) (u2 c k 3 ((c k 3) + water)) hi sn be tx ti) (pc := 62) hx hb hz 1 rfl 4 rfl (by decide) (by decide) (by rw [enc_uh (by decide)]; rfl) dX4_doFill_62 (fun H locs hz => ?_)
        refine lv_aload_n (pc := 63) hx hb dX4_doFill_63 rfl (lv_at hl 0 rfl) ?_
        refine lv_iload_n (pc := 64) hx hb dX4_doFill_64 rfl (lv_at hl 1 rfl) ?_
        refine lv_iconst (v := 3) (pc := 65) hx hb dX4_doFill_65 (by decide) ?_
        refine z_runV (pc := 66) (As := [.int (nI k), .int 3]) (rest := []) (ws1 := mm ca a f (upd h 4 ((h 4) + water)) (u2 c k 3 ((c k 3) + water)) hi sn be tx ti) ⟨hx, hb, hml, hown, hts⟩ (k_X4_of l G ca a f (upd h 4 ((h 4) + water)) (u2 c k 3 ((c k 3) + water)) hi sn be tx ti k 3 (by assumption) (by decide)) (cwV 2 hts (zgoodV zsub wq_7_10 wq_7_11 wq_7_12 wq_1_5 wq_7_13) rfl rfl rfl hdV_X4_of ⟨Nat.le_of_ble_eq_true rfl, Nat.le_of_ble_eq_true rfl⟩) hz [] zp_all zp_all' rfl rfl rfl hl.1 (Nat.le_of_ble_eq_true rfl) (st1 := [.int ((u2 c k 3 ((c k 3) + water)) k 3)]) rfl dX4_doFill_66 ⟨Nat.zero_le _, Nat.zero_le _⟩ (fun H locs hz => ?_)
        refine z_top (y := c k 3 + water) u2_s ?_
        exact z_iret (pc := 69) hx hb hr hlk hQ hz dX4_doFill_69 (by simp only [fillR, if_neg c_4, if_neg c_16, if_pos c_33, hnk]) (by simp only [fillC, fillH, if_neg c_4, if_neg c_16, if_pos c_33, hnk])
      · refine lv_bipush (v := -3) (pc := 36) hx hb dX4_doFill_36 (by decide) ?_
        exact z_iret (pc := 38) hx hb hr hlk hQ hz dX4_doFill_38 (by simp only [fillR, if_neg c_4, if_neg c_16, if_neg c_33, hnk]) (by simp only [fillC, fillH, if_neg c_4, if_neg c_16, if_neg c_33, hnk])
    · refine lv_bipush (v := -2) (pc := 19) hx hb dX4_doFill_19 (by decide) ?_
      exact z_iret (pc := 21) hx hb hr hlk hQ hz dX4_doFill_21 (by simp only [fillR, if_neg c_4, if_pos c_16, hnk]) (by simp only [fillC, fillH, if_neg c_4, if_pos c_16, hnk])
  · refine lv_iconst (v := -1) (pc := 7) hx hb dX4_doFill_7 (by decide) ?_
    exact z_iret (pc := 8) hx hb hr hlk hQ hz dX4_doFill_8 (by simp only [fillR, if_pos c_4]) (by simp only [fillC, fillH, if_pos c_4])

def rm_X4_doSet : Room := { frames := 1, cells := 0, slots := 0, locals := 22 }
set_option maxRecDepth 20000 in
theorem hdV_X4_doSet : yX4_doSet.cls = RX4 ∧ yX4_doSet.cls ≠ "java/lang/invoke/MethodHandle" ∧ yX4_doSet.cls ≠ "java/lang/invoke/VarHandle" ∧ (parseMethodDescriptor yX4_doSet.desc).map (fun d => d.parameters.length) = some 2 := by decide +kernel
set_option maxHeartbeats 4000000 in
set_option maxRecDepth 100000 in
theorem k_X4_doSet (l : Launch) (G : va_G) (ca : Nat → ClassId) (a : Nat → Nat) (f h : Nat → Int32) (c : Nat → Nat → Int32) (hi sn be tx ti : Nat → Int32) (which value : Int32) : Zc l G ca yX4_doSet (zws yX4_doSet cX4_doSet 4 (some .int)) rm_X4_doSet [.ref (a 0), .int which, .int value] (mm ca a f h c hi sn be tx ti) (some (.int (putR h which value))) (mm ca a f (putH h which value) c hi sn be tx ti) := by
  refine Zc.of (cc := cX4_doSet) (maxL := 4) (ret := (some .int)) (by decide) rfl (Nat.le_of_ble_eq_true rfl) ?_
  intro pg ev s0 mt below meth cd A args Q ls hx hb hr hml hown hts hlk hQ hl hz
  have L7 : (Cond.fieldLink RX4 7 "CupFountainModel" "s" "[I").before args s0 = true := hts _ (zsub _ wq_4_4)
  have hinX4 : ∀ w ∈ wsX40, w ∈ zws yX4_doSet cX4_doSet 4 (some .int) := fun w h => zsub w (wl_wsX40 w h)
  have hl : lv_has ls 4 [(0, .ref (a 0)), (1, .int which), (2, .int value)] := hl
  refine lv_iload_n (pc := 0) hx hb dX4_doSet_0 rfl (lv_at hl 1 rfl) ?_
  refine lv_iconst (v := 0) (pc := 1) hx hb dX4_doSet_1 (by decide) ?_
  refine lv_iconst (v := 2) (pc := 2) hx hb dX4_doSet_2 (by decide) ?_
  refine z_runS (pc := 3) (As := [.int which, .int 0, .int 2]) (rest := []) (ws1 := mm ca a f h c hi sn be tx ti) ⟨hx, hb, hml, hown, hts⟩ (k_X4_in l G ca which 0 2) (cwS 3 hts (zgoodS zsub wq_7_4 wq_7_5 wq_1_5 wq_7_6) rfl rfl rfl hdV_X4_in ⟨Nat.le_of_ble_eq_true rfl, Nat.le_of_ble_eq_true rfl⟩) hz (mm ca a f h c hi sn be tx ti) zp_no (List.Perm.refl _) rfl hl.1 (Nat.le_of_ble_eq_true rfl) (st1 := [.int (inF which 0 2)]) rfl dX4_doSet_3 ⟨Nat.zero_le _, Nat.zero_le _⟩ (fun H locs hz => ?_)
  refine lv_if_ne (pc := 6) (tgt := 11) hx hb dX4_doSet_6 (by decide) (fun c_6 => ?_) (fun c_6 => ?_)
  · obtain ⟨j, hj, rfl⟩ := i32_nI (n := 2) (Or.inl rfl) rfl (by decide) (inF_ne c_6)
    have hnk : nn (nI j) = j := nn_nI (by omega)
    refine lv_iload_n (pc := 11) hx hb dX4_doSet_11 rfl (lv_at hl 2 rfl) ?_
    refine lv_iload_n (pc := 12) hx hb dX4_doSet_12 rfl (lv_at hl 1 rfl) ?_
    refine lv_iconst (v := 2) (pc := 13) hx hb dX4_doSet_13 (by decide) ?_
    have J1 : ∀ (H : Heap) (locs : List Loc) (ls : Array Slot), zw G ca A s0.heap s0 (mm ca a f h c hi sn be tx ti) H locs → lv_has ls 4 [(0, .ref (a 0)), (1, .int (nI j)), (2, .int value)] → W pg l ev rm_X4_doSet s0 mt args below meth cd H locs 0 0 Q (F0 mt 22 ls [.int (if nI j = 2 then 1 else 0), .int value]) := by
      intro H locs ls hz hl
      refine lv_iload_n (pc := 22) hx hb dX4_doSet_22 rfl (lv_at hl 1 rfl) ?_
      refine lv_iconst (v := 2) (pc := 23) hx hb dX4_doSet_23 (by decide) ?_
      have J2 : ∀ (H : Heap) (locs : List Loc) (ls : Array Slot), zw G ca A s0.heap s0 (mm ca a f h c hi sn be tx ti) H locs → lv_has ls 4 [(0, .ref (a 0)), (1, .int (nI j)), (2, .int value)] → W pg l ev rm_X4_doSet s0 mt args below meth cd H locs 0 0 Q (F0 mt 35 ls [.int (if nI j = 2 then 240 else 99), .int (if nI j = 2 then 1 else 0), .int value]) := by
        intro H locs ls hz hl
        refine z_runS (pc := 35) (As := [.int value, .int (if nI j = 2 then 1 else 0), .int (if nI j = 2 then 240 else 99)]) (rest := []) (ws1 := mm ca a f h c hi sn be tx ti) ⟨hx, hb, hml, hown, hts⟩ (k_X4_in l G ca value (if nI j = 2 then 1 else 0) (if nI j = 2 then 240 else 99)) (cwS 3 hts (zgoodS zsub wq_7_4 wq_7_5 wq_1_5 wq_7_6) rfl rfl rfl hdV_X4_in ⟨Nat.le_of_ble_eq_true rfl, Nat.le_of_ble_eq_true rfl⟩) hz (mm ca a f h c hi sn be tx ti) zp_no (List.Perm.refl _) rfl hl.1 (Nat.le_of_ble_eq_true rfl) (st1 := [.int (inF value (if nI j = 2 then 1 else 0) (if nI j = 2 then 240 else 99))]) rfl dX4_doSet_35 ⟨Nat.zero_le _, Nat.zero_le _⟩ (fun H locs hz => ?_)
        refine lv_if_ne (pc := 38) (tgt := 44) hx hb dX4_doSet_38 (by decide) (fun c_38 => ?_) (fun c_38 => ?_)
        · refine lv_aload_n (pc := 44) hx hb dX4_doSet_44 rfl (lv_at hl 0 rfl) ?_
          refine z_get (own := RX4) (ref := "CupFountainModel") (C := RX4) (T := TX4) (N := 17) (ci := 4) (v := .ref (a 1)) (pc := 45) hx hb hts hinX4 hown hz 0 rfl rfl 0 (by decide) L7 rfl rfl dX4_doSet_45 ?_
          refine lv_iconst (v := 5) (pc := 48) hx hb dX4_doSet_48 (by decide) ?_
          refine lv_iload_n (pc := 49) hx hb dX4_doSet_49 rfl (lv_at hl 1 rfl) ?_
          refine lv_iadd (pc := 50) hx hb dX4_doSet_50 ?_
          refine z_iald (x := h (5 + j)) (pc := 51) hx hb hz 1 rfl (5 + j) (nI_add 5 j) (by omega) (by decide) (enc_h (by omega)) dX4_doSet_51 ?_
          refine lv_istore_n (lv' := [(3, .int (h (5 + j))), (0, .ref (a 0)), (1, .int (nI j)), (2, .int value)]) (pc := 52) hx hb dX4_doSet_52 rfl hl (by decide) rfl (fun ls hl => ?_)
          refine lv_aload_n (pc := 53) hx hb dX4_doSet_53 rfl (lv_at hl 1 rfl) ?_
          refine z_get (own := RX4) (ref := "CupFountainModel") (C := RX4) (T := TX4) (N := 17) (ci := 4) (v := .ref (a 1)) (pc := 54) hx hb hts hinX4 hown hz 0 rfl rfl 0 (by decide) L7 rfl rfl dX4_doSet_54 ?_
          refine lv_iconst (v := 5) (pc := 57) hx hb dX4_doSet_57 (by decide) ?_
          refine lv_iload_n (pc := 58) hx hb dX4_doSet_58 rfl (lv_at hl 2 rfl) ?_
          refine lv_iadd (pc := 59) hx hb dX4_doSet_59 ?_
          refine lv_iload_n (pc := 60) hx hb dX4_doSet_60 rfl (lv_at hl 3 rfl) ?_
          refine z_iast (ws1 := mm ca a f (upd h (5 + j) value) c hi sn be tx ti) (pc := 61) hx hb hz 1 rfl (5 + j) (nI_add 5 j) (by omega) (by decide) (by rw [enc_uh (by omega)]; rfl) dX4_doSet_61 (fun H locs hz => ?_)
          refine lv_iload_n (pc := 62) hx hb dX4_doSet_62 rfl (lv_at hl 0 rfl) ?_
          refine lv_iload_n (pc := 63) hx hb dX4_doSet_63 rfl (lv_at hl 3 rfl) ?_
          refine lv_icmp_ne (pc := 64) (tgt := 72) hx hb dX4_doSet_64 (by decide) (fun c_64 => ?_) (fun c_64 => ?_)
          · refine lv_iload_n (pc := 72) hx hb dX4_doSet_72 rfl (lv_at hl 0 rfl) ?_
            exact z_iret (pc := 73) hx hb hr hlk hQ hz dX4_doSet_73 (by simp only [putR, if_neg c_6, if_neg c_38, if_neg c_64, hnk]) (by simp only [putH, if_neg c_6, if_neg c_38, if_neg c_64, hnk])
          · refine lv_bipush (v := -5) (pc := 67) hx hb dX4_doSet_67 (by decide) ?_
            refine lv_goto (tgt := 73) (pc := 69) hx hb dX4_doSet_69 (by decide) ?_
            exact z_iret (pc := 73) hx hb hr hlk hQ hz dX4_doSet_73 (by simp only [putR, if_neg c_6, if_neg c_38, if_pos c_64, hnk]) (by simp only [putH, if_neg c_6, if_neg c_38, if_pos c_64, hnk])
        · refine lv_bipush (v := -2) (pc := 41) hx hb dX4_doSet_41 (by decide) ?_
          exact z_iret (pc := 43) hx hb hr hlk hQ hz dX4_doSet_43 (by simp only [putR, if_neg c_6, if_pos c_38, hnk]) (by simp only [putH, if_neg c_6, if_pos c_38, hnk])
      refine lv_icmp_ne (pc := 24) (tgt := 33) hx hb dX4_doSet_24 (by decide) (fun c_24 => ?_) (fun c_24 => ?_)
      · refine lv_bipush (v := 99) (pc := 33) hx hb dX4_doSet_33 (by decide) ?_
        exact z_top (by simp only [if_neg c_24]) (J2 _ _ _ hz (lv_sub hl [0, 1, 2] rfl))
      · refine lv_sipush (v := 240) (pc := 27) hx hb dX4_doSet_27 (by decide) ?_
        refine lv_goto (tgt := 35) (pc := 30) hx hb dX4_doSet_30 (by decide) ?_
        exact z_top (by simp only [if_pos c_24]) (J2 _ _ _ hz (lv_sub hl [0, 1, 2] rfl))
    refine lv_icmp_ne (pc := 14) (tgt := 21) hx hb dX4_doSet_14 (by decide) (fun c_14 => ?_) (fun c_14 => ?_)
    · refine lv_iconst (v := 0) (pc := 21) hx hb dX4_doSet_21 (by decide) ?_
      exact z_top (by simp only [if_neg c_14]) (J1 _ _ _ hz (lv_sub hl [0, 1, 2] rfl))
    · refine lv_iconst (v := 1) (pc := 17) hx hb dX4_doSet_17 (by decide) ?_
      refine lv_goto (tgt := 22) (pc := 18) hx hb dX4_doSet_18 (by decide) ?_
      exact z_top (by simp only [if_pos c_14]) (J1 _ _ _ hz (lv_sub hl [0, 1, 2] rfl))
  · refine lv_iconst (v := -1) (pc := 9) hx hb dX4_doSet_9 (by decide) ?_
    exact z_iret (pc := 10) hx hb hr hlk hQ hz dX4_doSet_10 (by simp only [putR, if_pos c_6]) (by simp only [putH, if_pos c_6])

def rm_X4_doPass : Room := { frames := 4, cells := 0, slots := 0, locals := 96 }
set_option maxRecDepth 20000 in
theorem hdV_X4_doPass : yX4_doPass.cls = RX4 ∧ yX4_doPass.cls ≠ "java/lang/invoke/MethodHandle" ∧ yX4_doPass.cls ≠ "java/lang/invoke/VarHandle" ∧ (parseMethodDescriptor yX4_doPass.desc).map (fun d => d.parameters.length) = some 1 := by decide +kernel
set_option maxHeartbeats 4000000 in
set_option maxRecDepth 100000 in
theorem k_X4_doPass (l : Launch) (G : va_G) (ca : Nat → ClassId) (a : Nat → Nat) (f h : Nat → Int32) (c : Nat → Nat → Int32) (hi sn be tx ti : Nat → Int32) (ticks : Int32) (hok : okP (h, c)) : Zc l G ca yX4_doPass (zws yX4_doPass cX4_doPass 4 (some .int)) rm_X4_doPass [.ref (a 0), .int ticks] (mm ca a f h c hi sn be tx ti) (some (.int (passR (h, c) ticks))) (mm ca a f ((tkN (h, c) (passN (h, c) ticks)).1) ((tkN (h, c) (passN (h, c) ticks)).2) hi sn be tx (tkT (h, c) ti (passN (h, c) ticks))) := by
  refine Zc.of (cc := cX4_doPass) (maxL := 4) (ret := (some .int)) (by decide) rfl (Nat.le_of_ble_eq_true rfl) ?_
  intro pg ev s0 mt below meth cd A args Q ls hx hb hr hml hown hts hlk hQ hl hz
  have L7 : (Cond.fieldLink RX4 7 "CupFountainModel" "s" "[I").before args s0 = true := hts _ (zsub _ wq_4_4)
  have hinX4 : ∀ w ∈ wsX40, w ∈ zws yX4_doPass cX4_doPass 4 (some .int) := fun w h => zsub w (wl_wsX40 w h)
  have hl : lv_has ls 4 [(0, .ref (a 0)), (1, .int ticks)] := hl
  refine lv_iload_n (pc := 0) hx hb dX4_doPass_0 rfl (lv_at hl 1 rfl) ?_
  refine lv_iconst (v := 1) (pc := 1) hx hb dX4_doPass_1 (by decide) ?_
  refine lv_bipush (v := 99) (pc := 2) hx hb dX4_doPass_2 (by decide) ?_
  refine z_runS (pc := 4) (As := [.int ticks, .int 1, .int 99]) (rest := []) (ws1 := mm ca a f h c hi sn be tx ti) ⟨hx, hb, hml, hown, hts⟩ (k_X4_in l G ca ticks 1 99) (cwS 3 hts (zgoodS zsub wq_7_4 wq_7_5 wq_1_5 wq_7_6) rfl rfl rfl hdV_X4_in ⟨Nat.le_of_ble_eq_true rfl, Nat.le_of_ble_eq_true rfl⟩) hz (mm ca a f h c hi sn be tx ti) zp_no (List.Perm.refl _) rfl hl.1 (Nat.le_of_ble_eq_true rfl) (st1 := [.int (inF ticks 1 99)]) rfl dX4_doPass_4 ⟨Nat.zero_le _, Nat.zero_le _⟩ (fun H locs hz => ?_)
  refine lv_if_ne (pc := 7) (tgt := 13) hx hb dX4_doPass_7 (by decide) (fun c_7 => ?_) (fun c_7 => ?_)
  · obtain ⟨n, hn, rfl⟩ := i32_nI (n := 99) (Or.inr rfl) rfl (by decide) (inF_ne c_7)
    have hnk : nn (nI n) = n := nn_nI (by omega)
    refine lv_aload_n (pc := 13) hx hb dX4_doPass_13 rfl (lv_at hl 0 rfl) ?_
    refine z_get (own := RX4) (ref := "CupFountainModel") (C := RX4) (T := TX4) (N := 17) (ci := 4) (v := .ref (a 1)) (pc := 14) hx hb hts hinX4 hown hz 0 rfl rfl 0 (by decide) L7 rfl rfl dX4_doPass_14 ?_
    refine lv_iconst (v := 0) (pc := 17) hx hb dX4_doPass_17 (by decide) ?_
    refine z_iald (x := h 0) (pc := 18) hx hb hz 1 rfl 0 rfl (by decide) (by decide) (enc_h (by decide)) dX4_doPass_18 ?_
    refine lv_iload_n (pc := 19) hx hb dX4_doPass_19 rfl (lv_at hl 1 rfl) ?_
    refine lv_iadd (pc := 20) hx hb dX4_doPass_20 ?_
    refine lv_ldc (own := RX4) (v := 99999) (pc := 21) hx hb hown (hts _ (zsub _ wq_14_10)) dX4_doPass_21 ?_
    refine lv_icmp_le (pc := 23) (tgt := 29) hx hb dX4_doPass_23 (by decide) (fun c_23 => ?_) (fun c_23 => ?_)
    · refine lv_aload_n (pc := 29) hx hb dX4_doPass_29 rfl (lv_at hl 0 rfl) ?_
      refine lv_bipush (v := 8) (pc := 30) hx hb dX4_doPass_30 (by decide) ?_
      refine z_runV (pc := 32) (As := [.int 8]) (rest := []) (ws1 := mm ca a f h c hi sn be tx ti) ⟨hx, hb, hml, hown, hts⟩ (k_X4_sumOf l G ca a f h c hi sn be tx ti 8 (by decide)) (cwV 1 hts (zgoodV zsub wq_14_11 wq_14_12 wq_14_13 wq_1_5 wq_14_14) rfl rfl rfl hdV_X4_sumOf ⟨Nat.le_of_ble_eq_true rfl, Nat.le_of_ble_eq_true rfl⟩) hz [] zp_all zp_all' rfl rfl rfl hl.1 (Nat.le_of_ble_eq_true rfl) (st1 := [.int (sumF c 8 8)]) rfl dX4_doPass_32 ⟨Nat.zero_le _, Nat.zero_le _⟩ (fun H locs hz => ?_)
      refine lv_istore_n (lv' := [(2, .int (sumF c 8 8)), (0, .ref (a 0)), (1, .int (nI n))]) (pc := 35) hx hb dX4_doPass_35 rfl hl (by decide) rfl (fun ls hl => ?_)
      refine lv_iconst (v := 0) (pc := 36) hx hb dX4_doPass_36 (by decide) ?_
      refine lv_istore_n (lv' := [(3, .int 0), (2, .int (sumF c 8 8)), (0, .ref (a 0)), (1, .int (nI n))]) (pc := 37) hx hb dX4_doPass_37 rfl hl (by decide) rfl (fun ls hl => ?_)
      have loop1 : ∀ cnt i : Nat, i + cnt = n → ∀ (H : Heap) (locs : List Loc) (ls : Array Slot), zw G ca A s0.heap s0 (mm ca a f ((tkN (h, c) i).1) ((tkN (h, c) i).2) hi sn be tx (tkT (h, c) ti i)) H locs → lv_has ls 4 [(3, .int (nI i)), (2, .int (sumF c 8 8)), (0, .ref (a 0)), (1, .int (nI n))] → W pg l ev rm_X4_doPass s0 mt args below meth cd H locs 0 0 Q (F0 mt 38 ls []) := by
        intro cnt
        induction cnt with
        | zero =>
          intro i hk9 H locs ls hz hl
          obtain rfl : n = i := by omega
          refine lv_iload_n (pc := 38) hx hb dX4_doPass_38 rfl (lv_at hl 0 rfl) ?_
          refine lv_iload_n (pc := 39) hx hb dX4_doPass_39 rfl (lv_at hl 3 rfl) ?_
          refine lv_icmp_ge (pc := 40) (tgt := 53) hx hb dX4_doPass_40 (by decide) (fun c_40 => ?_) (fun c9 => absurd (nI_le (Nat.le_refl _) (by omega)) c9)
          refine lv_aload_n (pc := 53) hx hb dX4_doPass_53 rfl (lv_at hl 2 rfl) ?_
          refine lv_bipush (v := 8) (pc := 54) hx hb dX4_doPass_54 (by decide) ?_
          refine z_runV (pc := 56) (As := [.int 8]) (rest := []) (ws1 := mm ca a f ((tkN (h, c) n).1) ((tkN (h, c) n).2) hi sn be tx (tkT (h, c) ti n)) ⟨hx, hb, hml, hown, hts⟩ (k_X4_sumOf l G ca a f ((tkN (h, c) n).1) ((tkN (h, c) n).2) hi sn be tx (tkT (h, c) ti n) 8 (by decide)) (cwV 1 hts (zgoodV zsub wq_14_11 wq_14_12 wq_14_13 wq_1_5 wq_14_14) rfl rfl rfl hdV_X4_sumOf ⟨Nat.le_of_ble_eq_true rfl, Nat.le_of_ble_eq_true rfl⟩) hz [] zp_all zp_all' rfl rfl rfl hl.1 (Nat.le_of_ble_eq_true rfl) (st1 := [.int (sumF ((tkN (h, c) n).2) 8 8)]) rfl dX4_doPass_56 ⟨Nat.zero_le _, Nat.zero_le _⟩ (fun H locs hz => ?_)
          refine lv_iload_n (pc := 59) hx hb dX4_doPass_59 rfl (lv_at hl 1 rfl) ?_
          refine lv_isub (pc := 60) hx hb dX4_doPass_60 ?_
          exact z_iret (pc := 61) hx hb hr hlk hQ hz dX4_doPass_61 (by simp only [passR, if_neg c_7, if_pos c_23, if_pos c_40, hnk]) (by simp only [passN, tkN_0, tkT_0, if_neg c_7, if_pos c_23, if_pos c_40, hnk])
        | succ cnt ih =>
          intro i hk9 H locs ls hz hl
          have hk : i < n := by omega
          refine lv_iload_n (pc := 38) hx hb dX4_doPass_38 rfl (lv_at hl 0 rfl) ?_
          refine lv_iload_n (pc := 39) hx hb dX4_doPass_39 rfl (lv_at hl 3 rfl) ?_
          refine lv_icmp_ge (pc := 40) (tgt := 53) hx hb dX4_doPass_40 (by decide) (fun c9 => absurd c9 (nI_ge hk (by omega))) (fun c_40 => ?_)
          refine lv_aload_n (pc := 43) hx hb dX4_doPass_43 rfl (lv_at hl 2 rfl) ?_
          refine z_runV (pc := 44) (As := []) (rest := []) (ws1 := mm ca a f ((tkN (h, c) (i + 1)).1) ((tkN (h, c) (i + 1)).2) hi sn be tx (tkT (h, c) ti (i + 1))) ⟨hx, hb, hml, hown, hts⟩ (k_X4_tick l G ca a f ((tkN (h, c) i).1) ((tkN (h, c) i).2) hi sn be tx (tkT (h, c) ti i) (hok.ticks i)) (cwV 0 hts (zgoodV zsub wq_14_15 wq_14_16 wq_14_17 wq_1_5 wq_14_18) rfl rfl rfl hdV_X4_tick ⟨Nat.le_of_ble_eq_true rfl, Nat.le_of_ble_eq_true rfl⟩) hz [] zp_all (by rw [List.append_nil]; exact List.Perm.refl _) rfl rfl rfl hl.1 (Nat.le_of_ble_eq_true rfl) (st1 := []) rfl dX4_doPass_44 ⟨Nat.zero_le _, Nat.zero_le _⟩ (fun H locs hz => ?_)
          refine lv_iinc (v := nI (i + 1)) (lv' := [(3, .int (nI (i + 1))), (2, .int (sumF c 8 8)), (0, .ref (a 0)), (1, .int (nI n))]) (pc := 47) hx hb dX4_doPass_47 hl (k := 0) rfl (nI_add i 1) (by decide) rfl (fun ls hl => ?_)
          refine lv_goto (tgt := 38) (pc := 50) hx hb dX4_doPass_50 (by decide) ?_
          exact ih (i + 1) (by omega) _ _ _ hz (lv_sub hl [0, 1, 2, 3] rfl)
      exact loop1 n 0 (by omega) _ _ _ (hz.as (by rw [tkN_0, tkT_0])) (lv_sub hl [0, 1, 2, 3] rfl)
    · refine lv_bipush (v := -3) (pc := 26) hx hb dX4_doPass_26 (by decide) ?_
      exact z_iret (pc := 28) hx hb hr hlk hQ hz dX4_doPass_28 (by simp only [passR, if_neg c_7, if_neg c_23, hnk]) (by simp only [passN, tkN_0, tkT_0, if_neg c_7, if_neg c_23, hnk])
  · refine lv_bipush (v := -2) (pc := 10) hx hb dX4_doPass_10 (by decide) ?_
    exact z_iret (pc := 12) hx hb hr hlk hQ hz dX4_doPass_12 (by simp only [passR, if_pos c_7]) (by simp only [passN, tkN_0, tkT_0, if_pos c_7])
end
section
/-! ===== copies, and what the history's row is behind a record ===== -/
theorem cpy_0 {F T : Nat → Int32} {i j : Nat} : va_cpy F T i j 0 = T := by
  funext q
  exact pk_cpy_out (by omega)
theorem cpy_s {F T : Nat → Int32} {i j k : Nat} : upd (va_cpy F T i j k) (j + k) (F (i + k)) = va_cpy F T i j (k + 1) := by
  funext q
  by_cases e : q = j + k
  · subst e
    rw [pk_us, pk_cpy_in (by omega) (by omega)]
    congr 1
    omega
  · rw [pk_un e]
    by_cases h : j ≤ q ∧ q < j + k
    · rw [pk_cpy_in h.1 h.2, pk_cpy_in h.1 (by omega)]
    · rw [pk_cpy_out (by omega), pk_cpy_out (by omega)]
theorem cpy_at {F T : Nat → Int32} {i n q : Nat} (h : q < n) : va_cpy F T i 0 n q = F (i + q) := by
  rw [pk_cpy_in (Nat.zero_le _) (by omega)]
  congr 1
theorem cpy_at0 {F T : Nat → Int32} {n q : Nat} (h : q < n) : va_cpy F T 0 0 n q = F q := by
  rw [cpy_at h]
  congr 1
  omega
def shF (hi : Nat → Int32) (k : Nat) : Nat → Int32 := fun q => if q < k then hi (104 + q) else hi q
theorem shF_0 {hi : Nat → Int32} : shF hi 0 = hi := by
  funext q
  simp [shF]
theorem shF_ge {hi : Nat → Int32} {k : Nat} : shF hi k (104 + k) = hi (104 + k) := by
  have h1 : ¬ 104 + k < k := by omega
  simp [shF, h1]
theorem shF_s {hi : Nat → Int32} {k : Nat} : upd (shF hi k) k (hi (104 + k)) = shF hi (k + 1) := by
  funext q
  by_cases e : q = k
  · subst e
    simp [pk_us, shF]
  · rw [pk_un e]
    by_cases h : q < k
    · have h2 : q < k + 1 := by omega
      simp [shF, h, h2]
    · have h2 : ¬ q < k + 1 := by omega
      simp [shF, h, h2]
def recK (kp : Nat) : Nat := if kp = 4 then 4 else kp + 1
def recHi (hi row : Nat → Int32) (kp : Nat) : Nat → Int32 := if kp = 4 then va_cpy row (shF hi 312) 0 312 104 else va_cpy row hi 0 (104 * kp) 104
def actF (f : Nat → Int32) (kp : Nat) (r : Int32) : Nat → Int32 := if r < 0 then f else upd f 2 (nI (recK kp))
def actHi (hi row : Nat → Int32) (kp : Nat) (r : Int32) : Nat → Int32 := if r < 0 then hi else recHi hi row kp
/-- a row of numbers counts by its places alone -/
theorem zw.cell {G : va_G} {ca : Nat → ClassId} {A : Nat → Prop} {H0 : Heap} {s : State} {ws : va_W} {H : Heap} {locs : List Loc} (hz : zw G ca A H0 s ws H locs) {g : Nat → Int32} (q0 : Nat) {x n : Nat} {cA : ClassId} {f : Nat → Int32} (hq : ws[q0]? = some (x, .inl (cA, n, .inl f))) (h : ∀ j, j < n → f j = g j) : zw G ca A H0 s (ws.set q0 (x, .inl (cA, n, .inl g))) H locs := by
  refine ⟨hz.1, hz.2.1.set hz.2.2.1 hq ?_ (fun _ _ => rfl), hz.2.2.1.set hq, hz.2.2.2⟩
  have h1 := hz.2.1 q0 _ hq
  show H[x]? = some (vp_cell cA (n, .inl g))
  rw [← arr_congr h]
  exact h1
end
section
def rm_X4_copy : Room := { frames := 0, cells := 0, slots := 0, locals := 0 }
set_option maxRecDepth 20000 in
theorem hdV_X4_copy : yX4_copy.cls = RX4 ∧ yX4_copy.cls ≠ "java/lang/invoke/MethodHandle" ∧ yX4_copy.cls ≠ "java/lang/invoke/VarHandle" ∧ (parseMethodDescriptor yX4_copy.desc).map (fun d => d.parameters.length) = some 4 := by decide +kernel
set_option maxHeartbeats 4000000 in
set_option maxRecDepth 100000 in
theorem k_X4_copy (l : Launch) (G : va_G) (ca : Nat → ClassId) (x y nx ny i j : Nat) (F T : Nat → Int32) (hx1 : i + 104 ≤ nx) (hy1 : j + 104 ≤ ny) (hx2 : nx < 2 ^ 31) (hy2 : ny < 2 ^ 31) : Zc l G ca yX4_copy (zws yX4_copy cX4_copy 5 none) rm_X4_copy [.ref x, .int (nI i), .ref y, .int (nI j)] ([(x, .inl (ca 1, nx, .inl F)), (y, .inl (ca 1, ny, .inl T))]) none ([(x, .inl (ca 1, nx, .inl F)), (y, .inl (ca 1, ny, .inl (va_cpy F T i j 104)))]) := by
  refine Zc.of (cc := cX4_copy) (maxL := 5) (ret := none) (by decide) rfl (Nat.le_of_ble_eq_true rfl) ?_
  intro pg ev s0 mt below meth cd A args Q ls hx hb hr hml hown hts hlk hQ hl hz
  have hl : lv_has ls 5 [(0, .ref x), (1, .int (nI i)), (2, .ref y), (3, .int (nI j))] := hl
  refine lv_iconst (v := 0) (pc := 0) hx hb dX4_copy_0 (by decide) ?_
  refine lv_istore (lv' := [(4, .int 0), (0, .ref x), (1, .int (nI i)), (2, .ref y), (3, .int (nI j))]) (pc := 1) hx hb dX4_copy_1 hl (by decide) rfl (fun ls hl => ?_)
  have loop1 : ∀ cnt k : Nat, k + cnt = 104 → ∀ (H : Heap) (locs : List Loc) (ls : Array Slot), zw G ca A s0.heap s0 ([(x, .inl (ca 1, nx, .inl F)), (y, .inl (ca 1, ny, .inl (va_cpy F T i j k)))]) H locs → lv_has ls 5 [(4, .int (nI k)), (0, .ref x), (1, .int (nI i)), (2, .ref y), (3, .int (nI j))] → W pg l ev rm_X4_copy s0 mt args below meth cd H locs 0 0 Q (F0 mt 3 ls []) := by
    intro cnt
    induction cnt with
    | zero =>
      intro k hk9 H locs ls hz hl
      obtain rfl : 104 = k := by omega
      refine lv_iload (pc := 3) hx hb dX4_copy_3 (lv_at hl 0 rfl) ?_
      refine lv_bipush (v := 104) (pc := 5) hx hb dX4_copy_5 (by decide) ?_
      refine lv_icmp_ge (pc := 7) (tgt := 28) hx hb dX4_copy_7 (by decide) (fun c_7 => ?_) (fun c9 => absurd (by decide) c9)
      exact z_vret (pc := 28) hx hb hr hlk hQ hz dX4_copy_28 rfl (by first | rfl | (simp only [if_pos c_7]))
    | succ cnt ih =>
      intro k hk9 H locs ls hz hl
      have hk : k < 104 := by omega
      refine lv_iload (pc := 3) hx hb dX4_copy_3 (lv_at hl 0 rfl) ?_
      refine lv_bipush (v := 104) (pc := 5) hx hb dX4_copy_5 (by decide) ?_
      refine lv_icmp_ge (pc := 7) (tgt := 28) hx hb dX4_copy_7 (by decide) (fun c9 => absurd c9 (nI_ge hk (by decide))) (fun c_7 => ?_)
      refine lv_aload_n (pc := 10) hx hb dX4_copy_10 rfl (lv_at hl 3 rfl) ?_
      refine lv_iload_n (pc := 11) hx hb dX4_copy_11 rfl (lv_at hl 4 rfl) ?_
      refine lv_iload (pc := 12) hx hb dX4_copy_12 (lv_at hl 0 rfl) ?_
      refine lv_iadd (pc := 14) hx hb dX4_copy_14 ?_
      refine lv_aload_n (pc := 15) hx hb dX4_copy_15 rfl (lv_at hl 1 rfl) ?_
      refine lv_iload_n (pc := 16) hx hb dX4_copy_16 rfl (lv_at hl 2 rfl) ?_
      refine lv_iload (pc := 17) hx hb dX4_copy_17 (lv_at hl 0 rfl) ?_
      refine lv_iadd (pc := 19) hx hb dX4_copy_19 ?_
      refine z_iald (x := F (i + k)) (pc := 20) hx hb hz 0 rfl (i + k) (nI_add i k) (by omega) hx2 rfl dX4_copy_20 ?_
      refine z_iast (ws1 := [(x, .inl (ca 1, nx, .inl F)), (y, .inl (ca 1, ny, .inl (va_cpy F T i j (k + 1))))]) (pc := 21) hx hb hz 1 rfl (j + k) (nI_add j k) (by omega) hy2 (by rw [cpy_s]; rfl) dX4_copy_21 (fun H locs hz => ?_)
      refine lv_iinc (v := nI (k + 1)) (lv' := [(4, .int (nI (k + 1))), (0, .ref x), (1, .int (nI i)), (2, .ref y), (3, .int (nI j))]) (pc := 22) hx hb dX4_copy_22 hl (k := 0) rfl (nI_add k 1) (by decide) rfl (fun ls hl => ?_)
      refine lv_goto (tgt := 3) (pc := 25) hx hb dX4_copy_25 (by decide) ?_
      exact ih (k + 1) (by omega) _ _ _ hz (lv_sub hl [0, 1, 2, 3, 4] rfl)
  exact loop1 104 0 (by omega) _ _ _ (hz.as (by rw [cpy_0])) (lv_sub hl [0, 1, 2, 3, 4] rfl)

def rm_X4_begin : Room := { frames := 1, cells := 0, slots := 0, locals := 24 }
set_option maxRecDepth 20000 in
theorem hdV_X4_begin : yX4_begin.cls = RX4 ∧ yX4_begin.cls ≠ "java/lang/invoke/MethodHandle" ∧ yX4_begin.cls ≠ "java/lang/invoke/VarHandle" ∧ (parseMethodDescriptor yX4_begin.desc).map (fun d => d.parameters.length) = some 0 := by decide +kernel
set_option maxHeartbeats 4000000 in
set_option maxRecDepth 100000 in
theorem k_X4_begin (l : Launch) (G : va_G) (ca : Nat → ClassId) (a : Nat → Nat) (f h : Nat → Int32) (c : Nat → Nat → Int32) (hi sn be tx ti : Nat → Int32) : Zc l G ca yX4_begin (zws yX4_begin cX4_begin 1 none) rm_X4_begin [.ref (a 0)] (mm ca a f h c hi sn be tx ti) none (mm ca a f h c hi sn (enc h c) tx ti) := by
  refine Zc.of (cc := cX4_begin) (maxL := 1) (ret := none) (by decide) rfl (Nat.le_of_ble_eq_true rfl) ?_
  intro pg ev s0 mt below meth cd A args Q ls hx hb hr hml hown hts hlk hQ hl hz
  have L19 : (Cond.fieldLink RX4 19 "CupFountainModel" "before" "[I").before args s0 = true := hts _ (zsub _ wq_4_7)
  have L7 : (Cond.fieldLink RX4 7 "CupFountainModel" "s" "[I").before args s0 = true := hts _ (zsub _ wq_4_4)
  have hinX4 : ∀ w ∈ wsX40, w ∈ zws yX4_begin cX4_begin 1 none := fun w h => zsub w (wl_wsX40 w h)
  have hl : lv_has ls 1 [(0, .ref (a 0))] := hl
  refine lv_aload_n (pc := 0) hx hb dX4_begin_0 rfl (lv_at hl 0 rfl) ?_
  refine z_get (own := RX4) (ref := "CupFountainModel") (C := RX4) (T := TX4) (N := 17) (ci := 4) (v := .ref (a 1)) (pc := 1) hx hb hts hinX4 hown hz 0 rfl rfl 0 (by decide) L7 rfl rfl dX4_begin_1 ?_
  refine lv_iconst (v := 0) (pc := 4) hx hb dX4_begin_4 (by decide) ?_
  refine lv_aload_n (pc := 5) hx hb dX4_begin_5 rfl (lv_at hl 0 rfl) ?_
  refine z_get (own := RX4) (ref := "CupFountainModel") (C := RX4) (T := TX4) (N := 17) (ci := 4) (v := .ref (a 4)) (pc := 6) hx hb hts hinX4 hown hz 0 rfl rfl 5 (by decide) L19 rfl rfl dX4_begin_6 ?_
  refine lv_iconst (v := 0) (pc := 9) hx hb dX4_begin_9 (by decide) ?_
  refine z_runS (pc := 10) (As := [.ref (a 1), .int 0, .ref (a 4), .int 0]) (rest := []) (ws1 := mm ca a f h c hi sn (va_cpy (enc h c) be 0 0 104) tx ti) ⟨hx, hb, hml, hown, hts⟩ (k_X4_copy l G ca (a 1) (a 4) 104 104 0 0 (enc h c) be (by omega) (by omega) (by decide) (by decide)) (cwS 4 hts (zgoodS zsub wq_6_18 wq_6_19 wq_1_5 wq_6_20) rfl rfl rfl hdV_X4_copy ⟨Nat.le_of_ble_eq_true rfl, Nat.le_of_ble_eq_true rfl⟩) hz (List.filterMap (fun q9 => (mm ca a f h c hi sn be tx ti)[q9]?) [0, 2, 3, 5, 6]) (z_pick [1, 4, 0, 2, 3, 5, 6] rfl rfl) (z_pick (ws := mm ca a f h c hi sn (va_cpy (enc h c) be 0 0 104) tx ti) [1, 4, 0, 2, 3, 5, 6] rfl rfl).symm rfl hl.1 (Nat.le_of_ble_eq_true rfl) (st1 := []) rfl dX4_begin_10 ⟨Nat.zero_le _, Nat.zero_le _⟩ (fun H locs hz => ?_)
  have hz := (hz.cell (g := (enc h c)) 4 rfl (fun j hj => cpy_at0 hj)).as (show _ = mm ca a f h c hi sn (enc h c) tx ti from rfl)
  exact z_vret (pc := 13) hx hb hr hlk hQ hz dX4_begin_13 rfl (by first | rfl | (simp only []))

def rm_X4_recordFrom : Room := { frames := 1, cells := 0, slots := 0, locals := 24 }
set_option maxRecDepth 20000 in
theorem hdV_X4_recordFrom : yX4_recordFrom.cls = RX4 ∧ yX4_recordFrom.cls ≠ "java/lang/invoke/MethodHandle" ∧ yX4_recordFrom.cls ≠ "java/lang/invoke/VarHandle" ∧ (parseMethodDescriptor yX4_recordFrom.desc).map (fun d => d.parameters.length) = some 1 := by decide +kernel
set_option maxHeartbeats 4000000 in
set_option maxRecDepth 100000 in
theorem k_X4_recordFrom_ba (l : Launch) (G : va_G) (ca : Nat → ClassId) (a : Nat → Nat) (f h : Nat → Int32) (c : Nat → Nat → Int32) (hi sn be tx ti : Nat → Int32) (kp : Nat) (hkp : kp < 4) (hf2 : f 2 = nI kp) : Zc l G ca yX4_recordFrom (zws yX4_recordFrom cX4_recordFrom 3 none) rm_X4_recordFrom [.ref (a 0), .ref (a 4)] (mm ca a f h c hi sn be tx ti) none (mm ca a (upd f 2 (nI (kp + 1))) h c (va_cpy be hi 0 (104 * kp) 104) sn be tx ti) := by
  refine Zc.of (cc := cX4_recordFrom) (maxL := 3) (ret := none) (by decide) rfl (Nat.le_of_ble_eq_true rfl) ?_
  intro pg ev s0 mt below meth cd A args Q ls hx hb hr hml hown hts hlk hQ hl hz
  have L13 : (Cond.fieldLink RX4 13 "CupFountainModel" "history" "[I").before args s0 = true := hts _ (zsub _ wq_4_5)
  have L42 : (Cond.fieldLink RX4 42 "CupFountainModel" "kept" "I").before args s0 = true := hts _ (zsub _ wq_7_22)
  have hinX4 : ∀ w ∈ wsX40, w ∈ zws yX4_recordFrom cX4_recordFrom 3 none := fun w h => zsub w (wl_wsX40 w h)
  have hl : lv_has ls 3 [(0, .ref (a 0)), (1, .ref (a 4))] := hl
  refine lv_aload_n (pc := 0) hx hb dX4_recordFrom_0 rfl (lv_at hl 0 rfl) ?_
  refine z_get (own := RX4) (ref := "CupFountainModel") (C := RX4) (T := TX4) (N := 17) (ci := 4) (v := .int (f 2)) (pc := 1) hx hb hts hinX4 hown hz 0 rfl rfl 2 (by decide) L42 rfl rfl dX4_recordFrom_1 ?_
  refine lv_iconst (v := 4) (pc := 4) hx hb dX4_recordFrom_4 (by decide) ?_
  refine lv_icmp_ne (pc := 5) (tgt := 48) hx hb dX4_recordFrom_5 (by decide) (fun c_5 => ?_) (fun c9 => absurd c9 (fun q => by rw [hf2] at q; exact absurd ((nI_eq (b := 4) (by omega) (by decide)).mp q) (by omega)))
  refine lv_aload_n (pc := 48) hx hb dX4_recordFrom_48 rfl (lv_at hl 1 rfl) ?_
  refine lv_iconst (v := 0) (pc := 49) hx hb dX4_recordFrom_49 (by decide) ?_
  refine lv_aload_n (pc := 50) hx hb dX4_recordFrom_50 rfl (lv_at hl 0 rfl) ?_
  refine z_get (own := RX4) (ref := "CupFountainModel") (C := RX4) (T := TX4) (N := 17) (ci := 4) (v := .ref (a 2)) (pc := 51) hx hb hts hinX4 hown hz 0 rfl rfl 1 (by decide) L13 rfl rfl dX4_recordFrom_51 ?_
  refine lv_bipush (v := 104) (pc := 54) hx hb dX4_recordFrom_54 (by decide) ?_
  refine lv_aload_n (pc := 56) hx hb dX4_recordFrom_56 rfl (lv_at hl 0 rfl) ?_
  refine z_get (own := RX4) (ref := "CupFountainModel") (C := RX4) (T := TX4) (N := 17) (ci := 4) (v := .int (f 2)) (pc := 57) hx hb hts hinX4 hown hz 0 rfl rfl 2 (by decide) L42 rfl rfl dX4_recordFrom_57 ?_
  refine z_top (y := nI kp) hf2 ?_
  refine lv_imul (pc := 60) hx hb dX4_recordFrom_60 ?_
  refine z_top (y := nI (104 * kp)) (pk_mul 104 kp) ?_
  refine z_runS (pc := 61) (As := [.ref (a 4), .int 0, .ref (a 2), .int (nI (104 * kp))]) (rest := []) (ws1 := mm ca a f h c (va_cpy be hi 0 (104 * kp) 104) sn be tx ti) ⟨hx, hb, hml, hown, hts⟩ (k_X4_copy l G ca (a 4) (a 2) 104 416 0 (104 * kp) be hi (by omega) (by omega) (by decide) (by decide)) (cwS 4 hts (zgoodS zsub wq_6_18 wq_6_19 wq_1_5 wq_6_20) rfl rfl rfl hdV_X4_copy ⟨Nat.le_of_ble_eq_true rfl, Nat.le_of_ble_eq_true rfl⟩) hz (List.filterMap (fun q9 => (mm ca a f h c hi sn be tx ti)[q9]?) [0, 1, 3, 5, 6]) (z_pick [4, 2, 0, 1, 3, 5, 6] rfl rfl) (z_pick (ws := mm ca a f h c (va_cpy be hi 0 (104 * kp) 104) sn be tx ti) [4, 2, 0, 1, 3, 5, 6] rfl rfl).symm rfl hl.1 (Nat.le_of_ble_eq_true rfl) (st1 := []) rfl dX4_recordFrom_61 ⟨Nat.zero_le _, Nat.zero_le _⟩ (fun H locs hz => ?_)
  refine lv_aload_n (pc := 64) hx hb dX4_recordFrom_64 rfl (lv_at hl 0 rfl) ?_
  refine lv_dup (pc := 65) hx hb dX4_recordFrom_65 rfl ?_
  refine z_get (own := RX4) (ref := "CupFountainModel") (C := RX4) (T := TX4) (N := 17) (ci := 4) (v := .int (f 2)) (pc := 66) hx hb hts hinX4 hown hz 0 rfl rfl 2 (by decide) L42 rfl rfl dX4_recordFrom_66 ?_
  refine z_top (y := nI kp) hf2 ?_
  refine lv_iconst (v := 1) (pc := 69) hx hb dX4_recordFrom_69 (by decide) ?_
  refine lv_iadd (pc := 70) hx hb dX4_recordFrom_70 ?_
  refine z_top (y := nI (kp + 1)) (nI_1 kp) ?_
  refine z_put (own := RX4) (ref := "CupFountainModel") (C := RX4) (T := TX4) (N := 17) (ci := 4) (v := .int (nI (kp + 1))) (ws1 := mm ca a (upd f 2 (nI (kp + 1))) h c (va_cpy be hi 0 (104 * kp) 104) sn be tx ti) (pc := 71) hx hb hts hinX4 tyX4 tyX4_ok nmX4 hown hz 0 rfl rfl 2 (by decide) L42 rfl rfl rfl rfl (Nat.le_of_ble_eq_true rfl) rfl dX4_recordFrom_71 (fun H locs hz => ?_)
  exact z_vret (pc := 74) hx hb hr hlk hQ hz dX4_recordFrom_74 rfl (by first | rfl | (simp only [if_neg c_5]))

set_option maxHeartbeats 4000000 in
set_option maxRecDepth 100000 in
theorem k_X4_recordFrom_bb (l : Launch) (G : va_G) (ca : Nat → ClassId) (a : Nat → Nat) (f h : Nat → Int32) (c : Nat → Nat → Int32) (hi sn be tx ti : Nat → Int32) (hf2 : f 2 = 4) : Zc l G ca yX4_recordFrom (zws yX4_recordFrom cX4_recordFrom 3 none) rm_X4_recordFrom [.ref (a 0), .ref (a 4)] (mm ca a f h c hi sn be tx ti) none (mm ca a (upd f 2 4) h c (va_cpy be (shF hi 312) 0 312 104) sn be tx ti) := by
  refine Zc.of (cc := cX4_recordFrom) (maxL := 3) (ret := none) (by decide) rfl (Nat.le_of_ble_eq_true rfl) ?_
  intro pg ev s0 mt below meth cd A args Q ls hx hb hr hml hown hts hlk hQ hl hz
  have L13 : (Cond.fieldLink RX4 13 "CupFountainModel" "history" "[I").before args s0 = true := hts _ (zsub _ wq_4_5)
  have L42 : (Cond.fieldLink RX4 42 "CupFountainModel" "kept" "I").before args s0 = true := hts _ (zsub _ wq_7_22)
  have hinX4 : ∀ w ∈ wsX40, w ∈ zws yX4_recordFrom cX4_recordFrom 3 none := fun w h => zsub w (wl_wsX40 w h)
  have hl : lv_has ls 3 [(0, .ref (a 0)), (1, .ref (a 4))] := hl
  refine lv_aload_n (pc := 0) hx hb dX4_recordFrom_0 rfl (lv_at hl 0 rfl) ?_
  refine z_get (own := RX4) (ref := "CupFountainModel") (C := RX4) (T := TX4) (N := 17) (ci := 4) (v := .int (f 2)) (pc := 1) hx hb hts hinX4 hown hz 0 rfl rfl 2 (by decide) L42 rfl rfl dX4_recordFrom_1 ?_
  refine lv_iconst (v := 4) (pc := 4) hx hb dX4_recordFrom_4 (by decide) ?_
  refine lv_icmp_ne (pc := 5) (tgt := 48) hx hb dX4_recordFrom_5 (by decide) (fun c9 => absurd hf2 c9) (fun c_5 => ?_)
  refine lv_iconst (v := 0) (pc := 8) hx hb dX4_recordFrom_8 (by decide) ?_
  refine lv_istore_n (lv' := [(2, .int 0), (0, .ref (a 0)), (1, .ref (a 4))]) (pc := 9) hx hb dX4_recordFrom_9 rfl hl (by decide) rfl (fun ls hl => ?_)
  have loop1 : ∀ cnt k : Nat, k + cnt = 312 → ∀ (H : Heap) (locs : List Loc) (ls : Array Slot), zw G ca A s0.heap s0 (mm ca a f h c (shF hi k) sn be tx ti) H locs → lv_has ls 3 [(2, .int (nI k)), (0, .ref (a 0)), (1, .ref (a 4))] → W pg l ev rm_X4_recordFrom s0 mt args below meth cd H locs 0 0 Q (F0 mt 10 ls []) := by
    intro cnt
    induction cnt with
    | zero =>
      intro k hk9 H locs ls hz hl
      obtain rfl : 312 = k := by omega
      refine lv_iload_n (pc := 10) hx hb dX4_recordFrom_10 rfl (lv_at hl 0 rfl) ?_
      refine lv_sipush (v := 312) (pc := 11) hx hb dX4_recordFrom_11 (by decide) ?_
      refine lv_icmp_ge (pc := 14) (tgt := 38) hx hb dX4_recordFrom_14 (by decide) (fun c_14 => ?_) (fun c9 => absurd (by decide) c9)
      refine lv_aload_n (pc := 38) hx hb dX4_recordFrom_38 rfl (lv_at hl 1 rfl) ?_
      refine lv_dup (pc := 39) hx hb dX4_recordFrom_39 rfl ?_
      refine z_get (own := RX4) (ref := "CupFountainModel") (C := RX4) (T := TX4) (N := 17) (ci := 4) (v := .int (f 2)) (pc := 40) hx hb hts hinX4 hown hz 0 rfl rfl 2 (by decide) L42 rfl rfl dX4_recordFrom_40 ?_
      refine lv_iconst (v := 1) (pc := 43) hx hb dX4_recordFrom_43 (by decide) ?_
      refine lv_isub (pc := 44) hx hb dX4_recordFrom_44 ?_
      refine z_top (y := 3) (by rw [hf2]; rfl) ?_
      refine z_put (own := RX4) (ref := "CupFountainModel") (C := RX4) (T := TX4) (N := 17) (ci := 4) (v := .int 3) (ws1 := mm ca a (upd f 2 3) h c (shF hi 312) sn be tx ti) (pc := 45) hx hb hts hinX4 tyX4 tyX4_ok nmX4 hown hz 0 rfl rfl 2 (by decide) L42 rfl rfl rfl rfl (Nat.le_of_ble_eq_true rfl) rfl dX4_recordFrom_45 (fun H locs hz => ?_)
      refine lv_aload_n (pc := 48) hx hb dX4_recordFrom_48 rfl (lv_at hl 2 rfl) ?_
      refine lv_iconst (v := 0) (pc := 49) hx hb dX4_recordFrom_49 (by decide) ?_
      refine lv_aload_n (pc := 50) hx hb dX4_recordFrom_50 rfl (lv_at hl 1 rfl) ?_
      refine z_get (own := RX4) (ref := "CupFountainModel") (C := RX4) (T := TX4) (N := 17) (ci := 4) (v := .ref (a 2)) (pc := 51) hx hb hts hinX4 hown hz 0 rfl rfl 1 (by decide) L13 rfl rfl dX4_recordFrom_51 ?_
      refine lv_bipush (v := 104) (pc := 54) hx hb dX4_recordFrom_54 (by decide) ?_
      refine lv_aload_n (pc := 56) hx hb dX4_recordFrom_56 rfl (lv_at hl 1 rfl) ?_
      refine z_get (own := RX4) (ref := "CupFountainModel") (C := RX4) (T := TX4) (N := 17) (ci := 4) (v := .int 3) (pc := 57) hx hb hts hinX4 hown hz 0 rfl rfl 2 (by decide) L42 rfl rfl dX4_recordFrom_57 ?_
      refine lv_imul (pc := 60) hx hb dX4_recordFrom_60 ?_
      refine z_top (y := nI 312) rfl ?_
      refine z_runS (pc := 61) (As := [.ref (a 4), .int 0, .ref (a 2), .int (nI 312)]) (rest := []) (ws1 := mm ca a (upd f 2 3) h c (va_cpy be (shF hi 312) 0 312 104) sn be tx ti) ⟨hx, hb, hml, hown, hts⟩ (k_X4_copy l G ca (a 4) (a 2) 104 416 0 312 be (shF hi 312) (by omega) (by omega) (by decide) (by decide)) (cwS 4 hts (zgoodS zsub wq_6_18 wq_6_19 wq_1_5 wq_6_20) rfl rfl rfl hdV_X4_copy ⟨Nat.le_of_ble_eq_true rfl, Nat.le_of_ble_eq_true rfl⟩) hz (List.filterMap (fun q9 => (mm ca a (upd f 2 3) h c (shF hi 312) sn be tx ti)[q9]?) [0, 1, 3, 5, 6]) (z_pick [4, 2, 0, 1, 3, 5, 6] rfl rfl) (z_pick (ws := mm ca a (upd f 2 3) h c (va_cpy be (shF hi 312) 0 312 104) sn be tx ti) [4, 2, 0, 1, 3, 5, 6] rfl rfl).symm rfl hl.1 (Nat.le_of_ble_eq_true rfl) (st1 := []) rfl dX4_recordFrom_61 ⟨Nat.zero_le _, Nat.zero_le _⟩ (fun H locs hz => ?_)
      refine lv_aload_n (pc := 64) hx hb dX4_recordFrom_64 rfl (lv_at hl 1 rfl) ?_
      refine lv_dup (pc := 65) hx hb dX4_recordFrom_65 rfl ?_
      refine z_get (own := RX4) (ref := "CupFountainModel") (C := RX4) (T := TX4) (N := 17) (ci := 4) (v := .int 3) (pc := 66) hx hb hts hinX4 hown hz 0 rfl rfl 2 (by decide) L42 rfl rfl dX4_recordFrom_66 ?_
      refine lv_iconst (v := 1) (pc := 69) hx hb dX4_recordFrom_69 (by decide) ?_
      refine lv_iadd (pc := 70) hx hb dX4_recordFrom_70 ?_
      refine z_top (y := 4) rfl ?_
      refine z_put (own := RX4) (ref := "CupFountainModel") (C := RX4) (T := TX4) (N := 17) (ci := 4) (v := .int 4) (ws1 := mm ca a (upd (upd f 2 3) 2 4) h c (va_cpy be (shF hi 312) 0 312 104) sn be tx ti) (pc := 71) hx hb hts hinX4 tyX4 tyX4_ok nmX4 hown hz 0 rfl rfl 2 (by decide) L42 rfl rfl rfl rfl (Nat.le_of_ble_eq_true rfl) rfl dX4_recordFrom_71 (fun H locs hz => ?_)
      exact z_vret (pc := 74) hx hb hr hlk hQ hz dX4_recordFrom_74 rfl (by first | rfl | (simp only [if_pos c_5, if_pos c_14]))
    | succ cnt ih =>
      intro k hk9 H locs ls hz hl
      have hk : k < 312 := by omega
      refine lv_iload_n (pc := 10) hx hb dX4_recordFrom_10 rfl (lv_at hl 0 rfl) ?_
      refine lv_sipush (v := 312) (pc := 11) hx hb dX4_recordFrom_11 (by decide) ?_
      refine lv_icmp_ge (pc := 14) (tgt := 38) hx hb dX4_recordFrom_14 (by decide) (fun c9 => absurd c9 (nI_ge hk (by decide))) (fun c_14 => ?_)
      refine lv_aload_n (pc := 17) hx hb dX4_recordFrom_17 rfl (lv_at hl 1 rfl) ?_
      refine z_get (own := RX4) (ref := "CupFountainModel") (C := RX4) (T := TX4) (N := 17) (ci := 4) (v := .ref (a 2)) (pc := 18) hx hb hts hinX4 hown hz 0 rfl rfl 1 (by decide) L13 rfl rfl dX4_recordFrom_18 ?_
      refine lv_iload_n (pc := 21) hx hb dX4_recordFrom_21 rfl (lv_at hl 0 rfl) ?_
      refine lv_aload_n (pc := 22) hx hb dX4_recordFrom_22 rfl (lv_at hl 1 rfl) ?_
      refine z_get (own := RX4) (ref := "CupFountainModel") (C := RX4) (T := TX4) (N := 17) (ci := 4) (v := .ref (a 2)) (pc := 23) hx hb hts hinX4 hown hz 0 rfl rfl 1 (by decide) L13 rfl rfl dX4_recordFrom_23 ?_
      refine lv_bipush (v := 104) (pc := 26) hx hb dX4_recordFrom_26 (by decide) ?_
      refine lv_iload_n (pc := 28) hx hb dX4_recordFrom_28 rfl (lv_at hl 0 rfl) ?_
      refine lv_iadd (pc := 29) hx hb dX4_recordFrom_29 ?_
      refine z_iald (x := hi (104 + k)) (pc := 30) hx hb hz 2 rfl (104 + k) (nI_add 104 k) (by omega) (by decide) shF_ge dX4_recordFrom_30 ?_
      refine z_iast (ws1 := mm ca a f h c (upd (shF hi k) k (hi (104 + k))) sn be tx ti) (pc := 31) hx hb hz 2 rfl k rfl (by omega) (by decide) (by rw [shF_s]; rfl) dX4_recordFrom_31 (fun H locs hz => ?_)
      refine lv_iinc (v := nI (k + 1)) (lv' := [(2, .int (nI (k + 1))), (0, .ref (a 0)), (1, .ref (a 4))]) (pc := 32) hx hb dX4_recordFrom_32 hl (k := 0) rfl (nI_add k 1) (by decide) rfl (fun ls hl => ?_)
      refine lv_goto (tgt := 10) (pc := 35) hx hb dX4_recordFrom_35 (by decide) ?_
      exact ih (k + 1) (by omega) _ _ _ (hz.as (by rw [shF_s])) (lv_sub hl [0, 1, 2] rfl)
  exact loop1 312 0 (by omega) _ _ _ (hz.as (by rw [shF_0])) (lv_sub hl [0, 1, 2] rfl)

set_option maxHeartbeats 4000000 in
set_option maxRecDepth 100000 in
theorem k_X4_recordFrom_sa (l : Launch) (G : va_G) (ca : Nat → ClassId) (a : Nat → Nat) (f h : Nat → Int32) (c : Nat → Nat → Int32) (hi sn be tx ti : Nat → Int32) (kp : Nat) (hkp : kp < 4) (hf2 : f 2 = nI kp) : Zc l G ca yX4_recordFrom (zws yX4_recordFrom cX4_recordFrom 3 none) rm_X4_recordFrom [.ref (a 0), .ref (a 1)] (mm ca a f h c hi sn be tx ti) none (mm ca a (upd f 2 (nI (kp + 1))) h c (va_cpy (enc h c) hi 0 (104 * kp) 104) sn be tx ti) := by
  refine Zc.of (cc := cX4_recordFrom) (maxL := 3) (ret := none) (by decide) rfl (Nat.le_of_ble_eq_true rfl) ?_
  intro pg ev s0 mt below meth cd A args Q ls hx hb hr hml hown hts hlk hQ hl hz
  have L13 : (Cond.fieldLink RX4 13 "CupFountainModel" "history" "[I").before args s0 = true := hts _ (zsub _ wq_4_5)
  have L42 : (Cond.fieldLink RX4 42 "CupFountainModel" "kept" "I").before args s0 = true := hts _ (zsub _ wq_7_22)
  have hinX4 : ∀ w ∈ wsX40, w ∈ zws yX4_recordFrom cX4_recordFrom 3 none := fun w h => zsub w (wl_wsX40 w h)
  have hl : lv_has ls 3 [(0, .ref (a 0)), (1, .ref (a 1))] := hl
  refine lv_aload_n (pc := 0) hx hb dX4_recordFrom_0 rfl (lv_at hl 0 rfl) ?_
  refine z_get (own := RX4) (ref := "CupFountainModel") (C := RX4) (T := TX4) (N := 17) (ci := 4) (v := .int (f 2)) (pc := 1) hx hb hts hinX4 hown hz 0 rfl rfl 2 (by decide) L42 rfl rfl dX4_recordFrom_1 ?_
  refine lv_iconst (v := 4) (pc := 4) hx hb dX4_recordFrom_4 (by decide) ?_
  refine lv_icmp_ne (pc := 5) (tgt := 48) hx hb dX4_recordFrom_5 (by decide) (fun c_5 => ?_) (fun c9 => absurd c9 (fun q => by rw [hf2] at q; exact absurd ((nI_eq (b := 4) (by omega) (by decide)).mp q) (by omega)))
  refine lv_aload_n (pc := 48) hx hb dX4_recordFrom_48 rfl (lv_at hl 1 rfl) ?_
  refine lv_iconst (v := 0) (pc := 49) hx hb dX4_recordFrom_49 (by decide) ?_
  refine lv_aload_n (pc := 50) hx hb dX4_recordFrom_50 rfl (lv_at hl 0 rfl) ?_
  refine z_get (own := RX4) (ref := "CupFountainModel") (C := RX4) (T := TX4) (N := 17) (ci := 4) (v := .ref (a 2)) (pc := 51) hx hb hts hinX4 hown hz 0 rfl rfl 1 (by decide) L13 rfl rfl dX4_recordFrom_51 ?_
  refine lv_bipush (v := 104) (pc := 54) hx hb dX4_recordFrom_54 (by decide) ?_
  refine lv_aload_n (pc := 56) hx hb dX4_recordFrom_56 rfl (lv_at hl 0 rfl) ?_
  refine z_get (own := RX4) (ref := "CupFountainModel") (C := RX4) (T := TX4) (N := 17) (ci := 4) (v := .int (f 2)) (pc := 57) hx hb hts hinX4 hown hz 0 rfl rfl 2 (by decide) L42 rfl rfl dX4_recordFrom_57 ?_
  refine z_top (y := nI kp) hf2 ?_
  refine lv_imul (pc := 60) hx hb dX4_recordFrom_60 ?_
  refine z_top (y := nI (104 * kp)) (pk_mul 104 kp) ?_
  refine z_runS (pc := 61) (As := [.ref (a 1), .int 0, .ref (a 2), .int (nI (104 * kp))]) (rest := []) (ws1 := mm ca a f h c (va_cpy (enc h c) hi 0 (104 * kp) 104) sn be tx ti) ⟨hx, hb, hml, hown, hts⟩ (k_X4_copy l G ca (a 1) (a 2) 104 416 0 (104 * kp) (enc h c) hi (by omega) (by omega) (by decide) (by decide)) (cwS 4 hts (zgoodS zsub wq_6_18 wq_6_19 wq_1_5 wq_6_20) rfl rfl rfl hdV_X4_copy ⟨Nat.le_of_ble_eq_true rfl, Nat.le_of_ble_eq_true rfl⟩) hz (List.filterMap (fun q9 => (mm ca a f h c hi sn be tx ti)[q9]?) [0, 3, 4, 5, 6]) (z_pick [1, 2, 0, 3, 4, 5, 6] rfl rfl) (z_pick (ws := mm ca a f h c (va_cpy (enc h c) hi 0 (104 * kp) 104) sn be tx ti) [1, 2, 0, 3, 4, 5, 6] rfl rfl).symm rfl hl.1 (Nat.le_of_ble_eq_true rfl) (st1 := []) rfl dX4_recordFrom_61 ⟨Nat.zero_le _, Nat.zero_le _⟩ (fun H locs hz => ?_)
  refine lv_aload_n (pc := 64) hx hb dX4_recordFrom_64 rfl (lv_at hl 0 rfl) ?_
  refine lv_dup (pc := 65) hx hb dX4_recordFrom_65 rfl ?_
  refine z_get (own := RX4) (ref := "CupFountainModel") (C := RX4) (T := TX4) (N := 17) (ci := 4) (v := .int (f 2)) (pc := 66) hx hb hts hinX4 hown hz 0 rfl rfl 2 (by decide) L42 rfl rfl dX4_recordFrom_66 ?_
  refine z_top (y := nI kp) hf2 ?_
  refine lv_iconst (v := 1) (pc := 69) hx hb dX4_recordFrom_69 (by decide) ?_
  refine lv_iadd (pc := 70) hx hb dX4_recordFrom_70 ?_
  refine z_top (y := nI (kp + 1)) (nI_1 kp) ?_
  refine z_put (own := RX4) (ref := "CupFountainModel") (C := RX4) (T := TX4) (N := 17) (ci := 4) (v := .int (nI (kp + 1))) (ws1 := mm ca a (upd f 2 (nI (kp + 1))) h c (va_cpy (enc h c) hi 0 (104 * kp) 104) sn be tx ti) (pc := 71) hx hb hts hinX4 tyX4 tyX4_ok nmX4 hown hz 0 rfl rfl 2 (by decide) L42 rfl rfl rfl rfl (Nat.le_of_ble_eq_true rfl) rfl dX4_recordFrom_71 (fun H locs hz => ?_)
  exact z_vret (pc := 74) hx hb hr hlk hQ hz dX4_recordFrom_74 rfl (by first | rfl | (simp only [if_neg c_5]))

set_option maxHeartbeats 4000000 in
set_option maxRecDepth 100000 in
theorem k_X4_recordFrom_sb (l : Launch) (G : va_G) (ca : Nat → ClassId) (a : Nat → Nat) (f h : Nat → Int32) (c : Nat → Nat → Int32) (hi sn be tx ti : Nat → Int32) (hf2 : f 2 = 4) : Zc l G ca yX4_recordFrom (zws yX4_recordFrom cX4_recordFrom 3 none) rm_X4_recordFrom [.ref (a 0), .ref (a 1)] (mm ca a f h c hi sn be tx ti) none (mm ca a (upd f 2 4) h c (va_cpy (enc h c) (shF hi 312) 0 312 104) sn be tx ti) := by
  refine Zc.of (cc := cX4_recordFrom) (maxL := 3) (ret := none) (by decide) rfl (Nat.le_of_ble_eq_true rfl) ?_
  intro pg ev s0 mt below meth cd A args Q ls hx hb hr hml hown hts hlk hQ hl hz
  have L13 : (Cond.fieldLink RX4 13 "CupFountainModel" "history" "[I").before args s0 = true := hts _ (zsub _ wq_4_5)
  have L42 : (Cond.fieldLink RX4 42 "CupFountainModel" "kept" "I").before args s0 = true := hts _ (zsub _ wq_7_22)
  have hinX4 : ∀ w ∈ wsX40, w ∈ zws yX4_recordFrom cX4_recordFrom 3 none := fun w h => zsub w (wl_wsX40 w h)
  have hl : lv_has ls 3 [(0, .ref (a 0)), (1, .ref (a 1))] := hl
  refine lv_aload_n (pc := 0) hx hb dX4_recordFrom_0 rfl (lv_at hl 0 rfl) ?_
  refine z_get (own := RX4) (ref := "CupFountainModel") (C := RX4) (T := TX4) (N := 17) (ci := 4) (v := .int (f 2)) (pc := 1) hx hb hts hinX4 hown hz 0 rfl rfl 2 (by decide) L42 rfl rfl dX4_recordFrom_1 ?_
  refine lv_iconst (v := 4) (pc := 4) hx hb dX4_recordFrom_4 (by decide) ?_
  refine lv_icmp_ne (pc := 5) (tgt := 48) hx hb dX4_recordFrom_5 (by decide) (fun c9 => absurd hf2 c9) (fun c_5 => ?_)
  refine lv_iconst (v := 0) (pc := 8) hx hb dX4_recordFrom_8 (by decide) ?_
  refine lv_istore_n (lv' := [(2, .int 0), (0, .ref (a 0)), (1, .ref (a 1))]) (pc := 9) hx hb dX4_recordFrom_9 rfl hl (by decide) rfl (fun ls hl => ?_)
  have loop1 : ∀ cnt k : Nat, k + cnt = 312 → ∀ (H : Heap) (locs : List Loc) (ls : Array Slot), zw G ca A s0.heap s0 (mm ca a f h c (shF hi k) sn be tx ti) H locs → lv_has ls 3 [(2, .int (nI k)), (0, .ref (a 0)), (1, .ref (a 1))] → W pg l ev rm_X4_recordFrom s0 mt args below meth cd H locs 0 0 Q (F0 mt 10 ls []) := by
    intro cnt
    induction cnt with
    | zero =>
      intro k hk9 H locs ls hz hl
      obtain rfl : 312 = k := by omega
      refine lv_iload_n (pc := 10) hx hb dX4_recordFrom_10 rfl (lv_at hl 0 rfl) ?_
      refine lv_sipush (v := 312) (pc := 11) hx hb dX4_recordFrom_11 (by decide) ?_
      refine lv_icmp_ge (pc := 14) (tgt := 38) hx hb dX4_recordFrom_14 (by decide) (fun c_14 => ?_) (fun c9 => absurd (by decide) c9)
      refine lv_aload_n (pc := 38) hx hb dX4_recordFrom_38 rfl (lv_at hl 1 rfl) ?_
      refine lv_dup (pc := 39) hx hb dX4_recordFrom_39 rfl ?_
      refine z_get (own := RX4) (ref := "CupFountainModel") (C := RX4) (T := TX4) (N := 17) (ci := 4) (v := .int (f 2)) (pc := 40) hx hb hts hinX4 hown hz 0 rfl rfl 2 (by decide) L42 rfl rfl dX4_recordFrom_40 ?_
      refine lv_iconst (v := 1) (pc := 43) hx hb dX4_recordFrom_43 (by decide) ?_
      refine lv_isub (pc := 44) hx hb dX4_recordFrom_44 ?_
      refine z_top (y := 3) (by rw [hf2]; rfl) ?_
      refine z_put (own := RX4) (ref := "CupFountainModel") (C := RX4) (T := TX4) (N := 17) (ci := 4) (v := .int 3) (ws1 := mm ca a (upd f 2 3) h c (shF hi 312) sn be tx ti) (pc := 45) hx hb hts hinX4 tyX4 tyX4_ok nmX4 hown hz 0 rfl rfl 2 (by decide) L42 rfl rfl rfl rfl (Nat.le_of_ble_eq_true rfl) rfl dX4_recordFrom_45 (fun H locs hz => ?_)
      refine lv_aload_n (pc := 48) hx hb dX4_recordFrom_48 rfl (lv_at hl 2 rfl) ?_
      refine lv_iconst (v := 0) (pc := 49) hx hb dX4_recordFrom_49 (by decide) ?_
      refine lv_aload_n (pc := 50) hx hb dX4_recordFrom_50 rfl (lv_at hl 1 rfl) ?_
      refine z_get (own := RX4) (ref := "CupFountainModel") (C := RX4) (T := TX4) (N := 17) (ci := 4) (v := .ref (a 2)) (pc := 51) hx hb hts hinX4 hown hz 0 rfl rfl 1 (by decide) L13 rfl rfl dX4_recordFrom_51 ?_
      refine lv_bipush (v := 104) (pc := 54) hx hb dX4_recordFrom_54 (by decide) ?_
      refine lv_aload_n (pc := 56) hx hb dX4_recordFrom_56 rfl (lv_at hl 1 rfl) ?_
      refine z_get (own := RX4) (ref := "CupFountainModel") (C := RX4) (T := TX4) (N := 17) (ci := 4) (v := .int 3) (pc := 57) hx hb hts hinX4 hown hz 0 rfl rfl 2 (by decide) L42 rfl rfl dX4_recordFrom_57 ?_
      refine lv_imul (pc := 60) hx hb dX4_recordFrom_60 ?_
      refine z_top (y := nI 312) rfl ?_
      refine z_runS (pc := 61) (As := [.ref (a 1), .int 0, .ref (a 2), .int (nI 312)]) (rest := []) (ws1 := mm ca a (upd f 2 3) h c (va_cpy (enc h c) (shF hi 312) 0 312 104) sn be tx ti) ⟨hx, hb, hml, hown, hts⟩ (k_X4_copy l G ca (a 1) (a 2) 104 416 0 312 (enc h c) (shF hi 312) (by omega) (by omega) (by decide) (by decide)) (cwS 4 hts (zgoodS zsub wq_6_18 wq_6_19 wq_1_5 wq_6_20) rfl rfl rfl hdV_X4_copy ⟨Nat.le_of_ble_eq_true rfl, Nat.le_of_ble_eq_true rfl⟩) hz (List.filterMap (fun q9 => (mm ca a (upd f 2 3) h c (shF hi 312) sn be tx ti)[q9]?) [0, 3, 4, 5, 6]) (z_pick [1, 2, 0, 3, 4, 5, 6] rfl rfl) (z_pick (ws := mm ca a (upd f 2 3) h c (va_cpy (enc h c) (shF hi 312) 0 312 104) sn be tx ti) [1, 2, 0, 3, 4, 5, 6] rfl rfl).symm rfl hl.1 (Nat.le_of_ble_eq_true rfl) (st1 := []) rfl dX4_recordFrom_61 ⟨Nat.zero_le _, Nat.zero_le _⟩ (fun H locs hz => ?_)
      refine lv_aload_n (pc := 64) hx hb dX4_recordFrom_64 rfl (lv_at hl 1 rfl) ?_
      refine lv_dup (pc := 65) hx hb dX4_recordFrom_65 rfl ?_
      refine z_get (own := RX4) (ref := "CupFountainModel") (C := RX4) (T := TX4) (N := 17) (ci := 4) (v := .int 3) (pc := 66) hx hb hts hinX4 hown hz 0 rfl rfl 2 (by decide) L42 rfl rfl dX4_recordFrom_66 ?_
      refine lv_iconst (v := 1) (pc := 69) hx hb dX4_recordFrom_69 (by decide) ?_
      refine lv_iadd (pc := 70) hx hb dX4_recordFrom_70 ?_
      refine z_top (y := 4) rfl ?_
      refine z_put (own := RX4) (ref := "CupFountainModel") (C := RX4) (T := TX4) (N := 17) (ci := 4) (v := .int 4) (ws1 := mm ca a (upd (upd f 2 3) 2 4) h c (va_cpy (enc h c) (shF hi 312) 0 312 104) sn be tx ti) (pc := 71) hx hb hts hinX4 tyX4 tyX4_ok nmX4 hown hz 0 rfl rfl 2 (by decide) L42 rfl rfl rfl rfl (Nat.le_of_ble_eq_true rfl) rfl dX4_recordFrom_71 (fun H locs hz => ?_)
      exact z_vret (pc := 74) hx hb hr hlk hQ hz dX4_recordFrom_74 rfl (by first | rfl | (simp only [if_pos c_5, if_pos c_14]))
    | succ cnt ih =>
      intro k hk9 H locs ls hz hl
      have hk : k < 312 := by omega
      refine lv_iload_n (pc := 10) hx hb dX4_recordFrom_10 rfl (lv_at hl 0 rfl) ?_
      refine lv_sipush (v := 312) (pc := 11) hx hb dX4_recordFrom_11 (by decide) ?_
      refine lv_icmp_ge (pc := 14) (tgt := 38) hx hb dX4_recordFrom_14 (by decide) (fun c9 => absurd c9 (nI_ge hk (by decide))) (fun c_14 => ?_)
      refine lv_aload_n (pc := 17) hx hb dX4_recordFrom_17 rfl (lv_at hl 1 rfl) ?_
      refine z_get (own := RX4) (ref := "CupFountainModel") (C := RX4) (T := TX4) (N := 17) (ci := 4) (v := .ref (a 2)) (pc := 18) hx hb hts hinX4 hown hz 0 rfl rfl 1 (by decide) L13 rfl rfl dX4_recordFrom_18 ?_
      refine lv_iload_n (pc := 21) hx hb dX4_recordFrom_21 rfl (lv_at hl 0 rfl) ?_
      refine lv_aload_n (pc := 22) hx hb dX4_recordFrom_22 rfl (lv_at hl 1 rfl) ?_
      refine z_get (own := RX4) (ref := "CupFountainModel") (C := RX4) (T := TX4) (N := 17) (ci := 4) (v := .ref (a 2)) (pc := 23) hx hb hts hinX4 hown hz 0 rfl rfl 1 (by decide) L13 rfl rfl dX4_recordFrom_23 ?_
      refine lv_bipush (v := 104) (pc := 26) hx hb dX4_recordFrom_26 (by decide) ?_
      refine lv_iload_n (pc := 28) hx hb dX4_recordFrom_28 rfl (lv_at hl 0 rfl) ?_
      refine lv_iadd (pc := 29) hx hb dX4_recordFrom_29 ?_
      refine z_iald (x := hi (104 + k)) (pc := 30) hx hb hz 2 rfl (104 + k) (nI_add 104 k) (by omega) (by decide) shF_ge dX4_recordFrom_30 ?_
      refine z_iast (ws1 := mm ca a f h c (upd (shF hi k) k (hi (104 + k))) sn be tx ti) (pc := 31) hx hb hz 2 rfl k rfl (by omega) (by decide) (by rw [shF_s]; rfl) dX4_recordFrom_31 (fun H locs hz => ?_)
      refine lv_iinc (v := nI (k + 1)) (lv' := [(2, .int (nI (k + 1))), (0, .ref (a 0)), (1, .ref (a 1))]) (pc := 32) hx hb dX4_recordFrom_32 hl (k := 0) rfl (nI_add k 1) (by decide) rfl (fun ls hl => ?_)
      refine lv_goto (tgt := 10) (pc := 35) hx hb dX4_recordFrom_35 (by decide) ?_
      exact ih (k + 1) (by omega) _ _ _ (hz.as (by rw [shF_s])) (lv_sub hl [0, 1, 2] rfl)
  exact loop1 312 0 (by omega) _ _ _ (hz.as (by rw [shF_0])) (lv_sub hl [0, 1, 2] rfl)

theorem k_X4_recordFrom_b (l : Launch) (G : va_G) (ca : Nat → ClassId) (a : Nat → Nat) (f h : Nat → Int32) (c : Nat → Nat → Int32) (hi sn be tx ti : Nat → Int32) (kp : Nat) (hkp : kp ≤ 4) (hf2 : f 2 = nI kp) : Zc l G ca yX4_recordFrom (zws yX4_recordFrom cX4_recordFrom 3 none) rm_X4_recordFrom [.ref (a 0), .ref (a 4)] (mm ca a f h c hi sn be tx ti) none (mm ca a (upd f 2 (nI (recK kp))) h c (recHi hi be kp) sn be tx ti) := by
  by_cases h4 : kp = 4
  · subst h4
    exact k_X4_recordFrom_bb l G ca a f h c hi sn be tx ti hf2
  · have h9 := k_X4_recordFrom_ba l G ca a f h c hi sn be tx ti kp (by omega) hf2
    simp only [recK, recHi, if_neg h4]
    exact h9

theorem k_X4_recordFrom_s (l : Launch) (G : va_G) (ca : Nat → ClassId) (a : Nat → Nat) (f h : Nat → Int32) (c : Nat → Nat → Int32) (hi sn be tx ti : Nat → Int32) (kp : Nat) (hkp : kp ≤ 4) (hf2 : f 2 = nI kp) : Zc l G ca yX4_recordFrom (zws yX4_recordFrom cX4_recordFrom 3 none) rm_X4_recordFrom [.ref (a 0), .ref (a 1)] (mm ca a f h c hi sn be tx ti) none (mm ca a (upd f 2 (nI (recK kp))) h c (recHi hi (enc h c) kp) sn be tx ti) := by
  by_cases h4 : kp = 4
  · subst h4
    exact k_X4_recordFrom_sb l G ca a f h c hi sn be tx ti hf2
  · have h9 := k_X4_recordFrom_sa l G ca a f h c hi sn be tx ti kp (by omega) hf2
    simp only [recK, recHi, if_neg h4]
    exact h9

def rm_X4_act : Room := { frames := 2, cells := 0, slots := 0, locals := 46 }
set_option maxRecDepth 20000 in
theorem hdV_X4_act : yX4_act.cls = RX4 ∧ yX4_act.cls ≠ "java/lang/invoke/MethodHandle" ∧ yX4_act.cls ≠ "java/lang/invoke/VarHandle" ∧ (parseMethodDescriptor yX4_act.desc).map (fun d => d.parameters.length) = some 1 := by decide +kernel
set_option maxHeartbeats 4000000 in
set_option maxRecDepth 100000 in
theorem k_X4_act (l : Launch) (G : va_G) (ca : Nat → ClassId) (a : Nat → Nat) (f h : Nat → Int32) (c : Nat → Nat → Int32) (hi sn be tx ti : Nat → Int32) (kp : Nat) (hkp : kp ≤ 4) (hf2 : f 2 = nI kp) (r : Int32) : Zc l G ca yX4_act (zws yX4_act cX4_act 2 (some .int)) rm_X4_act [.ref (a 0), .int r] (mm ca a f h c hi sn be tx ti) (some (.int r)) (mm ca a (actF f kp r) h c (actHi hi be kp r) sn be tx ti) := by
  refine Zc.of (cc := cX4_act) (maxL := 2) (ret := (some .int)) (by decide) rfl (Nat.le_of_ble_eq_true rfl) ?_
  intro pg ev s0 mt below meth cd A args Q ls hx hb hr hml hown hts hlk hQ hl hz
  have L19 : (Cond.fieldLink RX4 19 "CupFountainModel" "before" "[I").before args s0 = true := hts _ (zsub _ wq_4_7)
  have hinX4 : ∀ w ∈ wsX40, w ∈ zws yX4_act cX4_act 2 (some .int) := fun w h => zsub w (wl_wsX40 w h)
  have hl : lv_has ls 2 [(0, .ref (a 0)), (1, .int r)] := hl
  refine lv_iload_n (pc := 0) hx hb dX4_act_0 rfl (lv_at hl 1 rfl) ?_
  refine lv_if_lt (pc := 1) (tgt := 12) hx hb dX4_act_1 (by decide) (fun c_1 => ?_) (fun c_1 => ?_)
  · refine lv_iload_n (pc := 12) hx hb dX4_act_12 rfl (lv_at hl 1 rfl) ?_
    exact z_iret (pc := 13) hx hb hr hlk hQ hz dX4_act_13 (by rfl) (by simp only [actF, actHi, if_pos c_1])
  · refine lv_aload_n (pc := 4) hx hb dX4_act_4 rfl (lv_at hl 0 rfl) ?_
    refine lv_aload_n (pc := 5) hx hb dX4_act_5 rfl (lv_at hl 0 rfl) ?_
    refine z_get (own := RX4) (ref := "CupFountainModel") (C := RX4) (T := TX4) (N := 17) (ci := 4) (v := .ref (a 4)) (pc := 6) hx hb hts hinX4 hown hz 0 rfl rfl 5 (by decide) L19 rfl rfl dX4_act_6 ?_
    refine z_runV (pc := 9) (As := [.ref (a 4)]) (rest := []) (ws1 := mm ca a (upd f 2 (nI (recK kp))) h c (recHi hi be kp) sn be tx ti) ⟨hx, hb, hml, hown, hts⟩ (k_X4_recordFrom_b l G ca a f h c hi sn be tx ti kp hkp hf2) (cwV 1 hts (zgoodV zsub wq_7_18 wq_7_19 wq_7_20 wq_1_5 wq_7_21) rfl rfl rfl hdV_X4_recordFrom ⟨Nat.le_of_ble_eq_true rfl, Nat.le_of_ble_eq_true rfl⟩) hz [] zp_all zp_all' rfl rfl rfl hl.1 (Nat.le_of_ble_eq_true rfl) (st1 := []) rfl dX4_act_9 ⟨Nat.zero_le _, Nat.zero_le _⟩ (fun H locs hz => ?_)
    refine lv_iload_n (pc := 12) hx hb dX4_act_12 rfl (lv_at hl 1 rfl) ?_
    exact z_iret (pc := 13) hx hb hr hlk hQ hz dX4_act_13 (by rfl) (by simp only [actF, actHi, if_neg c_1])

def rm_X4_setCup : Room := { frames := 3, cells := 0, slots := 0, locals := 68 }
set_option maxRecDepth 20000 in
theorem hdV_X4_setCup : yX4_setCup.cls = RX4 ∧ yX4_setCup.cls ≠ "java/lang/invoke/MethodHandle" ∧ yX4_setCup.cls ≠ "java/lang/invoke/VarHandle" ∧ (parseMethodDescriptor yX4_setCup.desc).map (fun d => d.parameters.length) = some 3 := by decide +kernel
set_option maxHeartbeats 4000000 in
set_option maxRecDepth 100000 in
theorem k_X4_setCup (l : Launch) (G : va_G) (ca : Nat → ClassId) (a : Nat → Nat) (f h : Nat → Int32) (c : Nat → Nat → Int32) (hi sn be tx ti : Nat → Int32) (cup which value : Int32) (kp : Nat) (hkp : kp ≤ 4) (hf2 : f 2 = nI kp) : Zc l G ca yX4_setCup (zws yX4_setCup cX4_setCup 4 (some .int)) rm_X4_setCup [.ref (a 0), .int cup, .int which, .int value] (mm ca a f h c hi sn be tx ti) (some (.int (setR c cup which value))) (mm ca a (actF f kp (setR c cup which value)) h (setC c cup which value) (actHi hi (enc h c) kp (setR c cup which value)) sn (enc h c) tx ti) := by
  refine Zc.of (cc := cX4_setCup) (maxL := 4) (ret := (some .int)) (by decide) rfl (Nat.le_of_ble_eq_true rfl) ?_
  intro pg ev s0 mt below meth cd A args Q ls hx hb hr hml hown hts hlk hQ hl hz
  have hl : lv_has ls 4 [(0, .ref (a 0)), (1, .int cup), (2, .int which), (3, .int value)] := hl
  refine lv_aload_n (pc := 0) hx hb dX4_setCup_0 rfl (lv_at hl 0 rfl) ?_
  refine z_runV (pc := 1) (As := []) (rest := []) (ws1 := mm ca a f h c hi sn (enc h c) tx ti) ⟨hx, hb, hml, hown, hts⟩ (k_X4_begin l G ca a f h c hi sn be tx ti) (cwV 0 hts (zgoodV zsub wq_6_14 wq_6_15 wq_6_16 wq_1_5 wq_6_17) rfl rfl rfl hdV_X4_begin ⟨Nat.le_of_ble_eq_true rfl, Nat.le_of_ble_eq_true rfl⟩) hz [] zp_all zp_all' rfl rfl rfl hl.1 (Nat.le_of_ble_eq_true rfl) (st1 := []) rfl dX4_setCup_1 ⟨Nat.zero_le _, Nat.zero_le _⟩ (fun H locs hz => ?_)
  refine lv_aload_n (pc := 4) hx hb dX4_setCup_4 rfl (lv_at hl 0 rfl) ?_
  refine lv_aload_n (pc := 5) hx hb dX4_setCup_5 rfl (lv_at hl 0 rfl) ?_
  refine lv_iload_n (pc := 6) hx hb dX4_setCup_6 rfl (lv_at hl 1 rfl) ?_
  refine lv_iload_n (pc := 7) hx hb dX4_setCup_7 rfl (lv_at hl 2 rfl) ?_
  refine lv_iload_n (pc := 8) hx hb dX4_setCup_8 rfl (lv_at hl 3 rfl) ?_
  refine z_runV (pc := 9) (As := [.int cup, .int which, .int value]) (rest := [.ref (a 0)]) (ws1 := mm ca a f h (setC c cup which value) hi sn (enc h c) tx ti) ⟨hx, hb, hml, hown, hts⟩ (k_X4_doSetCup l G ca a f h c hi sn (enc h c) tx ti cup which value) (cwV 3 hts (zgoodV zsub wq_6_21 wq_6_22 wq_6_23 wq_1_5 wq_7_0) rfl rfl rfl hdV_X4_doSetCup ⟨Nat.le_of_ble_eq_true rfl, Nat.le_of_ble_eq_true rfl⟩) hz [] zp_all zp_all' rfl rfl rfl hl.1 (Nat.le_of_ble_eq_true rfl) (st1 := [.int (setR c cup which value), .ref (a 0)]) rfl dX4_setCup_9 ⟨Nat.zero_le _, Nat.zero_le _⟩ (fun H locs hz => ?_)
  refine z_runV (pc := 12) (As := [.int (setR c cup which value)]) (rest := []) (ws1 := mm ca a (actF f kp (setR c cup which value)) h (setC c cup which value) (actHi hi (enc h c) kp (setR c cup which value)) sn (enc h c) tx ti) ⟨hx, hb, hml, hown, hts⟩ (k_X4_act l G ca a f h (setC c cup which value) hi sn (enc h c) tx ti kp hkp hf2 (setR c cup which value)) (cwV 1 hts (zgoodV zsub wq_7_14 wq_7_15 wq_7_16 wq_1_5 wq_7_17) rfl rfl rfl hdV_X4_act ⟨Nat.le_of_ble_eq_true rfl, Nat.le_of_ble_eq_true rfl⟩) hz [] zp_all zp_all' rfl rfl rfl hl.1 (Nat.le_of_ble_eq_true rfl) (st1 := [.int (setR c cup which value)]) rfl dX4_setCup_12 ⟨Nat.zero_le _, Nat.zero_le _⟩ (fun H locs hz => ?_)
  exact z_iret (pc := 15) hx hb hr hlk hQ hz dX4_setCup_15 (by first | rfl | (simp only [])) (by first | rfl | (simp only []))

def rm_X4_turnLock : Room := { frames := 3, cells := 0, slots := 0, locals := 67 }
set_option maxRecDepth 20000 in
theorem hdV_X4_turnLock : yX4_turnLock.cls = RX4 ∧ yX4_turnLock.cls ≠ "java/lang/invoke/MethodHandle" ∧ yX4_turnLock.cls ≠ "java/lang/invoke/VarHandle" ∧ (parseMethodDescriptor yX4_turnLock.desc).map (fun d => d.parameters.length) = some 1 := by decide +kernel
set_option maxHeartbeats 4000000 in
set_option maxRecDepth 100000 in
theorem k_X4_turnLock (l : Launch) (G : va_G) (ca : Nat → ClassId) (a : Nat → Nat) (f h : Nat → Int32) (c : Nat → Nat → Int32) (hi sn be tx ti : Nat → Int32) (cup : Int32) (kp : Nat) (hkp : kp ≤ 4) (hf2 : f 2 = nI kp) : Zc l G ca yX4_turnLock (zws yX4_turnLock cX4_turnLock 2 (some .int)) rm_X4_turnLock [.ref (a 0), .int cup] (mm ca a f h c hi sn be tx ti) (some (.int (turnR c cup))) (mm ca a (actF f kp (turnR c cup)) h (turnC c cup) (actHi hi (enc h c) kp (turnR c cup)) sn (enc h c) tx ti) := by
  refine Zc.of (cc := cX4_turnLock) (maxL := 2) (ret := (some .int)) (by decide) rfl (Nat.le_of_ble_eq_true rfl) ?_
  intro pg ev s0 mt below meth cd A args Q ls hx hb hr hml hown hts hlk hQ hl hz
  have hl : lv_has ls 2 [(0, .ref (a 0)), (1, .int cup)] := hl
  refine lv_aload_n (pc := 0) hx hb dX4_turnLock_0 rfl (lv_at hl 0 rfl) ?_
  refine z_runV (pc := 1) (As := []) (rest := []) (ws1 := mm ca a f h c hi sn (enc h c) tx ti) ⟨hx, hb, hml, hown, hts⟩ (k_X4_begin l G ca a f h c hi sn be tx ti) (cwV 0 hts (zgoodV zsub wq_6_14 wq_6_15 wq_6_16 wq_1_5 wq_6_17) rfl rfl rfl hdV_X4_begin ⟨Nat.le_of_ble_eq_true rfl, Nat.le_of_ble_eq_true rfl⟩) hz [] zp_all zp_all' rfl rfl rfl hl.1 (Nat.le_of_ble_eq_true rfl) (st1 := []) rfl dX4_turnLock_1 ⟨Nat.zero_le _, Nat.zero_le _⟩ (fun H locs hz => ?_)
  refine lv_aload_n (pc := 4) hx hb dX4_turnLock_4 rfl (lv_at hl 0 rfl) ?_
  refine lv_aload_n (pc := 5) hx hb dX4_turnLock_5 rfl (lv_at hl 0 rfl) ?_
  refine lv_iload_n (pc := 6) hx hb dX4_turnLock_6 rfl (lv_at hl 1 rfl) ?_
  refine z_runV (pc := 7) (As := [.int cup]) (rest := [.ref (a 0)]) (ws1 := mm ca a f h (turnC c cup) hi sn (enc h c) tx ti) ⟨hx, hb, hml, hown, hts⟩ (k_X4_doTurn l G ca a f h c hi sn (enc h c) tx ti cup) (cwV 1 hts (zgoodV zsub wq_8_13 wq_8_14 wq_8_15 wq_1_5 wq_8_16) rfl rfl rfl hdV_X4_doTurn ⟨Nat.le_of_ble_eq_true rfl, Nat.le_of_ble_eq_true rfl⟩) hz [] zp_all zp_all' rfl rfl rfl hl.1 (Nat.le_of_ble_eq_true rfl) (st1 := [.int (turnR c cup), .ref (a 0)]) rfl dX4_turnLock_7 ⟨Nat.zero_le _, Nat.zero_le _⟩ (fun H locs hz => ?_)
  refine z_runV (pc := 10) (As := [.int (turnR c cup)]) (rest := []) (ws1 := mm ca a (actF f kp (turnR c cup)) h (turnC c cup) (actHi hi (enc h c) kp (turnR c cup)) sn (enc h c) tx ti) ⟨hx, hb, hml, hown, hts⟩ (k_X4_act l G ca a f h (turnC c cup) hi sn (enc h c) tx ti kp hkp hf2 (turnR c cup)) (cwV 1 hts (zgoodV zsub wq_7_14 wq_7_15 wq_7_16 wq_1_5 wq_7_17) rfl rfl rfl hdV_X4_act ⟨Nat.le_of_ble_eq_true rfl, Nat.le_of_ble_eq_true rfl⟩) hz [] zp_all zp_all' rfl rfl rfl hl.1 (Nat.le_of_ble_eq_true rfl) (st1 := [.int (turnR c cup)]) rfl dX4_turnLock_10 ⟨Nat.zero_le _, Nat.zero_le _⟩ (fun H locs hz => ?_)
  exact z_iret (pc := 13) hx hb hr hlk hQ hz dX4_turnLock_13 (by first | rfl | (simp only [])) (by first | rfl | (simp only []))

def rm_X4_setHour : Room := { frames := 3, cells := 0, slots := 0, locals := 67 }
set_option maxRecDepth 20000 in
theorem hdV_X4_setHour : yX4_setHour.cls = RX4 ∧ yX4_setHour.cls ≠ "java/lang/invoke/MethodHandle" ∧ yX4_setHour.cls ≠ "java/lang/invoke/VarHandle" ∧ (parseMethodDescriptor yX4_setHour.desc).map (fun d => d.parameters.length) = some 2 := by decide +kernel
set_option maxHeartbeats 4000000 in
set_option maxRecDepth 100000 in
theorem k_X4_setHour (l : Launch) (G : va_G) (ca : Nat → ClassId) (a : Nat → Nat) (f h : Nat → Int32) (c : Nat → Nat → Int32) (hi sn be tx ti : Nat → Int32) (cup hour : Int32) (kp : Nat) (hkp : kp ≤ 4) (hf2 : f 2 = nI kp) : Zc l G ca yX4_setHour (zws yX4_setHour cX4_setHour 3 (some .int)) rm_X4_setHour [.ref (a 0), .int cup, .int hour] (mm ca a f h c hi sn be tx ti) (some (.int (hourR c cup hour))) (mm ca a (actF f kp (hourR c cup hour)) h (hourC c cup hour) (actHi hi (enc h c) kp (hourR c cup hour)) sn (enc h c) tx ti) := by
  refine Zc.of (cc := cX4_setHour) (maxL := 3) (ret := (some .int)) (by decide) rfl (Nat.le_of_ble_eq_true rfl) ?_
  intro pg ev s0 mt below meth cd A args Q ls hx hb hr hml hown hts hlk hQ hl hz
  have hl : lv_has ls 3 [(0, .ref (a 0)), (1, .int cup), (2, .int hour)] := hl
  refine lv_aload_n (pc := 0) hx hb dX4_setHour_0 rfl (lv_at hl 0 rfl) ?_
  refine z_runV (pc := 1) (As := []) (rest := []) (ws1 := mm ca a f h c hi sn (enc h c) tx ti) ⟨hx, hb, hml, hown, hts⟩ (k_X4_begin l G ca a f h c hi sn be tx ti) (cwV 0 hts (zgoodV zsub wq_6_14 wq_6_15 wq_6_16 wq_1_5 wq_6_17) rfl rfl rfl hdV_X4_begin ⟨Nat.le_of_ble_eq_true rfl, Nat.le_of_ble_eq_true rfl⟩) hz [] zp_all zp_all' rfl rfl rfl hl.1 (Nat.le_of_ble_eq_true rfl) (st1 := []) rfl dX4_setHour_1 ⟨Nat.zero_le _, Nat.zero_le _⟩ (fun H locs hz => ?_)
  refine lv_aload_n (pc := 4) hx hb dX4_setHour_4 rfl (lv_at hl 0 rfl) ?_
  refine lv_aload_n (pc := 5) hx hb dX4_setHour_5 rfl (lv_at hl 0 rfl) ?_
  refine lv_iload_n (pc := 6) hx hb dX4_setHour_6 rfl (lv_at hl 1 rfl) ?_
  refine lv_iload_n (pc := 7) hx hb dX4_setHour_7 rfl (lv_at hl 2 rfl) ?_
  refine z_runV (pc := 8) (As := [.int cup, .int hour]) (rest := [.ref (a 0)]) (ws1 := mm ca a f h (hourC c cup hour) hi sn (enc h c) tx ti) ⟨hx, hb, hml, hown, hts⟩ (k_X4_doSetHour l G ca a f h c hi sn (enc h c) tx ti cup hour) (cwV 2 hts (zgoodV zsub wq_9_6 wq_9_7 wq_9_8 wq_1_5 wq_9_9) rfl rfl rfl hdV_X4_doSetHour ⟨Nat.le_of_ble_eq_true rfl, Nat.le_of_ble_eq_true rfl⟩) hz [] zp_all zp_all' rfl rfl rfl hl.1 (Nat.le_of_ble_eq_true rfl) (st1 := [.int (hourR c cup hour), .ref (a 0)]) rfl dX4_setHour_8 ⟨Nat.zero_le _, Nat.zero_le _⟩ (fun H locs hz => ?_)
  refine z_runV (pc := 11) (As := [.int (hourR c cup hour)]) (rest := []) (ws1 := mm ca a (actF f kp (hourR c cup hour)) h (hourC c cup hour) (actHi hi (enc h c) kp (hourR c cup hour)) sn (enc h c) tx ti) ⟨hx, hb, hml, hown, hts⟩ (k_X4_act l G ca a f h (hourC c cup hour) hi sn (enc h c) tx ti kp hkp hf2 (hourR c cup hour)) (cwV 1 hts (zgoodV zsub wq_7_14 wq_7_15 wq_7_16 wq_1_5 wq_7_17) rfl rfl rfl hdV_X4_act ⟨Nat.le_of_ble_eq_true rfl, Nat.le_of_ble_eq_true rfl⟩) hz [] zp_all zp_all' rfl rfl rfl hl.1 (Nat.le_of_ble_eq_true rfl) (st1 := [.int (hourR c cup hour)]) rfl dX4_setHour_11 ⟨Nat.zero_le _, Nat.zero_le _⟩ (fun H locs hz => ?_)
  exact z_iret (pc := 14) hx hb hr hlk hQ hz dX4_setHour_14 (by first | rfl | (simp only [])) (by first | rfl | (simp only []))

def rm_X4_guard : Room := { frames := 3, cells := 0, slots := 0, locals := 67 }
set_option maxRecDepth 20000 in
theorem hdV_X4_guard : yX4_guard.cls = RX4 ∧ yX4_guard.cls ≠ "java/lang/invoke/MethodHandle" ∧ yX4_guard.cls ≠ "java/lang/invoke/VarHandle" ∧ (parseMethodDescriptor yX4_guard.desc).map (fun d => d.parameters.length) = some 1 := by decide +kernel
set_option maxHeartbeats 4000000 in
set_option maxRecDepth 100000 in
theorem k_X4_guard (l : Launch) (G : va_G) (ca : Nat → ClassId) (a : Nat → Nat) (f h : Nat → Int32) (c : Nat → Nat → Int32) (hi sn be tx ti : Nat → Int32) (cup : Int32) (kp : Nat) (hkp : kp ≤ 4) (hf2 : f 2 = nI kp) : Zc l G ca yX4_guard (zws yX4_guard cX4_guard 2 (some .int)) rm_X4_guard [.ref (a 0), .int cup] (mm ca a f h c hi sn be tx ti) (some (.int (guardR c cup))) (mm ca a (actF f kp (guardR c cup)) h (guardC c cup) (actHi hi (enc h c) kp (guardR c cup)) sn (enc h c) tx ti) := by
  refine Zc.of (cc := cX4_guard) (maxL := 2) (ret := (some .int)) (by decide) rfl (Nat.le_of_ble_eq_true rfl) ?_
  intro pg ev s0 mt below meth cd A args Q ls hx hb hr hml hown hts hlk hQ hl hz
  have hl : lv_has ls 2 [(0, .ref (a 0)), (1, .int cup)] := hl
  refine lv_aload_n (pc := 0) hx hb dX4_guard_0 rfl (lv_at hl 0 rfl) ?_
  refine z_runV (pc := 1) (As := []) (rest := []) (ws1 := mm ca a f h c hi sn (enc h c) tx ti) ⟨hx, hb, hml, hown, hts⟩ (k_X4_begin l G ca a f h c hi sn be tx ti) (cwV 0 hts (zgoodV zsub wq_6_14 wq_6_15 wq_6_16 wq_1_5 wq_6_17) rfl rfl rfl hdV_X4_begin ⟨Nat.le_of_ble_eq_true rfl, Nat.le_of_ble_eq_true rfl⟩) hz [] zp_all zp_all' rfl rfl rfl hl.1 (Nat.le_of_ble_eq_true rfl) (st1 := []) rfl dX4_guard_1 ⟨Nat.zero_le _, Nat.zero_le _⟩ (fun H locs hz => ?_)
  refine lv_aload_n (pc := 4) hx hb dX4_guard_4 rfl (lv_at hl 0 rfl) ?_
  refine lv_aload_n (pc := 5) hx hb dX4_guard_5 rfl (lv_at hl 0 rfl) ?_
  refine lv_iload_n (pc := 6) hx hb dX4_guard_6 rfl (lv_at hl 1 rfl) ?_
  refine z_runV (pc := 7) (As := [.int cup]) (rest := [.ref (a 0)]) (ws1 := mm ca a f h (guardC c cup) hi sn (enc h c) tx ti) ⟨hx, hb, hml, hown, hts⟩ (k_X4_doGuard l G ca a f h c hi sn (enc h c) tx ti cup) (cwV 1 hts (zgoodV zsub wq_9_22 wq_9_23 wq_10_0 wq_1_5 wq_10_1) rfl rfl rfl hdV_X4_doGuard ⟨Nat.le_of_ble_eq_true rfl, Nat.le_of_ble_eq_true rfl⟩) hz [] zp_all zp_all' rfl rfl rfl hl.1 (Nat.le_of_ble_eq_true rfl) (st1 := [.int (guardR c cup), .ref (a 0)]) rfl dX4_guard_7 ⟨Nat.zero_le _, Nat.zero_le _⟩ (fun H locs hz => ?_)
  refine z_runV (pc := 10) (As := [.int (guardR c cup)]) (rest := []) (ws1 := mm ca a (actF f kp (guardR c cup)) h (guardC c cup) (actHi hi (enc h c) kp (guardR c cup)) sn (enc h c) tx ti) ⟨hx, hb, hml, hown, hts⟩ (k_X4_act l G ca a f h (guardC c cup) hi sn (enc h c) tx ti kp hkp hf2 (guardR c cup)) (cwV 1 hts (zgoodV zsub wq_7_14 wq_7_15 wq_7_16 wq_1_5 wq_7_17) rfl rfl rfl hdV_X4_act ⟨Nat.le_of_ble_eq_true rfl, Nat.le_of_ble_eq_true rfl⟩) hz [] zp_all zp_all' rfl rfl rfl hl.1 (Nat.le_of_ble_eq_true rfl) (st1 := [.int (guardR c cup)]) rfl dX4_guard_10 ⟨Nat.zero_le _, Nat.zero_le _⟩ (fun H locs hz => ?_)
  exact z_iret (pc := 13) hx hb hr hlk hQ hz dX4_guard_13 (by first | rfl | (simp only [])) (by first | rfl | (simp only []))

def rm_X4_fill : Room := { frames := 3, cells := 0, slots := 0, locals := 67 }
set_option maxRecDepth 20000 in
theorem hdV_X4_fill : yX4_fill.cls = RX4 ∧ yX4_fill.cls ≠ "java/lang/invoke/MethodHandle" ∧ yX4_fill.cls ≠ "java/lang/invoke/VarHandle" ∧ (parseMethodDescriptor yX4_fill.desc).map (fun d => d.parameters.length) = some 2 := by decide +kernel
set_option maxHeartbeats 4000000 in
set_option maxRecDepth 100000 in
theorem k_X4_fill (l : Launch) (G : va_G) (ca : Nat → ClassId) (a : Nat → Nat) (f h : Nat → Int32) (c : Nat → Nat → Int32) (hi sn be tx ti : Nat → Int32) (cup water : Int32) (kp : Nat) (hkp : kp ≤ 4) (hf2 : f 2 = nI kp) : Zc l G ca yX4_fill (zws yX4_fill cX4_fill 3 (some .int)) rm_X4_fill [.ref (a 0), .int cup, .int water] (mm ca a f h c hi sn be tx ti) (some (.int (fillR c cup water))) (mm ca a (actF f kp (fillR c cup water)) (fillH h c cup water) (fillC c cup water) (actHi hi (enc h c) kp (fillR c cup water)) sn (enc h c) tx ti) := by
  refine Zc.of (cc := cX4_fill) (maxL := 3) (ret := (some .int)) (by decide) rfl (Nat.le_of_ble_eq_true rfl) ?_
  intro pg ev s0 mt below meth cd A args Q ls hx hb hr hml hown hts hlk hQ hl hz
  have hl : lv_has ls 3 [(0, .ref (a 0)), (1, .int cup), (2, .int water)] := hl
  refine lv_aload_n (pc := 0) hx hb dX4_fill_0 rfl (lv_at hl 0 rfl) ?_
  refine z_runV (pc := 1) (As := []) (rest := []) (ws1 := mm ca a f h c hi sn (enc h c) tx ti) ⟨hx, hb, hml, hown, hts⟩ (k_X4_begin l G ca a f h c hi sn be tx ti) (cwV 0 hts (zgoodV zsub wq_6_14 wq_6_15 wq_6_16 wq_1_5 wq_6_17) rfl rfl rfl hdV_X4_begin ⟨Nat.le_of_ble_eq_true rfl, Nat.le_of_ble_eq_true rfl⟩) hz [] zp_all zp_all' rfl rfl rfl hl.1 (Nat.le_of_ble_eq_true rfl) (st1 := []) rfl dX4_fill_1 ⟨Nat.zero_le _, Nat.zero_le _⟩ (fun H locs hz => ?_)
  refine lv_aload_n (pc := 4) hx hb dX4_fill_4 rfl (lv_at hl 0 rfl) ?_
  refine lv_aload_n (pc := 5) hx hb dX4_fill_5 rfl (lv_at hl 0 rfl) ?_
  refine lv_iload_n (pc := 6) hx hb dX4_fill_6 rfl (lv_at hl 1 rfl) ?_
  refine lv_iload_n (pc := 7) hx hb dX4_fill_7 rfl (lv_at hl 2 rfl) ?_
  refine z_runV (pc := 8) (As := [.int cup, .int water]) (rest := [.ref (a 0)]) (ws1 := mm ca a f (fillH h c cup water) (fillC c cup water) hi sn (enc h c) tx ti) ⟨hx, hb, hml, hown, hts⟩ (k_X4_doFill l G ca a f h c hi sn (enc h c) tx ti cup water) (cwV 2 hts (zgoodV zsub wq_10_15 wq_10_16 wq_10_17 wq_1_5 wq_10_18) rfl rfl rfl hdV_X4_doFill ⟨Nat.le_of_ble_eq_true rfl, Nat.le_of_ble_eq_true rfl⟩) hz [] zp_all zp_all' rfl rfl rfl hl.1 (Nat.le_of_ble_eq_true rfl) (st1 := [.int (fillR c cup water), .ref (a 0)]) rfl dX4_fill_8 ⟨Nat.zero_le _, Nat.zero_le _⟩ (fun H locs hz => ?_)
  refine z_runV (pc := 11) (As := [.int (fillR c cup water)]) (rest := []) (ws1 := mm ca a (actF f kp (fillR c cup water)) (fillH h c cup water) (fillC c cup water) (actHi hi (enc h c) kp (fillR c cup water)) sn (enc h c) tx ti) ⟨hx, hb, hml, hown, hts⟩ (k_X4_act l G ca a f (fillH h c cup water) (fillC c cup water) hi sn (enc h c) tx ti kp hkp hf2 (fillR c cup water)) (cwV 1 hts (zgoodV zsub wq_7_14 wq_7_15 wq_7_16 wq_1_5 wq_7_17) rfl rfl rfl hdV_X4_act ⟨Nat.le_of_ble_eq_true rfl, Nat.le_of_ble_eq_true rfl⟩) hz [] zp_all zp_all' rfl rfl rfl hl.1 (Nat.le_of_ble_eq_true rfl) (st1 := [.int (fillR c cup water)]) rfl dX4_fill_11 ⟨Nat.zero_le _, Nat.zero_le _⟩ (fun H locs hz => ?_)
  exact z_iret (pc := 14) hx hb hr hlk hQ hz dX4_fill_14 (by first | rfl | (simp only [])) (by first | rfl | (simp only []))

def rm_X4_set : Room := { frames := 3, cells := 0, slots := 0, locals := 67 }
set_option maxRecDepth 20000 in
theorem hdV_X4_set : yX4_set.cls = RX4 ∧ yX4_set.cls ≠ "java/lang/invoke/MethodHandle" ∧ yX4_set.cls ≠ "java/lang/invoke/VarHandle" ∧ (parseMethodDescriptor yX4_set.desc).map (fun d => d.parameters.length) = some 2 := by decide +kernel
set_option maxHeartbeats 4000000 in
set_option maxRecDepth 100000 in
theorem k_X4_set (l : Launch) (G : va_G) (ca : Nat → ClassId) (a : Nat → Nat) (f h : Nat → Int32) (c : Nat → Nat → Int32) (hi sn be tx ti : Nat → Int32) (which value : Int32) (kp : Nat) (hkp : kp ≤ 4) (hf2 : f 2 = nI kp) : Zc l G ca yX4_set (zws yX4_set cX4_set 3 (some .int)) rm_X4_set [.ref (a 0), .int which, .int value] (mm ca a f h c hi sn be tx ti) (some (.int (putR h which value))) (mm ca a (actF f kp (putR h which value)) (putH h which value) c (actHi hi (enc h c) kp (putR h which value)) sn (enc h c) tx ti) := by
  refine Zc.of (cc := cX4_set) (maxL := 3) (ret := (some .int)) (by decide) rfl (Nat.le_of_ble_eq_true rfl) ?_
  intro pg ev s0 mt below meth cd A args Q ls hx hb hr hml hown hts hlk hQ hl hz
  have hl : lv_has ls 3 [(0, .ref (a 0)), (1, .int which), (2, .int value)] := hl
  refine lv_aload_n (pc := 0) hx hb dX4_set_0 rfl (lv_at hl 0 rfl) ?_
  refine z_runV (pc := 1) (As := []) (rest := []) (ws1 := mm ca a f h c hi sn (enc h c) tx ti) ⟨hx, hb, hml, hown, hts⟩ (k_X4_begin l G ca a f h c hi sn be tx ti) (cwV 0 hts (zgoodV zsub wq_6_14 wq_6_15 wq_6_16 wq_1_5 wq_6_17) rfl rfl rfl hdV_X4_begin ⟨Nat.le_of_ble_eq_true rfl, Nat.le_of_ble_eq_true rfl⟩) hz [] zp_all zp_all' rfl rfl rfl hl.1 (Nat.le_of_ble_eq_true rfl) (st1 := []) rfl dX4_set_1 ⟨Nat.zero_le _, Nat.zero_le _⟩ (fun H locs hz => ?_)
  refine lv_aload_n (pc := 4) hx hb dX4_set_4 rfl (lv_at hl 0 rfl) ?_
  refine lv_aload_n (pc := 5) hx hb dX4_set_5 rfl (lv_at hl 0 rfl) ?_
  refine lv_iload_n (pc := 6) hx hb dX4_set_6 rfl (lv_at hl 1 rfl) ?_
  refine lv_iload_n (pc := 7) hx hb dX4_set_7 rfl (lv_at hl 2 rfl) ?_
  refine z_runV (pc := 8) (As := [.int which, .int value]) (rest := [.ref (a 0)]) (ws1 := mm ca a f (putH h which value) c hi sn (enc h c) tx ti) ⟨hx, hb, hml, hown, hts⟩ (k_X4_doSet l G ca a f h c hi sn (enc h c) tx ti which value) (cwV 2 hts (zgoodV zsub wq_11_11 wq_11_12 wq_11_13 wq_1_5 wq_11_14) rfl rfl rfl hdV_X4_doSet ⟨Nat.le_of_ble_eq_true rfl, Nat.le_of_ble_eq_true rfl⟩) hz [] zp_all zp_all' rfl rfl rfl hl.1 (Nat.le_of_ble_eq_true rfl) (st1 := [.int (putR h which value), .ref (a 0)]) rfl dX4_set_8 ⟨Nat.zero_le _, Nat.zero_le _⟩ (fun H locs hz => ?_)
  refine z_runV (pc := 11) (As := [.int (putR h which value)]) (rest := []) (ws1 := mm ca a (actF f kp (putR h which value)) (putH h which value) c (actHi hi (enc h c) kp (putR h which value)) sn (enc h c) tx ti) ⟨hx, hb, hml, hown, hts⟩ (k_X4_act l G ca a f (putH h which value) c hi sn (enc h c) tx ti kp hkp hf2 (putR h which value)) (cwV 1 hts (zgoodV zsub wq_7_14 wq_7_15 wq_7_16 wq_1_5 wq_7_17) rfl rfl rfl hdV_X4_act ⟨Nat.le_of_ble_eq_true rfl, Nat.le_of_ble_eq_true rfl⟩) hz [] zp_all zp_all' rfl rfl rfl hl.1 (Nat.le_of_ble_eq_true rfl) (st1 := [.int (putR h which value)]) rfl dX4_set_11 ⟨Nat.zero_le _, Nat.zero_le _⟩ (fun H locs hz => ?_)
  exact z_iret (pc := 14) hx hb hr hlk hQ hz dX4_set_14 (by first | rfl | (simp only [])) (by first | rfl | (simp only []))

def rm_X4_pass : Room := { frames := 5, cells := 0, slots := 0, locals := 119 }
set_option maxRecDepth 20000 in
theorem hdV_X4_pass : yX4_pass.cls = RX4 ∧ yX4_pass.cls ≠ "java/lang/invoke/MethodHandle" ∧ yX4_pass.cls ≠ "java/lang/invoke/VarHandle" ∧ (parseMethodDescriptor yX4_pass.desc).map (fun d => d.parameters.length) = some 1 := by decide +kernel
set_option maxHeartbeats 4000000 in
set_option maxRecDepth 100000 in
theorem k_X4_pass (l : Launch) (G : va_G) (ca : Nat → ClassId) (a : Nat → Nat) (f h : Nat → Int32) (c : Nat → Nat → Int32) (hi sn be tx ti : Nat → Int32) (ticks : Int32) (kp : Nat) (hkp : kp ≤ 4) (hf2 : f 2 = nI kp) (hok : okP (h, c)) : Zc l G ca yX4_pass (zws yX4_pass cX4_pass 2 (some .int)) rm_X4_pass [.ref (a 0), .int ticks] (mm ca a f h c hi sn be tx ti) (some (.int (passR (h, c) ticks))) (mm ca a (actF f kp (passR (h, c) ticks)) ((tkN (h, c) (passN (h, c) ticks)).1) ((tkN (h, c) (passN (h, c) ticks)).2) (actHi hi (enc h c) kp (passR (h, c) ticks)) sn (enc h c) tx (tkT (h, c) ti (passN (h, c) ticks))) := by
  refine Zc.of (cc := cX4_pass) (maxL := 2) (ret := (some .int)) (by decide) rfl (Nat.le_of_ble_eq_true rfl) ?_
  intro pg ev s0 mt below meth cd A args Q ls hx hb hr hml hown hts hlk hQ hl hz
  have hl : lv_has ls 2 [(0, .ref (a 0)), (1, .int ticks)] := hl
  refine lv_aload_n (pc := 0) hx hb dX4_pass_0 rfl (lv_at hl 0 rfl) ?_
  refine z_runV (pc := 1) (As := []) (rest := []) (ws1 := mm ca a f h c hi sn (enc h c) tx ti) ⟨hx, hb, hml, hown, hts⟩ (k_X4_begin l G ca a f h c hi sn be tx ti) (cwV 0 hts (zgoodV zsub wq_6_14 wq_6_15 wq_6_16 wq_1_5 wq_6_17) rfl rfl rfl hdV_X4_begin ⟨Nat.le_of_ble_eq_true rfl, Nat.le_of_ble_eq_true rfl⟩) hz [] zp_all zp_all' rfl rfl rfl hl.1 (Nat.le_of_ble_eq_true rfl) (st1 := []) rfl dX4_pass_1 ⟨Nat.zero_le _, Nat.zero_le _⟩ (fun H locs hz => ?_)
  refine lv_aload_n (pc := 4) hx hb dX4_pass_4 rfl (lv_at hl 0 rfl) ?_
  refine lv_aload_n (pc := 5) hx hb dX4_pass_5 rfl (lv_at hl 0 rfl) ?_
  refine lv_iload_n (pc := 6) hx hb dX4_pass_6 rfl (lv_at hl 1 rfl) ?_
  refine z_runV (pc := 7) (As := [.int ticks]) (rest := [.ref (a 0)]) (ws1 := mm ca a f ((tkN (h, c) (passN (h, c) ticks)).1) ((tkN (h, c) (passN (h, c) ticks)).2) hi sn (enc h c) tx (tkT (h, c) ti (passN (h, c) ticks))) ⟨hx, hb, hml, hown, hts⟩ (k_X4_doPass l G ca a f h c hi sn (enc h c) tx ti ticks hok) (cwV 1 hts (zgoodV zsub wq_14_6 wq_14_7 wq_14_8 wq_1_5 wq_14_9) rfl rfl rfl hdV_X4_doPass ⟨Nat.le_of_ble_eq_true rfl, Nat.le_of_ble_eq_true rfl⟩) hz [] zp_all zp_all' rfl rfl rfl hl.1 (Nat.le_of_ble_eq_true rfl) (st1 := [.int (passR (h, c) ticks), .ref (a 0)]) rfl dX4_pass_7 ⟨Nat.zero_le _, Nat.zero_le _⟩ (fun H locs hz => ?_)
  refine z_runV (pc := 10) (As := [.int (passR (h, c) ticks)]) (rest := []) (ws1 := mm ca a (actF f kp (passR (h, c) ticks)) ((tkN (h, c) (passN (h, c) ticks)).1) ((tkN (h, c) (passN (h, c) ticks)).2) (actHi hi (enc h c) kp (passR (h, c) ticks)) sn (enc h c) tx (tkT (h, c) ti (passN (h, c) ticks))) ⟨hx, hb, hml, hown, hts⟩ (k_X4_act l G ca a f ((tkN (h, c) (passN (h, c) ticks)).1) ((tkN (h, c) (passN (h, c) ticks)).2) hi sn (enc h c) tx (tkT (h, c) ti (passN (h, c) ticks)) kp hkp hf2 (passR (h, c) ticks)) (cwV 1 hts (zgoodV zsub wq_7_14 wq_7_15 wq_7_16 wq_1_5 wq_7_17) rfl rfl rfl hdV_X4_act ⟨Nat.le_of_ble_eq_true rfl, Nat.le_of_ble_eq_true rfl⟩) hz [] zp_all zp_all' rfl rfl rfl hl.1 (Nat.le_of_ble_eq_true rfl) (st1 := [.int (passR (h, c) ticks)]) rfl dX4_pass_10 ⟨Nat.zero_le _, Nat.zero_le _⟩ (fun H locs hz => ?_)
  exact z_iret (pc := 13) hx hb hr hlk hQ hz dX4_pass_13 (by first | rfl | (simp only [])) (by first | rfl | (simp only []))
end
section
/-! ===== the reference's answers ===== -/
def typeR (ln : Nat) : Int32 := if ln = 60 then -3 else nI (ln + 1)
def typeF (f : Nat → Int32) (ln : Nat) : Nat → Int32 := if ln = 60 then f else upd f 7 (nI (ln + 1))
def typeT (tx : Nat → Int32) (ln : Nat) (x : Int32) : Nat → Int32 := if ln = 60 then tx else upd tx ln x
def stopR (f : Nat → Int32) (what : Int32) : Int32 := if inF what 0 1 = 0 then -2 else if f 8 = -5 then -5 else if what = 0 then f 8 else f 9
def cupR (c : Nat → Nat → Int32) (cup what : Int32) : Int32 := if inF cup 0 7 = 0 then -1 else if inF what 0 11 = 0 then -2 else if what = 4 then (if c (nn cup) 4 = -1 then -5 else c (nn cup) (nn what)) else c (nn cup) (nn what)
/-- whether the cup k tips in the tick behind the next i ones -/
noncomputable def tg (p : HC) (k i : Nat) : Int32 := tpF (it1 (hourP (tkN p i)) (springP (tkN p i)) k).2 k (hourP (tkN p i))
noncomputable def isF (p : HC) (k : Nat) : Nat → Int32
  | 0 => 0
  | i + 1 => tg p k i
noncomputable def utF (p : HC) (k : Nat) : Nat → Nat → Int32
  | 0, _ => -5
  | r + 1, i => if tg p k i = 0 then utF p k r (i + 1) else nI (i + 1)
noncomputable def utN (p : HC) (k : Nat) : Nat → Nat → Nat
  | 0, i => i
  | r + 1, i => if tg p k i = 0 then utN p k r (i + 1) else i + 1
theorem itT_at {hour : Int32} {p : HC} {ti : Nat → Int32} {k n : Nat} (h : k < n) : itT hour p ti n k = tpF (it1 hour p k).2 k hour := by
  induction n with
  | zero => omega
  | succ n ih =>
    rw [itT_s]
    by_cases e : k = n
    · subst e
      exact pk_us
    · rw [pk_un e]
      exact ih (by omega)
theorem tkT_at {p : HC} {ti : Nat → Int32} {k i : Nat} (h : k < 8) : tkT p ti (i + 1) k = isF p k (i + 1) := by
  rw [tkT_s, tickT_d]
  exact itT_at h
theorem ut_skip {p : HC} {k : Nat} : ∀ (i M : Nat), i ≤ M → (∀ j, j < i → tg p k j = 0) → utF p k M 0 = utF p k (M - i) i ∧ utN p k M 0 = utN p k (M - i) i := by
  intro i
  induction i with
  | zero => intro M _ _; exact ⟨rfl, rfl⟩
  | succ i ih =>
    intro M hM hz
    obtain ⟨h1, h2⟩ := ih M (by omega) (fun j hj => hz j (by omega))
    obtain ⟨r, hr⟩ : ∃ r, M - i = r + 1 := ⟨M - i - 1, by omega⟩
    have h3 : M - (i + 1) = r := by omega
    rw [h1, h2, hr, h3]
    have h4 := hz i (by omega)
    exact ⟨by rw [utF, if_pos h4], by rw [utN, if_pos h4]⟩
theorem ut_end0 {p : HC} {k M : Nat} (hno : ∀ j, j + 1 < M → tg p k j = 0) (h0 : isF p k M = 0) : utF p k M 0 = -5 ∧ utN p k M 0 = M := by
  have hz : ∀ j, j < M → tg p k j = 0 := by
    intro j hj
    by_cases e : j + 1 < M
    · exact hno j e
    · obtain rfl : M = j + 1 := by omega
      exact h0
  obtain ⟨h1, h2⟩ := ut_skip M M (Nat.le_refl _) hz
  rw [h1, h2, Nat.sub_self]
  exact ⟨by rw [utF], by rw [utN]⟩
theorem ut_end1 {p : HC} {k i M : Nat} (hiM : i ≤ M) (hno : ∀ j, j + 1 < i → tg p k j = 0) (h1 : ¬ isF p k i = 0) : utF p k M 0 = nI i ∧ utN p k M 0 = i := by
  cases i with
  | zero => exact absurd rfl h1
  | succ i =>
    obtain ⟨g1, g2⟩ := ut_skip (p := p) (k := k) i M (by omega) (fun j hj => hno j (by omega))
    obtain ⟨r, hr⟩ : ∃ r, M - i = r + 1 := ⟨M - i - 1, by omega⟩
    rw [g1, g2, hr]
    have h4 : ¬ tg p k i = 0 := h1
    exact ⟨by rw [utF, if_neg h4], by rw [utN, if_neg h4]⟩
theorem ut_next {p : HC} {k i : Nat} (hno : ∀ j, j + 1 < i → tg p k j = 0) (h0 : isF p k i = 0) : ∀ j, j + 1 < i + 1 → tg p k j = 0 := by
  intro j hj
  by_cases e : j + 1 < i
  · exact hno j e
  · obtain rfl : i = j + 1 := by omega
    exact h0
noncomputable def hotF (p : HC) (k : Nat) : Int32 := if utF p k 500 0 = -5 then -5 else hrF p.1 (p.1 0 + utF p k 500 0 - 1)
noncomputable def tipsInF (p : HC) (cup : Int32) : Int32 := if inF cup 0 7 = 0 then -1 else utF p (nn cup) 500 0
noncomputable def tipsAtF (p : HC) (cup : Int32) : Int32 := if inF cup 0 7 = 0 then -1 else hotF p (nn cup)
def scB (cup : Int32) (be e : Nat → Int32) : Nat → Int32 := if inF cup 0 7 = 0 then be else e
noncomputable def scT (p : HC) (ti : Nat → Int32) (cup : Int32) : Nat → Int32 := if inF cup 0 7 = 0 then ti else tkT p ti (utN p (nn cup) 500 0)
noncomputable def stF (p : HC) : Nat → Int32
  | 0 => -5
  | m + 1 => if utF p (7 - m) 500 0 = -5 then nI (7 - m) else stF p m
def stB (be e : Nat → Int32) : Nat → Nat → Int32
  | 0 => be
  | _ + 1 => e
noncomputable def stT (p : HC) (ti : Nat → Int32) : Nat → Nat → Int32
  | 0 => ti
  | m + 1 => tkT p (stT p ti m) (utN p (7 - m) 500 0)
def ifw (what : Int32) : Nat := if what = 3 then 8 else 9 + nn what
noncomputable def ifF (p : HC) (ticks what : Int32) : Int32 := if inF ticks 1 500 = 0 then -2 else if inF what 0 3 = 0 then -2 else sumF (tkN p (nn ticks)).2 (ifw what) 8 - sumF p.2 (ifw what) 8
def ifB (ticks what : Int32) (be e : Nat → Int32) : Nat → Int32 := if inF ticks 1 500 = 0 then be else if inF what 0 3 = 0 then be else e
noncomputable def ifT (p : HC) (ti : Nat → Int32) (ticks what : Int32) : Nat → Int32 := if inF ticks 1 500 = 0 then ti else if inF what 0 3 = 0 then ti else tkT p ti (nn ticks)
def hgF (c : Nat → Nat → Int32) : Nat → Nat
  | 0 => 0
  | i + 1 => if c (i + 1) 7 ≤ c (hgF c i) 7 then hgF c i else i + 1
theorem hgF_le (c : Nat → Nat → Int32) (i : Nat) : hgF c i ≤ i := by
  induction i with
  | zero => exact Nat.le_refl _
  | succ i ih => unfold hgF; split <;> omega
def hiR (c : Nat → Nat → Int32) : Int32 := if c (hgF c 7) 7 = 0 then -5 else nI (hgF c 7)
def fuF (c : Nat → Nat → Int32) : Nat → Int32
  | 0 => 0
  | k + 1 => fuF c k + (if fullF c k = 0 then 0 else 1)
def countR (p : HC) (kp ln : Nat) (x : Int32) : Int32 := if inF x 0 14 = 0 then -2 else if x = 0 then p.1 0 else if x = 1 then hrF p.1 (p.1 0) else if x = 2 then sumF p.2 3 8 else if x = 3 then p.1 1 else if x = 4 then p.1 2 else if x = 5 then p.1 3 else if x = 6 then p.1 4 else if x = 7 then sumF p.2 8 8 else if x = 8 then sumF p.2 9 8 else if x = 9 then fuF p.2 8 else if x = 10 then p.1 5 else if x = 11 then p.1 6 else if x = 12 then p.1 7 else if x = 13 then nI kp else nI ln
theorem inF_out {x lo hi : Int32} (h : inF x lo hi = 0) : x.toInt < lo.toInt ∨ hi.toInt < x.toInt := by
  unfold inF at h
  split at h
  · rename_i q; exact Or.inl (Int32.lt_iff_toInt_lt.mp q)
  · split at h
    · rename_i q; exact Or.inr (Int32.lt_iff_toInt_lt.mp q)
    · exact absurd h (by decide)
theorem sw15 (x : Int32) : inF x 0 14 = 0 ∨ x = 0 ∨ x = 1 ∨ x = 2 ∨ x = 3 ∨ x = 4 ∨ x = 5 ∨ x = 6 ∨ x = 7 ∨ x = 8 ∨ x = 9 ∨ x = 10 ∨ x = 11 ∨ x = 12 ∨ x = 13 ∨ x = 14 := by
  by_cases h : inF x 0 14 = 0
  · exact Or.inl h
  · obtain ⟨k, hk, e⟩ := i32_nI (n := 14) (Or.inl rfl) rfl (by decide) (inF_ne h)
    subst e
    have h15 : k = 0 ∨ k = 1 ∨ k = 2 ∨ k = 3 ∨ k = 4 ∨ k = 5 ∨ k = 6 ∨ k = 7 ∨ k = 8 ∨ k = 9 ∨ k = 10 ∨ k = 11 ∨ k = 12 ∨ k = 13 ∨ k = 14 := by omega
    rcases h15 with rfl | rfl | rfl | rfl | rfl | rfl | rfl | rfl | rfl | rfl | rfl | rfl | rfl | rfl | rfl <;> decide
def rsG {α : Type} (p : HC) (cup : Int32) (x1 x2 x3 z : α) : α :=
  if inF cup 0 7 = 0 then x1 else if p.2 (nn cup) 6 = 1 then (if hrF p.1 (p.1 0) = p.2 (nn cup) 4 then (if p.2 (nn cup) 6 = 0 then (if p.2 (nn cup) 5 = 0 then x3 else z) else z) else x2)
  else if p.2 (nn cup) 6 = 0 then (if p.2 (nn cup) 5 = 0 then x3 else z) else z
noncomputable def reasonR (p : HC) (cup : Int32) : Int32 := rsG p cup (-1) 1 2 (if utF p (nn cup) 1 0 = 1 then 0 else 3)
noncomputable def reasonB (p : HC) (be : Nat → Int32) (cup : Int32) : Nat → Int32 := rsG p cup be be be (enc p.1 p.2)
noncomputable def reasonT (p : HC) (ti : Nat → Int32) (cup : Int32) : Nat → Int32 := rsG p cup ti ti ti (tkT p ti (utN p (nn cup) 1 0))
theorem u2_same {c : Nat → Nat → Int32} {k w : Nat} : u2 c k w (c k w) = c := by
  funext a b
  by_cases h : a = k ∧ b = w
  · obtain ⟨rfl, rfl⟩ := h; exact u2_s
  · exact u2_n h
theorem u2_u2 {c : Nat → Nat → Int32} {k w : Nat} {x y : Int32} : u2 (u2 c k w x) k w y = u2 c k w y := by
  funext a b
  by_cases h : a = k ∧ b = w
  · obtain ⟨rfl, rfl⟩ := h; rw [u2_s, u2_s]
  · rw [u2_n h, u2_n h, u2_n h]
/-- the state with the size i in the cup k (0: as it is) -/
def szP (p : HC) (k : Nat) : Nat → HC
  | 0 => p
  | i + 1 => (p.1, u2 p.2 k 0 (nI (i + 1)))
theorem szP_s (p : HC) (k i : Nat) : szP p k (i + 1) = (p.1, u2 p.2 k 0 (nI (i + 1))) := rfl
theorem szP_1 (p : HC) (k i : Nat) : (szP p k i).1 = p.1 := by cases i <;> rfl
theorem szP_u (p : HC) (k i : Nat) (x : Int32) : u2 (szP p k i).2 k 0 x = u2 p.2 k 0 x := by
  cases i with
  | zero => rfl
  | succ i => exact u2_u2
theorem szP_4 (p : HC) (k i k2 w : Nat) (hw : w ≠ 0) : (szP p k i).2 k2 w = p.2 k2 w := by
  cases i with
  | zero => rfl
  | succ i => exact u2_nw hw
theorem okP.size {p : HC} (h : okP p) (k i : Nat) (hi : i < 1000) : okP (szP p k i) := by
  cases i with
  | zero => exact h
  | succ i =>
    refine ⟨h.1, fun k2 hk2 => ?_⟩
    rw [szP_s]
    show ¬ u2 p.2 k 0 (nI (i + 1)) k2 0 = 0 ∧ u2 p.2 k 0 (nI (i + 1)) k2 2 = nI (nn (u2 p.2 k 0 (nI (i + 1)) k2 2)) ∧ nn (u2 p.2 k 0 (nI (i + 1)) k2 2) ≤ 8
    refine ⟨?_, by rw [u2_nw (by decide)]; exact (h.2 k2 hk2).2.1, by rw [u2_nw (by decide)]; exact (h.2 k2 hk2).2.2⟩
    by_cases e : k2 = k
    · subst e
      rw [u2_s]
      exact nI_ne0 (by omega) (by omega)
    · rw [u2_nk e]
      exact (h.2 k2 hk2).1

noncomputable def fbF (p : HC) (k : Nat) : Nat → Int32
  | 0 => -5
  | i + 1 => if hotF (szP p k (i + 1)) k = p.2 k 4 then nI (i + 1) else -5
noncomputable def bsF (p : HC) (k : Nat) : Nat → Nat → Int32
  | 0, _ => -5
  | r + 1, i => if hotF (szP p k (i + 1)) k = p.2 k 4 then nI (i + 1) else bsF p k r (i + 1)
noncomputable def bsN (p : HC) (k : Nat) : Nat → Nat → Nat
  | 0, i => i
  | r + 1, i => if hotF (szP p k (i + 1)) k = p.2 k 4 then i + 1 else bsN p k r (i + 1)
def bsB (p : HC) (k : Nat) (be : Nat → Int32) : Nat → Nat → Int32
  | 0 => be
  | i + 1 => enc p.1 (u2 p.2 k 0 (nI (i + 1)))
noncomputable def bsT (p : HC) (k : Nat) (ti : Nat → Int32) : Nat → Nat → Int32
  | 0 => ti
  | i + 1 => tkT (szP p k (i + 1)) (bsT p k ti i) (utN (szP p k (i + 1)) k 500 0)
theorem bs_skip {p : HC} {k : Nat} : ∀ (i M : Nat), i ≤ M → (∀ j, j < i → ¬ hotF (szP p k (j + 1)) k = p.2 k 4) → bsF p k M 0 = bsF p k (M - i) i ∧ bsN p k M 0 = bsN p k (M - i) i := by
  intro i
  induction i with
  | zero => intro M _ _; exact ⟨rfl, rfl⟩
  | succ i ih =>
    intro M hM hz
    obtain ⟨h1, h2⟩ := ih M (by omega) (fun j hj => hz j (by omega))
    obtain ⟨r, hr⟩ : ∃ r, M - i = r + 1 := ⟨M - i - 1, by omega⟩
    have h3 : M - (i + 1) = r := by omega
    rw [h1, h2, hr, h3]
    have h4 := hz i (by omega)
    exact ⟨by rw [bsF, if_neg h4], by rw [bsN, if_neg h4]⟩
theorem fb_ne {p : HC} {k i : Nat} (hi : i < 1000) : fbF p k (i + 1) = -5 ↔ ¬ hotF (szP p k (i + 1)) k = p.2 k 4 := by
  rw [fbF]
  by_cases h : hotF (szP p k (i + 1)) k = p.2 k 4
  · rw [if_pos h]
    constructor
    · intro q
      have h2 : ¬ nI (i + 1) < 0 := nI_pos (by omega)
      rw [q] at h2
      exact absurd (by decide) h2
    · intro q; exact absurd h q
  · rw [if_neg h]
    exact ⟨fun _ => h, fun _ => rfl⟩
theorem bs_end {p : HC} {k i M : Nat} (hM : M < 1000) (hiM : i ≤ M) (hno : ∀ j, j + 1 < i → ¬ hotF (szP p k (j + 1)) k = p.2 k 4) (hx : i = M ∨ ¬ fbF p k i = -5) : bsF p k M 0 = fbF p k i ∧ bsN p k M 0 = i := by
  cases i with
  | zero =>
    rcases hx with e | e
    · subst e; exact ⟨by rw [bsF, fbF], by rw [bsN]⟩
    · exact absurd rfl e
  | succ i =>
    obtain ⟨g1, g2⟩ := bs_skip (p := p) (k := k) i M (by omega) (fun j hj => hno j (by omega))
    obtain ⟨r, hr⟩ : ∃ r, M - i = r + 1 := ⟨M - i - 1, by omega⟩
    rw [g1, g2, hr]
    by_cases h4 : hotF (szP p k (i + 1)) k = p.2 k 4
    · exact ⟨by rw [bsF, fbF, if_pos h4, if_pos h4], by rw [bsN, if_pos h4]⟩
    · have h5 : i + 1 = M := by
        rcases hx with e | e
        · exact e
        · exact absurd ((fb_ne (by omega)).mpr h4) e
      have h6 : r = 0 := by omega
      subst h6
      exact ⟨by rw [bsF, fbF, if_neg h4, if_neg h4, bsF], by rw [bsN, if_neg h4, bsN]⟩
noncomputable def bestF (p : HC) (cup : Int32) : Int32 := if inF cup 0 7 = 0 then -1 else if p.2 (nn cup) 4 = -1 then -4 else bsF p (nn cup) 99 0
noncomputable def bestB (p : HC) (be : Nat → Int32) (cup : Int32) : Nat → Int32 := if inF cup 0 7 = 0 then be else if p.2 (nn cup) 4 = -1 then be else bsB p (nn cup) be (bsN p (nn cup) 99 0)
noncomputable def bestT (p : HC) (ti : Nat → Int32) (cup : Int32) : Nat → Int32 := if inF cup 0 7 = 0 then ti else if p.2 (nn cup) 4 = -1 then ti else bsT p (nn cup) ti (bsN p (nn cup) 99 0)
theorem ifw_lt {j : Nat} (hj : j ≤ 3) : ifw (nI j) < 12 := by
  have h4 : j = 0 ∨ j = 1 ∨ j = 2 ∨ j = 3 := by omega
  rcases h4 with rfl | rfl | rfl | rfl <;> decide
theorem nIm1 (n : Nat) : nI n + (-1) = nI n - 1 := by
  cases n with
  | zero => decide
  | succ n => rw [pk_m1, nI_pred]
theorem bs_next {p : HC} {k i : Nat} (hi : i < 1000) (hno : ∀ j, j + 1 < i → ¬ hotF (szP p k (j + 1)) k = p.2 k 4) (h0 : fbF p k i = -5) : ∀ j, j + 1 < i + 1 → ¬ hotF (szP p k (j + 1)) k = p.2 k 4 := by
  intro j hj
  by_cases e : j + 1 < i
  · exact hno j e
  · obtain rfl : i = j + 1 := by omega
    exact (fb_ne (by omega)).mp h0
end
section
def rm_X4_type : Room := { frames := 0, cells := 0, slots := 0, locals := 0 }
set_option maxRecDepth 20000 in
theorem hdV_X4_type : yX4_type.cls = RX4 ∧ yX4_type.cls ≠ "java/lang/invoke/MethodHandle" ∧ yX4_type.cls ≠ "java/lang/invoke/VarHandle" ∧ (parseMethodDescriptor yX4_type.desc).map (fun d => d.parameters.length) = some 1 := by decide +kernel
set_option maxHeartbeats 4000000 in
set_option maxRecDepth 100000 in
theorem k_X4_type (l : Launch) (G : va_G) (ca : Nat → ClassId) (a : Nat → Nat) (f h : Nat → Int32) (c : Nat → Nat → Int32) (hi sn be tx ti : Nat → Int32) (ln : Nat) (hln : ln ≤ 60) (hf7 : f 7 = nI ln) (x : Int32) (hxc : vp_nar .char x = x) : Zc l G ca yX4_type (zws yX4_type cX4_type 2 (some .int)) rm_X4_type [.ref (a 0), .int x] (mm ca a f h c hi sn be tx ti) (some (.int (typeR ln))) (mm ca a (typeF f ln) h c hi sn be (typeT tx ln x) ti) := by
  refine Zc.of (cc := cX4_type) (maxL := 2) (ret := (some .int)) (by decide) rfl (Nat.le_of_ble_eq_true rfl) ?_
  intro pg ev s0 mt below meth cd A args Q ls hx hb hr hml hown hts hlk hQ hl hz
  have L116 : (Cond.fieldLink RX4 116 "CupFountainModel" "length" "I").before args s0 = true := hts _ (zsub _ wq_16_3)
  have L22 : (Cond.fieldLink RX4 22 "CupFountainModel" "text" "[C").before args s0 = true := hts _ (zsub _ wq_4_8)
  have hinX4 : ∀ w ∈ wsX40, w ∈ zws yX4_type cX4_type 2 (some .int) := fun w h => zsub w (wl_wsX40 w h)
  have hl : lv_has ls 2 [(0, .ref (a 0)), (1, .int x)] := hl
  refine lv_aload_n (pc := 0) hx hb dX4_type_0 rfl (lv_at hl 0 rfl) ?_
  refine z_get (own := RX4) (ref := "CupFountainModel") (C := RX4) (T := TX4) (N := 17) (ci := 4) (v := .int (f 7)) (pc := 1) hx hb hts hinX4 hown hz 0 rfl rfl 7 (by decide) L116 rfl rfl dX4_type_1 ?_
  refine lv_bipush (v := 60) (pc := 4) hx hb dX4_type_4 (by decide) ?_
  refine lv_icmp_ne (pc := 6) (tgt := 12) hx hb dX4_type_6 (by decide) (fun c_6 => ?_) (fun c_6 => ?_)
  · have h60 : ¬ ln = 60 := fun q => c_6 (by rw [hf7, q]; rfl)
    refine lv_aload_n (pc := 12) hx hb dX4_type_12 rfl (lv_at hl 0 rfl) ?_
    refine z_get (own := RX4) (ref := "CupFountainModel") (C := RX4) (T := TX4) (N := 17) (ci := 4) (v := .ref (a 5)) (pc := 13) hx hb hts hinX4 hown hz 0 rfl rfl 6 (by decide) L22 rfl rfl dX4_type_13 ?_
    refine lv_aload_n (pc := 16) hx hb dX4_type_16 rfl (lv_at hl 0 rfl) ?_
    refine z_get (own := RX4) (ref := "CupFountainModel") (C := RX4) (T := TX4) (N := 17) (ci := 4) (v := .int (f 7)) (pc := 17) hx hb hts hinX4 hown hz 0 rfl rfl 7 (by decide) L116 rfl rfl dX4_type_17 ?_
    refine lv_iload_n (pc := 20) hx hb dX4_type_20 rfl (lv_at hl 1 rfl) ?_
    refine z_cast (ws1 := mm ca a f h c hi sn be (upd tx ln x) ti) (pc := 21) hx hb hz 5 rfl ln hf7 (by omega) (by decide) (by rw [hxc]; rfl) dX4_type_21 (fun H locs hz => ?_)
    refine lv_aload_n (pc := 22) hx hb dX4_type_22 rfl (lv_at hl 0 rfl) ?_
    refine lv_dup (pc := 23) hx hb dX4_type_23 rfl ?_
    refine z_get (own := RX4) (ref := "CupFountainModel") (C := RX4) (T := TX4) (N := 17) (ci := 4) (v := .int (f 7)) (pc := 24) hx hb hts hinX4 hown hz 0 rfl rfl 7 (by decide) L116 rfl rfl dX4_type_24 ?_
    refine lv_iconst (v := 1) (pc := 27) hx hb dX4_type_27 (by decide) ?_
    refine lv_iadd (pc := 28) hx hb dX4_type_28 ?_
    refine z_top (y := nI (ln + 1)) (by rw [hf7]; exact nI_1 ln) ?_
    refine z_put (own := RX4) (ref := "CupFountainModel") (C := RX4) (T := TX4) (N := 17) (ci := 4) (v := .int (nI (ln + 1))) (ws1 := mm ca a (upd f 7 (nI (ln + 1))) h c hi sn be (upd tx ln x) ti) (pc := 29) hx hb hts hinX4 tyX4 tyX4_ok nmX4 hown hz 0 rfl rfl 7 (by decide) L116 rfl rfl rfl rfl (Nat.le_of_ble_eq_true rfl) rfl dX4_type_29 (fun H locs hz => ?_)
    refine lv_aload_n (pc := 32) hx hb dX4_type_32 rfl (lv_at hl 0 rfl) ?_
    refine z_get (own := RX4) (ref := "CupFountainModel") (C := RX4) (T := TX4) (N := 17) (ci := 4) (v := .int (nI (ln + 1))) (pc := 33) hx hb hts hinX4 hown hz 0 rfl rfl 7 (by decide) L116 rfl rfl dX4_type_33 ?_
    exact z_iret (pc := 36) hx hb hr hlk hQ hz dX4_type_36 (by simp only [typeR, if_neg h60]) (by simp only [typeF, typeT, if_neg h60])
  · have h60 : ln = 60 := (nI_eq (b := 60) (by omega) (by decide)).mp (hf7.symm.trans c_6)
    refine lv_bipush (v := -3) (pc := 9) hx hb dX4_type_9 (by decide) ?_
    exact z_iret (pc := 11) hx hb hr hlk hQ hz dX4_type_11 (by simp only [typeR, if_pos h60]) (by simp only [typeF, typeT, if_pos h60])

def rm_X4_clearText : Room := { frames := 0, cells := 0, slots := 0, locals := 0 }
set_option maxRecDepth 20000 in
theorem hdV_X4_clearText : yX4_clearText.cls = RX4 ∧ yX4_clearText.cls ≠ "java/lang/invoke/MethodHandle" ∧ yX4_clearText.cls ≠ "java/lang/invoke/VarHandle" ∧ (parseMethodDescriptor yX4_clearText.desc).map (fun d => d.parameters.length) = some 0 := by decide +kernel
set_option maxHeartbeats 4000000 in
set_option maxRecDepth 100000 in
theorem k_X4_clearText (l : Launch) (G : va_G) (ca : Nat → ClassId) (a : Nat → Nat) (f h : Nat → Int32) (c : Nat → Nat → Int32) (hi sn be tx ti : Nat → Int32) : Zc l G ca yX4_clearText (zws yX4_clearText cX4_clearText 2 (some .int)) rm_X4_clearText [.ref (a 0)] (mm ca a f h c hi sn be tx ti) (some (.int (f 7))) (mm ca a (upd f 7 0) h c hi sn be tx ti) := by
  refine Zc.of (cc := cX4_clearText) (maxL := 2) (ret := (some .int)) (by decide) rfl (Nat.le_of_ble_eq_true rfl) ?_
  intro pg ev s0 mt below meth cd A args Q ls hx hb hr hml hown hts hlk hQ hl hz
  have L116 : (Cond.fieldLink RX4 116 "CupFountainModel" "length" "I").before args s0 = true := hts _ (zsub _ wq_16_3)
  have hinX4 : ∀ w ∈ wsX40, w ∈ zws yX4_clearText cX4_clearText 2 (some .int) := fun w h => zsub w (wl_wsX40 w h)
  have hl : lv_has ls 2 [(0, .ref (a 0))] := hl
  refine lv_aload_n (pc := 0) hx hb dX4_clearText_0 rfl (lv_at hl 0 rfl) ?_
  refine z_get (own := RX4) (ref := "CupFountainModel") (C := RX4) (T := TX4) (N := 17) (ci := 4) (v := .int (f 7)) (pc := 1) hx hb hts hinX4 hown hz 0 rfl rfl 7 (by decide) L116 rfl rfl dX4_clearText_1 ?_
  refine lv_istore_n (lv' := [(1, .int (f 7)), (0, .ref (a 0))]) (pc := 4) hx hb dX4_clearText_4 rfl hl (by decide) rfl (fun ls hl => ?_)
  refine lv_aload_n (pc := 5) hx hb dX4_clearText_5 rfl (lv_at hl 1 rfl) ?_
  refine lv_iconst (v := 0) (pc := 6) hx hb dX4_clearText_6 (by decide) ?_
  refine z_put (own := RX4) (ref := "CupFountainModel") (C := RX4) (T := TX4) (N := 17) (ci := 4) (v := .int 0) (ws1 := mm ca a (upd f 7 0) h c hi sn be tx ti) (pc := 7) hx hb hts hinX4 tyX4 tyX4_ok nmX4 hown hz 0 rfl rfl 7 (by decide) L116 rfl rfl rfl rfl (Nat.le_of_ble_eq_true rfl) rfl dX4_clearText_7 (fun H locs hz => ?_)
  refine lv_iload_n (pc := 10) hx hb dX4_clearText_10 rfl (lv_at hl 0 rfl) ?_
  exact z_iret (pc := 11) hx hb hr hlk hQ hz dX4_clearText_11 (by rfl) (by rfl)

def rm_X4_stopped : Room := { frames := 1, cells := 0, slots := 0, locals := 22 }
set_option maxRecDepth 20000 in
theorem hdV_X4_stopped : yX4_stopped.cls = RX4 ∧ yX4_stopped.cls ≠ "java/lang/invoke/MethodHandle" ∧ yX4_stopped.cls ≠ "java/lang/invoke/VarHandle" ∧ (parseMethodDescriptor yX4_stopped.desc).map (fun d => d.parameters.length) = some 1 := by decide +kernel
set_option maxHeartbeats 4000000 in
set_option maxRecDepth 100000 in
theorem k_X4_stopped (l : Launch) (G : va_G) (ca : Nat → ClassId) (a : Nat → Nat) (f h : Nat → Int32) (c : Nat → Nat → Int32) (hi sn be tx ti : Nat → Int32) (what : Int32) : Zc l G ca yX4_stopped (zws yX4_stopped cX4_stopped 2 (some .int)) rm_X4_stopped [.ref (a 0), .int what] (mm ca a f h c hi sn be tx ti) (some (.int (stopR f what))) (mm ca a f h c hi sn be tx ti) := by
  refine Zc.of (cc := cX4_stopped) (maxL := 2) (ret := (some .int)) (by decide) rfl (Nat.le_of_ble_eq_true rfl) ?_
  intro pg ev s0 mt below meth cd A args Q ls hx hb hr hml hown hts hlk hQ hl hz
  have L162 : (Cond.fieldLink RX4 162 "CupFountainModel" "stoppedBy" "I").before args s0 = true := hts _ (zsub _ wq_19_0)
  have L26 : (Cond.fieldLink RX4 26 "CupFountainModel" "stoppedAt" "I").before args s0 = true := hts _ (zsub _ wq_4_9)
  have hinX4 : ∀ w ∈ wsX40, w ∈ zws yX4_stopped cX4_stopped 2 (some .int) := fun w h => zsub w (wl_wsX40 w h)
  have hl : lv_has ls 2 [(0, .ref (a 0)), (1, .int what)] := hl
  refine lv_iload_n (pc := 0) hx hb dX4_stopped_0 rfl (lv_at hl 1 rfl) ?_
  refine lv_iconst (v := 0) (pc := 1) hx hb dX4_stopped_1 (by decide) ?_
  refine lv_iconst (v := 1) (pc := 2) hx hb dX4_stopped_2 (by decide) ?_
  refine z_runS (pc := 3) (As := [.int what, .int 0, .int 1]) (rest := []) (ws1 := mm ca a f h c hi sn be tx ti) ⟨hx, hb, hml, hown, hts⟩ (k_X4_in l G ca what 0 1) (cwS 3 hts (zgoodS zsub wq_7_4 wq_7_5 wq_1_5 wq_7_6) rfl rfl rfl hdV_X4_in ⟨Nat.le_of_ble_eq_true rfl, Nat.le_of_ble_eq_true rfl⟩) hz (mm ca a f h c hi sn be tx ti) zp_no (List.Perm.refl _) rfl hl.1 (Nat.le_of_ble_eq_true rfl) (st1 := [.int (inF what 0 1)]) rfl dX4_stopped_3 ⟨Nat.zero_le _, Nat.zero_le _⟩ (fun H locs hz => ?_)
  refine lv_if_ne (pc := 6) (tgt := 12) hx hb dX4_stopped_6 (by decide) (fun c_6 => ?_) (fun c_6 => ?_)
  · refine lv_aload_n (pc := 12) hx hb dX4_stopped_12 rfl (lv_at hl 0 rfl) ?_
    refine z_get (own := RX4) (ref := "CupFountainModel") (C := RX4) (T := TX4) (N := 17) (ci := 4) (v := .int (f 8)) (pc := 13) hx hb hts hinX4 hown hz 0 rfl rfl 8 (by decide) L26 rfl rfl dX4_stopped_13 ?_
    refine lv_bipush (v := -5) (pc := 16) hx hb dX4_stopped_16 (by decide) ?_
    refine lv_icmp_ne (pc := 18) (tgt := 26) hx hb dX4_stopped_18 (by decide) (fun c_18 => ?_) (fun c_18 => ?_)
    · refine lv_iload_n (pc := 26) hx hb dX4_stopped_26 rfl (lv_at hl 1 rfl) ?_
      refine lv_if_ne (pc := 27) (tgt := 37) hx hb dX4_stopped_27 (by decide) (fun c_27 => ?_) (fun c_27 => ?_)
      · refine lv_aload_n (pc := 37) hx hb dX4_stopped_37 rfl (lv_at hl 0 rfl) ?_
        refine z_get (own := RX4) (ref := "CupFountainModel") (C := RX4) (T := TX4) (N := 17) (ci := 4) (v := .int (f 9)) (pc := 38) hx hb hts hinX4 hown hz 0 rfl rfl 9 (by decide) L162 rfl rfl dX4_stopped_38 ?_
        exact z_iret (pc := 41) hx hb hr hlk hQ hz dX4_stopped_41 (by simp only [stopR, if_neg c_6, if_neg c_18, if_neg c_27]) (by rfl)
      · refine lv_aload_n (pc := 30) hx hb dX4_stopped_30 rfl (lv_at hl 0 rfl) ?_
        refine z_get (own := RX4) (ref := "CupFountainModel") (C := RX4) (T := TX4) (N := 17) (ci := 4) (v := .int (f 8)) (pc := 31) hx hb hts hinX4 hown hz 0 rfl rfl 8 (by decide) L26 rfl rfl dX4_stopped_31 ?_
        refine lv_goto (tgt := 41) (pc := 34) hx hb dX4_stopped_34 (by decide) ?_
        exact z_iret (pc := 41) hx hb hr hlk hQ hz dX4_stopped_41 (by simp only [stopR, if_neg c_6, if_neg c_18, if_pos c_27]) (by rfl)
    · refine lv_bipush (v := -5) (pc := 21) hx hb dX4_stopped_21 (by decide) ?_
      refine lv_goto (tgt := 41) (pc := 23) hx hb dX4_stopped_23 (by decide) ?_
      exact z_iret (pc := 41) hx hb hr hlk hQ hz dX4_stopped_41 (by simp only [stopR, if_neg c_6, if_pos c_18]) (by rfl)
  · refine lv_bipush (v := -2) (pc := 9) hx hb dX4_stopped_9 (by decide) ?_
    exact z_iret (pc := 11) hx hb hr hlk hQ hz dX4_stopped_11 (by simp only [stopR, if_pos c_6]) (by rfl)

def rm_X4_undo : Room := { frames := 1, cells := 0, slots := 0, locals := 24 }
set_option maxRecDepth 20000 in
theorem hdV_X4_undo : yX4_undo.cls = RX4 ∧ yX4_undo.cls ≠ "java/lang/invoke/MethodHandle" ∧ yX4_undo.cls ≠ "java/lang/invoke/VarHandle" ∧ (parseMethodDescriptor yX4_undo.desc).map (fun d => d.parameters.length) = some 0 := by decide +kernel
set_option maxHeartbeats 4000000 in
set_option maxRecDepth 100000 in
theorem k_X4_undo_b (l : Launch) (G : va_G) (ca : Nat → ClassId) (a : Nat → Nat) (f h : Nat → Int32) (c : Nat → Nat → Int32) (hi sn be tx ti : Nat → Int32) (h1 : Nat → Int32) (c1 : Nat → Nat → Int32) (n : Nat) (hn : n < 4) (hf2 : f 2 = nI (n + 1)) (hh : ∀ j, j < 104 → hi (104 * n + j) = enc h1 c1 j) : Zc l G ca yX4_undo (zws yX4_undo cX4_undo 1 (some .int)) rm_X4_undo [.ref (a 0)] (mm ca a f h c hi sn be tx ti) (some (.int (nI n))) (mm ca a (upd f 2 (nI n)) h1 c1 hi sn be tx ti) := by
  refine Zc.of (cc := cX4_undo) (maxL := 1) (ret := (some .int)) (by decide) rfl (Nat.le_of_ble_eq_true rfl) ?_
  intro pg ev s0 mt below meth cd A args Q ls hx hb hr hml hown hts hlk hQ hl hz
  have L13 : (Cond.fieldLink RX4 13 "CupFountainModel" "history" "[I").before args s0 = true := hts _ (zsub _ wq_4_5)
  have L42 : (Cond.fieldLink RX4 42 "CupFountainModel" "kept" "I").before args s0 = true := hts _ (zsub _ wq_7_22)
  have L7 : (Cond.fieldLink RX4 7 "CupFountainModel" "s" "[I").before args s0 = true := hts _ (zsub _ wq_4_4)
  have hinX4 : ∀ w ∈ wsX40, w ∈ zws yX4_undo cX4_undo 1 (some .int) := fun w h => zsub w (wl_wsX40 w h)
  have hl : lv_has ls 1 [(0, .ref (a 0))] := hl
  refine lv_aload_n (pc := 0) hx hb dX4_undo_0 rfl (lv_at hl 0 rfl) ?_
  refine z_get (own := RX4) (ref := "CupFountainModel") (C := RX4) (T := TX4) (N := 17) (ci := 4) (v := .int (f 2)) (pc := 1) hx hb hts hinX4 hown hz 0 rfl rfl 2 (by decide) L42 rfl rfl dX4_undo_1 ?_
  refine lv_if_ne (pc := 4) (tgt := 10) hx hb dX4_undo_4 (by decide) (fun c_4 => ?_) (fun c9 => absurd c9 (by rw [hf2]; exact nI_ne0 (by omega) (by omega)))
  refine lv_aload_n (pc := 10) hx hb dX4_undo_10 rfl (lv_at hl 0 rfl) ?_
  refine lv_dup (pc := 11) hx hb dX4_undo_11 rfl ?_
  refine z_get (own := RX4) (ref := "CupFountainModel") (C := RX4) (T := TX4) (N := 17) (ci := 4) (v := .int (f 2)) (pc := 12) hx hb hts hinX4 hown hz 0 rfl rfl 2 (by decide) L42 rfl rfl dX4_undo_12 ?_
  refine lv_iconst (v := 1) (pc := 15) hx hb dX4_undo_15 (by decide) ?_
  refine lv_isub (pc := 16) hx hb dX4_undo_16 ?_
  refine z_top (y := nI n) (by rw [hf2]; exact nI_pred n) ?_
  refine z_put (own := RX4) (ref := "CupFountainModel") (C := RX4) (T := TX4) (N := 17) (ci := 4) (v := .int (nI n)) (ws1 := mm ca a (upd f 2 (nI n)) h c hi sn be tx ti) (pc := 17) hx hb hts hinX4 tyX4 tyX4_ok nmX4 hown hz 0 rfl rfl 2 (by decide) L42 rfl rfl rfl rfl (Nat.le_of_ble_eq_true rfl) rfl dX4_undo_17 (fun H locs hz => ?_)
  refine lv_aload_n (pc := 20) hx hb dX4_undo_20 rfl (lv_at hl 0 rfl) ?_
  refine z_get (own := RX4) (ref := "CupFountainModel") (C := RX4) (T := TX4) (N := 17) (ci := 4) (v := .ref (a 2)) (pc := 21) hx hb hts hinX4 hown hz 0 rfl rfl 1 (by decide) L13 rfl rfl dX4_undo_21 ?_
  refine lv_bipush (v := 104) (pc := 24) hx hb dX4_undo_24 (by decide) ?_
  refine lv_aload_n (pc := 26) hx hb dX4_undo_26 rfl (lv_at hl 0 rfl) ?_
  refine z_get (own := RX4) (ref := "CupFountainModel") (C := RX4) (T := TX4) (N := 17) (ci := 4) (v := .int (nI n)) (pc := 27) hx hb hts hinX4 hown hz 0 rfl rfl 2 (by decide) L42 rfl rfl dX4_undo_27 ?_
  refine lv_imul (pc := 30) hx hb dX4_undo_30 ?_
  refine z_top (y := nI (104 * n)) (pk_mul 104 n) ?_
  refine lv_aload_n (pc := 31) hx hb dX4_undo_31 rfl (lv_at hl 0 rfl) ?_
  refine z_get (own := RX4) (ref := "CupFountainModel") (C := RX4) (T := TX4) (N := 17) (ci := 4) (v := .ref (a 1)) (pc := 32) hx hb hts hinX4 hown hz 0 rfl rfl 0 (by decide) L7 rfl rfl dX4_undo_32 ?_
  refine lv_iconst (v := 0) (pc := 35) hx hb dX4_undo_35 (by decide) ?_
  refine z_runS (pc := 36) (As := [.ref (a 2), .int (nI (104 * n)), .ref (a 1), .int 0]) (rest := []) (ws1 := wM ca a (upd f 2 (nI n)) (va_cpy hi (enc h c) (104 * n) 0 104) hi sn be tx ti) ⟨hx, hb, hml, hown, hts⟩ (k_X4_copy l G ca (a 2) (a 1) 416 104 (104 * n) 0 hi (enc h c) (by omega) (by omega) (by decide) (by decide)) (cwS 4 hts (zgoodS zsub wq_6_18 wq_6_19 wq_1_5 wq_6_20) rfl rfl rfl hdV_X4_copy ⟨Nat.le_of_ble_eq_true rfl, Nat.le_of_ble_eq_true rfl⟩) hz (List.filterMap (fun q9 => (mm ca a (upd f 2 (nI n)) h c hi sn be tx ti)[q9]?) [0, 3, 4, 5, 6]) (z_pick [2, 1, 0, 3, 4, 5, 6] rfl rfl) (z_pick (ws := wM ca a (upd f 2 (nI n)) (va_cpy hi (enc h c) (104 * n) 0 104) hi sn be tx ti) [2, 1, 0, 3, 4, 5, 6] rfl rfl).symm rfl hl.1 (Nat.le_of_ble_eq_true rfl) (st1 := []) rfl dX4_undo_36 ⟨Nat.zero_le _, Nat.zero_le _⟩ (fun H locs hz => ?_)
  have hz := (hz.cell (g := enc h1 c1) 1 rfl (fun j hj => (cpy_at hj).trans (hh j hj))).as (show _ = mm ca a (upd f 2 (nI n)) h1 c1 hi sn be tx ti from rfl)
  refine lv_aload_n (pc := 39) hx hb dX4_undo_39 rfl (lv_at hl 0 rfl) ?_
  refine z_get (own := RX4) (ref := "CupFountainModel") (C := RX4) (T := TX4) (N := 17) (ci := 4) (v := .int (nI n)) (pc := 40) hx hb hts hinX4 hown hz 0 rfl rfl 2 (by decide) L42 rfl rfl dX4_undo_40 ?_
  exact z_iret (pc := 43) hx hb hr hlk hQ hz dX4_undo_43 (by rfl) (by rfl)

set_option maxHeartbeats 4000000 in
set_option maxRecDepth 100000 in
theorem k_X4_undo_a (l : Launch) (G : va_G) (ca : Nat → ClassId) (a : Nat → Nat) (f h : Nat → Int32) (c : Nat → Nat → Int32) (hi sn be tx ti : Nat → Int32) (hf2 : f 2 = 0) : Zc l G ca yX4_undo (zws yX4_undo cX4_undo 1 (some .int)) rm_X4_undo [.ref (a 0)] (mm ca a f h c hi sn be tx ti) (some (.int (-5))) (mm ca a f h c hi sn be tx ti) := by
  refine Zc.of (cc := cX4_undo) (maxL := 1) (ret := (some .int)) (by decide) rfl (Nat.le_of_ble_eq_true rfl) ?_
  intro pg ev s0 mt below meth cd A args Q ls hx hb hr hml hown hts hlk hQ hl hz
  have L42 : (Cond.fieldLink RX4 42 "CupFountainModel" "kept" "I").before args s0 = true := hts _ (zsub _ wq_7_22)
  have hinX4 : ∀ w ∈ wsX40, w ∈ zws yX4_undo cX4_undo 1 (some .int) := fun w h => zsub w (wl_wsX40 w h)
  have hl : lv_has ls 1 [(0, .ref (a 0))] := hl
  refine lv_aload_n (pc := 0) hx hb dX4_undo_0 rfl (lv_at hl 0 rfl) ?_
  refine z_get (own := RX4) (ref := "CupFountainModel") (C := RX4) (T := TX4) (N := 17) (ci := 4) (v := .int (f 2)) (pc := 1) hx hb hts hinX4 hown hz 0 rfl rfl 2 (by decide) L42 rfl rfl dX4_undo_1 ?_
  refine lv_if_ne (pc := 4) (tgt := 10) hx hb dX4_undo_4 (by decide) (fun c9 => absurd hf2 c9) (fun c_4 => ?_)
  refine lv_bipush (v := -5) (pc := 7) hx hb dX4_undo_7 (by decide) ?_
  exact z_iret (pc := 9) hx hb hr hlk hQ hz dX4_undo_9 (by rfl) (by rfl)

def rm_X4_keep : Room := { frames := 1, cells := 0, slots := 0, locals := 24 }
set_option maxRecDepth 20000 in
theorem hdV_X4_keep : yX4_keep.cls = RX4 ∧ yX4_keep.cls ≠ "java/lang/invoke/MethodHandle" ∧ yX4_keep.cls ≠ "java/lang/invoke/VarHandle" ∧ (parseMethodDescriptor yX4_keep.desc).map (fun d => d.parameters.length) = some 0 := by decide +kernel
set_option maxHeartbeats 4000000 in
set_option maxRecDepth 100000 in
theorem k_X4_keep (l : Launch) (G : va_G) (ca : Nat → ClassId) (a : Nat → Nat) (f h : Nat → Int32) (c : Nat → Nat → Int32) (hi sn be tx ti : Nat → Int32) : Zc l G ca yX4_keep (zws yX4_keep cX4_keep 1 (some .int)) rm_X4_keep [.ref (a 0)] (mm ca a f h c hi sn be tx ti) (some (.int (h 0))) (mm ca a (upd f 4 1) h c hi (enc h c) be tx ti) := by
  refine Zc.of (cc := cX4_keep) (maxL := 1) (ret := (some .int)) (by decide) rfl (Nat.le_of_ble_eq_true rfl) ?_
  intro pg ev s0 mt below meth cd A args Q ls hx hb hr hml hown hts hlk hQ hl hz
  have L16 : (Cond.fieldLink RX4 16 "CupFountainModel" "snapshot" "[I").before args s0 = true := hts _ (zsub _ wq_4_6)
  have L165 : (Cond.fieldLink RX4 165 "CupFountainModel" "isTaken" "Z").before args s0 = true := hts _ (zsub _ wq_21_10)
  have L7 : (Cond.fieldLink RX4 7 "CupFountainModel" "s" "[I").before args s0 = true := hts _ (zsub _ wq_4_4)
  have hinX4 : ∀ w ∈ wsX40, w ∈ zws yX4_keep cX4_keep 1 (some .int) := fun w h => zsub w (wl_wsX40 w h)
  have hl : lv_has ls 1 [(0, .ref (a 0))] := hl
  refine lv_aload_n (pc := 0) hx hb dX4_keep_0 rfl (lv_at hl 0 rfl) ?_
  refine z_get (own := RX4) (ref := "CupFountainModel") (C := RX4) (T := TX4) (N := 17) (ci := 4) (v := .ref (a 1)) (pc := 1) hx hb hts hinX4 hown hz 0 rfl rfl 0 (by decide) L7 rfl rfl dX4_keep_1 ?_
  refine lv_iconst (v := 0) (pc := 4) hx hb dX4_keep_4 (by decide) ?_
  refine lv_aload_n (pc := 5) hx hb dX4_keep_5 rfl (lv_at hl 0 rfl) ?_
  refine z_get (own := RX4) (ref := "CupFountainModel") (C := RX4) (T := TX4) (N := 17) (ci := 4) (v := .ref (a 3)) (pc := 6) hx hb hts hinX4 hown hz 0 rfl rfl 3 (by decide) L16 rfl rfl dX4_keep_6 ?_
  refine lv_iconst (v := 0) (pc := 9) hx hb dX4_keep_9 (by decide) ?_
  refine z_runS (pc := 10) (As := [.ref (a 1), .int 0, .ref (a 3), .int 0]) (rest := []) (ws1 := mm ca a f h c hi (va_cpy (enc h c) sn 0 0 104) be tx ti) ⟨hx, hb, hml, hown, hts⟩ (k_X4_copy l G ca (a 1) (a 3) 104 104 0 0 (enc h c) sn (by omega) (by omega) (by decide) (by decide)) (cwS 4 hts (zgoodS zsub wq_6_18 wq_6_19 wq_1_5 wq_6_20) rfl rfl rfl hdV_X4_copy ⟨Nat.le_of_ble_eq_true rfl, Nat.le_of_ble_eq_true rfl⟩) hz (List.filterMap (fun q9 => (mm ca a f h c hi sn be tx ti)[q9]?) [0, 2, 4, 5, 6]) (z_pick [1, 3, 0, 2, 4, 5, 6] rfl rfl) (z_pick (ws := mm ca a f h c hi (va_cpy (enc h c) sn 0 0 104) be tx ti) [1, 3, 0, 2, 4, 5, 6] rfl rfl).symm rfl hl.1 (Nat.le_of_ble_eq_true rfl) (st1 := []) rfl dX4_keep_10 ⟨Nat.zero_le _, Nat.zero_le _⟩ (fun H locs hz => ?_)
  have hz := (hz.cell (g := (enc h c)) 3 rfl (fun j hj => cpy_at0 hj)).as (show _ = mm ca a f h c hi (enc h c) be tx ti from rfl)
  refine lv_aload_n (pc := 13) hx hb dX4_keep_13 rfl (lv_at hl 0 rfl) ?_
  refine lv_iconst (v := 1) (pc := 14) hx hb dX4_keep_14 (by decide) ?_
  refine z_put (own := RX4) (ref := "CupFountainModel") (C := RX4) (T := TX4) (N := 17) (ci := 4) (v := .int 1) (ws1 := mm ca a (upd f 4 1) h c hi (enc h c) be tx ti) (pc := 15) hx hb hts hinX4 tyX4 tyX4_ok nmX4 hown hz 0 rfl rfl 4 (by decide) L165 rfl rfl rfl rfl (Nat.le_of_ble_eq_true rfl) rfl dX4_keep_15 (fun H locs hz => ?_)
  refine lv_aload_n (pc := 18) hx hb dX4_keep_18 rfl (lv_at hl 0 rfl) ?_
  refine z_get (own := RX4) (ref := "CupFountainModel") (C := RX4) (T := TX4) (N := 17) (ci := 4) (v := .ref (a 1)) (pc := 19) hx hb hts hinX4 hown hz 0 rfl rfl 0 (by decide) L7 rfl rfl dX4_keep_19 ?_
  refine lv_iconst (v := 0) (pc := 22) hx hb dX4_keep_22 (by decide) ?_
  refine z_iald (x := h 0) (pc := 23) hx hb hz 1 rfl 0 rfl (by decide) (by decide) (enc_h (by decide)) dX4_keep_23 ?_
  exact z_iret (pc := 24) hx hb hr hlk hQ hz dX4_keep_24 (by rfl) (by rfl)

def rm_X4_restore : Room := { frames := 2, cells := 0, slots := 0, locals := 46 }
set_option maxRecDepth 20000 in
theorem hdV_X4_restore : yX4_restore.cls = RX4 ∧ yX4_restore.cls ≠ "java/lang/invoke/MethodHandle" ∧ yX4_restore.cls ≠ "java/lang/invoke/VarHandle" ∧ (parseMethodDescriptor yX4_restore.desc).map (fun d => d.parameters.length) = some 0 := by decide +kernel
set_option maxHeartbeats 4000000 in
set_option maxRecDepth 100000 in
theorem k_X4_restore_b (l : Launch) (G : va_G) (ca : Nat → ClassId) (a : Nat → Nat) (f h : Nat → Int32) (c : Nat → Nat → Int32) (hi sn be tx ti : Nat → Int32) (h1 : Nat → Int32) (c1 : Nat → Nat → Int32) (kp : Nat) (hkp : kp ≤ 4) (hf2 : f 2 = nI kp) (hf4 : f 4 = 1) (hh : ∀ j, j < 104 → sn j = enc h1 c1 j) : Zc l G ca yX4_restore (zws yX4_restore cX4_restore 1 (some .int)) rm_X4_restore [.ref (a 0)] (mm ca a f h c hi sn be tx ti) (some (.int (h1 0))) (mm ca a (upd f 2 (nI (recK kp))) h1 c1 (recHi hi (enc h c) kp) sn be tx ti) := by
  refine Zc.of (cc := cX4_restore) (maxL := 1) (ret := (some .int)) (by decide) rfl (Nat.le_of_ble_eq_true rfl) ?_
  intro pg ev s0 mt below meth cd A args Q ls hx hb hr hml hown hts hlk hQ hl hz
  have L16 : (Cond.fieldLink RX4 16 "CupFountainModel" "snapshot" "[I").before args s0 = true := hts _ (zsub _ wq_4_6)
  have L165 : (Cond.fieldLink RX4 165 "CupFountainModel" "isTaken" "Z").before args s0 = true := hts _ (zsub _ wq_21_10)
  have L7 : (Cond.fieldLink RX4 7 "CupFountainModel" "s" "[I").before args s0 = true := hts _ (zsub _ wq_4_4)
  have hinX4 : ∀ w ∈ wsX40, w ∈ zws yX4_restore cX4_restore 1 (some .int) := fun w h => zsub w (wl_wsX40 w h)
  have hl : lv_has ls 1 [(0, .ref (a 0))] := hl
  refine lv_aload_n (pc := 0) hx hb dX4_restore_0 rfl (lv_at hl 0 rfl) ?_
  refine z_get (own := RX4) (ref := "CupFountainModel") (C := RX4) (T := TX4) (N := 17) (ci := 4) (v := .int (f 4)) (pc := 1) hx hb hts hinX4 hown hz 0 rfl rfl 4 (by decide) L165 rfl rfl dX4_restore_1 ?_
  refine lv_if_ne (pc := 4) (tgt := 10) hx hb dX4_restore_4 (by decide) (fun c_4 => ?_) (fun c9 => absurd c9 (by rw [hf4]; decide))
  refine lv_aload_n (pc := 10) hx hb dX4_restore_10 rfl (lv_at hl 0 rfl) ?_
  refine lv_aload_n (pc := 11) hx hb dX4_restore_11 rfl (lv_at hl 0 rfl) ?_
  refine z_get (own := RX4) (ref := "CupFountainModel") (C := RX4) (T := TX4) (N := 17) (ci := 4) (v := .ref (a 1)) (pc := 12) hx hb hts hinX4 hown hz 0 rfl rfl 0 (by decide) L7 rfl rfl dX4_restore_12 ?_
  refine z_runV (pc := 15) (As := [.ref (a 1)]) (rest := []) (ws1 := mm ca a (upd f 2 (nI (recK kp))) h c (recHi hi (enc h c) kp) sn be tx ti) ⟨hx, hb, hml, hown, hts⟩ (k_X4_recordFrom_s l G ca a f h c hi sn be tx ti kp hkp hf2) (cwV 1 hts (zgoodV zsub wq_7_18 wq_7_19 wq_7_20 wq_1_5 wq_7_21) rfl rfl rfl hdV_X4_recordFrom ⟨Nat.le_of_ble_eq_true rfl, Nat.le_of_ble_eq_true rfl⟩) hz [] zp_all zp_all' rfl rfl rfl hl.1 (Nat.le_of_ble_eq_true rfl) (st1 := []) rfl dX4_restore_15 ⟨Nat.zero_le _, Nat.zero_le _⟩ (fun H locs hz => ?_)
  refine lv_aload_n (pc := 18) hx hb dX4_restore_18 rfl (lv_at hl 0 rfl) ?_
  refine z_get (own := RX4) (ref := "CupFountainModel") (C := RX4) (T := TX4) (N := 17) (ci := 4) (v := .ref (a 3)) (pc := 19) hx hb hts hinX4 hown hz 0 rfl rfl 3 (by decide) L16 rfl rfl dX4_restore_19 ?_
  refine lv_iconst (v := 0) (pc := 22) hx hb dX4_restore_22 (by decide) ?_
  refine lv_aload_n (pc := 23) hx hb dX4_restore_23 rfl (lv_at hl 0 rfl) ?_
  refine z_get (own := RX4) (ref := "CupFountainModel") (C := RX4) (T := TX4) (N := 17) (ci := 4) (v := .ref (a 1)) (pc := 24) hx hb hts hinX4 hown hz 0 rfl rfl 0 (by decide) L7 rfl rfl dX4_restore_24 ?_
  refine lv_iconst (v := 0) (pc := 27) hx hb dX4_restore_27 (by decide) ?_
  refine z_runS (pc := 28) (As := [.ref (a 3), .int 0, .ref (a 1), .int 0]) (rest := []) (ws1 := wM ca a (upd f 2 (nI (recK kp))) (va_cpy sn (enc h c) 0 0 104) (recHi hi (enc h c) kp) sn be tx ti) ⟨hx, hb, hml, hown, hts⟩ (k_X4_copy l G ca (a 3) (a 1) 104 104 0 0 sn (enc h c) (by omega) (by omega) (by decide) (by decide)) (cwS 4 hts (zgoodS zsub wq_6_18 wq_6_19 wq_1_5 wq_6_20) rfl rfl rfl hdV_X4_copy ⟨Nat.le_of_ble_eq_true rfl, Nat.le_of_ble_eq_true rfl⟩) hz (List.filterMap (fun q9 => (mm ca a (upd f 2 (nI (recK kp))) h c (recHi hi (enc h c) kp) sn be tx ti)[q9]?) [0, 2, 4, 5, 6]) (z_pick [3, 1, 0, 2, 4, 5, 6] rfl rfl) (z_pick (ws := wM ca a (upd f 2 (nI (recK kp))) (va_cpy sn (enc h c) 0 0 104) (recHi hi (enc h c) kp) sn be tx ti) [3, 1, 0, 2, 4, 5, 6] rfl rfl).symm rfl hl.1 (Nat.le_of_ble_eq_true rfl) (st1 := []) rfl dX4_restore_28 ⟨Nat.zero_le _, Nat.zero_le _⟩ (fun H locs hz => ?_)
  have hz := (hz.cell (g := enc h1 c1) 1 rfl (fun j hj => (cpy_at0 hj).trans (hh j hj))).as (show _ = mm ca a (upd f 2 (nI (recK kp))) h1 c1 (recHi hi (enc h c) kp) sn be tx ti from rfl)
  refine lv_aload_n (pc := 31) hx hb dX4_restore_31 rfl (lv_at hl 0 rfl) ?_
  refine z_get (own := RX4) (ref := "CupFountainModel") (C := RX4) (T := TX4) (N := 17) (ci := 4) (v := .ref (a 1)) (pc := 32) hx hb hts hinX4 hown hz 0 rfl rfl 0 (by decide) L7 rfl rfl dX4_restore_32 ?_
  refine lv_iconst (v := 0) (pc := 35) hx hb dX4_restore_35 (by decide) ?_
  refine z_iald (x := h1 0) (pc := 36) hx hb hz 1 rfl 0 rfl (by decide) (by decide) (enc_h (by decide)) dX4_restore_36 ?_
  exact z_iret (pc := 37) hx hb hr hlk hQ hz dX4_restore_37 (by rfl) (by rfl)

set_option maxHeartbeats 4000000 in
set_option maxRecDepth 100000 in
theorem k_X4_restore_a (l : Launch) (G : va_G) (ca : Nat → ClassId) (a : Nat → Nat) (f h : Nat → Int32) (c : Nat → Nat → Int32) (hi sn be tx ti : Nat → Int32) (hf4 : f 4 = 0) : Zc l G ca yX4_restore (zws yX4_restore cX4_restore 1 (some .int)) rm_X4_restore [.ref (a 0)] (mm ca a f h c hi sn be tx ti) (some (.int (-5))) (mm ca a f h c hi sn be tx ti) := by
  refine Zc.of (cc := cX4_restore) (maxL := 1) (ret := (some .int)) (by decide) rfl (Nat.le_of_ble_eq_true rfl) ?_
  intro pg ev s0 mt below meth cd A args Q ls hx hb hr hml hown hts hlk hQ hl hz
  have L165 : (Cond.fieldLink RX4 165 "CupFountainModel" "isTaken" "Z").before args s0 = true := hts _ (zsub _ wq_21_10)
  have hinX4 : ∀ w ∈ wsX40, w ∈ zws yX4_restore cX4_restore 1 (some .int) := fun w h => zsub w (wl_wsX40 w h)
  have hl : lv_has ls 1 [(0, .ref (a 0))] := hl
  refine lv_aload_n (pc := 0) hx hb dX4_restore_0 rfl (lv_at hl 0 rfl) ?_
  refine z_get (own := RX4) (ref := "CupFountainModel") (C := RX4) (T := TX4) (N := 17) (ci := 4) (v := .int (f 4)) (pc := 1) hx hb hts hinX4 hown hz 0 rfl rfl 4 (by decide) L165 rfl rfl dX4_restore_1 ?_
  refine lv_if_ne (pc := 4) (tgt := 10) hx hb dX4_restore_4 (by decide) (fun c9 => absurd hf4 c9) (fun c_4 => ?_)
  refine lv_bipush (v := -5) (pc := 7) hx hb dX4_restore_7 (by decide) ?_
  exact z_iret (pc := 9) hx hb hr hlk hQ hz dX4_restore_9 (by rfl) (by rfl)

def rm_X4_cup : Room := { frames := 2, cells := 0, slots := 0, locals := 42 }
set_option maxRecDepth 20000 in
theorem hdV_X4_cup : yX4_cup.cls = RX4 ∧ yX4_cup.cls ≠ "java/lang/invoke/MethodHandle" ∧ yX4_cup.cls ≠ "java/lang/invoke/VarHandle" ∧ (parseMethodDescriptor yX4_cup.desc).map (fun d => d.parameters.length) = some 2 := by decide +kernel
set_option maxHeartbeats 4000000 in
set_option maxRecDepth 100000 in
theorem k_X4_cup (l : Launch) (G : va_G) (ca : Nat → ClassId) (a : Nat → Nat) (f h : Nat → Int32) (c : Nat → Nat → Int32) (hi sn be tx ti : Nat → Int32) (cup what : Int32) : Zc l G ca yX4_cup (zws yX4_cup cX4_cup 3 (some .int)) rm_X4_cup [.ref (a 0), .int cup, .int what] (mm ca a f h c hi sn be tx ti) (some (.int (cupR c cup what))) (mm ca a f h c hi sn be tx ti) := by
  refine Zc.of (cc := cX4_cup) (maxL := 3) (ret := (some .int)) (by decide) rfl (Nat.le_of_ble_eq_true rfl) ?_
  intro pg ev s0 mt below meth cd A args Q ls hx hb hr hml hown hts hlk hQ hl hz
  have hl : lv_has ls 3 [(0, .ref (a 0)), (1, .int cup), (2, .int what)] := hl
  refine lv_iload_n (pc := 0) hx hb dX4_cup_0 rfl (lv_at hl 1 rfl) ?_
  refine z_runS (pc := 1) (As := [.int cup]) (rest := []) (ws1 := mm ca a f h c hi sn be tx ti) ⟨hx, hb, hml, hown, hts⟩ (k_X4_isCup l G ca cup) (cwS 1 hts (zgoodS zsub wq_7_1 wq_7_2 wq_1_5 wq_7_3) rfl rfl rfl hdV_X4_isCup ⟨Nat.le_of_ble_eq_true rfl, Nat.le_of_ble_eq_true rfl⟩) hz (mm ca a f h c hi sn be tx ti) zp_no (List.Perm.refl _) rfl hl.1 (Nat.le_of_ble_eq_true rfl) (st1 := [.int (inF cup 0 7)]) rfl dX4_cup_1 ⟨Nat.zero_le _, Nat.zero_le _⟩ (fun H locs hz => ?_)
  refine lv_if_ne (pc := 4) (tgt := 9) hx hb dX4_cup_4 (by decide) (fun c_4 => ?_) (fun c_4 => ?_)
  · obtain ⟨k, hk, rfl⟩ := isCup_pos c_4
    have hnk : nn (nI k) = k := nn_nI (by omega)
    refine lv_iload_n (pc := 9) hx hb dX4_cup_9 rfl (lv_at hl 2 rfl) ?_
    refine lv_iconst (v := 0) (pc := 10) hx hb dX4_cup_10 (by decide) ?_
    refine lv_bipush (v := 11) (pc := 11) hx hb dX4_cup_11 (by decide) ?_
    refine z_runS (pc := 13) (As := [.int what, .int 0, .int 11]) (rest := []) (ws1 := mm ca a f h c hi sn be tx ti) ⟨hx, hb, hml, hown, hts⟩ (k_X4_in l G ca what 0 11) (cwS 3 hts (zgoodS zsub wq_7_4 wq_7_5 wq_1_5 wq_7_6) rfl rfl rfl hdV_X4_in ⟨Nat.le_of_ble_eq_true rfl, Nat.le_of_ble_eq_true rfl⟩) hz (mm ca a f h c hi sn be tx ti) zp_no (List.Perm.refl _) rfl hl.1 (Nat.le_of_ble_eq_true rfl) (st1 := [.int (inF what 0 11)]) rfl dX4_cup_13 ⟨Nat.zero_le _, Nat.zero_le _⟩ (fun H locs hz => ?_)
    refine lv_if_ne (pc := 16) (tgt := 22) hx hb dX4_cup_16 (by decide) (fun c_16 => ?_) (fun c_16 => ?_)
    · obtain ⟨j, hj, rfl⟩ := i32_nI (n := 11) (Or.inl rfl) rfl (by decide) (inF_ne c_16)
      have hnw : nn (nI j) = j := nn_nI (by omega)
      have hj12 : j < 12 := by omega
      refine lv_iload_n (pc := 22) hx hb dX4_cup_22 rfl (lv_at hl 2 rfl) ?_
      refine lv_iconst (v := 4) (pc := 23) hx hb dX4_cup_23 (by decide) ?_
      refine lv_icmp_ne (pc := 24) (tgt := 42) hx hb dX4_cup_24 (by decide) (fun c_24 => ?_) (fun c_24 => ?_)
      · refine lv_aload_n (pc := 42) hx hb dX4_cup_42 rfl (lv_at hl 0 rfl) ?_
        refine lv_iload_n (pc := 43) hx hb dX4_cup_43 rfl (lv_at hl 1 rfl) ?_
        refine lv_iload_n (pc := 44) hx hb dX4_cup_44 rfl (lv_at hl 2 rfl) ?_
        refine z_runV (pc := 45) (As := [.int (nI k), .int (nI j)]) (rest := []) (ws1 := mm ca a f h c hi sn be tx ti) ⟨hx, hb, hml, hown, hts⟩ (k_X4_of l G ca a f h c hi sn be tx ti k j (by assumption) (by assumption)) (cwV 2 hts (zgoodV zsub wq_7_10 wq_7_11 wq_7_12 wq_1_5 wq_7_13) rfl rfl rfl hdV_X4_of ⟨Nat.le_of_ble_eq_true rfl, Nat.le_of_ble_eq_true rfl⟩) hz [] zp_all zp_all' rfl rfl rfl hl.1 (Nat.le_of_ble_eq_true rfl) (st1 := [.int (c k j)]) rfl dX4_cup_45 ⟨Nat.zero_le _, Nat.zero_le _⟩ (fun H locs hz => ?_)
        exact z_iret (pc := 48) hx hb hr hlk hQ hz dX4_cup_48 (by simp only [cupR, if_neg c_4, if_neg c_16, if_neg c_24, hnk, hnw]) (by rfl)
      · refine lv_aload_n (pc := 27) hx hb dX4_cup_27 rfl (lv_at hl 0 rfl) ?_
        refine lv_iload_n (pc := 28) hx hb dX4_cup_28 rfl (lv_at hl 1 rfl) ?_
        refine lv_iconst (v := 4) (pc := 29) hx hb dX4_cup_29 (by decide) ?_
        refine z_runV (pc := 30) (As := [.int (nI k), .int 4]) (rest := []) (ws1 := mm ca a f h c hi sn be tx ti) ⟨hx, hb, hml, hown, hts⟩ (k_X4_of l G ca a f h c hi sn be tx ti k 4 (by assumption) (by decide)) (cwV 2 hts (zgoodV zsub wq_7_10 wq_7_11 wq_7_12 wq_1_5 wq_7_13) rfl rfl rfl hdV_X4_of ⟨Nat.le_of_ble_eq_true rfl, Nat.le_of_ble_eq_true rfl⟩) hz [] zp_all zp_all' rfl rfl rfl hl.1 (Nat.le_of_ble_eq_true rfl) (st1 := [.int (c k 4)]) rfl dX4_cup_30 ⟨Nat.zero_le _, Nat.zero_le _⟩ (fun H locs hz => ?_)
        refine lv_iconst (v := -1) (pc := 33) hx hb dX4_cup_33 (by decide) ?_
        refine lv_icmp_ne (pc := 34) (tgt := 42) hx hb dX4_cup_34 (by decide) (fun c_34 => ?_) (fun c_34 => ?_)
        · refine lv_aload_n (pc := 42) hx hb dX4_cup_42 rfl (lv_at hl 0 rfl) ?_
          refine lv_iload_n (pc := 43) hx hb dX4_cup_43 rfl (lv_at hl 1 rfl) ?_
          refine lv_iload_n (pc := 44) hx hb dX4_cup_44 rfl (lv_at hl 2 rfl) ?_
          refine z_runV (pc := 45) (As := [.int (nI k), .int (nI j)]) (rest := []) (ws1 := mm ca a f h c hi sn be tx ti) ⟨hx, hb, hml, hown, hts⟩ (k_X4_of l G ca a f h c hi sn be tx ti k j (by assumption) (by assumption)) (cwV 2 hts (zgoodV zsub wq_7_10 wq_7_11 wq_7_12 wq_1_5 wq_7_13) rfl rfl rfl hdV_X4_of ⟨Nat.le_of_ble_eq_true rfl, Nat.le_of_ble_eq_true rfl⟩) hz [] zp_all zp_all' rfl rfl rfl hl.1 (Nat.le_of_ble_eq_true rfl) (st1 := [.int (c k j)]) rfl dX4_cup_45 ⟨Nat.zero_le _, Nat.zero_le _⟩ (fun H locs hz => ?_)
          exact z_iret (pc := 48) hx hb hr hlk hQ hz dX4_cup_48 (by simp only [cupR, if_neg c_4, if_neg c_16, if_pos c_24, if_neg c_34, hnk, hnw]) (by rfl)
        · refine lv_bipush (v := -5) (pc := 37) hx hb dX4_cup_37 (by decide) ?_
          refine lv_goto (tgt := 48) (pc := 39) hx hb dX4_cup_39 (by decide) ?_
          exact z_iret (pc := 48) hx hb hr hlk hQ hz dX4_cup_48 (by simp only [cupR, if_neg c_4, if_neg c_16, if_pos c_24, if_pos c_34, hnk, hnw]) (by rfl)
    · refine lv_bipush (v := -2) (pc := 19) hx hb dX4_cup_19 (by decide) ?_
      exact z_iret (pc := 21) hx hb hr hlk hQ hz dX4_cup_21 (by simp only [cupR, if_neg c_4, if_pos c_16, hnk]) (by rfl)
  · refine lv_iconst (v := -1) (pc := 7) hx hb dX4_cup_7 (by decide) ?_
    exact z_iret (pc := 8) hx hb hr hlk hQ hz dX4_cup_8 (by simp only [cupR, if_pos c_4]) (by rfl)

def rm_X4_untilTip : Room := { frames := 4, cells := 0, slots := 0, locals := 96 }
set_option maxRecDepth 20000 in
theorem hdV_X4_untilTip : yX4_untilTip.cls = RX4 ∧ yX4_untilTip.cls ≠ "java/lang/invoke/MethodHandle" ∧ yX4_untilTip.cls ≠ "java/lang/invoke/VarHandle" ∧ (parseMethodDescriptor yX4_untilTip.desc).map (fun d => d.parameters.length) = some 2 := by decide +kernel
set_option maxHeartbeats 4000000 in
set_option maxRecDepth 100000 in
theorem k_X4_untilTip (l : Launch) (G : va_G) (ca : Nat → ClassId) (a : Nat → Nat) (f h : Nat → Int32) (c : Nat → Nat → Int32) (hi sn be tx ti : Nat → Int32) (k M : Nat) (hk8 : k < 8) (hM : M < 1000) (hok : okP (h, c)) : Zc l G ca yX4_untilTip (zws yX4_untilTip cX4_untilTip 5 (some .int)) rm_X4_untilTip [.ref (a 0), .int (nI k), .int (nI M)] (mm ca a f h c hi sn be tx ti) (some (.int (utF (h, c) k M 0))) (mm ca a f h c hi sn (enc h c) tx (tkT (h, c) ti (utN (h, c) k M 0))) := by
  refine Zc.of (cc := cX4_untilTip) (maxL := 5) (ret := (some .int)) (by decide) rfl (Nat.le_of_ble_eq_true rfl) ?_
  intro pg ev s0 mt below meth cd A args Q ls hx hb hr hml hown hts hlk hQ hl hz
  have L19 : (Cond.fieldLink RX4 19 "CupFountainModel" "before" "[I").before args s0 = true := hts _ (zsub _ wq_4_7)
  have L30 : (Cond.fieldLink RX4 30 "CupFountainModel" "tipped" "[Z").before args s0 = true := hts _ (zsub _ wq_4_11)
  have L7 : (Cond.fieldLink RX4 7 "CupFountainModel" "s" "[I").before args s0 = true := hts _ (zsub _ wq_4_4)
  have hinX4 : ∀ w ∈ wsX40, w ∈ zws yX4_untilTip cX4_untilTip 5 (some .int) := fun w h => zsub w (wl_wsX40 w h)
  have hl : lv_has ls 5 [(0, .ref (a 0)), (1, .int (nI k)), (2, .int (nI M))] := hl
  refine lv_aload_n (pc := 0) hx hb dX4_untilTip_0 rfl (lv_at hl 0 rfl) ?_
  refine z_runV (pc := 1) (As := []) (rest := []) (ws1 := mm ca a f h c hi sn (enc h c) tx ti) ⟨hx, hb, hml, hown, hts⟩ (k_X4_begin l G ca a f h c hi sn be tx ti) (cwV 0 hts (zgoodV zsub wq_6_14 wq_6_15 wq_6_16 wq_1_5 wq_6_17) rfl rfl rfl hdV_X4_begin ⟨Nat.le_of_ble_eq_true rfl, Nat.le_of_ble_eq_true rfl⟩) hz [] zp_all zp_all' rfl rfl rfl hl.1 (Nat.le_of_ble_eq_true rfl) (st1 := []) rfl dX4_untilTip_1 ⟨Nat.zero_le _, Nat.zero_le _⟩ (fun H locs hz => ?_)
  refine lv_iconst (v := 0) (pc := 4) hx hb dX4_untilTip_4 (by decide) ?_
  refine lv_istore_n (lv' := [(3, .int 0), (0, .ref (a 0)), (1, .int (nI k)), (2, .int (nI M))]) (pc := 5) hx hb dX4_untilTip_5 rfl hl (by decide) rfl (fun ls hl => ?_)
  refine lv_iconst (v := 0) (pc := 6) hx hb dX4_untilTip_6 (by decide) ?_
  refine lv_istore (lv' := [(4, .int 0), (3, .int 0), (0, .ref (a 0)), (1, .int (nI k)), (2, .int (nI M))]) (pc := 7) hx hb dX4_untilTip_7 hl (by decide) rfl (fun ls hl => ?_)
  have loop1 : ∀ cnt i : Nat, i + cnt = M → ∀ (H : Heap) (locs : List Loc) (ls : Array Slot), zw G ca A s0.heap s0 (mm ca a f ((tkN (h, c) i).1) ((tkN (h, c) i).2) hi sn (enc h c) tx (tkT (h, c) ti i)) H locs → lv_has ls 5 [(4, .int (isF (h, c) k i)), (3, .int (nI i)), (0, .ref (a 0)), (1, .int (nI k)), (2, .int (nI M))] → (∀ j, j + 1 < i → tg (h, c) k j = 0) → W pg l ev rm_X4_untilTip s0 mt args below meth cd H locs 0 0 Q (F0 mt 9 ls []) := by
    intro cnt
    induction cnt with
    | zero =>
      intro i hk9 H locs ls hz hl hno
      obtain rfl : M = i := by omega
      refine lv_iload_n (pc := 9) hx hb dX4_untilTip_9 rfl (lv_at hl 1 rfl) ?_
      refine lv_iload_n (pc := 10) hx hb dX4_untilTip_10 rfl (lv_at hl 4 rfl) ?_
      refine lv_icmp_ge (pc := 11) (tgt := 37) hx hb dX4_untilTip_11 (by decide) (fun c_11 => ?_) (fun c9 => absurd (nI_le (Nat.le_refl _) (by omega)) c9)
      refine lv_aload_n (pc := 37) hx hb dX4_untilTip_37 rfl (lv_at hl 2 rfl) ?_
      refine z_get (own := RX4) (ref := "CupFountainModel") (C := RX4) (T := TX4) (N := 17) (ci := 4) (v := .ref (a 4)) (pc := 38) hx hb hts hinX4 hown hz 0 rfl rfl 5 (by decide) L19 rfl rfl dX4_untilTip_38 ?_
      refine lv_iconst (v := 0) (pc := 41) hx hb dX4_untilTip_41 (by decide) ?_
      refine lv_aload_n (pc := 42) hx hb dX4_untilTip_42 rfl (lv_at hl 2 rfl) ?_
      refine z_get (own := RX4) (ref := "CupFountainModel") (C := RX4) (T := TX4) (N := 17) (ci := 4) (v := .ref (a 1)) (pc := 43) hx hb hts hinX4 hown hz 0 rfl rfl 0 (by decide) L7 rfl rfl dX4_untilTip_43 ?_
      refine lv_iconst (v := 0) (pc := 46) hx hb dX4_untilTip_46 (by decide) ?_
      refine z_runS (pc := 47) (As := [.ref (a 4), .int 0, .ref (a 1), .int 0]) (rest := []) (ws1 := wM ca a f (va_cpy (enc h c) (enc ((tkN (h, c) M).1) ((tkN (h, c) M).2)) 0 0 104) hi sn (enc h c) tx (tkT (h, c) ti M)) ⟨hx, hb, hml, hown, hts⟩ (k_X4_copy l G ca (a 4) (a 1) 104 104 0 0 (enc h c) (enc ((tkN (h, c) M).1) ((tkN (h, c) M).2)) (by omega) (by omega) (by decide) (by decide)) (cwS 4 hts (zgoodS zsub wq_6_18 wq_6_19 wq_1_5 wq_6_20) rfl rfl rfl hdV_X4_copy ⟨Nat.le_of_ble_eq_true rfl, Nat.le_of_ble_eq_true rfl⟩) hz (List.filterMap (fun q9 => (mm ca a f ((tkN (h, c) M).1) ((tkN (h, c) M).2) hi sn (enc h c) tx (tkT (h, c) ti M))[q9]?) [0, 2, 3, 5, 6]) (z_pick [4, 1, 0, 2, 3, 5, 6] rfl rfl) (z_pick (ws := wM ca a f (va_cpy (enc h c) (enc ((tkN (h, c) M).1) ((tkN (h, c) M).2)) 0 0 104) hi sn (enc h c) tx (tkT (h, c) ti M)) [4, 1, 0, 2, 3, 5, 6] rfl rfl).symm rfl hl.1 (Nat.le_of_ble_eq_true rfl) (st1 := []) rfl dX4_untilTip_47 ⟨Nat.zero_le _, Nat.zero_le _⟩ (fun H locs hz => ?_)
      have hz := (hz.cell (g := enc h c) 1 rfl (fun j hj => cpy_at0 hj)).as (show _ = mm ca a f h c hi sn (enc h c) tx (tkT (h, c) ti M) from rfl)
      refine lv_iload (pc := 50) hx hb dX4_untilTip_50 (lv_at hl 0 rfl) ?_
      refine lv_if_eq (pc := 52) (tgt := 59) hx hb dX4_untilTip_52 (by decide) (fun c_52 => ?_) (fun c_52 => ?_)
      · refine lv_bipush (v := -5) (pc := 59) hx hb dX4_untilTip_59 (by decide) ?_
        exact z_iret (pc := 61) hx hb hr hlk hQ hz dX4_untilTip_61 (by rw [(ut_end0 hno c_52).1]) (by rw [(ut_end0 hno c_52).2])
      · refine lv_iload_n (pc := 55) hx hb dX4_untilTip_55 rfl (lv_at hl 1 rfl) ?_
        refine lv_goto (tgt := 61) (pc := 56) hx hb dX4_untilTip_56 (by decide) ?_
        exact z_iret (pc := 61) hx hb hr hlk hQ hz dX4_untilTip_61 (by rw [(ut_end1 (Nat.le_refl _) hno c_52).1]) (by rw [(ut_end1 (Nat.le_refl _) hno c_52).2])
    | succ cnt ih =>
      intro i hk9 H locs ls hz hl hno
      have hk : i < M := by omega
      refine lv_iload_n (pc := 9) hx hb dX4_untilTip_9 rfl (lv_at hl 1 rfl) ?_
      refine lv_iload_n (pc := 10) hx hb dX4_untilTip_10 rfl (lv_at hl 4 rfl) ?_
      refine lv_icmp_ge (pc := 11) (tgt := 37) hx hb dX4_untilTip_11 (by decide) (fun c9 => absurd c9 (nI_ge hk (by omega))) (fun c_11 => ?_)
      refine lv_iload (pc := 14) hx hb dX4_untilTip_14 (lv_at hl 0 rfl) ?_
      refine lv_if_ne (pc := 16) (tgt := 37) hx hb dX4_untilTip_16 (by decide) (fun c_16 => ?_) (fun c_16 => ?_)
      · refine lv_aload_n (pc := 37) hx hb dX4_untilTip_37 rfl (lv_at hl 2 rfl) ?_
        refine z_get (own := RX4) (ref := "CupFountainModel") (C := RX4) (T := TX4) (N := 17) (ci := 4) (v := .ref (a 4)) (pc := 38) hx hb hts hinX4 hown hz 0 rfl rfl 5 (by decide) L19 rfl rfl dX4_untilTip_38 ?_
        refine lv_iconst (v := 0) (pc := 41) hx hb dX4_untilTip_41 (by decide) ?_
        refine lv_aload_n (pc := 42) hx hb dX4_untilTip_42 rfl (lv_at hl 2 rfl) ?_
        refine z_get (own := RX4) (ref := "CupFountainModel") (C := RX4) (T := TX4) (N := 17) (ci := 4) (v := .ref (a 1)) (pc := 43) hx hb hts hinX4 hown hz 0 rfl rfl 0 (by decide) L7 rfl rfl dX4_untilTip_43 ?_
        refine lv_iconst (v := 0) (pc := 46) hx hb dX4_untilTip_46 (by decide) ?_
        refine z_runS (pc := 47) (As := [.ref (a 4), .int 0, .ref (a 1), .int 0]) (rest := []) (ws1 := wM ca a f (va_cpy (enc h c) (enc ((tkN (h, c) i).1) ((tkN (h, c) i).2)) 0 0 104) hi sn (enc h c) tx (tkT (h, c) ti i)) ⟨hx, hb, hml, hown, hts⟩ (k_X4_copy l G ca (a 4) (a 1) 104 104 0 0 (enc h c) (enc ((tkN (h, c) i).1) ((tkN (h, c) i).2)) (by omega) (by omega) (by decide) (by decide)) (cwS 4 hts (zgoodS zsub wq_6_18 wq_6_19 wq_1_5 wq_6_20) rfl rfl rfl hdV_X4_copy ⟨Nat.le_of_ble_eq_true rfl, Nat.le_of_ble_eq_true rfl⟩) hz (List.filterMap (fun q9 => (mm ca a f ((tkN (h, c) i).1) ((tkN (h, c) i).2) hi sn (enc h c) tx (tkT (h, c) ti i))[q9]?) [0, 2, 3, 5, 6]) (z_pick [4, 1, 0, 2, 3, 5, 6] rfl rfl) (z_pick (ws := wM ca a f (va_cpy (enc h c) (enc ((tkN (h, c) i).1) ((tkN (h, c) i).2)) 0 0 104) hi sn (enc h c) tx (tkT (h, c) ti i)) [4, 1, 0, 2, 3, 5, 6] rfl rfl).symm rfl hl.1 (Nat.le_of_ble_eq_true rfl) (st1 := []) rfl dX4_untilTip_47 ⟨Nat.zero_le _, Nat.zero_le _⟩ (fun H locs hz => ?_)
        have hz := (hz.cell (g := enc h c) 1 rfl (fun j hj => cpy_at0 hj)).as (show _ = mm ca a f h c hi sn (enc h c) tx (tkT (h, c) ti i) from rfl)
        refine lv_iload (pc := 50) hx hb dX4_untilTip_50 (lv_at hl 0 rfl) ?_
        refine lv_if_eq (pc := 52) (tgt := 59) hx hb dX4_untilTip_52 (by decide) (fun c9 => absurd c9 c_16) (fun c_52 => ?_)
        refine lv_iload_n (pc := 55) hx hb dX4_untilTip_55 rfl (lv_at hl 1 rfl) ?_
        refine lv_goto (tgt := 61) (pc := 56) hx hb dX4_untilTip_56 (by decide) ?_
        exact z_iret (pc := 61) hx hb hr hlk hQ hz dX4_untilTip_61 (by rw [(ut_end1 (by omega) hno c_16).1]) (by rw [(ut_end1 (by omega) hno c_16).2])
      · refine lv_aload_n (pc := 19) hx hb dX4_untilTip_19 rfl (lv_at hl 2 rfl) ?_
        refine z_runV (pc := 20) (As := []) (rest := []) (ws1 := mm ca a f ((tkN (h, c) (i + 1)).1) ((tkN (h, c) (i + 1)).2) hi sn (enc h c) tx (tkT (h, c) ti (i + 1))) ⟨hx, hb, hml, hown, hts⟩ (k_X4_tick l G ca a f ((tkN (h, c) i).1) ((tkN (h, c) i).2) hi sn (enc h c) tx (tkT (h, c) ti i) (hok.ticks i)) (cwV 0 hts (zgoodV zsub wq_14_15 wq_14_16 wq_14_17 wq_1_5 wq_14_18) rfl rfl rfl hdV_X4_tick ⟨Nat.le_of_ble_eq_true rfl, Nat.le_of_ble_eq_true rfl⟩) hz [] zp_all (by rw [List.append_nil]; exact List.Perm.refl _) rfl rfl rfl hl.1 (Nat.le_of_ble_eq_true rfl) (st1 := []) rfl dX4_untilTip_20 ⟨Nat.zero_le _, Nat.zero_le _⟩ (fun H locs hz => ?_)
        refine lv_iinc (v := nI (i + 1)) (lv' := [(3, .int (nI (i + 1))), (4, .int (isF (h, c) k i)), (0, .ref (a 0)), (1, .int (nI k)), (2, .int (nI M))]) (pc := 23) hx hb dX4_untilTip_23 hl (k := 1) rfl (nI_add i 1) (by decide) rfl (fun ls hl => ?_)
        refine lv_aload_n (pc := 26) hx hb dX4_untilTip_26 rfl (lv_at hl 2 rfl) ?_
        refine z_get (own := RX4) (ref := "CupFountainModel") (C := RX4) (T := TX4) (N := 17) (ci := 4) (v := .ref (a 6)) (pc := 27) hx hb hts hinX4 hown hz 0 rfl rfl 10 (by decide) L30 rfl rfl dX4_untilTip_27 ?_
        refine lv_iload_n (pc := 30) hx hb dX4_untilTip_30 rfl (lv_at hl 3 rfl) ?_
        refine z_zald (x := isF (h, c) k (i + 1)) (pc := 31) hx hb hz 6 rfl k rfl hk8 (by decide) (tkT_at hk8) dX4_untilTip_31 ?_
        refine lv_istore (lv' := [(4, .int (isF (h, c) k (i + 1))), (3, .int (nI (i + 1))), (0, .ref (a 0)), (1, .int (nI k)), (2, .int (nI M))]) (pc := 32) hx hb dX4_untilTip_32 hl (by decide) rfl (fun ls hl => ?_)
        refine lv_goto (tgt := 9) (pc := 34) hx hb dX4_untilTip_34 (by decide) ?_
        exact ih (i + 1) (by omega) _ _ _ hz (lv_sub hl [0, 1, 2, 3, 4] rfl) (ut_next hno c_16)
  exact loop1 M 0 (by omega) _ _ _ (hz.as (by rw [tkN_0, tkT_0])) (lv_sub hl [0, 1, 2, 3, 4] rfl) (fun j hj => absurd hj (by omega))

def rm_X4_hourOfTip : Room := { frames := 5, cells := 0, slots := 0, locals := 120 }
set_option maxRecDepth 20000 in
theorem hdV_X4_hourOfTip : yX4_hourOfTip.cls = RX4 ∧ yX4_hourOfTip.cls ≠ "java/lang/invoke/MethodHandle" ∧ yX4_hourOfTip.cls ≠ "java/lang/invoke/VarHandle" ∧ (parseMethodDescriptor yX4_hourOfTip.desc).map (fun d => d.parameters.length) = some 1 := by decide +kernel
set_option maxHeartbeats 4000000 in
set_option maxRecDepth 100000 in
theorem k_X4_hourOfTip (l : Launch) (G : va_G) (ca : Nat → ClassId) (a : Nat → Nat) (f h : Nat → Int32) (c : Nat → Nat → Int32) (hi sn be tx ti : Nat → Int32) (k : Nat) (hk : k < 8) (hok : okP (h, c)) : Zc l G ca yX4_hourOfTip (zws yX4_hourOfTip cX4_hourOfTip 3 (some .int)) rm_X4_hourOfTip [.ref (a 0), .int (nI k)] (mm ca a f h c hi sn be tx ti) (some (.int (hotF (h, c) k))) (mm ca a f h c hi sn (enc h c) tx (tkT (h, c) ti (utN (h, c) k 500 0))) := by
  refine Zc.of (cc := cX4_hourOfTip) (maxL := 3) (ret := (some .int)) (by decide) rfl (Nat.le_of_ble_eq_true rfl) ?_
  intro pg ev s0 mt below meth cd A args Q ls hx hb hr hml hown hts hlk hQ hl hz
  have L7 : (Cond.fieldLink RX4 7 "CupFountainModel" "s" "[I").before args s0 = true := hts _ (zsub _ wq_4_4)
  have hinX4 : ∀ w ∈ wsX40, w ∈ zws yX4_hourOfTip cX4_hourOfTip 3 (some .int) := fun w h => zsub w (wl_wsX40 w h)
  have hl : lv_has ls 3 [(0, .ref (a 0)), (1, .int (nI k))] := hl
  refine lv_aload_n (pc := 0) hx hb dX4_hourOfTip_0 rfl (lv_at hl 0 rfl) ?_
  refine lv_iload_n (pc := 1) hx hb dX4_hourOfTip_1 rfl (lv_at hl 1 rfl) ?_
  refine lv_sipush (v := 500) (pc := 2) hx hb dX4_hourOfTip_2 (by decide) ?_
  refine z_runV (pc := 5) (As := [.int (nI k), .int 500]) (rest := []) (ws1 := mm ca a f h c hi sn (enc h c) tx (tkT (h, c) ti (utN (h, c) k 500 0))) ⟨hx, hb, hml, hown, hts⟩ (k_X4_untilTip l G ca a f h c hi sn be tx ti k 500 hk (by decide) hok) (cwV 2 hts (zgoodV zsub wq_22_19 wq_22_20 wq_22_21 wq_1_5 wq_22_22) rfl rfl rfl hdV_X4_untilTip ⟨Nat.le_of_ble_eq_true rfl, Nat.le_of_ble_eq_true rfl⟩) hz [] zp_all zp_all' rfl rfl rfl hl.1 (Nat.le_of_ble_eq_true rfl) (st1 := [.int (utF (h, c) k 500 0)]) rfl dX4_hourOfTip_5 ⟨Nat.zero_le _, Nat.zero_le _⟩ (fun H locs hz => ?_)
  refine lv_istore_n (lv' := [(2, .int (utF (h, c) k 500 0)), (0, .ref (a 0)), (1, .int (nI k))]) (pc := 8) hx hb dX4_hourOfTip_8 rfl hl (by decide) rfl (fun ls hl => ?_)
  refine lv_iload_n (pc := 9) hx hb dX4_hourOfTip_9 rfl (lv_at hl 0 rfl) ?_
  refine lv_bipush (v := -5) (pc := 10) hx hb dX4_hourOfTip_10 (by decide) ?_
  refine lv_icmp_ne (pc := 12) (tgt := 20) hx hb dX4_hourOfTip_12 (by decide) (fun c_12 => ?_) (fun c_12 => ?_)
  · refine lv_aload_n (pc := 20) hx hb dX4_hourOfTip_20 rfl (lv_at hl 1 rfl) ?_
    refine lv_aload_n (pc := 21) hx hb dX4_hourOfTip_21 rfl (lv_at hl 1 rfl) ?_
    refine z_get (own := RX4) (ref := "CupFountainModel") (C := RX4) (T := TX4) (N := 17) (ci := 4) (v := .ref (a 1)) (pc := 22) hx hb hts hinX4 hown hz 0 rfl rfl 0 (by decide) L7 rfl rfl dX4_hourOfTip_22 ?_
    refine lv_iconst (v := 0) (pc := 25) hx hb dX4_hourOfTip_25 (by decide) ?_
    refine z_iald (x := h 0) (pc := 26) hx hb hz 1 rfl 0 rfl (by decide) (by decide) (enc_h (by decide)) dX4_hourOfTip_26 ?_
    refine lv_iload_n (pc := 27) hx hb dX4_hourOfTip_27 rfl (lv_at hl 0 rfl) ?_
    refine lv_iadd (pc := 28) hx hb dX4_hourOfTip_28 ?_
    refine lv_iconst (v := 1) (pc := 29) hx hb dX4_hourOfTip_29 (by decide) ?_
    refine lv_isub (pc := 30) hx hb dX4_hourOfTip_30 ?_
    refine z_runV (pc := 31) (As := [.int (((h 0) + (utF (h, c) k 500 0)) - 1)]) (rest := []) (ws1 := mm ca a f h c hi sn (enc h c) tx (tkT (h, c) ti (utN (h, c) k 500 0))) ⟨hx, hb, hml, hown, hts⟩ (k_X4_hourOf l G ca a f h c hi sn (enc h c) tx (tkT (h, c) ti (utN (h, c) k 500 0)) (((h 0) + (utF (h, c) k 500 0)) - 1) hok.1) (cwV 1 hts (zgoodV zsub wq_14_19 wq_14_20 wq_14_21 wq_1_5 wq_14_22) rfl rfl rfl hdV_X4_hourOf ⟨Nat.le_of_ble_eq_true rfl, Nat.le_of_ble_eq_true rfl⟩) hz [] zp_all zp_all' rfl rfl rfl hl.1 (Nat.le_of_ble_eq_true rfl) (st1 := [.int (hrF h (((h 0) + (utF (h, c) k 500 0)) - 1))]) rfl dX4_hourOfTip_31 ⟨Nat.zero_le _, Nat.zero_le _⟩ (fun H locs hz => ?_)
    exact z_iret (pc := 34) hx hb hr hlk hQ hz dX4_hourOfTip_34 (by simp only [hotF, if_neg c_12]) (by rfl)
  · refine lv_bipush (v := -5) (pc := 15) hx hb dX4_hourOfTip_15 (by decide) ?_
    refine lv_goto (tgt := 34) (pc := 17) hx hb dX4_hourOfTip_17 (by decide) ?_
    exact z_iret (pc := 34) hx hb hr hlk hQ hz dX4_hourOfTip_34 (by simp only [hotF, if_pos c_12]) (by rfl)

def rm_X4_tipsIn : Room := { frames := 5, cells := 0, slots := 0, locals := 120 }
set_option maxRecDepth 20000 in
theorem hdV_X4_tipsIn : yX4_tipsIn.cls = RX4 ∧ yX4_tipsIn.cls ≠ "java/lang/invoke/MethodHandle" ∧ yX4_tipsIn.cls ≠ "java/lang/invoke/VarHandle" ∧ (parseMethodDescriptor yX4_tipsIn.desc).map (fun d => d.parameters.length) = some 1 := by decide +kernel
set_option maxHeartbeats 4000000 in
set_option maxRecDepth 100000 in
theorem k_X4_tipsIn (l : Launch) (G : va_G) (ca : Nat → ClassId) (a : Nat → Nat) (f h : Nat → Int32) (c : Nat → Nat → Int32) (hi sn be tx ti : Nat → Int32) (cup : Int32) (hok : okP (h, c)) : Zc l G ca yX4_tipsIn (zws yX4_tipsIn cX4_tipsIn 2 (some .int)) rm_X4_tipsIn [.ref (a 0), .int cup] (mm ca a f h c hi sn be tx ti) (some (.int (tipsInF (h, c) cup))) (mm ca a f h c hi sn (scB cup be (enc h c)) tx (scT (h, c) ti cup)) := by
  refine Zc.of (cc := cX4_tipsIn) (maxL := 2) (ret := (some .int)) (by decide) rfl (Nat.le_of_ble_eq_true rfl) ?_
  intro pg ev s0 mt below meth cd A args Q ls hx hb hr hml hown hts hlk hQ hl hz
  have hl : lv_has ls 2 [(0, .ref (a 0)), (1, .int cup)] := hl
  refine lv_iload_n (pc := 0) hx hb dX4_tipsIn_0 rfl (lv_at hl 1 rfl) ?_
  refine z_runS (pc := 1) (As := [.int cup]) (rest := []) (ws1 := mm ca a f h c hi sn be tx ti) ⟨hx, hb, hml, hown, hts⟩ (k_X4_isCup l G ca cup) (cwS 1 hts (zgoodS zsub wq_7_1 wq_7_2 wq_1_5 wq_7_3) rfl rfl rfl hdV_X4_isCup ⟨Nat.le_of_ble_eq_true rfl, Nat.le_of_ble_eq_true rfl⟩) hz (mm ca a f h c hi sn be tx ti) zp_no (List.Perm.refl _) rfl hl.1 (Nat.le_of_ble_eq_true rfl) (st1 := [.int (inF cup 0 7)]) rfl dX4_tipsIn_1 ⟨Nat.zero_le _, Nat.zero_le _⟩ (fun H locs hz => ?_)
  refine lv_if_eq (pc := 4) (tgt := 18) hx hb dX4_tipsIn_4 (by decide) (fun c_4 => ?_) (fun c_4 => ?_)
  · refine lv_iconst (v := -1) (pc := 18) hx hb dX4_tipsIn_18 (by decide) ?_
    exact z_iret (pc := 19) hx hb hr hlk hQ hz dX4_tipsIn_19 (by simp only [tipsInF, if_pos c_4]) (by simp only [scB, scT, if_pos c_4])
  · obtain ⟨k, hk, rfl⟩ := isCup_pos c_4
    have hnk : nn (nI k) = k := nn_nI (by omega)
    refine lv_aload_n (pc := 7) hx hb dX4_tipsIn_7 rfl (lv_at hl 0 rfl) ?_
    refine lv_iload_n (pc := 8) hx hb dX4_tipsIn_8 rfl (lv_at hl 1 rfl) ?_
    refine lv_sipush (v := 500) (pc := 9) hx hb dX4_tipsIn_9 (by decide) ?_
    refine z_runV (pc := 12) (As := [.int (nI k), .int 500]) (rest := []) (ws1 := mm ca a f h c hi sn (enc h c) tx (tkT (h, c) ti (utN (h, c) k 500 0))) ⟨hx, hb, hml, hown, hts⟩ (k_X4_untilTip l G ca a f h c hi sn be tx ti k 500 hk (by decide) hok) (cwV 2 hts (zgoodV zsub wq_22_19 wq_22_20 wq_22_21 wq_1_5 wq_22_22) rfl rfl rfl hdV_X4_untilTip ⟨Nat.le_of_ble_eq_true rfl, Nat.le_of_ble_eq_true rfl⟩) hz [] zp_all zp_all' rfl rfl rfl hl.1 (Nat.le_of_ble_eq_true rfl) (st1 := [.int (utF (h, c) k 500 0)]) rfl dX4_tipsIn_12 ⟨Nat.zero_le _, Nat.zero_le _⟩ (fun H locs hz => ?_)
    refine lv_goto (tgt := 19) (pc := 15) hx hb dX4_tipsIn_15 (by decide) ?_
    exact z_iret (pc := 19) hx hb hr hlk hQ hz dX4_tipsIn_19 (by simp only [tipsInF, if_neg c_4, hnk]) (by simp only [scB, scT, if_neg c_4, hnk])

def rm_X4_tipsAt : Room := { frames := 6, cells := 0, slots := 0, locals := 142 }
set_option maxRecDepth 20000 in
theorem hdV_X4_tipsAt : yX4_tipsAt.cls = RX4 ∧ yX4_tipsAt.cls ≠ "java/lang/invoke/MethodHandle" ∧ yX4_tipsAt.cls ≠ "java/lang/invoke/VarHandle" ∧ (parseMethodDescriptor yX4_tipsAt.desc).map (fun d => d.parameters.length) = some 1 := by decide +kernel
set_option maxHeartbeats 4000000 in
set_option maxRecDepth 100000 in
theorem k_X4_tipsAt (l : Launch) (G : va_G) (ca : Nat → ClassId) (a : Nat → Nat) (f h : Nat → Int32) (c : Nat → Nat → Int32) (hi sn be tx ti : Nat → Int32) (cup : Int32) (hok : okP (h, c)) : Zc l G ca yX4_tipsAt (zws yX4_tipsAt cX4_tipsAt 2 (some .int)) rm_X4_tipsAt [.ref (a 0), .int cup] (mm ca a f h c hi sn be tx ti) (some (.int (tipsAtF (h, c) cup))) (mm ca a f h c hi sn (scB cup be (enc h c)) tx (scT (h, c) ti cup)) := by
  refine Zc.of (cc := cX4_tipsAt) (maxL := 2) (ret := (some .int)) (by decide) rfl (Nat.le_of_ble_eq_true rfl) ?_
  intro pg ev s0 mt below meth cd A args Q ls hx hb hr hml hown hts hlk hQ hl hz
  have hl : lv_has ls 2 [(0, .ref (a 0)), (1, .int cup)] := hl
  refine lv_iload_n (pc := 0) hx hb dX4_tipsAt_0 rfl (lv_at hl 1 rfl) ?_
  refine z_runS (pc := 1) (As := [.int cup]) (rest := []) (ws1 := mm ca a f h c hi sn be tx ti) ⟨hx, hb, hml, hown, hts⟩ (k_X4_isCup l G ca cup) (cwS 1 hts (zgoodS zsub wq_7_1 wq_7_2 wq_1_5 wq_7_3) rfl rfl rfl hdV_X4_isCup ⟨Nat.le_of_ble_eq_true rfl, Nat.le_of_ble_eq_true rfl⟩) hz (mm ca a f h c hi sn be tx ti) zp_no (List.Perm.refl _) rfl hl.1 (Nat.le_of_ble_eq_true rfl) (st1 := [.int (inF cup 0 7)]) rfl dX4_tipsAt_1 ⟨Nat.zero_le _, Nat.zero_le _⟩ (fun H locs hz => ?_)
  refine lv_if_eq (pc := 4) (tgt := 15) hx hb dX4_tipsAt_4 (by decide) (fun c_4 => ?_) (fun c_4 => ?_)
  · refine lv_iconst (v := -1) (pc := 15) hx hb dX4_tipsAt_15 (by decide) ?_
    exact z_iret (pc := 16) hx hb hr hlk hQ hz dX4_tipsAt_16 (by simp only [tipsAtF, if_pos c_4]) (by simp only [scB, scT, if_pos c_4])
  · obtain ⟨k, hk, rfl⟩ := isCup_pos c_4
    have hnk : nn (nI k) = k := nn_nI (by omega)
    refine lv_aload_n (pc := 7) hx hb dX4_tipsAt_7 rfl (lv_at hl 0 rfl) ?_
    refine lv_iload_n (pc := 8) hx hb dX4_tipsAt_8 rfl (lv_at hl 1 rfl) ?_
    refine z_runV (pc := 9) (As := [.int (nI k)]) (rest := []) (ws1 := mm ca a f h c hi sn (enc h c) tx (tkT (h, c) ti (utN (h, c) k 500 0))) ⟨hx, hb, hml, hown, hts⟩ (k_X4_hourOfTip l G ca a f h c hi sn be tx ti k hk hok) (cwV 1 hts (zgoodV zsub wq_23_23 wq_24_0 wq_24_1 wq_1_5 wq_24_2) rfl rfl rfl hdV_X4_hourOfTip ⟨Nat.le_of_ble_eq_true rfl, Nat.le_of_ble_eq_true rfl⟩) hz [] zp_all zp_all' rfl rfl rfl hl.1 (Nat.le_of_ble_eq_true rfl) (st1 := [.int (hotF (h, c) k)]) rfl dX4_tipsAt_9 ⟨Nat.zero_le _, Nat.zero_le _⟩ (fun H locs hz => ?_)
    refine lv_goto (tgt := 16) (pc := 12) hx hb dX4_tipsAt_12 (by decide) ?_
    exact z_iret (pc := 16) hx hb hr hlk hQ hz dX4_tipsAt_16 (by simp only [tipsAtF, if_neg c_4, hnk]) (by simp only [scB, scT, if_neg c_4, hnk])

def rm_X4_starving : Room := { frames := 5, cells := 0, slots := 0, locals := 120 }
set_option maxRecDepth 20000 in
theorem hdV_X4_starving : yX4_starving.cls = RX4 ∧ yX4_starving.cls ≠ "java/lang/invoke/MethodHandle" ∧ yX4_starving.cls ≠ "java/lang/invoke/VarHandle" ∧ (parseMethodDescriptor yX4_starving.desc).map (fun d => d.parameters.length) = some 0 := by decide +kernel
set_option maxHeartbeats 4000000 in
set_option maxRecDepth 100000 in
theorem k_X4_starving (l : Launch) (G : va_G) (ca : Nat → ClassId) (a : Nat → Nat) (f h : Nat → Int32) (c : Nat → Nat → Int32) (hi sn be tx ti : Nat → Int32) (hok : okP (h, c)) : Zc l G ca yX4_starving (zws yX4_starving cX4_starving 3 (some .int)) rm_X4_starving [.ref (a 0)] (mm ca a f h c hi sn be tx ti) (some (.int (stF (h, c) 8))) (mm ca a f h c hi sn (enc h c) tx (stT (h, c) ti 8)) := by
  refine Zc.of (cc := cX4_starving) (maxL := 3) (ret := (some .int)) (by decide) rfl (Nat.le_of_ble_eq_true rfl) ?_
  intro pg ev s0 mt below meth cd A args Q ls hx hb hr hml hown hts hlk hQ hl hz
  have hl : lv_has ls 3 [(0, .ref (a 0))] := hl
  refine lv_bipush (v := -5) (pc := 0) hx hb dX4_starving_0 (by decide) ?_
  refine lv_istore_n (lv' := [(1, .int (-5)), (0, .ref (a 0))]) (pc := 2) hx hb dX4_starving_2 rfl hl (by decide) rfl (fun ls hl => ?_)
  refine lv_bipush (v := 7) (pc := 3) hx hb dX4_starving_3 (by decide) ?_
  refine lv_istore_n (lv' := [(2, .int 7), (1, .int (-5)), (0, .ref (a 0))]) (pc := 5) hx hb dX4_starving_5 rfl hl (by decide) rfl (fun ls hl => ?_)
  have loop1 : ∀ cnt k : Nat, k + cnt = 8 → ∀ (H : Heap) (locs : List Loc) (ls : Array Slot), zw G ca A s0.heap s0 (mm ca a f h c hi sn (stB be (enc h c) k) tx (stT (h, c) ti k)) H locs → lv_has ls 3 [(2, .int (nI (8 - k) - 1)), (1, .int (stF (h, c) k)), (0, .ref (a 0))] → W pg l ev rm_X4_starving s0 mt args below meth cd H locs 0 0 Q (F0 mt 6 ls []) := by
    intro cnt
    induction cnt with
    | zero =>
      intro k hk9 H locs ls hz hl
      obtain rfl : 8 = k := by omega
      refine lv_iload_n (pc := 6) hx hb dX4_starving_6 rfl (lv_at hl 0 rfl) ?_
      refine lv_if_lt (pc := 7) (tgt := 35) hx hb dX4_starving_7 (by decide) (fun c_7 => ?_) (fun c9 => absurd (by decide) c9)
      refine lv_iload_n (pc := 35) hx hb dX4_starving_35 rfl (lv_at hl 1 rfl) ?_
      exact z_iret (pc := 36) hx hb hr hlk hQ hz dX4_starving_36 (by rfl) (by rfl)
    | succ cnt ih =>
      intro k hk9 H locs ls hz hl
      have hk : k < 8 := by omega
      have e8 : nI (8 - k) - 1 = nI (7 - k) := by rw [show 8 - k = (7 - k) + 1 by omega]; exact nI_pred (7 - k)
      rw [e8] at hl
      refine lv_iload_n (pc := 6) hx hb dX4_starving_6 rfl (lv_at hl 0 rfl) ?_
      refine lv_if_lt (pc := 7) (tgt := 35) hx hb dX4_starving_7 (by decide) (fun c9 => absurd c9 (nI_pos (by omega))) (fun c_7 => ?_)
      refine lv_aload_n (pc := 10) hx hb dX4_starving_10 rfl (lv_at hl 2 rfl) ?_
      refine lv_iload_n (pc := 11) hx hb dX4_starving_11 rfl (lv_at hl 0 rfl) ?_
      refine lv_sipush (v := 500) (pc := 12) hx hb dX4_starving_12 (by decide) ?_
      refine z_runV (pc := 15) (As := [.int (nI (7 - k)), .int 500]) (rest := []) (ws1 := mm ca a f h c hi sn (enc h c) tx (tkT (h, c) (stT (h, c) ti k) (utN (h, c) (7 - k) 500 0))) ⟨hx, hb, hml, hown, hts⟩ (k_X4_untilTip l G ca a f h c hi sn (stB be (enc h c) k) tx (stT (h, c) ti k) (7 - k) 500 (by omega) (by decide) hok) (cwV 2 hts (zgoodV zsub wq_22_19 wq_22_20 wq_22_21 wq_1_5 wq_22_22) rfl rfl rfl hdV_X4_untilTip ⟨Nat.le_of_ble_eq_true rfl, Nat.le_of_ble_eq_true rfl⟩) hz [] zp_all zp_all' rfl rfl rfl hl.1 (Nat.le_of_ble_eq_true rfl) (st1 := [.int (utF (h, c) (7 - k) 500 0)]) rfl dX4_starving_15 ⟨Nat.zero_le _, Nat.zero_le _⟩ (fun H locs hz => ?_)
      refine lv_bipush (v := -5) (pc := 18) hx hb dX4_starving_18 (by decide) ?_
      have J2 : ∀ (H : Heap) (locs : List Loc) (ls : Array Slot), zw G ca A s0.heap s0 (mm ca a f h c hi sn (enc h c) tx (tkT (h, c) (stT (h, c) ti k) (utN (h, c) (7 - k) 500 0))) H locs → lv_has ls 3 [(2, .int (nI (7 - k))), (1, .int (stF (h, c) k)), (0, .ref (a 0))] → W pg l ev rm_X4_starving s0 mt args below meth cd H locs 0 0 Q (F0 mt 28 ls [.int (stF (h, c) (k + 1))]) := by
        intro H locs ls hz hl
        refine lv_istore_n (lv' := [(1, .int (stF (h, c) (k + 1))), (2, .int (nI (7 - k))), (0, .ref (a 0))]) (pc := 28) hx hb dX4_starving_28 rfl hl (by decide) rfl (fun ls hl => ?_)
        refine lv_iinc (v := (nI (7 - k)) + (-1)) (lv' := [(2, .int ((nI (7 - k)) + (-1))), (1, .int (stF (h, c) (k + 1))), (0, .ref (a 0))]) (pc := 29) hx hb dX4_starving_29 hl (k := 1) rfl rfl (by decide) rfl (fun ls hl => ?_)
        refine lv_goto (tgt := 6) (pc := 32) hx hb dX4_starving_32 (by decide) ?_
        exact ih (k + 1) (by omega) _ _ _ (hz.as (by rfl)) (by rw [show nI (7 - k) + (-1) = nI (8 - (k + 1)) - 1 by rw [show 8 - (k + 1) = 7 - k by omega]; exact nIm1 _] at hl; exact lv_sub hl [0, 1, 2] rfl)
      refine lv_icmp_ne (pc := 20) (tgt := 27) hx hb dX4_starving_20 (by decide) (fun c_20 => ?_) (fun c_20 => ?_)
      · refine lv_iload_n (pc := 27) hx hb dX4_starving_27 rfl (lv_at hl 1 rfl) ?_
        exact z_top (by simp only [stF, if_neg c_20]) (J2 _ _ _ hz (lv_sub hl [0, 1, 2] rfl))
      · refine lv_iload_n (pc := 23) hx hb dX4_starving_23 rfl (lv_at hl 0 rfl) ?_
        refine lv_goto (tgt := 28) (pc := 24) hx hb dX4_starving_24 (by decide) ?_
        exact z_top (by simp only [stF, if_pos c_20]) (J2 _ _ _ hz (lv_sub hl [0, 1, 2] rfl))
  exact loop1 8 0 (by omega) _ _ _ (hz.as (by rfl)) (lv_sub hl [0, 1, 2] rfl)

def rm_X4_ifTicks : Room := { frames := 4, cells := 0, slots := 0, locals := 96 }
set_option maxRecDepth 20000 in
theorem hdV_X4_ifTicks : yX4_ifTicks.cls = RX4 ∧ yX4_ifTicks.cls ≠ "java/lang/invoke/MethodHandle" ∧ yX4_ifTicks.cls ≠ "java/lang/invoke/VarHandle" ∧ (parseMethodDescriptor yX4_ifTicks.desc).map (fun d => d.parameters.length) = some 2 := by decide +kernel
set_option maxHeartbeats 4000000 in
set_option maxRecDepth 100000 in
theorem k_X4_ifTicks (l : Launch) (G : va_G) (ca : Nat → ClassId) (a : Nat → Nat) (f h : Nat → Int32) (c : Nat → Nat → Int32) (hi sn be tx ti : Nat → Int32) (ticks what : Int32) (hok : okP (h, c)) : Zc l G ca yX4_ifTicks (zws yX4_ifTicks cX4_ifTicks 6 (some .int)) rm_X4_ifTicks [.ref (a 0), .int ticks, .int what] (mm ca a f h c hi sn be tx ti) (some (.int (ifF (h, c) ticks what))) (mm ca a f h c hi sn (ifB ticks what be (enc h c)) tx (ifT (h, c) ti ticks what)) := by
  refine Zc.of (cc := cX4_ifTicks) (maxL := 6) (ret := (some .int)) (by decide) rfl (Nat.le_of_ble_eq_true rfl) ?_
  intro pg ev s0 mt below meth cd A args Q ls hx hb hr hml hown hts hlk hQ hl hz
  have L19 : (Cond.fieldLink RX4 19 "CupFountainModel" "before" "[I").before args s0 = true := hts _ (zsub _ wq_4_7)
  have L7 : (Cond.fieldLink RX4 7 "CupFountainModel" "s" "[I").before args s0 = true := hts _ (zsub _ wq_4_4)
  have hinX4 : ∀ w ∈ wsX40, w ∈ zws yX4_ifTicks cX4_ifTicks 6 (some .int) := fun w h => zsub w (wl_wsX40 w h)
  have hl : lv_has ls 6 [(0, .ref (a 0)), (1, .int ticks), (2, .int what)] := hl
  refine lv_iload_n (pc := 0) hx hb dX4_ifTicks_0 rfl (lv_at hl 1 rfl) ?_
  refine lv_iconst (v := 1) (pc := 1) hx hb dX4_ifTicks_1 (by decide) ?_
  refine lv_sipush (v := 500) (pc := 2) hx hb dX4_ifTicks_2 (by decide) ?_
  refine z_runS (pc := 5) (As := [.int ticks, .int 1, .int 500]) (rest := []) (ws1 := mm ca a f h c hi sn be tx ti) ⟨hx, hb, hml, hown, hts⟩ (k_X4_in l G ca ticks 1 500) (cwS 3 hts (zgoodS zsub wq_7_4 wq_7_5 wq_1_5 wq_7_6) rfl rfl rfl hdV_X4_in ⟨Nat.le_of_ble_eq_true rfl, Nat.le_of_ble_eq_true rfl⟩) hz (mm ca a f h c hi sn be tx ti) zp_no (List.Perm.refl _) rfl hl.1 (Nat.le_of_ble_eq_true rfl) (st1 := [.int (inF ticks 1 500)]) rfl dX4_ifTicks_5 ⟨Nat.zero_le _, Nat.zero_le _⟩ (fun H locs hz => ?_)
  refine lv_if_eq (pc := 8) (tgt := 20) hx hb dX4_ifTicks_8 (by decide) (fun c_8 => ?_) (fun c_8 => ?_)
  · refine lv_bipush (v := -2) (pc := 20) hx hb dX4_ifTicks_20 (by decide) ?_
    exact z_iret (pc := 22) hx hb hr hlk hQ hz dX4_ifTicks_22 (by simp only [ifF, if_pos c_8]) (by simp only [ifB, ifT, if_pos c_8])
  · refine lv_iload_n (pc := 11) hx hb dX4_ifTicks_11 rfl (lv_at hl 2 rfl) ?_
    refine lv_iconst (v := 0) (pc := 12) hx hb dX4_ifTicks_12 (by decide) ?_
    refine lv_iconst (v := 3) (pc := 13) hx hb dX4_ifTicks_13 (by decide) ?_
    refine z_runS (pc := 14) (As := [.int what, .int 0, .int 3]) (rest := []) (ws1 := mm ca a f h c hi sn be tx ti) ⟨hx, hb, hml, hown, hts⟩ (k_X4_in l G ca what 0 3) (cwS 3 hts (zgoodS zsub wq_7_4 wq_7_5 wq_1_5 wq_7_6) rfl rfl rfl hdV_X4_in ⟨Nat.le_of_ble_eq_true rfl, Nat.le_of_ble_eq_true rfl⟩) hz (mm ca a f h c hi sn be tx ti) zp_no (List.Perm.refl _) rfl hl.1 (Nat.le_of_ble_eq_true rfl) (st1 := [.int (inF what 0 3)]) rfl dX4_ifTicks_14 ⟨Nat.zero_le _, Nat.zero_le _⟩ (fun H locs hz => ?_)
    refine lv_if_ne (pc := 17) (tgt := 23) hx hb dX4_ifTicks_17 (by decide) (fun c_17 => ?_) (fun c_17 => ?_)
    · obtain ⟨n, hn, rfl⟩ := i32_nI (n := 500) (Or.inr rfl) rfl (by decide) (inF_ne c_8)
      have hnk : nn (nI n) = n := nn_nI (by omega)
      obtain ⟨j, hj, rfl⟩ := i32_nI (n := 3) (Or.inl rfl) rfl (by decide) (inF_ne c_17)
      have hnw : nn (nI j) = j := nn_nI (by omega)
      have hw12 : ifw (nI j) < 12 := ifw_lt hj
      refine lv_iload_n (pc := 23) hx hb dX4_ifTicks_23 rfl (lv_at hl 2 rfl) ?_
      refine lv_iconst (v := 3) (pc := 24) hx hb dX4_ifTicks_24 (by decide) ?_
      have J1 : ∀ (H : Heap) (locs : List Loc) (ls : Array Slot), zw G ca A s0.heap s0 (mm ca a f h c hi sn be tx ti) H locs → lv_has ls 6 [(0, .ref (a 0)), (1, .int (nI n)), (2, .int (nI j))] → W pg l ev rm_X4_ifTicks s0 mt args below meth cd H locs 0 0 Q (F0 mt 37 ls [.int (nI (ifw (nI j)))]) := by
        intro H locs ls hz hl
        refine lv_istore_n (lv' := [(3, .int (nI (ifw (nI j)))), (0, .ref (a 0)), (1, .int (nI n)), (2, .int (nI j))]) (pc := 37) hx hb dX4_ifTicks_37 rfl hl (by decide) rfl (fun ls hl => ?_)
        refine lv_aload_n (pc := 38) hx hb dX4_ifTicks_38 rfl (lv_at hl 1 rfl) ?_
        refine z_runV (pc := 39) (As := []) (rest := []) (ws1 := mm ca a f h c hi sn (enc h c) tx ti) ⟨hx, hb, hml, hown, hts⟩ (k_X4_begin l G ca a f h c hi sn be tx ti) (cwV 0 hts (zgoodV zsub wq_6_14 wq_6_15 wq_6_16 wq_1_5 wq_6_17) rfl rfl rfl hdV_X4_begin ⟨Nat.le_of_ble_eq_true rfl, Nat.le_of_ble_eq_true rfl⟩) hz [] zp_all zp_all' rfl rfl rfl hl.1 (Nat.le_of_ble_eq_true rfl) (st1 := []) rfl dX4_ifTicks_39 ⟨Nat.zero_le _, Nat.zero_le _⟩ (fun H locs hz => ?_)
        refine lv_aload_n (pc := 42) hx hb dX4_ifTicks_42 rfl (lv_at hl 1 rfl) ?_
        refine lv_iload_n (pc := 43) hx hb dX4_ifTicks_43 rfl (lv_at hl 0 rfl) ?_
        refine z_runV (pc := 44) (As := [.int (nI (ifw (nI j)))]) (rest := []) (ws1 := mm ca a f h c hi sn (enc h c) tx ti) ⟨hx, hb, hml, hown, hts⟩ (k_X4_sumOf l G ca a f h c hi sn (enc h c) tx ti (ifw (nI j)) (by assumption)) (cwV 1 hts (zgoodV zsub wq_14_11 wq_14_12 wq_14_13 wq_1_5 wq_14_14) rfl rfl rfl hdV_X4_sumOf ⟨Nat.le_of_ble_eq_true rfl, Nat.le_of_ble_eq_true rfl⟩) hz [] zp_all zp_all' rfl rfl rfl hl.1 (Nat.le_of_ble_eq_true rfl) (st1 := [.int (sumF c (ifw (nI j)) 8)]) rfl dX4_ifTicks_44 ⟨Nat.zero_le _, Nat.zero_le _⟩ (fun H locs hz => ?_)
        refine lv_istore (lv' := [(4, .int (sumF c (ifw (nI j)) 8)), (3, .int (nI (ifw (nI j)))), (0, .ref (a 0)), (1, .int (nI n)), (2, .int (nI j))]) (pc := 47) hx hb dX4_ifTicks_47 hl (by decide) rfl (fun ls hl => ?_)
        refine lv_iconst (v := 0) (pc := 49) hx hb dX4_ifTicks_49 (by decide) ?_
        refine lv_istore (lv' := [(5, .int 0), (4, .int (sumF c (ifw (nI j)) 8)), (3, .int (nI (ifw (nI j)))), (0, .ref (a 0)), (1, .int (nI n)), (2, .int (nI j))]) (pc := 50) hx hb dX4_ifTicks_50 hl (by decide) rfl (fun ls hl => ?_)
        have loop2 : ∀ cnt i : Nat, i + cnt = n → ∀ (H : Heap) (locs : List Loc) (ls : Array Slot), zw G ca A s0.heap s0 (mm ca a f ((tkN (h, c) i).1) ((tkN (h, c) i).2) hi sn (enc h c) tx (tkT (h, c) ti i)) H locs → lv_has ls 6 [(5, .int (nI i)), (4, .int (sumF c (ifw (nI j)) 8)), (3, .int (nI (ifw (nI j)))), (0, .ref (a 0)), (1, .int (nI n)), (2, .int (nI j))] → W pg l ev rm_X4_ifTicks s0 mt args below meth cd H locs 0 0 Q (F0 mt 52 ls []) := by
          intro cnt
          induction cnt with
          | zero =>
            intro i hk9 H locs ls hz hl
            obtain rfl : n = i := by omega
            refine lv_iload (pc := 52) hx hb dX4_ifTicks_52 (lv_at hl 0 rfl) ?_
            refine lv_iload_n (pc := 54) hx hb dX4_ifTicks_54 rfl (lv_at hl 4 rfl) ?_
            refine lv_icmp_ge (pc := 55) (tgt := 68) hx hb dX4_ifTicks_55 (by decide) (fun c_55 => ?_) (fun c9 => absurd (nI_le (Nat.le_refl _) (by omega)) c9)
            refine lv_aload_n (pc := 68) hx hb dX4_ifTicks_68 rfl (lv_at hl 3 rfl) ?_
            refine lv_iload_n (pc := 69) hx hb dX4_ifTicks_69 rfl (lv_at hl 2 rfl) ?_
            refine z_runV (pc := 70) (As := [.int (nI (ifw (nI j)))]) (rest := []) (ws1 := mm ca a f ((tkN (h, c) n).1) ((tkN (h, c) n).2) hi sn (enc h c) tx (tkT (h, c) ti n)) ⟨hx, hb, hml, hown, hts⟩ (k_X4_sumOf l G ca a f ((tkN (h, c) n).1) ((tkN (h, c) n).2) hi sn (enc h c) tx (tkT (h, c) ti n) (ifw (nI j)) (by assumption)) (cwV 1 hts (zgoodV zsub wq_14_11 wq_14_12 wq_14_13 wq_1_5 wq_14_14) rfl rfl rfl hdV_X4_sumOf ⟨Nat.le_of_ble_eq_true rfl, Nat.le_of_ble_eq_true rfl⟩) hz [] zp_all zp_all' rfl rfl rfl hl.1 (Nat.le_of_ble_eq_true rfl) (st1 := [.int (sumF ((tkN (h, c) n).2) (ifw (nI j)) 8)]) rfl dX4_ifTicks_70 ⟨Nat.zero_le _, Nat.zero_le _⟩ (fun H locs hz => ?_)
            refine lv_iload (pc := 73) hx hb dX4_ifTicks_73 (lv_at hl 1 rfl) ?_
            refine lv_isub (pc := 75) hx hb dX4_ifTicks_75 ?_
            refine lv_istore (lv' := [(5, .int ((sumF ((tkN (h, c) n).2) (ifw (nI j)) 8) - (sumF c (ifw (nI j)) 8))), (4, .int (sumF c (ifw (nI j)) 8)), (3, .int (nI (ifw (nI j)))), (0, .ref (a 0)), (1, .int (nI n)), (2, .int (nI j))]) (pc := 76) hx hb dX4_ifTicks_76 hl (by decide) rfl (fun ls hl => ?_)
            refine lv_aload_n (pc := 78) hx hb dX4_ifTicks_78 rfl (lv_at hl 3 rfl) ?_
            refine z_get (own := RX4) (ref := "CupFountainModel") (C := RX4) (T := TX4) (N := 17) (ci := 4) (v := .ref (a 4)) (pc := 79) hx hb hts hinX4 hown hz 0 rfl rfl 5 (by decide) L19 rfl rfl dX4_ifTicks_79 ?_
            refine lv_iconst (v := 0) (pc := 82) hx hb dX4_ifTicks_82 (by decide) ?_
            refine lv_aload_n (pc := 83) hx hb dX4_ifTicks_83 rfl (lv_at hl 3 rfl) ?_
            refine z_get (own := RX4) (ref := "CupFountainModel") (C := RX4) (T := TX4) (N := 17) (ci := 4) (v := .ref (a 1)) (pc := 84) hx hb hts hinX4 hown hz 0 rfl rfl 0 (by decide) L7 rfl rfl dX4_ifTicks_84 ?_
            refine lv_iconst (v := 0) (pc := 87) hx hb dX4_ifTicks_87 (by decide) ?_
            refine z_runS (pc := 88) (As := [.ref (a 4), .int 0, .ref (a 1), .int 0]) (rest := []) (ws1 := wM ca a f (va_cpy (enc h c) (enc ((tkN (h, c) n).1) ((tkN (h, c) n).2)) 0 0 104) hi sn (enc h c) tx (tkT (h, c) ti n)) ⟨hx, hb, hml, hown, hts⟩ (k_X4_copy l G ca (a 4) (a 1) 104 104 0 0 (enc h c) (enc ((tkN (h, c) n).1) ((tkN (h, c) n).2)) (by omega) (by omega) (by decide) (by decide)) (cwS 4 hts (zgoodS zsub wq_6_18 wq_6_19 wq_1_5 wq_6_20) rfl rfl rfl hdV_X4_copy ⟨Nat.le_of_ble_eq_true rfl, Nat.le_of_ble_eq_true rfl⟩) hz (List.filterMap (fun q9 => (mm ca a f ((tkN (h, c) n).1) ((tkN (h, c) n).2) hi sn (enc h c) tx (tkT (h, c) ti n))[q9]?) [0, 2, 3, 5, 6]) (z_pick [4, 1, 0, 2, 3, 5, 6] rfl rfl) (z_pick (ws := wM ca a f (va_cpy (enc h c) (enc ((tkN (h, c) n).1) ((tkN (h, c) n).2)) 0 0 104) hi sn (enc h c) tx (tkT (h, c) ti n)) [4, 1, 0, 2, 3, 5, 6] rfl rfl).symm rfl hl.1 (Nat.le_of_ble_eq_true rfl) (st1 := []) rfl dX4_ifTicks_88 ⟨Nat.zero_le _, Nat.zero_le _⟩ (fun H locs hz => ?_)
            have hz := (hz.cell (g := enc h c) 1 rfl (fun j hj => cpy_at0 hj)).as (show _ = mm ca a f h c hi sn (enc h c) tx (tkT (h, c) ti n) from rfl)
            refine lv_iload (pc := 91) hx hb dX4_ifTicks_91 (lv_at hl 0 rfl) ?_
            exact z_iret (pc := 93) hx hb hr hlk hQ hz dX4_ifTicks_93 (by simp only [ifF, if_neg c_8, if_neg c_17, if_pos c_55, hnk, hnw]) (by simp only [ifB, ifT, if_neg c_8, if_neg c_17, if_pos c_55, hnk, hnw])
          | succ cnt ih =>
            intro i hk9 H locs ls hz hl
            have hk : i < n := by omega
            refine lv_iload (pc := 52) hx hb dX4_ifTicks_52 (lv_at hl 0 rfl) ?_
            refine lv_iload_n (pc := 54) hx hb dX4_ifTicks_54 rfl (lv_at hl 4 rfl) ?_
            refine lv_icmp_ge (pc := 55) (tgt := 68) hx hb dX4_ifTicks_55 (by decide) (fun c9 => absurd c9 (nI_ge hk (by omega))) (fun c_55 => ?_)
            refine lv_aload_n (pc := 58) hx hb dX4_ifTicks_58 rfl (lv_at hl 3 rfl) ?_
            refine z_runV (pc := 59) (As := []) (rest := []) (ws1 := mm ca a f ((tkN (h, c) (i + 1)).1) ((tkN (h, c) (i + 1)).2) hi sn (enc h c) tx (tkT (h, c) ti (i + 1))) ⟨hx, hb, hml, hown, hts⟩ (k_X4_tick l G ca a f ((tkN (h, c) i).1) ((tkN (h, c) i).2) hi sn (enc h c) tx (tkT (h, c) ti i) (hok.ticks i)) (cwV 0 hts (zgoodV zsub wq_14_15 wq_14_16 wq_14_17 wq_1_5 wq_14_18) rfl rfl rfl hdV_X4_tick ⟨Nat.le_of_ble_eq_true rfl, Nat.le_of_ble_eq_true rfl⟩) hz [] zp_all (by rw [List.append_nil]; exact List.Perm.refl _) rfl rfl rfl hl.1 (Nat.le_of_ble_eq_true rfl) (st1 := []) rfl dX4_ifTicks_59 ⟨Nat.zero_le _, Nat.zero_le _⟩ (fun H locs hz => ?_)
            refine lv_iinc (v := nI (i + 1)) (lv' := [(5, .int (nI (i + 1))), (4, .int (sumF c (ifw (nI j)) 8)), (3, .int (nI (ifw (nI j)))), (0, .ref (a 0)), (1, .int (nI n)), (2, .int (nI j))]) (pc := 62) hx hb dX4_ifTicks_62 hl (k := 0) rfl (nI_add i 1) (by decide) rfl (fun ls hl => ?_)
            refine lv_goto (tgt := 52) (pc := 65) hx hb dX4_ifTicks_65 (by decide) ?_
            exact ih (i + 1) (by omega) _ _ _ hz (lv_sub hl [0, 1, 2, 3, 4, 5] rfl)
        exact loop2 n 0 (by omega) _ _ _ (hz.as (by rw [tkN_0, tkT_0])) (lv_sub hl [0, 1, 2, 3, 4, 5] rfl)
      refine lv_icmp_ne (pc := 25) (tgt := 33) hx hb dX4_ifTicks_25 (by decide) (fun c_25 => ?_) (fun c_25 => ?_)
      · refine lv_bipush (v := 9) (pc := 33) hx hb dX4_ifTicks_33 (by decide) ?_
        refine lv_iload_n (pc := 35) hx hb dX4_ifTicks_35 rfl (lv_at hl 2 rfl) ?_
        refine lv_iadd (pc := 36) hx hb dX4_ifTicks_36 ?_
        exact z_top (by unfold ifw; rw [if_neg c_25]; rw [hnw]; exact nI_add 9 j) (J1 _ _ _ hz (lv_sub hl [0, 1, 2] rfl))
      · refine lv_bipush (v := 8) (pc := 28) hx hb dX4_ifTicks_28 (by decide) ?_
        refine lv_goto (tgt := 37) (pc := 30) hx hb dX4_ifTicks_30 (by decide) ?_
        exact z_top (by unfold ifw; rw [if_pos c_25]; rfl) (J1 _ _ _ hz (lv_sub hl [0, 1, 2] rfl))
    · refine lv_bipush (v := -2) (pc := 20) hx hb dX4_ifTicks_20 (by decide) ?_
      exact z_iret (pc := 22) hx hb hr hlk hQ hz dX4_ifTicks_22 (by simp only [ifF, if_neg c_8, if_pos c_17]) (by simp only [ifB, ifT, if_neg c_8, if_pos c_17])

def rm_X4_highest : Room := { frames := 1, cells := 0, slots := 0, locals := 22 }
set_option maxRecDepth 20000 in
theorem hdV_X4_highest : yX4_highest.cls = RX4 ∧ yX4_highest.cls ≠ "java/lang/invoke/MethodHandle" ∧ yX4_highest.cls ≠ "java/lang/invoke/VarHandle" ∧ (parseMethodDescriptor yX4_highest.desc).map (fun d => d.parameters.length) = some 0 := by decide +kernel
set_option maxHeartbeats 4000000 in
set_option maxRecDepth 100000 in
theorem k_X4_highest (l : Launch) (G : va_G) (ca : Nat → ClassId) (a : Nat → Nat) (f h : Nat → Int32) (c : Nat → Nat → Int32) (hi sn be tx ti : Nat → Int32) : Zc l G ca yX4_highest (zws yX4_highest cX4_highest 3 (some .int)) rm_X4_highest [.ref (a 0)] (mm ca a f h c hi sn be tx ti) (some (.int (hiR c))) (mm ca a f h c hi sn be tx ti) := by
  refine Zc.of (cc := cX4_highest) (maxL := 3) (ret := (some .int)) (by decide) rfl (Nat.le_of_ble_eq_true rfl) ?_
  intro pg ev s0 mt below meth cd A args Q ls hx hb hr hml hown hts hlk hQ hl hz
  have hl : lv_has ls 3 [(0, .ref (a 0))] := hl
  refine lv_iconst (v := 0) (pc := 0) hx hb dX4_highest_0 (by decide) ?_
  refine lv_istore_n (lv' := [(1, .int 0), (0, .ref (a 0))]) (pc := 1) hx hb dX4_highest_1 rfl hl (by decide) rfl (fun ls hl => ?_)
  refine lv_iconst (v := 1) (pc := 2) hx hb dX4_highest_2 (by decide) ?_
  refine lv_istore_n (lv' := [(2, .int 1), (1, .int 0), (0, .ref (a 0))]) (pc := 3) hx hb dX4_highest_3 rfl hl (by decide) rfl (fun ls hl => ?_)
  have loop1 : ∀ cnt k : Nat, k + cnt = 7 → ∀ (H : Heap) (locs : List Loc) (ls : Array Slot), zw G ca A s0.heap s0 (mm ca a f h c hi sn be tx ti) H locs → lv_has ls 3 [(2, .int (nI (k + 1))), (1, .int (nI (hgF c k))), (0, .ref (a 0))] → W pg l ev rm_X4_highest s0 mt args below meth cd H locs 0 0 Q (F0 mt 4 ls []) := by
    intro cnt
    induction cnt with
    | zero =>
      intro k hk9 H locs ls hz hl
      obtain rfl : 7 = k := by omega
      have hg8 : hgF c 7 < 8 := Nat.lt_of_le_of_lt (hgF_le c 7) (by decide)
      refine lv_iload_n (pc := 4) hx hb dX4_highest_4 rfl (lv_at hl 0 rfl) ?_
      refine lv_bipush (v := 8) (pc := 5) hx hb dX4_highest_5 (by decide) ?_
      refine lv_icmp_ge (pc := 7) (tgt := 39) hx hb dX4_highest_7 (by decide) (fun c_7 => ?_) (fun c9 => absurd (by decide) c9)
      refine lv_aload_n (pc := 39) hx hb dX4_highest_39 rfl (lv_at hl 2 rfl) ?_
      refine lv_iload_n (pc := 40) hx hb dX4_highest_40 rfl (lv_at hl 1 rfl) ?_
      refine lv_bipush (v := 7) (pc := 41) hx hb dX4_highest_41 (by decide) ?_
      refine z_runV (pc := 43) (As := [.int (nI (hgF c 7)), .int 7]) (rest := []) (ws1 := mm ca a f h c hi sn be tx ti) ⟨hx, hb, hml, hown, hts⟩ (k_X4_of l G ca a f h c hi sn be tx ti (hgF c 7) 7 (by assumption) (by decide)) (cwV 2 hts (zgoodV zsub wq_7_10 wq_7_11 wq_7_12 wq_1_5 wq_7_13) rfl rfl rfl hdV_X4_of ⟨Nat.le_of_ble_eq_true rfl, Nat.le_of_ble_eq_true rfl⟩) hz [] zp_all zp_all' rfl rfl rfl hl.1 (Nat.le_of_ble_eq_true rfl) (st1 := [.int (c (hgF c 7) 7)]) rfl dX4_highest_43 ⟨Nat.zero_le _, Nat.zero_le _⟩ (fun H locs hz => ?_)
      refine lv_if_ne (pc := 46) (tgt := 54) hx hb dX4_highest_46 (by decide) (fun c_46 => ?_) (fun c_46 => ?_)
      · refine lv_iload_n (pc := 54) hx hb dX4_highest_54 rfl (lv_at hl 1 rfl) ?_
        exact z_iret (pc := 55) hx hb hr hlk hQ hz dX4_highest_55 (by simp only [hiR, if_pos c_7, if_neg c_46]) (by rfl)
      · refine lv_bipush (v := -5) (pc := 49) hx hb dX4_highest_49 (by decide) ?_
        refine lv_goto (tgt := 55) (pc := 51) hx hb dX4_highest_51 (by decide) ?_
        exact z_iret (pc := 55) hx hb hr hlk hQ hz dX4_highest_55 (by simp only [hiR, if_pos c_7, if_pos c_46]) (by rfl)
    | succ cnt ih =>
      intro k hk9 H locs ls hz hl
      have hk : k < 7 := by omega
      have hg8 : hgF c k < 8 := Nat.lt_of_le_of_lt (hgF_le c k) (by omega)
      have hk8 : k + 1 < 8 := by omega
      refine lv_iload_n (pc := 4) hx hb dX4_highest_4 rfl (lv_at hl 0 rfl) ?_
      refine lv_bipush (v := 8) (pc := 5) hx hb dX4_highest_5 (by decide) ?_
      refine lv_icmp_ge (pc := 7) (tgt := 39) hx hb dX4_highest_7 (by decide) (fun c9 => absurd c9 (nI_ge (by omega) (by decide))) (fun c_7 => ?_)
      refine lv_aload_n (pc := 10) hx hb dX4_highest_10 rfl (lv_at hl 2 rfl) ?_
      refine lv_iload_n (pc := 11) hx hb dX4_highest_11 rfl (lv_at hl 0 rfl) ?_
      refine lv_bipush (v := 7) (pc := 12) hx hb dX4_highest_12 (by decide) ?_
      refine z_runV (pc := 14) (As := [.int (nI (k + 1)), .int 7]) (rest := []) (ws1 := mm ca a f h c hi sn be tx ti) ⟨hx, hb, hml, hown, hts⟩ (k_X4_of l G ca a f h c hi sn be tx ti (k + 1) 7 (by assumption) (by decide)) (cwV 2 hts (zgoodV zsub wq_7_10 wq_7_11 wq_7_12 wq_1_5 wq_7_13) rfl rfl rfl hdV_X4_of ⟨Nat.le_of_ble_eq_true rfl, Nat.le_of_ble_eq_true rfl⟩) hz [] zp_all zp_all' rfl rfl rfl hl.1 (Nat.le_of_ble_eq_true rfl) (st1 := [.int (c (k + 1) 7)]) rfl dX4_highest_14 ⟨Nat.zero_le _, Nat.zero_le _⟩ (fun H locs hz => ?_)
      refine lv_aload_n (pc := 17) hx hb dX4_highest_17 rfl (lv_at hl 2 rfl) ?_
      refine lv_iload_n (pc := 18) hx hb dX4_highest_18 rfl (lv_at hl 1 rfl) ?_
      refine lv_bipush (v := 7) (pc := 19) hx hb dX4_highest_19 (by decide) ?_
      refine z_runV (pc := 21) (As := [.int (nI (hgF c k)), .int 7]) (rest := [.int (c (k + 1) 7)]) (ws1 := mm ca a f h c hi sn be tx ti) ⟨hx, hb, hml, hown, hts⟩ (k_X4_of l G ca a f h c hi sn be tx ti (hgF c k) 7 (by assumption) (by decide)) (cwV 2 hts (zgoodV zsub wq_7_10 wq_7_11 wq_7_12 wq_1_5 wq_7_13) rfl rfl rfl hdV_X4_of ⟨Nat.le_of_ble_eq_true rfl, Nat.le_of_ble_eq_true rfl⟩) hz [] zp_all zp_all' rfl rfl rfl hl.1 (Nat.le_of_ble_eq_true rfl) (st1 := [.int (c (hgF c k) 7), .int (c (k + 1) 7)]) rfl dX4_highest_21 ⟨Nat.zero_le _, Nat.zero_le _⟩ (fun H locs hz => ?_)
      have J2 : ∀ (H : Heap) (locs : List Loc) (ls : Array Slot), zw G ca A s0.heap s0 (mm ca a f h c hi sn be tx ti) H locs → lv_has ls 3 [(2, .int (nI (k + 1))), (1, .int (nI (hgF c k))), (0, .ref (a 0))] → W pg l ev rm_X4_highest s0 mt args below meth cd H locs 0 0 Q (F0 mt 32 ls [.int (nI (hgF c (k + 1)))]) := by
        intro H locs ls hz hl
        refine lv_istore_n (lv' := [(1, .int (nI (hgF c (k + 1)))), (2, .int (nI (k + 1))), (0, .ref (a 0))]) (pc := 32) hx hb dX4_highest_32 rfl hl (by decide) rfl (fun ls hl => ?_)
        refine lv_iinc (v := nI (k + 1 + 1)) (lv' := [(2, .int (nI (k + 1 + 1))), (1, .int (nI (hgF c (k + 1)))), (0, .ref (a 0))]) (pc := 33) hx hb dX4_highest_33 hl (k := 1) rfl (nI_add (k + 1) 1) (by decide) rfl (fun ls hl => ?_)
        refine lv_goto (tgt := 4) (pc := 36) hx hb dX4_highest_36 (by decide) ?_
        exact ih (k + 1) (by omega) _ _ _ hz (lv_sub hl [0, 1, 2] rfl)
      refine lv_icmp_le (pc := 24) (tgt := 31) hx hb dX4_highest_24 (by decide) (fun c_24 => ?_) (fun c_24 => ?_)
      · refine lv_iload_n (pc := 31) hx hb dX4_highest_31 rfl (lv_at hl 1 rfl) ?_
        exact z_top (by rw [hgF]; simp only [if_pos c_24]) (J2 _ _ _ hz (lv_sub hl [0, 1, 2] rfl))
      · refine lv_iload_n (pc := 27) hx hb dX4_highest_27 rfl (lv_at hl 0 rfl) ?_
        refine lv_goto (tgt := 32) (pc := 28) hx hb dX4_highest_28 (by decide) ?_
        exact z_top (by rw [hgF]; simp only [if_neg c_24]) (J2 _ _ _ hz (lv_sub hl [0, 1, 2] rfl))
  exact loop1 7 0 (by omega) _ _ _ hz (lv_sub hl [0, 1, 2] rfl)

def rm_X4_full : Room := { frames := 2, cells := 0, slots := 0, locals := 43 }
set_option maxRecDepth 20000 in
theorem hdV_X4_full : yX4_full.cls = RX4 ∧ yX4_full.cls ≠ "java/lang/invoke/MethodHandle" ∧ yX4_full.cls ≠ "java/lang/invoke/VarHandle" ∧ (parseMethodDescriptor yX4_full.desc).map (fun d => d.parameters.length) = some 0 := by decide +kernel
set_option maxHeartbeats 4000000 in
set_option maxRecDepth 100000 in
theorem k_X4_full (l : Launch) (G : va_G) (ca : Nat → ClassId) (a : Nat → Nat) (f h : Nat → Int32) (c : Nat → Nat → Int32) (hi sn be tx ti : Nat → Int32) : Zc l G ca yX4_full (zws yX4_full cX4_full 3 (some .int)) rm_X4_full [.ref (a 0)] (mm ca a f h c hi sn be tx ti) (some (.int (fuF c 8))) (mm ca a f h c hi sn be tx ti) := by
  refine Zc.of (cc := cX4_full) (maxL := 3) (ret := (some .int)) (by decide) rfl (Nat.le_of_ble_eq_true rfl) ?_
  intro pg ev s0 mt below meth cd A args Q ls hx hb hr hml hown hts hlk hQ hl hz
  have hl : lv_has ls 3 [(0, .ref (a 0))] := hl
  refine lv_iconst (v := 0) (pc := 0) hx hb dX4_full_0 (by decide) ?_
  refine lv_istore_n (lv' := [(1, .int 0), (0, .ref (a 0))]) (pc := 1) hx hb dX4_full_1 rfl hl (by decide) rfl (fun ls hl => ?_)
  refine lv_iconst (v := 0) (pc := 2) hx hb dX4_full_2 (by decide) ?_
  refine lv_istore_n (lv' := [(2, .int 0), (1, .int 0), (0, .ref (a 0))]) (pc := 3) hx hb dX4_full_3 rfl hl (by decide) rfl (fun ls hl => ?_)
  have loop1 : ∀ cnt k : Nat, k + cnt = 8 → ∀ (H : Heap) (locs : List Loc) (ls : Array Slot), zw G ca A s0.heap s0 (mm ca a f h c hi sn be tx ti) H locs → lv_has ls 3 [(2, .int (nI k)), (1, .int (fuF c k)), (0, .ref (a 0))] → W pg l ev rm_X4_full s0 mt args below meth cd H locs 0 0 Q (F0 mt 4 ls []) := by
    intro cnt
    induction cnt with
    | zero =>
      intro k hk9 H locs ls hz hl
      obtain rfl : 8 = k := by omega
      refine lv_iload_n (pc := 4) hx hb dX4_full_4 rfl (lv_at hl 0 rfl) ?_
      refine lv_bipush (v := 8) (pc := 5) hx hb dX4_full_5 (by decide) ?_
      refine lv_icmp_ge (pc := 7) (tgt := 32) hx hb dX4_full_7 (by decide) (fun c_7 => ?_) (fun c9 => absurd (by decide) c9)
      refine lv_iload_n (pc := 32) hx hb dX4_full_32 rfl (lv_at hl 1 rfl) ?_
      exact z_iret (pc := 33) hx hb hr hlk hQ hz dX4_full_33 (by rfl) (by rfl)
    | succ cnt ih =>
      intro k hk9 H locs ls hz hl
      have hk : k < 8 := by omega
      refine lv_iload_n (pc := 4) hx hb dX4_full_4 rfl (lv_at hl 0 rfl) ?_
      refine lv_bipush (v := 8) (pc := 5) hx hb dX4_full_5 (by decide) ?_
      refine lv_icmp_ge (pc := 7) (tgt := 32) hx hb dX4_full_7 (by decide) (fun c9 => absurd c9 (nI_ge hk (by decide))) (fun c_7 => ?_)
      refine lv_iload_n (pc := 10) hx hb dX4_full_10 rfl (lv_at hl 1 rfl) ?_
      refine lv_aload_n (pc := 11) hx hb dX4_full_11 rfl (lv_at hl 2 rfl) ?_
      refine lv_iload_n (pc := 12) hx hb dX4_full_12 rfl (lv_at hl 0 rfl) ?_
      refine z_runV (pc := 13) (As := [.int (nI k)]) (rest := [.int (fuF c k)]) (ws1 := mm ca a f h c hi sn be tx ti) ⟨hx, hb, hml, hown, hts⟩ (k_X4_isFull l G ca a f h c hi sn be tx ti k (by assumption)) (cwV 1 hts (zgoodV zsub wq_15_7 wq_15_8 wq_15_9 wq_1_5 wq_15_10) rfl rfl rfl hdV_X4_isFull ⟨Nat.le_of_ble_eq_true rfl, Nat.le_of_ble_eq_true rfl⟩) hz [] zp_all zp_all' rfl rfl rfl hl.1 (Nat.le_of_ble_eq_true rfl) (st1 := [.int (fullF c k), .int (fuF c k)]) rfl dX4_full_13 ⟨Nat.zero_le _, Nat.zero_le _⟩ (fun H locs hz => ?_)
      have J2 : ∀ (H : Heap) (locs : List Loc) (ls : Array Slot), zw G ca A s0.heap s0 (mm ca a f h c hi sn be tx ti) H locs → lv_has ls 3 [(2, .int (nI k)), (1, .int (fuF c k)), (0, .ref (a 0))] → W pg l ev rm_X4_full s0 mt args below meth cd H locs 0 0 Q (F0 mt 24 ls [.int (if fullF c k = 0 then 0 else 1), .int (fuF c k)]) := by
        intro H locs ls hz hl
        refine lv_iadd (pc := 24) hx hb dX4_full_24 ?_
        refine lv_istore_n (lv' := [(1, .int ((fuF c k) + (if fullF c k = 0 then 0 else 1))), (2, .int (nI k)), (0, .ref (a 0))]) (pc := 25) hx hb dX4_full_25 rfl hl (by decide) rfl (fun ls hl => ?_)
        refine lv_iinc (v := nI (k + 1)) (lv' := [(2, .int (nI (k + 1))), (1, .int ((fuF c k) + (if fullF c k = 0 then 0 else 1))), (0, .ref (a 0))]) (pc := 26) hx hb dX4_full_26 hl (k := 1) rfl (nI_add k 1) (by decide) rfl (fun ls hl => ?_)
        refine lv_goto (tgt := 4) (pc := 29) hx hb dX4_full_29 (by decide) ?_
        exact ih (k + 1) (by omega) _ _ _ hz (lv_sub hl [0, 1, 2] rfl)
      refine lv_if_eq (pc := 16) (tgt := 23) hx hb dX4_full_16 (by decide) (fun c_16 => ?_) (fun c_16 => ?_)
      · refine lv_iconst (v := 0) (pc := 23) hx hb dX4_full_23 (by decide) ?_
        exact z_top (by simp only [if_pos c_16]) (J2 _ _ _ hz (lv_sub hl [0, 1, 2] rfl))
      · refine lv_iconst (v := 1) (pc := 19) hx hb dX4_full_19 (by decide) ?_
        refine lv_goto (tgt := 24) (pc := 20) hx hb dX4_full_20 (by decide) ?_
        exact z_top (by simp only [if_neg c_16]) (J2 _ _ _ hz (lv_sub hl [0, 1, 2] rfl))
  exact loop1 8 0 (by omega) _ _ _ hz (lv_sub hl [0, 1, 2] rfl)
end
section
def rm_X4_reason : Room := { frames := 5, cells := 0, slots := 0, locals := 120 }
set_option maxRecDepth 20000 in
theorem hdV_X4_reason : yX4_reason.cls = RX4 ∧ yX4_reason.cls ≠ "java/lang/invoke/MethodHandle" ∧ yX4_reason.cls ≠ "java/lang/invoke/VarHandle" ∧ (parseMethodDescriptor yX4_reason.desc).map (fun d => d.parameters.length) = some 1 := by decide +kernel
set_option maxHeartbeats 4000000 in
set_option maxRecDepth 100000 in
theorem k_X4_reason (l : Launch) (G : va_G) (ca : Nat → ClassId) (a : Nat → Nat) (f h : Nat → Int32) (c : Nat → Nat → Int32) (hi sn be tx ti : Nat → Int32) (cup : Int32) (hok : okP (h, c)) : Zc l G ca yX4_reason (zws yX4_reason cX4_reason 2 (some .int)) rm_X4_reason [.ref (a 0), .int cup] (mm ca a f h c hi sn be tx ti) (some (.int (reasonR (h, c) cup))) (mm ca a f h c hi sn (reasonB (h, c) be cup) tx (reasonT (h, c) ti cup)) := by
  refine Zc.of (cc := cX4_reason) (maxL := 2) (ret := (some .int)) (by decide) rfl (Nat.le_of_ble_eq_true rfl) ?_
  intro pg ev s0 mt below meth cd A args Q ls hx hb hr hml hown hts hlk hQ hl hz
  have L7 : (Cond.fieldLink RX4 7 "CupFountainModel" "s" "[I").before args s0 = true := hts _ (zsub _ wq_4_4)
  have hinX4 : ∀ w ∈ wsX40, w ∈ zws yX4_reason cX4_reason 2 (some .int) := fun w h => zsub w (wl_wsX40 w h)
  have hl : lv_has ls 2 [(0, .ref (a 0)), (1, .int cup)] := hl
  refine lv_iload_n (pc := 0) hx hb dX4_reason_0 rfl (lv_at hl 1 rfl) ?_
  refine z_runS (pc := 1) (As := [.int cup]) (rest := []) (ws1 := mm ca a f h c hi sn be tx ti) ⟨hx, hb, hml, hown, hts⟩ (k_X4_isCup l G ca cup) (cwS 1 hts (zgoodS zsub wq_7_1 wq_7_2 wq_1_5 wq_7_3) rfl rfl rfl hdV_X4_isCup ⟨Nat.le_of_ble_eq_true rfl, Nat.le_of_ble_eq_true rfl⟩) hz (mm ca a f h c hi sn be tx ti) zp_no (List.Perm.refl _) rfl hl.1 (Nat.le_of_ble_eq_true rfl) (st1 := [.int (inF cup 0 7)]) rfl dX4_reason_1 ⟨Nat.zero_le _, Nat.zero_le _⟩ (fun H locs hz => ?_)
  refine lv_if_ne (pc := 4) (tgt := 9) hx hb dX4_reason_4 (by decide) (fun c_4 => ?_) (fun c_4 => ?_)
  · obtain ⟨k, hk, rfl⟩ := isCup_pos c_4
    have hnk : nn (nI k) = k := nn_nI (by omega)
    refine lv_aload_n (pc := 9) hx hb dX4_reason_9 rfl (lv_at hl 0 rfl) ?_
    refine lv_iload_n (pc := 10) hx hb dX4_reason_10 rfl (lv_at hl 1 rfl) ?_
    refine lv_bipush (v := 6) (pc := 11) hx hb dX4_reason_11 (by decide) ?_
    refine z_runV (pc := 13) (As := [.int (nI k), .int 6]) (rest := []) (ws1 := mm ca a f h c hi sn be tx ti) ⟨hx, hb, hml, hown, hts⟩ (k_X4_of l G ca a f h c hi sn be tx ti k 6 (by assumption) (by decide)) (cwV 2 hts (zgoodV zsub wq_7_10 wq_7_11 wq_7_12 wq_1_5 wq_7_13) rfl rfl rfl hdV_X4_of ⟨Nat.le_of_ble_eq_true rfl, Nat.le_of_ble_eq_true rfl⟩) hz [] zp_all zp_all' rfl rfl rfl hl.1 (Nat.le_of_ble_eq_true rfl) (st1 := [.int (c k 6)]) rfl dX4_reason_13 ⟨Nat.zero_le _, Nat.zero_le _⟩ (fun H locs hz => ?_)
    refine lv_iconst (v := 1) (pc := 16) hx hb dX4_reason_16 (by decide) ?_
    refine lv_icmp_ne (pc := 17) (tgt := 41) hx hb dX4_reason_17 (by decide) (fun c_17 => ?_) (fun c_17 => ?_)
    · refine lv_aload_n (pc := 41) hx hb dX4_reason_41 rfl (lv_at hl 0 rfl) ?_
      refine lv_iload_n (pc := 42) hx hb dX4_reason_42 rfl (lv_at hl 1 rfl) ?_
      refine lv_bipush (v := 6) (pc := 43) hx hb dX4_reason_43 (by decide) ?_
      refine z_runV (pc := 45) (As := [.int (nI k), .int 6]) (rest := []) (ws1 := mm ca a f h c hi sn be tx ti) ⟨hx, hb, hml, hown, hts⟩ (k_X4_of l G ca a f h c hi sn be tx ti k 6 (by assumption) (by decide)) (cwV 2 hts (zgoodV zsub wq_7_10 wq_7_11 wq_7_12 wq_1_5 wq_7_13) rfl rfl rfl hdV_X4_of ⟨Nat.le_of_ble_eq_true rfl, Nat.le_of_ble_eq_true rfl⟩) hz [] zp_all zp_all' rfl rfl rfl hl.1 (Nat.le_of_ble_eq_true rfl) (st1 := [.int (c k 6)]) rfl dX4_reason_45 ⟨Nat.zero_le _, Nat.zero_le _⟩ (fun H locs hz => ?_)
      refine lv_if_ne (pc := 48) (tgt := 64) hx hb dX4_reason_48 (by decide) (fun c_48 => ?_) (fun c_48 => ?_)
      · refine lv_aload_n (pc := 64) hx hb dX4_reason_64 rfl (lv_at hl 0 rfl) ?_
        refine lv_iload_n (pc := 65) hx hb dX4_reason_65 rfl (lv_at hl 1 rfl) ?_
        refine lv_iconst (v := 1) (pc := 66) hx hb dX4_reason_66 (by decide) ?_
        refine z_runV (pc := 67) (As := [.int (nI k), .int 1]) (rest := []) (ws1 := mm ca a f h c hi sn (enc h c) tx (tkT (h, c) ti (utN (h, c) k 1 0))) ⟨hx, hb, hml, hown, hts⟩ (k_X4_untilTip l G ca a f h c hi sn be tx ti k 1 hk (by decide) hok) (cwV 2 hts (zgoodV zsub wq_22_19 wq_22_20 wq_22_21 wq_1_5 wq_22_22) rfl rfl rfl hdV_X4_untilTip ⟨Nat.le_of_ble_eq_true rfl, Nat.le_of_ble_eq_true rfl⟩) hz [] zp_all zp_all' rfl rfl rfl hl.1 (Nat.le_of_ble_eq_true rfl) (st1 := [.int (utF (h, c) k 1 0)]) rfl dX4_reason_67 ⟨Nat.zero_le _, Nat.zero_le _⟩ (fun H locs hz => ?_)
        refine lv_iconst (v := 1) (pc := 70) hx hb dX4_reason_70 (by decide) ?_
        refine lv_icmp_ne (pc := 71) (tgt := 78) hx hb dX4_reason_71 (by decide) (fun c_71 => ?_) (fun c_71 => ?_)
        · refine lv_iconst (v := 3) (pc := 78) hx hb dX4_reason_78 (by decide) ?_
          exact z_iret (pc := 79) hx hb hr hlk hQ hz dX4_reason_79 (by simp only [reasonR, rsG, if_neg c_4, if_neg c_17, if_neg c_48, if_neg c_71, hnk]) (by simp only [reasonB, reasonT, rsG, if_neg c_4, if_neg c_17, if_neg c_48, if_neg c_71, hnk])
        · refine lv_iconst (v := 0) (pc := 74) hx hb dX4_reason_74 (by decide) ?_
          refine lv_goto (tgt := 79) (pc := 75) hx hb dX4_reason_75 (by decide) ?_
          exact z_iret (pc := 79) hx hb hr hlk hQ hz dX4_reason_79 (by simp only [reasonR, rsG, if_neg c_4, if_neg c_17, if_neg c_48, if_pos c_71, hnk]) (by simp only [reasonB, reasonT, rsG, if_neg c_4, if_neg c_17, if_neg c_48, if_pos c_71, hnk])
      · refine lv_aload_n (pc := 51) hx hb dX4_reason_51 rfl (lv_at hl 0 rfl) ?_
        refine lv_iload_n (pc := 52) hx hb dX4_reason_52 rfl (lv_at hl 1 rfl) ?_
        refine lv_iconst (v := 5) (pc := 53) hx hb dX4_reason_53 (by decide) ?_
        refine z_runV (pc := 54) (As := [.int (nI k), .int 5]) (rest := []) (ws1 := mm ca a f h c hi sn be tx ti) ⟨hx, hb, hml, hown, hts⟩ (k_X4_of l G ca a f h c hi sn be tx ti k 5 (by assumption) (by decide)) (cwV 2 hts (zgoodV zsub wq_7_10 wq_7_11 wq_7_12 wq_1_5 wq_7_13) rfl rfl rfl hdV_X4_of ⟨Nat.le_of_ble_eq_true rfl, Nat.le_of_ble_eq_true rfl⟩) hz [] zp_all zp_all' rfl rfl rfl hl.1 (Nat.le_of_ble_eq_true rfl) (st1 := [.int (c k 5)]) rfl dX4_reason_54 ⟨Nat.zero_le _, Nat.zero_le _⟩ (fun H locs hz => ?_)
        refine lv_if_ne (pc := 57) (tgt := 64) hx hb dX4_reason_57 (by decide) (fun c_57 => ?_) (fun c_57 => ?_)
        · refine lv_aload_n (pc := 64) hx hb dX4_reason_64 rfl (lv_at hl 0 rfl) ?_
          refine lv_iload_n (pc := 65) hx hb dX4_reason_65 rfl (lv_at hl 1 rfl) ?_
          refine lv_iconst (v := 1) (pc := 66) hx hb dX4_reason_66 (by decide) ?_
          refine z_runV (pc := 67) (As := [.int (nI k), .int 1]) (rest := []) (ws1 := mm ca a f h c hi sn (enc h c) tx (tkT (h, c) ti (utN (h, c) k 1 0))) ⟨hx, hb, hml, hown, hts⟩ (k_X4_untilTip l G ca a f h c hi sn be tx ti k 1 hk (by decide) hok) (cwV 2 hts (zgoodV zsub wq_22_19 wq_22_20 wq_22_21 wq_1_5 wq_22_22) rfl rfl rfl hdV_X4_untilTip ⟨Nat.le_of_ble_eq_true rfl, Nat.le_of_ble_eq_true rfl⟩) hz [] zp_all zp_all' rfl rfl rfl hl.1 (Nat.le_of_ble_eq_true rfl) (st1 := [.int (utF (h, c) k 1 0)]) rfl dX4_reason_67 ⟨Nat.zero_le _, Nat.zero_le _⟩ (fun H locs hz => ?_)
          refine lv_iconst (v := 1) (pc := 70) hx hb dX4_reason_70 (by decide) ?_
          refine lv_icmp_ne (pc := 71) (tgt := 78) hx hb dX4_reason_71 (by decide) (fun c_71 => ?_) (fun c_71 => ?_)
          · refine lv_iconst (v := 3) (pc := 78) hx hb dX4_reason_78 (by decide) ?_
            exact z_iret (pc := 79) hx hb hr hlk hQ hz dX4_reason_79 (by simp only [reasonR, rsG, if_neg c_4, if_neg c_17, if_pos c_48, if_neg c_57, if_neg c_71, hnk]) (by simp only [reasonB, reasonT, rsG, if_neg c_4, if_neg c_17, if_pos c_48, if_neg c_57, if_neg c_71, hnk])
          · refine lv_iconst (v := 0) (pc := 74) hx hb dX4_reason_74 (by decide) ?_
            refine lv_goto (tgt := 79) (pc := 75) hx hb dX4_reason_75 (by decide) ?_
            exact z_iret (pc := 79) hx hb hr hlk hQ hz dX4_reason_79 (by simp only [reasonR, rsG, if_neg c_4, if_neg c_17, if_pos c_48, if_neg c_57, if_pos c_71, hnk]) (by simp only [reasonB, reasonT, rsG, if_neg c_4, if_neg c_17, if_pos c_48, if_neg c_57, if_pos c_71, hnk])
        · refine lv_iconst (v := 2) (pc := 60) hx hb dX4_reason_60 (by decide) ?_
          refine lv_goto (tgt := 79) (pc := 61) hx hb dX4_reason_61 (by decide) ?_
          exact z_iret (pc := 79) hx hb hr hlk hQ hz dX4_reason_79 (by simp only [reasonR, rsG, if_neg c_4, if_neg c_17, if_pos c_48, if_pos c_57, hnk]) (by simp only [reasonB, reasonT, rsG, if_neg c_4, if_neg c_17, if_pos c_48, if_pos c_57, hnk])
    · refine lv_aload_n (pc := 20) hx hb dX4_reason_20 rfl (lv_at hl 0 rfl) ?_
      refine lv_aload_n (pc := 21) hx hb dX4_reason_21 rfl (lv_at hl 0 rfl) ?_
      refine z_get (own := RX4) (ref := "CupFountainModel") (C := RX4) (T := TX4) (N := 17) (ci := 4) (v := .ref (a 1)) (pc := 22) hx hb hts hinX4 hown hz 0 rfl rfl 0 (by decide) L7 rfl rfl dX4_reason_22 ?_
      refine lv_iconst (v := 0) (pc := 25) hx hb dX4_reason_25 (by decide) ?_
      refine z_iald (x := h 0) (pc := 26) hx hb hz 1 rfl 0 rfl (by decide) (by decide) (enc_h (by decide)) dX4_reason_26 ?_
      refine z_runV (pc := 27) (As := [.int (h 0)]) (rest := []) (ws1 := mm ca a f h c hi sn be tx ti) ⟨hx, hb, hml, hown, hts⟩ (k_X4_hourOf l G ca a f h c hi sn be tx ti (h 0) hok.1) (cwV 1 hts (zgoodV zsub wq_14_19 wq_14_20 wq_14_21 wq_1_5 wq_14_22) rfl rfl rfl hdV_X4_hourOf ⟨Nat.le_of_ble_eq_true rfl, Nat.le_of_ble_eq_true rfl⟩) hz [] zp_all zp_all' rfl rfl rfl hl.1 (Nat.le_of_ble_eq_true rfl) (st1 := [.int (hrF h (h 0))]) rfl dX4_reason_27 ⟨Nat.zero_le _, Nat.zero_le _⟩ (fun H locs hz => ?_)
      refine lv_aload_n (pc := 30) hx hb dX4_reason_30 rfl (lv_at hl 0 rfl) ?_
      refine lv_iload_n (pc := 31) hx hb dX4_reason_31 rfl (lv_at hl 1 rfl) ?_
      refine lv_iconst (v := 4) (pc := 32) hx hb dX4_reason_32 (by decide) ?_
      refine z_runV (pc := 33) (As := [.int (nI k), .int 4]) (rest := [.int (hrF h (h 0))]) (ws1 := mm ca a f h c hi sn be tx ti) ⟨hx, hb, hml, hown, hts⟩ (k_X4_of l G ca a f h c hi sn be tx ti k 4 (by assumption) (by decide)) (cwV 2 hts (zgoodV zsub wq_7_10 wq_7_11 wq_7_12 wq_1_5 wq_7_13) rfl rfl rfl hdV_X4_of ⟨Nat.le_of_ble_eq_true rfl, Nat.le_of_ble_eq_true rfl⟩) hz [] zp_all zp_all' rfl rfl rfl hl.1 (Nat.le_of_ble_eq_true rfl) (st1 := [.int (c k 4), .int (hrF h (h 0))]) rfl dX4_reason_33 ⟨Nat.zero_le _, Nat.zero_le _⟩ (fun H locs hz => ?_)
      refine lv_icmp_eq (pc := 36) (tgt := 41) hx hb dX4_reason_36 (by decide) (fun c_36 => ?_) (fun c_36 => ?_)
      · refine lv_aload_n (pc := 41) hx hb dX4_reason_41 rfl (lv_at hl 0 rfl) ?_
        refine lv_iload_n (pc := 42) hx hb dX4_reason_42 rfl (lv_at hl 1 rfl) ?_
        refine lv_bipush (v := 6) (pc := 43) hx hb dX4_reason_43 (by decide) ?_
        refine z_runV (pc := 45) (As := [.int (nI k), .int 6]) (rest := []) (ws1 := mm ca a f h c hi sn be tx ti) ⟨hx, hb, hml, hown, hts⟩ (k_X4_of l G ca a f h c hi sn be tx ti k 6 (by assumption) (by decide)) (cwV 2 hts (zgoodV zsub wq_7_10 wq_7_11 wq_7_12 wq_1_5 wq_7_13) rfl rfl rfl hdV_X4_of ⟨Nat.le_of_ble_eq_true rfl, Nat.le_of_ble_eq_true rfl⟩) hz [] zp_all zp_all' rfl rfl rfl hl.1 (Nat.le_of_ble_eq_true rfl) (st1 := [.int (c k 6)]) rfl dX4_reason_45 ⟨Nat.zero_le _, Nat.zero_le _⟩ (fun H locs hz => ?_)
        refine lv_if_ne (pc := 48) (tgt := 64) hx hb dX4_reason_48 (by decide) (fun c_48 => ?_) (fun c_48 => ?_)
        · refine lv_aload_n (pc := 64) hx hb dX4_reason_64 rfl (lv_at hl 0 rfl) ?_
          refine lv_iload_n (pc := 65) hx hb dX4_reason_65 rfl (lv_at hl 1 rfl) ?_
          refine lv_iconst (v := 1) (pc := 66) hx hb dX4_reason_66 (by decide) ?_
          refine z_runV (pc := 67) (As := [.int (nI k), .int 1]) (rest := []) (ws1 := mm ca a f h c hi sn (enc h c) tx (tkT (h, c) ti (utN (h, c) k 1 0))) ⟨hx, hb, hml, hown, hts⟩ (k_X4_untilTip l G ca a f h c hi sn be tx ti k 1 hk (by decide) hok) (cwV 2 hts (zgoodV zsub wq_22_19 wq_22_20 wq_22_21 wq_1_5 wq_22_22) rfl rfl rfl hdV_X4_untilTip ⟨Nat.le_of_ble_eq_true rfl, Nat.le_of_ble_eq_true rfl⟩) hz [] zp_all zp_all' rfl rfl rfl hl.1 (Nat.le_of_ble_eq_true rfl) (st1 := [.int (utF (h, c) k 1 0)]) rfl dX4_reason_67 ⟨Nat.zero_le _, Nat.zero_le _⟩ (fun H locs hz => ?_)
          refine lv_iconst (v := 1) (pc := 70) hx hb dX4_reason_70 (by decide) ?_
          refine lv_icmp_ne (pc := 71) (tgt := 78) hx hb dX4_reason_71 (by decide) (fun c_71 => ?_) (fun c_71 => ?_)
          · refine lv_iconst (v := 3) (pc := 78) hx hb dX4_reason_78 (by decide) ?_
            exact z_iret (pc := 79) hx hb hr hlk hQ hz dX4_reason_79 (by simp only [reasonR, rsG, if_neg c_4, if_pos c_17, if_pos c_36, if_neg c_48, if_neg c_71, hnk]) (by simp only [reasonB, reasonT, rsG, if_neg c_4, if_pos c_17, if_pos c_36, if_neg c_48, if_neg c_71, hnk])
          · refine lv_iconst (v := 0) (pc := 74) hx hb dX4_reason_74 (by decide) ?_
            refine lv_goto (tgt := 79) (pc := 75) hx hb dX4_reason_75 (by decide) ?_
            exact z_iret (pc := 79) hx hb hr hlk hQ hz dX4_reason_79 (by simp only [reasonR, rsG, if_neg c_4, if_pos c_17, if_pos c_36, if_neg c_48, if_pos c_71, hnk]) (by simp only [reasonB, reasonT, rsG, if_neg c_4, if_pos c_17, if_pos c_36, if_neg c_48, if_pos c_71, hnk])
        · refine lv_aload_n (pc := 51) hx hb dX4_reason_51 rfl (lv_at hl 0 rfl) ?_
          refine lv_iload_n (pc := 52) hx hb dX4_reason_52 rfl (lv_at hl 1 rfl) ?_
          refine lv_iconst (v := 5) (pc := 53) hx hb dX4_reason_53 (by decide) ?_
          refine z_runV (pc := 54) (As := [.int (nI k), .int 5]) (rest := []) (ws1 := mm ca a f h c hi sn be tx ti) ⟨hx, hb, hml, hown, hts⟩ (k_X4_of l G ca a f h c hi sn be tx ti k 5 (by assumption) (by decide)) (cwV 2 hts (zgoodV zsub wq_7_10 wq_7_11 wq_7_12 wq_1_5 wq_7_13) rfl rfl rfl hdV_X4_of ⟨Nat.le_of_ble_eq_true rfl, Nat.le_of_ble_eq_true rfl⟩) hz [] zp_all zp_all' rfl rfl rfl hl.1 (Nat.le_of_ble_eq_true rfl) (st1 := [.int (c k 5)]) rfl dX4_reason_54 ⟨Nat.zero_le _, Nat.zero_le _⟩ (fun H locs hz => ?_)
          refine lv_if_ne (pc := 57) (tgt := 64) hx hb dX4_reason_57 (by decide) (fun c_57 => ?_) (fun c_57 => ?_)
          · refine lv_aload_n (pc := 64) hx hb dX4_reason_64 rfl (lv_at hl 0 rfl) ?_
            refine lv_iload_n (pc := 65) hx hb dX4_reason_65 rfl (lv_at hl 1 rfl) ?_
            refine lv_iconst (v := 1) (pc := 66) hx hb dX4_reason_66 (by decide) ?_
            refine z_runV (pc := 67) (As := [.int (nI k), .int 1]) (rest := []) (ws1 := mm ca a f h c hi sn (enc h c) tx (tkT (h, c) ti (utN (h, c) k 1 0))) ⟨hx, hb, hml, hown, hts⟩ (k_X4_untilTip l G ca a f h c hi sn be tx ti k 1 hk (by decide) hok) (cwV 2 hts (zgoodV zsub wq_22_19 wq_22_20 wq_22_21 wq_1_5 wq_22_22) rfl rfl rfl hdV_X4_untilTip ⟨Nat.le_of_ble_eq_true rfl, Nat.le_of_ble_eq_true rfl⟩) hz [] zp_all zp_all' rfl rfl rfl hl.1 (Nat.le_of_ble_eq_true rfl) (st1 := [.int (utF (h, c) k 1 0)]) rfl dX4_reason_67 ⟨Nat.zero_le _, Nat.zero_le _⟩ (fun H locs hz => ?_)
            refine lv_iconst (v := 1) (pc := 70) hx hb dX4_reason_70 (by decide) ?_
            refine lv_icmp_ne (pc := 71) (tgt := 78) hx hb dX4_reason_71 (by decide) (fun c_71 => ?_) (fun c_71 => ?_)
            · refine lv_iconst (v := 3) (pc := 78) hx hb dX4_reason_78 (by decide) ?_
              exact z_iret (pc := 79) hx hb hr hlk hQ hz dX4_reason_79 (by simp only [reasonR, rsG, if_neg c_4, if_pos c_17, if_pos c_36, if_pos c_48, if_neg c_57, if_neg c_71, hnk]) (by simp only [reasonB, reasonT, rsG, if_neg c_4, if_pos c_17, if_pos c_36, if_pos c_48, if_neg c_57, if_neg c_71, hnk])
            · refine lv_iconst (v := 0) (pc := 74) hx hb dX4_reason_74 (by decide) ?_
              refine lv_goto (tgt := 79) (pc := 75) hx hb dX4_reason_75 (by decide) ?_
              exact z_iret (pc := 79) hx hb hr hlk hQ hz dX4_reason_79 (by simp only [reasonR, rsG, if_neg c_4, if_pos c_17, if_pos c_36, if_pos c_48, if_neg c_57, if_pos c_71, hnk]) (by simp only [reasonB, reasonT, rsG, if_neg c_4, if_pos c_17, if_pos c_36, if_pos c_48, if_neg c_57, if_pos c_71, hnk])
          · refine lv_iconst (v := 2) (pc := 60) hx hb dX4_reason_60 (by decide) ?_
            refine lv_goto (tgt := 79) (pc := 61) hx hb dX4_reason_61 (by decide) ?_
            exact z_iret (pc := 79) hx hb hr hlk hQ hz dX4_reason_79 (by simp only [reasonR, rsG, if_neg c_4, if_pos c_17, if_pos c_36, if_pos c_48, if_pos c_57, hnk]) (by simp only [reasonB, reasonT, rsG, if_neg c_4, if_pos c_17, if_pos c_36, if_pos c_48, if_pos c_57, hnk])
      · refine lv_iconst (v := 1) (pc := 39) hx hb dX4_reason_39 (by decide) ?_
        exact z_iret (pc := 40) hx hb hr hlk hQ hz dX4_reason_40 (by simp only [reasonR, rsG, if_neg c_4, if_pos c_17, if_neg c_36, hnk]) (by simp only [reasonB, reasonT, rsG, if_neg c_4, if_pos c_17, if_neg c_36, hnk])
  · refine lv_iconst (v := -1) (pc := 7) hx hb dX4_reason_7 (by decide) ?_
    exact z_iret (pc := 8) hx hb hr hlk hQ hz dX4_reason_8 (by simp only [reasonR, rsG, if_pos c_4]) (by simp only [reasonB, reasonT, rsG, if_pos c_4])

def rm_X4_bestSize : Room := { frames := 6, cells := 0, slots := 0, locals := 142 }
set_option maxRecDepth 20000 in
theorem hdV_X4_bestSize : yX4_bestSize.cls = RX4 ∧ yX4_bestSize.cls ≠ "java/lang/invoke/MethodHandle" ∧ yX4_bestSize.cls ≠ "java/lang/invoke/VarHandle" ∧ (parseMethodDescriptor yX4_bestSize.desc).map (fun d => d.parameters.length) = some 1 := by decide +kernel
set_option maxHeartbeats 4000000 in
set_option maxRecDepth 100000 in
theorem k_X4_bestSize (l : Launch) (G : va_G) (ca : Nat → ClassId) (a : Nat → Nat) (f h : Nat → Int32) (c : Nat → Nat → Int32) (hi sn be tx ti : Nat → Int32) (cup : Int32) (hok : okP (h, c)) : Zc l G ca yX4_bestSize (zws yX4_bestSize cX4_bestSize 5 (some .int)) rm_X4_bestSize [.ref (a 0), .int cup] (mm ca a f h c hi sn be tx ti) (some (.int (bestF (h, c) cup))) (mm ca a f h c hi sn (bestB (h, c) be cup) tx (bestT (h, c) ti cup)) := by
  refine Zc.of (cc := cX4_bestSize) (maxL := 5) (ret := (some .int)) (by decide) rfl (Nat.le_of_ble_eq_true rfl) ?_
  intro pg ev s0 mt below meth cd A args Q ls hx hb hr hml hown hts hlk hQ hl hz
  have hl : lv_has ls 5 [(0, .ref (a 0)), (1, .int cup)] := hl
  refine lv_iload_n (pc := 0) hx hb dX4_bestSize_0 rfl (lv_at hl 1 rfl) ?_
  refine z_runS (pc := 1) (As := [.int cup]) (rest := []) (ws1 := mm ca a f h c hi sn be tx ti) ⟨hx, hb, hml, hown, hts⟩ (k_X4_isCup l G ca cup) (cwS 1 hts (zgoodS zsub wq_7_1 wq_7_2 wq_1_5 wq_7_3) rfl rfl rfl hdV_X4_isCup ⟨Nat.le_of_ble_eq_true rfl, Nat.le_of_ble_eq_true rfl⟩) hz (mm ca a f h c hi sn be tx ti) zp_no (List.Perm.refl _) rfl hl.1 (Nat.le_of_ble_eq_true rfl) (st1 := [.int (inF cup 0 7)]) rfl dX4_bestSize_1 ⟨Nat.zero_le _, Nat.zero_le _⟩ (fun H locs hz => ?_)
  refine lv_if_ne (pc := 4) (tgt := 9) hx hb dX4_bestSize_4 (by decide) (fun c_4 => ?_) (fun c_4 => ?_)
  · obtain ⟨k, hk, rfl⟩ := isCup_pos c_4
    have hnk : nn (nI k) = k := nn_nI (by omega)
    have hk0 : k < 8 := hk
    refine lv_aload_n (pc := 9) hx hb dX4_bestSize_9 rfl (lv_at hl 0 rfl) ?_
    refine lv_iload_n (pc := 10) hx hb dX4_bestSize_10 rfl (lv_at hl 1 rfl) ?_
    refine lv_iconst (v := 4) (pc := 11) hx hb dX4_bestSize_11 (by decide) ?_
    refine z_runV (pc := 12) (As := [.int (nI k), .int 4]) (rest := []) (ws1 := mm ca a f h c hi sn be tx ti) ⟨hx, hb, hml, hown, hts⟩ (k_X4_of l G ca a f h c hi sn be tx ti k 4 (by assumption) (by decide)) (cwV 2 hts (zgoodV zsub wq_7_10 wq_7_11 wq_7_12 wq_1_5 wq_7_13) rfl rfl rfl hdV_X4_of ⟨Nat.le_of_ble_eq_true rfl, Nat.le_of_ble_eq_true rfl⟩) hz [] zp_all zp_all' rfl rfl rfl hl.1 (Nat.le_of_ble_eq_true rfl) (st1 := [.int (c k 4)]) rfl dX4_bestSize_12 ⟨Nat.zero_le _, Nat.zero_le _⟩ (fun H locs hz => ?_)
    refine lv_iconst (v := -1) (pc := 15) hx hb dX4_bestSize_15 (by decide) ?_
    refine lv_icmp_ne (pc := 16) (tgt := 22) hx hb dX4_bestSize_16 (by decide) (fun c_16 => ?_) (fun c_16 => ?_)
    · refine lv_aload_n (pc := 22) hx hb dX4_bestSize_22 rfl (lv_at hl 0 rfl) ?_
      refine lv_iload_n (pc := 23) hx hb dX4_bestSize_23 rfl (lv_at hl 1 rfl) ?_
      refine lv_iconst (v := 0) (pc := 24) hx hb dX4_bestSize_24 (by decide) ?_
      refine z_runV (pc := 25) (As := [.int (nI k), .int 0]) (rest := []) (ws1 := mm ca a f h c hi sn be tx ti) ⟨hx, hb, hml, hown, hts⟩ (k_X4_of l G ca a f h c hi sn be tx ti k 0 (by assumption) (by decide)) (cwV 2 hts (zgoodV zsub wq_7_10 wq_7_11 wq_7_12 wq_1_5 wq_7_13) rfl rfl rfl hdV_X4_of ⟨Nat.le_of_ble_eq_true rfl, Nat.le_of_ble_eq_true rfl⟩) hz [] zp_all zp_all' rfl rfl rfl hl.1 (Nat.le_of_ble_eq_true rfl) (st1 := [.int (c k 0)]) rfl dX4_bestSize_25 ⟨Nat.zero_le _, Nat.zero_le _⟩ (fun H locs hz => ?_)
      refine lv_istore_n (lv' := [(2, .int (c k 0)), (0, .ref (a 0)), (1, .int (nI k))]) (pc := 28) hx hb dX4_bestSize_28 rfl hl (by decide) rfl (fun ls hl => ?_)
      refine lv_bipush (v := -5) (pc := 29) hx hb dX4_bestSize_29 (by decide) ?_
      refine lv_istore_n (lv' := [(3, .int (-5)), (2, .int (c k 0)), (0, .ref (a 0)), (1, .int (nI k))]) (pc := 31) hx hb dX4_bestSize_31 rfl hl (by decide) rfl (fun ls hl => ?_)
      refine lv_iconst (v := 1) (pc := 32) hx hb dX4_bestSize_32 (by decide) ?_
      refine lv_istore (lv' := [(4, .int 1), (3, .int (-5)), (2, .int (c k 0)), (0, .ref (a 0)), (1, .int (nI k))]) (pc := 33) hx hb dX4_bestSize_33 hl (by decide) rfl (fun ls hl => ?_)
      have loop1 : ∀ cnt i : Nat, i + cnt = 99 → ∀ (H : Heap) (locs : List Loc) (ls : Array Slot), zw G ca A s0.heap s0 (mm ca a f h ((szP (h, c) k i).2) hi sn (bsB (h, c) k be i) tx (bsT (h, c) k ti i)) H locs → lv_has ls 5 [(4, .int (nI (i + 1))), (3, .int (fbF (h, c) k i)), (2, .int (c k 0)), (0, .ref (a 0)), (1, .int (nI k))] → (∀ j, j + 1 < i → ¬ hotF (szP (h, c) k (j + 1)) k = c k 4) → W pg l ev rm_X4_bestSize s0 mt args below meth cd H locs 0 0 Q (F0 mt 35 ls []) := by
        intro cnt
        induction cnt with
        | zero =>
          intro i hk9 H locs ls hz hl hno
          obtain rfl : 99 = i := by omega
          have hk : k < 8 := hk0
          refine lv_iload (pc := 35) hx hb dX4_bestSize_35 (lv_at hl 0 rfl) ?_
          refine lv_bipush (v := 99) (pc := 37) hx hb dX4_bestSize_37 (by decide) ?_
          refine lv_icmp_gt (pc := 39) (tgt := 84) hx hb dX4_bestSize_39 (by decide) (fun c_39 => ?_) (fun c9 => absurd (by decide) c9)
          refine lv_aload_n (pc := 84) hx hb dX4_bestSize_84 rfl (lv_at hl 3 rfl) ?_
          refine lv_iload_n (pc := 85) hx hb dX4_bestSize_85 rfl (lv_at hl 4 rfl) ?_
          refine lv_iconst (v := 0) (pc := 86) hx hb dX4_bestSize_86 (by decide) ?_
          refine lv_iload_n (pc := 87) hx hb dX4_bestSize_87 rfl (lv_at hl 2 rfl) ?_
          refine z_runV (pc := 88) (As := [.int (nI k), .int 0, .int (c k 0)]) (rest := []) (ws1 := mm ca a f h (u2 ((szP (h, c) k 99).2) k 0 (c k 0)) hi sn (bsB (h, c) k be 99) tx (bsT (h, c) k ti 99)) ⟨hx, hb, hml, hown, hts⟩ (k_X4_lay l G ca a f h ((szP (h, c) k 99).2) hi sn (bsB (h, c) k be 99) tx (bsT (h, c) k ti 99) k 0 (c k 0) (by assumption) (by decide)) (cwV 3 hts (zgoodV zsub wq_4_12 wq_4_13 wq_4_14 wq_1_5 wq_4_15) rfl rfl rfl hdV_X4_lay ⟨Nat.le_of_ble_eq_true rfl, Nat.le_of_ble_eq_true rfl⟩) hz [] zp_all zp_all' rfl rfl rfl hl.1 (Nat.le_of_ble_eq_true rfl) (st1 := []) rfl dX4_bestSize_88 ⟨Nat.zero_le _, Nat.zero_le _⟩ (fun H locs hz => ?_)
          have hz := hz.as (show _ = mm ca a f h c hi sn (bsB (h, c) k be 99) tx (bsT (h, c) k ti 99) from by rw [szP_u, u2_same])
          refine lv_iload_n (pc := 91) hx hb dX4_bestSize_91 rfl (lv_at hl 1 rfl) ?_
          exact z_iret (pc := 92) hx hb hr hlk hQ hz dX4_bestSize_92 (by simp only [bestF, if_neg c_4, if_neg c_16, hnk]; rw [(bs_end (i := 99) (M := 99) (by decide) (by omega) hno (Or.inl rfl)).1]) (by simp only [bestB, bestT, if_neg c_4, if_neg c_16, hnk]; rw [(bs_end (i := 99) (M := 99) (by decide) (by omega) hno (Or.inl rfl)).2])
        | succ cnt ih =>
          intro i hk9 H locs ls hz hl hno
          have hk : i < 99 := by omega
          have hi9 : i < 99 := hk
          clear hk
          have hk : k < 8 := hk0
          refine lv_iload (pc := 35) hx hb dX4_bestSize_35 (lv_at hl 0 rfl) ?_
          refine lv_bipush (v := 99) (pc := 37) hx hb dX4_bestSize_37 (by decide) ?_
          refine lv_icmp_gt (pc := 39) (tgt := 84) hx hb dX4_bestSize_39 (by decide) (fun c9 => absurd c9 (nI_nlt (a := 99) (by omega) (by decide))) (fun c_39 => ?_)
          refine lv_iload_n (pc := 42) hx hb dX4_bestSize_42 rfl (lv_at hl 1 rfl) ?_
          refine lv_bipush (v := -5) (pc := 43) hx hb dX4_bestSize_43 (by decide) ?_
          refine lv_icmp_ne (pc := 45) (tgt := 84) hx hb dX4_bestSize_45 (by decide) (fun c_45 => ?_) (fun c_45 => ?_)
          · refine lv_aload_n (pc := 84) hx hb dX4_bestSize_84 rfl (lv_at hl 3 rfl) ?_
            refine lv_iload_n (pc := 85) hx hb dX4_bestSize_85 rfl (lv_at hl 4 rfl) ?_
            refine lv_iconst (v := 0) (pc := 86) hx hb dX4_bestSize_86 (by decide) ?_
            refine lv_iload_n (pc := 87) hx hb dX4_bestSize_87 rfl (lv_at hl 2 rfl) ?_
            refine z_runV (pc := 88) (As := [.int (nI k), .int 0, .int (c k 0)]) (rest := []) (ws1 := mm ca a f h (u2 ((szP (h, c) k i).2) k 0 (c k 0)) hi sn (bsB (h, c) k be i) tx (bsT (h, c) k ti i)) ⟨hx, hb, hml, hown, hts⟩ (k_X4_lay l G ca a f h ((szP (h, c) k i).2) hi sn (bsB (h, c) k be i) tx (bsT (h, c) k ti i) k 0 (c k 0) (by assumption) (by decide)) (cwV 3 hts (zgoodV zsub wq_4_12 wq_4_13 wq_4_14 wq_1_5 wq_4_15) rfl rfl rfl hdV_X4_lay ⟨Nat.le_of_ble_eq_true rfl, Nat.le_of_ble_eq_true rfl⟩) hz [] zp_all zp_all' rfl rfl rfl hl.1 (Nat.le_of_ble_eq_true rfl) (st1 := []) rfl dX4_bestSize_88 ⟨Nat.zero_le _, Nat.zero_le _⟩ (fun H locs hz => ?_)
            have hz := hz.as (show _ = mm ca a f h c hi sn (bsB (h, c) k be i) tx (bsT (h, c) k ti i) from by rw [szP_u, u2_same])
            refine lv_iload_n (pc := 91) hx hb dX4_bestSize_91 rfl (lv_at hl 1 rfl) ?_
            exact z_iret (pc := 92) hx hb hr hlk hQ hz dX4_bestSize_92 (by simp only [bestF, if_neg c_4, if_neg c_16, hnk]; rw [(bs_end (i := i) (M := 99) (by decide) (by omega) hno (Or.inr c_45)).1]) (by simp only [bestB, bestT, if_neg c_4, if_neg c_16, hnk]; rw [(bs_end (i := i) (M := 99) (by decide) (by omega) hno (Or.inr c_45)).2])
          · refine lv_aload_n (pc := 48) hx hb dX4_bestSize_48 rfl (lv_at hl 3 rfl) ?_
            refine lv_iload_n (pc := 49) hx hb dX4_bestSize_49 rfl (lv_at hl 4 rfl) ?_
            refine lv_iconst (v := 0) (pc := 50) hx hb dX4_bestSize_50 (by decide) ?_
            refine lv_iload (pc := 51) hx hb dX4_bestSize_51 (lv_at hl 0 rfl) ?_
            refine z_runV (pc := 53) (As := [.int (nI k), .int 0, .int (nI (i + 1))]) (rest := []) (ws1 := mm ca a f h (u2 ((szP (h, c) k i).2) k 0 (nI (i + 1))) hi sn (bsB (h, c) k be i) tx (bsT (h, c) k ti i)) ⟨hx, hb, hml, hown, hts⟩ (k_X4_lay l G ca a f h ((szP (h, c) k i).2) hi sn (bsB (h, c) k be i) tx (bsT (h, c) k ti i) k 0 (nI (i + 1)) (by assumption) (by decide)) (cwV 3 hts (zgoodV zsub wq_4_12 wq_4_13 wq_4_14 wq_1_5 wq_4_15) rfl rfl rfl hdV_X4_lay ⟨Nat.le_of_ble_eq_true rfl, Nat.le_of_ble_eq_true rfl⟩) hz [] zp_all zp_all' rfl rfl rfl hl.1 (Nat.le_of_ble_eq_true rfl) (st1 := []) rfl dX4_bestSize_53 ⟨Nat.zero_le _, Nat.zero_le _⟩ (fun H locs hz => ?_)
            have hz := hz.as (show _ = mm ca a f h ((szP (h, c) k (i + 1)).2) hi sn (bsB (h, c) k be i) tx (bsT (h, c) k ti i) from by rw [szP_u]; rfl)
            refine lv_aload_n (pc := 56) hx hb dX4_bestSize_56 rfl (lv_at hl 3 rfl) ?_
            refine lv_iload_n (pc := 57) hx hb dX4_bestSize_57 rfl (lv_at hl 4 rfl) ?_
            refine z_runV (pc := 58) (As := [.int (nI k)]) (rest := []) (ws1 := mm ca a f h ((szP (h, c) k (i + 1)).2) hi sn (enc h ((szP (h, c) k (i + 1)).2)) tx (tkT (szP (h, c) k (i + 1)) (bsT (h, c) k ti i) (utN (szP (h, c) k (i + 1)) k 500 0))) ⟨hx, hb, hml, hown, hts⟩ (k_X4_hourOfTip l G ca a f h ((szP (h, c) k (i + 1)).2) hi sn (bsB (h, c) k be i) tx (bsT (h, c) k ti i) k hk (hok.size k (i + 1) (by omega))) (cwV 1 hts (zgoodV zsub wq_23_23 wq_24_0 wq_24_1 wq_1_5 wq_24_2) rfl rfl rfl hdV_X4_hourOfTip ⟨Nat.le_of_ble_eq_true rfl, Nat.le_of_ble_eq_true rfl⟩) hz [] zp_all zp_all' rfl rfl rfl hl.1 (Nat.le_of_ble_eq_true rfl) (st1 := [.int (hotF (szP (h, c) k (i + 1)) k)]) rfl dX4_bestSize_58 ⟨Nat.zero_le _, Nat.zero_le _⟩ (fun H locs hz => ?_)
            refine lv_aload_n (pc := 61) hx hb dX4_bestSize_61 rfl (lv_at hl 3 rfl) ?_
            refine lv_iload_n (pc := 62) hx hb dX4_bestSize_62 rfl (lv_at hl 4 rfl) ?_
            refine lv_iconst (v := 4) (pc := 63) hx hb dX4_bestSize_63 (by decide) ?_
            refine z_runV (pc := 64) (As := [.int (nI k), .int 4]) (rest := [.int (hotF (szP (h, c) k (i + 1)) k)]) (ws1 := mm ca a f h ((szP (h, c) k (i + 1)).2) hi sn (enc h ((szP (h, c) k (i + 1)).2)) tx (tkT (szP (h, c) k (i + 1)) (bsT (h, c) k ti i) (utN (szP (h, c) k (i + 1)) k 500 0))) ⟨hx, hb, hml, hown, hts⟩ (k_X4_of l G ca a f h ((szP (h, c) k (i + 1)).2) hi sn (enc h ((szP (h, c) k (i + 1)).2)) tx (tkT (szP (h, c) k (i + 1)) (bsT (h, c) k ti i) (utN (szP (h, c) k (i + 1)) k 500 0)) k 4 (by assumption) (by decide)) (cwV 2 hts (zgoodV zsub wq_7_10 wq_7_11 wq_7_12 wq_1_5 wq_7_13) rfl rfl rfl hdV_X4_of ⟨Nat.le_of_ble_eq_true rfl, Nat.le_of_ble_eq_true rfl⟩) hz [] zp_all zp_all' rfl rfl rfl hl.1 (Nat.le_of_ble_eq_true rfl) (st1 := [.int (((szP (h, c) k (i + 1)).2) k 4), .int (hotF (szP (h, c) k (i + 1)) k)]) rfl dX4_bestSize_64 ⟨Nat.zero_le _, Nat.zero_le _⟩ (fun H locs hz => ?_)
            have J2 : ∀ (H : Heap) (locs : List Loc) (ls : Array Slot), zw G ca A s0.heap s0 (mm ca a f h ((szP (h, c) k (i + 1)).2) hi sn (enc h ((szP (h, c) k (i + 1)).2)) tx (tkT (szP (h, c) k (i + 1)) (bsT (h, c) k ti i) (utN (szP (h, c) k (i + 1)) k 500 0))) H locs → lv_has ls 5 [(4, .int (nI (i + 1))), (3, .int (fbF (h, c) k i)), (2, .int (c k 0)), (0, .ref (a 0)), (1, .int (nI k))] → W pg l ev rm_X4_bestSize s0 mt args below meth cd H locs 0 0 Q (F0 mt 77 ls [.int (fbF (h, c) k (i + 1))]) := by
              intro H locs ls hz hl
              refine lv_istore_n (lv' := [(3, .int (fbF (h, c) k (i + 1))), (4, .int (nI (i + 1))), (2, .int (c k 0)), (0, .ref (a 0)), (1, .int (nI k))]) (pc := 77) hx hb dX4_bestSize_77 rfl hl (by decide) rfl (fun ls hl => ?_)
              refine lv_iinc (v := nI (i + 1 + 1)) (lv' := [(4, .int (nI (i + 1 + 1))), (3, .int (fbF (h, c) k (i + 1))), (2, .int (c k 0)), (0, .ref (a 0)), (1, .int (nI k))]) (pc := 78) hx hb dX4_bestSize_78 hl (k := 1) rfl (nI_add (i + 1) 1) (by decide) rfl (fun ls hl => ?_)
              refine lv_goto (tgt := 35) (pc := 81) hx hb dX4_bestSize_81 (by decide) ?_
              exact ih (i + 1) (by omega) _ _ _ (hz.as (by rfl)) (lv_sub hl [0, 1, 2, 3, 4] rfl) (bs_next (p := (h, c)) (by omega) hno c_45)
            refine z_top (y := c k 4) (szP_4 _ _ _ _ _ (by decide)) ?_
            refine lv_icmp_ne (pc := 67) (tgt := 75) hx hb dX4_bestSize_67 (by decide) (fun c_67 => ?_) (fun c_67 => ?_)
            · refine lv_bipush (v := -5) (pc := 75) hx hb dX4_bestSize_75 (by decide) ?_
              exact z_top (by rw [fbF]; show _ = (if hotF (szP (h, c) k (i + 1)) k = c k 4 then nI (i + 1) else -5); simp only [if_neg c_67]) (J2 _ _ _ hz (lv_sub hl [0, 1, 2, 3, 4] rfl))
            · refine lv_iload (pc := 70) hx hb dX4_bestSize_70 (lv_at hl 0 rfl) ?_
              refine lv_goto (tgt := 77) (pc := 72) hx hb dX4_bestSize_72 (by decide) ?_
              exact z_top (by rw [fbF]; show _ = (if hotF (szP (h, c) k (i + 1)) k = c k 4 then nI (i + 1) else -5); simp only [if_pos c_67]) (J2 _ _ _ hz (lv_sub hl [0, 1, 2, 3, 4] rfl))
      exact loop1 99 0 (by omega) _ _ _ (hz.as (by rfl)) (lv_sub hl [0, 1, 2, 3, 4] rfl) (fun j hj => absurd hj (by omega))
    · refine lv_bipush (v := -4) (pc := 19) hx hb dX4_bestSize_19 (by decide) ?_
      exact z_iret (pc := 21) hx hb hr hlk hQ hz dX4_bestSize_21 (by simp only [bestF, if_neg c_4, if_pos c_16, hnk]) (by simp only [bestB, bestT, if_neg c_4, if_pos c_16, hnk])
  · refine lv_iconst (v := -1) (pc := 7) hx hb dX4_bestSize_7 (by decide) ?_
    exact z_iret (pc := 8) hx hb hr hlk hQ hz dX4_bestSize_8 (by simp only [bestF, if_pos c_4]) (by simp only [bestB, bestT, if_pos c_4])

def rm_X4_count : Room := { frames := 3, cells := 0, slots := 0, locals := 65 }
set_option maxRecDepth 20000 in
theorem hdV_X4_count : yX4_count.cls = RX4 ∧ yX4_count.cls ≠ "java/lang/invoke/MethodHandle" ∧ yX4_count.cls ≠ "java/lang/invoke/VarHandle" ∧ (parseMethodDescriptor yX4_count.desc).map (fun d => d.parameters.length) = some 1 := by decide +kernel
set_option maxHeartbeats 4000000 in
set_option maxRecDepth 100000 in
theorem k_X4_count (l : Launch) (G : va_G) (ca : Nat → ClassId) (a : Nat → Nat) (f h : Nat → Int32) (c : Nat → Nat → Int32) (hi sn be tx ti : Nat → Int32) (kp ln : Nat) (x : Int32) (hf2 : f 2 = nI kp) (hf7 : f 7 = nI ln) (hok : okP (h, c)) : Zc l G ca yX4_count (zws yX4_count cX4_count 2 (some .int)) rm_X4_count [.ref (a 0), .int x] (mm ca a f h c hi sn be tx ti) (some (.int (countR (h, c) kp ln x))) (mm ca a f h c hi sn be tx ti) := by
  refine Zc.of (cc := cX4_count) (maxL := 2) (ret := (some .int)) (by decide) rfl (Nat.le_of_ble_eq_true rfl) ?_
  intro pg ev s0 mt below meth cd A args Q ls hx hb hr hml hown hts hlk hQ hl hz
  have L116 : (Cond.fieldLink RX4 116 "CupFountainModel" "length" "I").before args s0 = true := hts _ (zsub _ wq_16_3)
  have L42 : (Cond.fieldLink RX4 42 "CupFountainModel" "kept" "I").before args s0 = true := hts _ (zsub _ wq_7_22)
  have L7 : (Cond.fieldLink RX4 7 "CupFountainModel" "s" "[I").before args s0 = true := hts _ (zsub _ wq_4_4)
  have hinX4 : ∀ w ∈ wsX40, w ∈ zws yX4_count cX4_count 2 (some .int) := fun w h => zsub w (wl_wsX40 w h)
  have hl : lv_has ls 2 [(0, .ref (a 0)), (1, .int x)] := hl
  refine lv_iload_n (pc := 0) hx hb dX4_count_0 rfl (lv_at hl 1 rfl) ?_
  rcases sw15 x with hs | rfl | rfl | rfl | rfl | rfl | rfl | rfl | rfl | rfl | rfl | rfl | rfl | rfl | rfl | rfl
  · refine lv_tableOut (tgt := 169) (pc := 1) hx hb dX4_count_1 (inF_out hs) (by decide) ?_
    refine lv_bipush (v := -2) (pc := 169) hx hb dX4_count_169 (by decide) ?_
    exact z_iret (pc := 171) hx hb hr hlk hQ hz dX4_count_171 (by simp only [countR, if_pos hs]) (by rfl)
  · refine lv_tableIn (off := 75) (tgt := 76) (pc := 1) hx hb dX4_count_1 (by decide) (by decide) (by decide) (by decide) ?_
    refine lv_aload_n (pc := 76) hx hb dX4_count_76 rfl (lv_at hl 0 rfl) ?_
    refine z_get (own := RX4) (ref := "CupFountainModel") (C := RX4) (T := TX4) (N := 17) (ci := 4) (v := .ref (a 1)) (pc := 77) hx hb hts hinX4 hown hz 0 rfl rfl 0 (by decide) L7 rfl rfl dX4_count_77 ?_
    refine lv_iconst (v := 0) (pc := 80) hx hb dX4_count_80 (by decide) ?_
    refine z_iald (x := h 0) (pc := 81) hx hb hz 1 rfl 0 rfl (by decide) (by decide) (enc_h (by decide)) dX4_count_81 ?_
    exact z_iret (pc := 82) hx hb hr hlk hQ hz dX4_count_82 (by rfl) (by rfl)
  · refine lv_tableIn (off := 82) (tgt := 83) (pc := 1) hx hb dX4_count_1 (by decide) (by decide) (by decide) (by decide) ?_
    refine lv_aload_n (pc := 83) hx hb dX4_count_83 rfl (lv_at hl 0 rfl) ?_
    refine lv_aload_n (pc := 84) hx hb dX4_count_84 rfl (lv_at hl 0 rfl) ?_
    refine z_get (own := RX4) (ref := "CupFountainModel") (C := RX4) (T := TX4) (N := 17) (ci := 4) (v := .ref (a 1)) (pc := 85) hx hb hts hinX4 hown hz 0 rfl rfl 0 (by decide) L7 rfl rfl dX4_count_85 ?_
    refine lv_iconst (v := 0) (pc := 88) hx hb dX4_count_88 (by decide) ?_
    refine z_iald (x := h 0) (pc := 89) hx hb hz 1 rfl 0 rfl (by decide) (by decide) (enc_h (by decide)) dX4_count_89 ?_
    refine z_runV (pc := 90) (As := [.int (h 0)]) (rest := []) (ws1 := mm ca a f h c hi sn be tx ti) ⟨hx, hb, hml, hown, hts⟩ (k_X4_hourOf l G ca a f h c hi sn be tx ti (h 0) hok.1) (cwV 1 hts (zgoodV zsub wq_14_19 wq_14_20 wq_14_21 wq_1_5 wq_14_22) rfl rfl rfl hdV_X4_hourOf ⟨Nat.le_of_ble_eq_true rfl, Nat.le_of_ble_eq_true rfl⟩) hz [] zp_all zp_all' rfl rfl rfl hl.1 (Nat.le_of_ble_eq_true rfl) (st1 := [.int (hrF h (h 0))]) rfl dX4_count_90 ⟨Nat.zero_le _, Nat.zero_le _⟩ (fun H locs hz => ?_)
    exact z_iret (pc := 93) hx hb hr hlk hQ hz dX4_count_93 (by rfl) (by rfl)
  · refine lv_tableIn (off := 93) (tgt := 94) (pc := 1) hx hb dX4_count_1 (by decide) (by decide) (by decide) (by decide) ?_
    refine lv_aload_n (pc := 94) hx hb dX4_count_94 rfl (lv_at hl 0 rfl) ?_
    refine lv_iconst (v := 3) (pc := 95) hx hb dX4_count_95 (by decide) ?_
    refine z_runV (pc := 96) (As := [.int 3]) (rest := []) (ws1 := mm ca a f h c hi sn be tx ti) ⟨hx, hb, hml, hown, hts⟩ (k_X4_sumOf l G ca a f h c hi sn be tx ti 3 (by decide)) (cwV 1 hts (zgoodV zsub wq_14_11 wq_14_12 wq_14_13 wq_1_5 wq_14_14) rfl rfl rfl hdV_X4_sumOf ⟨Nat.le_of_ble_eq_true rfl, Nat.le_of_ble_eq_true rfl⟩) hz [] zp_all zp_all' rfl rfl rfl hl.1 (Nat.le_of_ble_eq_true rfl) (st1 := [.int (sumF c 3 8)]) rfl dX4_count_96 ⟨Nat.zero_le _, Nat.zero_le _⟩ (fun H locs hz => ?_)
    exact z_iret (pc := 99) hx hb hr hlk hQ hz dX4_count_99 (by rfl) (by rfl)
  · refine lv_tableIn (off := 99) (tgt := 100) (pc := 1) hx hb dX4_count_1 (by decide) (by decide) (by decide) (by decide) ?_
    refine lv_aload_n (pc := 100) hx hb dX4_count_100 rfl (lv_at hl 0 rfl) ?_
    refine z_get (own := RX4) (ref := "CupFountainModel") (C := RX4) (T := TX4) (N := 17) (ci := 4) (v := .ref (a 1)) (pc := 101) hx hb hts hinX4 hown hz 0 rfl rfl 0 (by decide) L7 rfl rfl dX4_count_101 ?_
    refine lv_iconst (v := 1) (pc := 104) hx hb dX4_count_104 (by decide) ?_
    refine z_iald (x := h 1) (pc := 105) hx hb hz 1 rfl 1 rfl (by decide) (by decide) (enc_h (by decide)) dX4_count_105 ?_
    exact z_iret (pc := 106) hx hb hr hlk hQ hz dX4_count_106 (by rfl) (by rfl)
  · refine lv_tableIn (off := 106) (tgt := 107) (pc := 1) hx hb dX4_count_1 (by decide) (by decide) (by decide) (by decide) ?_
    refine lv_aload_n (pc := 107) hx hb dX4_count_107 rfl (lv_at hl 0 rfl) ?_
    refine z_get (own := RX4) (ref := "CupFountainModel") (C := RX4) (T := TX4) (N := 17) (ci := 4) (v := .ref (a 1)) (pc := 108) hx hb hts hinX4 hown hz 0 rfl rfl 0 (by decide) L7 rfl rfl dX4_count_108 ?_
    refine lv_iconst (v := 2) (pc := 111) hx hb dX4_count_111 (by decide) ?_
    refine z_iald (x := h 2) (pc := 112) hx hb hz 1 rfl 2 rfl (by decide) (by decide) (enc_h (by decide)) dX4_count_112 ?_
    exact z_iret (pc := 113) hx hb hr hlk hQ hz dX4_count_113 (by rfl) (by rfl)
  · refine lv_tableIn (off := 113) (tgt := 114) (pc := 1) hx hb dX4_count_1 (by decide) (by decide) (by decide) (by decide) ?_
    refine lv_aload_n (pc := 114) hx hb dX4_count_114 rfl (lv_at hl 0 rfl) ?_
    refine z_get (own := RX4) (ref := "CupFountainModel") (C := RX4) (T := TX4) (N := 17) (ci := 4) (v := .ref (a 1)) (pc := 115) hx hb hts hinX4 hown hz 0 rfl rfl 0 (by decide) L7 rfl rfl dX4_count_115 ?_
    refine lv_iconst (v := 3) (pc := 118) hx hb dX4_count_118 (by decide) ?_
    refine z_iald (x := h 3) (pc := 119) hx hb hz 1 rfl 3 rfl (by decide) (by decide) (enc_h (by decide)) dX4_count_119 ?_
    exact z_iret (pc := 120) hx hb hr hlk hQ hz dX4_count_120 (by rfl) (by rfl)
  · refine lv_tableIn (off := 120) (tgt := 121) (pc := 1) hx hb dX4_count_1 (by decide) (by decide) (by decide) (by decide) ?_
    refine lv_aload_n (pc := 121) hx hb dX4_count_121 rfl (lv_at hl 0 rfl) ?_
    refine z_get (own := RX4) (ref := "CupFountainModel") (C := RX4) (T := TX4) (N := 17) (ci := 4) (v := .ref (a 1)) (pc := 122) hx hb hts hinX4 hown hz 0 rfl rfl 0 (by decide) L7 rfl rfl dX4_count_122 ?_
    refine lv_iconst (v := 4) (pc := 125) hx hb dX4_count_125 (by decide) ?_
    refine z_iald (x := h 4) (pc := 126) hx hb hz 1 rfl 4 rfl (by decide) (by decide) (enc_h (by decide)) dX4_count_126 ?_
    exact z_iret (pc := 127) hx hb hr hlk hQ hz dX4_count_127 (by rfl) (by rfl)
  · refine lv_tableIn (off := 127) (tgt := 128) (pc := 1) hx hb dX4_count_1 (by decide) (by decide) (by decide) (by decide) ?_
    refine lv_aload_n (pc := 128) hx hb dX4_count_128 rfl (lv_at hl 0 rfl) ?_
    refine lv_bipush (v := 8) (pc := 129) hx hb dX4_count_129 (by decide) ?_
    refine z_runV (pc := 131) (As := [.int 8]) (rest := []) (ws1 := mm ca a f h c hi sn be tx ti) ⟨hx, hb, hml, hown, hts⟩ (k_X4_sumOf l G ca a f h c hi sn be tx ti 8 (by decide)) (cwV 1 hts (zgoodV zsub wq_14_11 wq_14_12 wq_14_13 wq_1_5 wq_14_14) rfl rfl rfl hdV_X4_sumOf ⟨Nat.le_of_ble_eq_true rfl, Nat.le_of_ble_eq_true rfl⟩) hz [] zp_all zp_all' rfl rfl rfl hl.1 (Nat.le_of_ble_eq_true rfl) (st1 := [.int (sumF c 8 8)]) rfl dX4_count_131 ⟨Nat.zero_le _, Nat.zero_le _⟩ (fun H locs hz => ?_)
    exact z_iret (pc := 134) hx hb hr hlk hQ hz dX4_count_134 (by rfl) (by rfl)
  · refine lv_tableIn (off := 134) (tgt := 135) (pc := 1) hx hb dX4_count_1 (by decide) (by decide) (by decide) (by decide) ?_
    refine lv_aload_n (pc := 135) hx hb dX4_count_135 rfl (lv_at hl 0 rfl) ?_
    refine lv_bipush (v := 9) (pc := 136) hx hb dX4_count_136 (by decide) ?_
    refine z_runV (pc := 138) (As := [.int 9]) (rest := []) (ws1 := mm ca a f h c hi sn be tx ti) ⟨hx, hb, hml, hown, hts⟩ (k_X4_sumOf l G ca a f h c hi sn be tx ti 9 (by decide)) (cwV 1 hts (zgoodV zsub wq_14_11 wq_14_12 wq_14_13 wq_1_5 wq_14_14) rfl rfl rfl hdV_X4_sumOf ⟨Nat.le_of_ble_eq_true rfl, Nat.le_of_ble_eq_true rfl⟩) hz [] zp_all zp_all' rfl rfl rfl hl.1 (Nat.le_of_ble_eq_true rfl) (st1 := [.int (sumF c 9 8)]) rfl dX4_count_138 ⟨Nat.zero_le _, Nat.zero_le _⟩ (fun H locs hz => ?_)
    exact z_iret (pc := 141) hx hb hr hlk hQ hz dX4_count_141 (by rfl) (by rfl)
  · refine lv_tableIn (off := 141) (tgt := 142) (pc := 1) hx hb dX4_count_1 (by decide) (by decide) (by decide) (by decide) ?_
    refine lv_aload_n (pc := 142) hx hb dX4_count_142 rfl (lv_at hl 0 rfl) ?_
    refine z_runV (pc := 143) (As := []) (rest := []) (ws1 := mm ca a f h c hi sn be tx ti) ⟨hx, hb, hml, hown, hts⟩ (k_X4_full l G ca a f h c hi sn be tx ti) (cwV 0 hts (zgoodV zsub wq_26_12 wq_26_13 wq_26_14 wq_1_5 wq_26_15) rfl rfl rfl hdV_X4_full ⟨Nat.le_of_ble_eq_true rfl, Nat.le_of_ble_eq_true rfl⟩) hz [] zp_all zp_all' rfl rfl rfl hl.1 (Nat.le_of_ble_eq_true rfl) (st1 := [.int (fuF c 8)]) rfl dX4_count_143 ⟨Nat.zero_le _, Nat.zero_le _⟩ (fun H locs hz => ?_)
    exact z_iret (pc := 146) hx hb hr hlk hQ hz dX4_count_146 (by rfl) (by rfl)
  · refine lv_tableIn (off := 146) (tgt := 147) (pc := 1) hx hb dX4_count_1 (by decide) (by decide) (by decide) (by decide) ?_
    refine lv_aload_n (pc := 147) hx hb dX4_count_147 rfl (lv_at hl 0 rfl) ?_
    refine z_get (own := RX4) (ref := "CupFountainModel") (C := RX4) (T := TX4) (N := 17) (ci := 4) (v := .ref (a 1)) (pc := 148) hx hb hts hinX4 hown hz 0 rfl rfl 0 (by decide) L7 rfl rfl dX4_count_148 ?_
    refine lv_iconst (v := 5) (pc := 151) hx hb dX4_count_151 (by decide) ?_
    refine lv_iload_n (pc := 152) hx hb dX4_count_152 rfl (lv_at hl 1 rfl) ?_
    refine lv_iadd (pc := 153) hx hb dX4_count_153 ?_
    refine lv_bipush (v := 10) (pc := 154) hx hb dX4_count_154 (by decide) ?_
    refine lv_isub (pc := 156) hx hb dX4_count_156 ?_
    refine z_iald (x := h 5) (pc := 157) hx hb hz 1 rfl 5 (by decide) (by decide) (by decide) (enc_h (by decide)) dX4_count_157 ?_
    exact z_iret (pc := 158) hx hb hr hlk hQ hz dX4_count_158 (by rfl) (by rfl)
  · refine lv_tableIn (off := 146) (tgt := 147) (pc := 1) hx hb dX4_count_1 (by decide) (by decide) (by decide) (by decide) ?_
    refine lv_aload_n (pc := 147) hx hb dX4_count_147 rfl (lv_at hl 0 rfl) ?_
    refine z_get (own := RX4) (ref := "CupFountainModel") (C := RX4) (T := TX4) (N := 17) (ci := 4) (v := .ref (a 1)) (pc := 148) hx hb hts hinX4 hown hz 0 rfl rfl 0 (by decide) L7 rfl rfl dX4_count_148 ?_
    refine lv_iconst (v := 5) (pc := 151) hx hb dX4_count_151 (by decide) ?_
    refine lv_iload_n (pc := 152) hx hb dX4_count_152 rfl (lv_at hl 1 rfl) ?_
    refine lv_iadd (pc := 153) hx hb dX4_count_153 ?_
    refine lv_bipush (v := 10) (pc := 154) hx hb dX4_count_154 (by decide) ?_
    refine lv_isub (pc := 156) hx hb dX4_count_156 ?_
    refine z_iald (x := h 6) (pc := 157) hx hb hz 1 rfl 6 (by decide) (by decide) (by decide) (enc_h (by decide)) dX4_count_157 ?_
    exact z_iret (pc := 158) hx hb hr hlk hQ hz dX4_count_158 (by rfl) (by rfl)
  · refine lv_tableIn (off := 146) (tgt := 147) (pc := 1) hx hb dX4_count_1 (by decide) (by decide) (by decide) (by decide) ?_
    refine lv_aload_n (pc := 147) hx hb dX4_count_147 rfl (lv_at hl 0 rfl) ?_
    refine z_get (own := RX4) (ref := "CupFountainModel") (C := RX4) (T := TX4) (N := 17) (ci := 4) (v := .ref (a 1)) (pc := 148) hx hb hts hinX4 hown hz 0 rfl rfl 0 (by decide) L7 rfl rfl dX4_count_148 ?_
    refine lv_iconst (v := 5) (pc := 151) hx hb dX4_count_151 (by decide) ?_
    refine lv_iload_n (pc := 152) hx hb dX4_count_152 rfl (lv_at hl 1 rfl) ?_
    refine lv_iadd (pc := 153) hx hb dX4_count_153 ?_
    refine lv_bipush (v := 10) (pc := 154) hx hb dX4_count_154 (by decide) ?_
    refine lv_isub (pc := 156) hx hb dX4_count_156 ?_
    refine z_iald (x := h 7) (pc := 157) hx hb hz 1 rfl 7 (by decide) (by decide) (by decide) (enc_h (by decide)) dX4_count_157 ?_
    exact z_iret (pc := 158) hx hb hr hlk hQ hz dX4_count_158 (by rfl) (by rfl)
  · refine lv_tableIn (off := 158) (tgt := 159) (pc := 1) hx hb dX4_count_1 (by decide) (by decide) (by decide) (by decide) ?_
    refine lv_aload_n (pc := 159) hx hb dX4_count_159 rfl (lv_at hl 0 rfl) ?_
    refine z_get (own := RX4) (ref := "CupFountainModel") (C := RX4) (T := TX4) (N := 17) (ci := 4) (v := .int (f 2)) (pc := 160) hx hb hts hinX4 hown hz 0 rfl rfl 2 (by decide) L42 rfl rfl dX4_count_160 ?_
    refine z_top (y := nI kp) hf2 ?_
    exact z_iret (pc := 163) hx hb hr hlk hQ hz dX4_count_163 (by rfl) (by rfl)
  · refine lv_tableIn (off := 163) (tgt := 164) (pc := 1) hx hb dX4_count_1 (by decide) (by decide) (by decide) (by decide) ?_
    refine lv_aload_n (pc := 164) hx hb dX4_count_164 rfl (lv_at hl 0 rfl) ?_
    refine z_get (own := RX4) (ref := "CupFountainModel") (C := RX4) (T := TX4) (N := 17) (ci := 4) (v := .int (f 7)) (pc := 165) hx hb hts hinX4 hown hz 0 rfl rfl 7 (by decide) L116 rfl rfl dX4_count_165 ?_
    refine z_top (y := nI ln) hf7 ?_
    exact z_iret (pc := 168) hx hb hr hlk hQ hz dX4_count_168 (by rfl) (by rfl)
end
