section
-- ===== PART A: goes FIRST, ahead of the names: the tables' words, and 'selects' of the private methods out of them =====
/-- a private method of a class that the tables say can be made, by its rows of tables_1 -/
def lw_okq (q : MethodName × Nat) : Prop := (q.1.cls ≠ "java/lang/invoke/MethodHandle" ∧ q.1.cls ≠ "java/lang/invoke/VarHandle") ∧ Cond.instantiable q.1.cls q.2 ∈ tables_1 ∧ Cond.privateMethod q.1 ∈ tables_1 ∧ Cond.instanceMethod q.1 ∈ tables_1
theorem lw_p0 : lw_okq (⟨"MeterPool$History", "dropOldest", "()V"⟩, 2) := ⟨⟨by decide +kernel, by decide +kernel⟩, List.mem_of_getElem? (i := 167) (by decide +kernel), List.mem_of_getElem? (i := 246) (by decide +kernel), List.mem_of_getElem? (i := 247) (by decide +kernel)⟩
theorem lw_p1 : lw_okq (⟨"MeterPool", "isHouse", "(I)Z"⟩, 6) := ⟨⟨by decide +kernel, by decide +kernel⟩, List.mem_of_getElem? (i := 13) (by decide +kernel), List.mem_of_getElem? (i := 284) (by decide +kernel), List.mem_of_getElem? (i := 285) (by decide +kernel)⟩
theorem lw_p2 : lw_okq (⟨"MeterPool$Loans", "sumOwed", "([II)I"⟩, 4) := ⟨⟨by decide +kernel, by decide +kernel⟩, List.mem_of_getElem? (i := 79) (by decide +kernel), List.mem_of_getElem? (i := 338) (by decide +kernel), List.mem_of_getElem? (i := 339) (by decide +kernel)⟩
theorem lw_p3 : lw_okq (⟨"MeterPool$Village", "payLoans", "(II)V"⟩, 11) := ⟨⟨by decide +kernel, by decide +kernel⟩, List.mem_of_getElem? (i := 21) (by decide +kernel), List.mem_of_getElem? (i := 342) (by decide +kernel), List.mem_of_getElem? (i := 343) (by decide +kernel)⟩
theorem lw_p4 : lw_okq (⟨"MeterPool", "isLoan", "(I)Z"⟩, 6) := ⟨⟨by decide +kernel, by decide +kernel⟩, List.mem_of_getElem? (i := 13) (by decide +kernel), List.mem_of_getElem? (i := 366) (by decide +kernel), List.mem_of_getElem? (i := 367) (by decide +kernel)⟩
theorem lw_p5 : lw_okq (⟨"MeterPool$Loans", "firstOpposed", "()I"⟩, 4) := ⟨⟨by decide +kernel, by decide +kernel⟩, List.mem_of_getElem? (i := 79) (by decide +kernel), List.mem_of_getElem? (i := 379) (by decide +kernel), List.mem_of_getElem? (i := 380) (by decide +kernel)⟩
theorem lw_p6 : lw_okq (⟨"MeterPool$Loans", "opposedTo", "(I)I"⟩, 4) := ⟨⟨by decide +kernel, by decide +kernel⟩, List.mem_of_getElem? (i := 79) (by decide +kernel), List.mem_of_getElem? (i := 383) (by decide +kernel), List.mem_of_getElem? (i := 384) (by decide +kernel)⟩
theorem lw_p7 : lw_okq (⟨"MeterPool$Village", "passHour", "()V"⟩, 11) := ⟨⟨by decide +kernel, by decide +kernel⟩, List.mem_of_getElem? (i := 21) (by decide +kernel), List.mem_of_getElem? (i := 437) (by decide +kernel), List.mem_of_getElem? (i := 438) (by decide +kernel)⟩
theorem lw_p8 : lw_okq (⟨"MeterPool$Village", "shed", "(I)V"⟩, 11) := ⟨⟨by decide +kernel, by decide +kernel⟩, List.mem_of_getElem? (i := 21) (by decide +kernel), List.mem_of_getElem? (i := 459) (by decide +kernel), List.mem_of_getElem? (i := 460) (by decide +kernel)⟩
theorem lw_p9 : lw_okq (⟨"MeterPool$Village", "serve", "(I)I"⟩, 11) := ⟨⟨by decide +kernel, by decide +kernel⟩, List.mem_of_getElem? (i := 21) (by decide +kernel), List.mem_of_getElem? (i := 475) (by decide +kernel), List.mem_of_getElem? (i := 476) (by decide +kernel)⟩
theorem lw_p10 : lw_okq (⟨"MeterPool$Village", "partOf", "(II)I"⟩, 11) := ⟨⟨by decide +kernel, by decide +kernel⟩, List.mem_of_getElem? (i := 21) (by decide +kernel), List.mem_of_getElem? (i := 479) (by decide +kernel), List.mem_of_getElem? (i := 480) (by decide +kernel)⟩
theorem lw_p11 : lw_okq (⟨"MeterPool$Houses", "reasonOf", "(IZ)I"⟩, 11) := ⟨⟨by decide +kernel, by decide +kernel⟩, List.mem_of_getElem? (i := 27) (by decide +kernel), List.mem_of_getElem? (i := 487) (by decide +kernel), List.mem_of_getElem? (i := 488) (by decide +kernel)⟩
theorem lw_p12 : lw_okq (⟨"MeterPool$Village", "store", "(I)V"⟩, 11) := ⟨⟨by decide +kernel, by decide +kernel⟩, List.mem_of_getElem? (i := 21) (by decide +kernel), List.mem_of_getElem? (i := 495) (by decide +kernel), List.mem_of_getElem? (i := 496) (by decide +kernel)⟩
theorem lw_p13 : lw_okq (⟨"MeterPool$ListText", "next", "(II)I"⟩, 6) := ⟨⟨by decide +kernel, by decide +kernel⟩, List.mem_of_getElem? (i := 184) (by decide +kernel), List.mem_of_getElem? (i := 527) (by decide +kernel), List.mem_of_getElem? (i := 528) (by decide +kernel)⟩
theorem lw_p14 : lw_okq (⟨"MeterPool$ListText", "beginNumber", "(I)I"⟩, 6) := ⟨⟨by decide +kernel, by decide +kernel⟩, List.mem_of_getElem? (i := 184) (by decide +kernel), List.mem_of_getElem? (i := 531) (by decide +kernel), List.mem_of_getElem? (i := 532) (by decide +kernel)⟩
theorem lw_p15 : lw_okq (⟨"MeterPool$ListText", "inNumber", "(I)I"⟩, 6) := ⟨⟨by decide +kernel, by decide +kernel⟩, List.mem_of_getElem? (i := 184) (by decide +kernel), List.mem_of_getElem? (i := 538) (by decide +kernel), List.mem_of_getElem? (i := 539) (by decide +kernel)⟩
def lw_privs_1 : List (MethodName × Nat) := [(⟨"MeterPool$History", "dropOldest", "()V"⟩, 2), (⟨"MeterPool", "isHouse", "(I)Z"⟩, 6), (⟨"MeterPool$Loans", "sumOwed", "([II)I"⟩, 4), (⟨"MeterPool$Village", "payLoans", "(II)V"⟩, 11), (⟨"MeterPool", "isLoan", "(I)Z"⟩, 6), (⟨"MeterPool$Loans", "firstOpposed", "()I"⟩, 4), (⟨"MeterPool$Loans", "opposedTo", "(I)I"⟩, 4), (⟨"MeterPool$Village", "passHour", "()V"⟩, 11), (⟨"MeterPool$Village", "shed", "(I)V"⟩, 11), (⟨"MeterPool$Village", "serve", "(I)I"⟩, 11), (⟨"MeterPool$Village", "partOf", "(II)I"⟩, 11), (⟨"MeterPool$Houses", "reasonOf", "(IZ)I"⟩, 11), (⟨"MeterPool$Village", "store", "(I)V"⟩, 11), (⟨"MeterPool$ListText", "next", "(II)I"⟩, 6), (⟨"MeterPool$ListText", "beginNumber", "(I)I"⟩, 6), (⟨"MeterPool$ListText", "inNumber", "(I)I"⟩, 6)]
theorem lw_r1 : ∀ q ∈ lw_privs_1, lw_okq q := List.forall_mem_cons.mpr ⟨lw_p0, List.forall_mem_cons.mpr ⟨lw_p1, List.forall_mem_cons.mpr ⟨lw_p2, List.forall_mem_cons.mpr ⟨lw_p3, List.forall_mem_cons.mpr ⟨lw_p4, List.forall_mem_cons.mpr ⟨lw_p5, List.forall_mem_cons.mpr ⟨lw_p6, List.forall_mem_cons.mpr ⟨lw_p7, List.forall_mem_cons.mpr ⟨lw_p8, List.forall_mem_cons.mpr ⟨lw_p9, List.forall_mem_cons.mpr ⟨lw_p10, List.forall_mem_cons.mpr ⟨lw_p11, List.forall_mem_cons.mpr ⟨lw_p12, List.forall_mem_cons.mpr ⟨lw_p13, List.forall_mem_cons.mpr ⟨lw_p14, List.forall_mem_cons.mpr ⟨lw_p15, fun _ h => absurd h List.not_mem_nil⟩⟩⟩⟩⟩⟩⟩⟩⟩⟩⟩⟩⟩⟩⟩⟩
theorem lw_p16 : lw_okq (⟨"MeterPool$ListText", "endItem", "(I)I"⟩, 6) := ⟨⟨by decide +kernel, by decide +kernel⟩, List.mem_of_getElem? (i := 184) (by decide +kernel), List.mem_of_getElem? (i := 542) (by decide +kernel), List.mem_of_getElem? (i := 543) (by decide +kernel)⟩
theorem lw_p17 : lw_okq (⟨"MeterPool$ListText", "beginTimes", "(I)I"⟩, 6) := ⟨⟨by decide +kernel, by decide +kernel⟩, List.mem_of_getElem? (i := 184) (by decide +kernel), List.mem_of_getElem? (i := 547) (by decide +kernel), List.mem_of_getElem? (i := 548) (by decide +kernel)⟩
theorem lw_p18 : lw_okq (⟨"MeterPool$ListText", "inTimes", "(I)I"⟩, 6) := ⟨⟨by decide +kernel, by decide +kernel⟩, List.mem_of_getElem? (i := 184) (by decide +kernel), List.mem_of_getElem? (i := 551) (by decide +kernel), List.mem_of_getElem? (i := 552) (by decide +kernel)⟩
theorem lw_p19 : lw_okq (⟨"MeterPool$ListText", "isWhole", "(I)Z"⟩, 6) := ⟨⟨by decide +kernel, by decide +kernel⟩, List.mem_of_getElem? (i := 184) (by decide +kernel), List.mem_of_getElem? (i := 555) (by decide +kernel), List.mem_of_getElem? (i := 556) (by decide +kernel)⟩
theorem lw_p20 : lw_okq (⟨"MeterPool", "seenAhead", "(I)I"⟩, 6) := ⟨⟨by decide +kernel, by decide +kernel⟩, List.mem_of_getElem? (i := 13) (by decide +kernel), List.mem_of_getElem? (i := 650) (by decide +kernel), List.mem_of_getElem? (i := 651) (by decide +kernel)⟩
theorem lw_p21 : lw_okq (⟨"MeterPool", "wouldServe", "(III)Z"⟩, 6) := ⟨⟨by decide +kernel, by decide +kernel⟩, List.mem_of_getElem? (i := 13) (by decide +kernel), List.mem_of_getElem? (i := 679) (by decide +kernel), List.mem_of_getElem? (i := 680) (by decide +kernel)⟩
theorem lw_p22 : lw_okq (⟨"MeterPool", "mixTotals", "(J)J"⟩, 6) := ⟨⟨by decide +kernel, by decide +kernel⟩, List.mem_of_getElem? (i := 13) (by decide +kernel), List.mem_of_getElem? (i := 693) (by decide +kernel), List.mem_of_getElem? (i := 694) (by decide +kernel)⟩
theorem lw_p23 : lw_okq (⟨"MeterPool", "mixHouses", "(J)J"⟩, 6) := ⟨⟨by decide +kernel, by decide +kernel⟩, List.mem_of_getElem? (i := 13) (by decide +kernel), List.mem_of_getElem? (i := 704) (by decide +kernel), List.mem_of_getElem? (i := 705) (by decide +kernel)⟩
theorem lw_p24 : lw_okq (⟨"MeterPool", "mixLoans", "(J)J"⟩, 6) := ⟨⟨by decide +kernel, by decide +kernel⟩, List.mem_of_getElem? (i := 13) (by decide +kernel), List.mem_of_getElem? (i := 709) (by decide +kernel), List.mem_of_getElem? (i := 710) (by decide +kernel)⟩
theorem lw_p25 : lw_okq (⟨"MeterPool", "mixPlant", "(J)J"⟩, 6) := ⟨⟨by decide +kernel, by decide +kernel⟩, List.mem_of_getElem? (i := 13) (by decide +kernel), List.mem_of_getElem? (i := 714) (by decide +kernel), List.mem_of_getElem? (i := 715) (by decide +kernel)⟩
theorem lw_p26 : lw_okq (⟨"MeterPool", "mixAhead", "(J)J"⟩, 6) := ⟨⟨by decide +kernel, by decide +kernel⟩, List.mem_of_getElem? (i := 13) (by decide +kernel), List.mem_of_getElem? (i := 721) (by decide +kernel), List.mem_of_getElem? (i := 722) (by decide +kernel)⟩
theorem lw_p27 : lw_okq (⟨"MeterPool", "mixText", "(J)J"⟩, 6) := ⟨⟨by decide +kernel, by decide +kernel⟩, List.mem_of_getElem? (i := 13) (by decide +kernel), List.mem_of_getElem? (i := 732) (by decide +kernel), List.mem_of_getElem? (i := 733) (by decide +kernel)⟩
theorem lw_p28 : lw_okq (⟨"MeterPoolModel", "record", "()V"⟩, 16) := ⟨⟨by decide +kernel, by decide +kernel⟩, List.mem_of_getElem? (i := 736) (by decide +kernel), List.mem_of_getElem? (i := 800) (by decide +kernel), List.mem_of_getElem? (i := 801) (by decide +kernel)⟩
theorem lw_p29 : lw_okq (⟨"MeterPoolModel", "copy", "([II[II)V"⟩, 16) := ⟨⟨by decide +kernel, by decide +kernel⟩, List.mem_of_getElem? (i := 736) (by decide +kernel), List.mem_of_getElem? (i := 804) (by decide +kernel), List.mem_of_getElem? (i := 805) (by decide +kernel)⟩
theorem lw_p30 : lw_okq (⟨"MeterPoolModel", "isHouse", "(I)Z"⟩, 16) := ⟨⟨by decide +kernel, by decide +kernel⟩, List.mem_of_getElem? (i := 736) (by decide +kernel), List.mem_of_getElem? (i := 812) (by decide +kernel), List.mem_of_getElem? (i := 813) (by decide +kernel)⟩
theorem lw_p31 : lw_okq (⟨"MeterPoolModel", "of", "(II)I"⟩, 16) := ⟨⟨by decide +kernel, by decide +kernel⟩, List.mem_of_getElem? (i := 736) (by decide +kernel), List.mem_of_getElem? (i := 819) (by decide +kernel), List.mem_of_getElem? (i := 820) (by decide +kernel)⟩
def lw_privs_2 : List (MethodName × Nat) := [(⟨"MeterPool$ListText", "endItem", "(I)I"⟩, 6), (⟨"MeterPool$ListText", "beginTimes", "(I)I"⟩, 6), (⟨"MeterPool$ListText", "inTimes", "(I)I"⟩, 6), (⟨"MeterPool$ListText", "isWhole", "(I)Z"⟩, 6), (⟨"MeterPool", "seenAhead", "(I)I"⟩, 6), (⟨"MeterPool", "wouldServe", "(III)Z"⟩, 6), (⟨"MeterPool", "mixTotals", "(J)J"⟩, 6), (⟨"MeterPool", "mixHouses", "(J)J"⟩, 6), (⟨"MeterPool", "mixLoans", "(J)J"⟩, 6), (⟨"MeterPool", "mixPlant", "(J)J"⟩, 6), (⟨"MeterPool", "mixAhead", "(J)J"⟩, 6), (⟨"MeterPool", "mixText", "(J)J"⟩, 6), (⟨"MeterPoolModel", "record", "()V"⟩, 16), (⟨"MeterPoolModel", "copy", "([II[II)V"⟩, 16), (⟨"MeterPoolModel", "isHouse", "(I)Z"⟩, 16), (⟨"MeterPoolModel", "of", "(II)I"⟩, 16)]
theorem lw_r2 : ∀ q ∈ lw_privs_2, lw_okq q := List.forall_mem_cons.mpr ⟨lw_p16, List.forall_mem_cons.mpr ⟨lw_p17, List.forall_mem_cons.mpr ⟨lw_p18, List.forall_mem_cons.mpr ⟨lw_p19, List.forall_mem_cons.mpr ⟨lw_p20, List.forall_mem_cons.mpr ⟨lw_p21, List.forall_mem_cons.mpr ⟨lw_p22, List.forall_mem_cons.mpr ⟨lw_p23, List.forall_mem_cons.mpr ⟨lw_p24, List.forall_mem_cons.mpr ⟨lw_p25, List.forall_mem_cons.mpr ⟨lw_p26, List.forall_mem_cons.mpr ⟨lw_p27, List.forall_mem_cons.mpr ⟨lw_p28, List.forall_mem_cons.mpr ⟨lw_p29, List.forall_mem_cons.mpr ⟨lw_p30, List.forall_mem_cons.mpr ⟨lw_p31, fun _ h => absurd h List.not_mem_nil⟩⟩⟩⟩⟩⟩⟩⟩⟩⟩⟩⟩⟩⟩⟩⟩
theorem lw_p32 : lw_okq (⟨"MeterPoolModel", "owed", "(II)I"⟩, 16) := ⟨⟨by decide +kernel, by decide +kernel⟩, List.mem_of_getElem? (i := 736) (by decide +kernel), List.mem_of_getElem? (i := 827) (by decide +kernel), List.mem_of_getElem? (i := 828) (by decide +kernel)⟩
theorem lw_p33 : lw_okq (⟨"MeterPoolModel", "loanOf", "(II)I"⟩, 16) := ⟨⟨by decide +kernel, by decide +kernel⟩, List.mem_of_getElem? (i := 736) (by decide +kernel), List.mem_of_getElem? (i := 831) (by decide +kernel), List.mem_of_getElem? (i := 832) (by decide +kernel)⟩
theorem lw_p34 : lw_okq (⟨"MeterPoolModel", "token", "(II)V"⟩, 16) := ⟨⟨by decide +kernel, by decide +kernel⟩, List.mem_of_getElem? (i := 736) (by decide +kernel), List.mem_of_getElem? (i := 840) (by decide +kernel), List.mem_of_getElem? (i := 841) (by decide +kernel)⟩
theorem lw_p35 : lw_okq (⟨"MeterPoolModel", "setting1", "(I)I"⟩, 16) := ⟨⟨by decide +kernel, by decide +kernel⟩, List.mem_of_getElem? (i := 736) (by decide +kernel), List.mem_of_getElem? (i := 844) (by decide +kernel), List.mem_of_getElem? (i := 845) (by decide +kernel)⟩
theorem lw_p36 : lw_okq (⟨"MeterPoolModel", "add", "(III)V"⟩, 16) := ⟨⟨by decide +kernel, by decide +kernel⟩, List.mem_of_getElem? (i := 736) (by decide +kernel), List.mem_of_getElem? (i := 848) (by decide +kernel), List.mem_of_getElem? (i := 849) (by decide +kernel)⟩
theorem lw_p37 : lw_okq (⟨"MeterPoolModel", "dropPaid", "()V"⟩, 16) := ⟨⟨by decide +kernel, by decide +kernel⟩, List.mem_of_getElem? (i := 736) (by decide +kernel), List.mem_of_getElem? (i := 852) (by decide +kernel), List.mem_of_getElem? (i := 853) (by decide +kernel)⟩
theorem lw_p38 : lw_okq (⟨"MeterPoolModel", "isLoan", "(I)Z"⟩, 16) := ⟨⟨by decide +kernel, by decide +kernel⟩, List.mem_of_getElem? (i := 736) (by decide +kernel), List.mem_of_getElem? (i := 864) (by decide +kernel), List.mem_of_getElem? (i := 865) (by decide +kernel)⟩
theorem lw_p39 : lw_okq (⟨"MeterPoolModel", "netOnce", "()I"⟩, 16) := ⟨⟨by decide +kernel, by decide +kernel⟩, List.mem_of_getElem? (i := 736) (by decide +kernel), List.mem_of_getElem? (i := 872) (by decide +kernel), List.mem_of_getElem? (i := 873) (by decide +kernel)⟩
theorem lw_p40 : lw_okq (⟨"MeterPoolModel", "against", "(I)I"⟩, 16) := ⟨⟨by decide +kernel, by decide +kernel⟩, List.mem_of_getElem? (i := 736) (by decide +kernel), List.mem_of_getElem? (i := 876) (by decide +kernel), List.mem_of_getElem? (i := 877) (by decide +kernel)⟩
theorem lw_p41 : lw_okq (⟨"MeterPoolModel", "pass", "()V"⟩, 16) := ⟨⟨by decide +kernel, by decide +kernel⟩, List.mem_of_getElem? (i := 736) (by decide +kernel), List.mem_of_getElem? (i := 899) (by decide +kernel), List.mem_of_getElem? (i := 900) (by decide +kernel)⟩
theorem lw_p42 : lw_okq (⟨"MeterPoolModel", "supplyAt", "(I)I"⟩, 16) := ⟨⟨by decide +kernel, by decide +kernel⟩, List.mem_of_getElem? (i := 736) (by decide +kernel), List.mem_of_getElem? (i := 903) (by decide +kernel), List.mem_of_getElem? (i := 904) (by decide +kernel)⟩
theorem lw_p43 : lw_okq (⟨"MeterPoolModel", "canGive", "(I)I"⟩, 16) := ⟨⟨by decide +kernel, by decide +kernel⟩, List.mem_of_getElem? (i := 736) (by decide +kernel), List.mem_of_getElem? (i := 907) (by decide +kernel), List.mem_of_getElem? (i := 908) (by decide +kernel)⟩
theorem lw_p44 : lw_okq (⟨"MeterPoolModel", "cell", "(II)I"⟩, 16) := ⟨⟨by decide +kernel, by decide +kernel⟩, List.mem_of_getElem? (i := 736) (by decide +kernel), List.mem_of_getElem? (i := 911) (by decide +kernel), List.mem_of_getElem? (i := 912) (by decide +kernel)⟩
theorem lw_p45 : lw_okq (⟨"MeterPoolModel", "canDraw", "(I)I"⟩, 16) := ⟨⟨by decide +kernel, by decide +kernel⟩, List.mem_of_getElem? (i := 736) (by decide +kernel), List.mem_of_getElem? (i := 915) (by decide +kernel), List.mem_of_getElem? (i := 916) (by decide +kernel)⟩
theorem lw_p46 : lw_okq (⟨"MeterPoolModel", "wanted", "()I"⟩, 16) := ⟨⟨by decide +kernel, by decide +kernel⟩, List.mem_of_getElem? (i := 736) (by decide +kernel), List.mem_of_getElem? (i := 919) (by decide +kernel), List.mem_of_getElem? (i := 920) (by decide +kernel)⟩
theorem lw_p47 : lw_okq (⟨"MeterPoolModel", "shed", "()V"⟩, 16) := ⟨⟨by decide +kernel, by decide +kernel⟩, List.mem_of_getElem? (i := 736) (by decide +kernel), List.mem_of_getElem? (i := 923) (by decide +kernel), List.mem_of_getElem? (i := 924) (by decide +kernel)⟩
def lw_privs_3 : List (MethodName × Nat) := [(⟨"MeterPoolModel", "owed", "(II)I"⟩, 16), (⟨"MeterPoolModel", "loanOf", "(II)I"⟩, 16), (⟨"MeterPoolModel", "token", "(II)V"⟩, 16), (⟨"MeterPoolModel", "setting1", "(I)I"⟩, 16), (⟨"MeterPoolModel", "add", "(III)V"⟩, 16), (⟨"MeterPoolModel", "dropPaid", "()V"⟩, 16), (⟨"MeterPoolModel", "isLoan", "(I)Z"⟩, 16), (⟨"MeterPoolModel", "netOnce", "()I"⟩, 16), (⟨"MeterPoolModel", "against", "(I)I"⟩, 16), (⟨"MeterPoolModel", "pass", "()V"⟩, 16), (⟨"MeterPoolModel", "supplyAt", "(I)I"⟩, 16), (⟨"MeterPoolModel", "canGive", "(I)I"⟩, 16), (⟨"MeterPoolModel", "cell", "(II)I"⟩, 16), (⟨"MeterPoolModel", "canDraw", "(I)I"⟩, 16), (⟨"MeterPoolModel", "wanted", "()I"⟩, 16), (⟨"MeterPoolModel", "shed", "()V"⟩, 16)]
theorem lw_r3 : ∀ q ∈ lw_privs_3, lw_okq q := List.forall_mem_cons.mpr ⟨lw_p32, List.forall_mem_cons.mpr ⟨lw_p33, List.forall_mem_cons.mpr ⟨lw_p34, List.forall_mem_cons.mpr ⟨lw_p35, List.forall_mem_cons.mpr ⟨lw_p36, List.forall_mem_cons.mpr ⟨lw_p37, List.forall_mem_cons.mpr ⟨lw_p38, List.forall_mem_cons.mpr ⟨lw_p39, List.forall_mem_cons.mpr ⟨lw_p40, List.forall_mem_cons.mpr ⟨lw_p41, List.forall_mem_cons.mpr ⟨lw_p42, List.forall_mem_cons.mpr ⟨lw_p43, List.forall_mem_cons.mpr ⟨lw_p44, List.forall_mem_cons.mpr ⟨lw_p45, List.forall_mem_cons.mpr ⟨lw_p46, List.forall_mem_cons.mpr ⟨lw_p47, fun _ h => absurd h List.not_mem_nil⟩⟩⟩⟩⟩⟩⟩⟩⟩⟩⟩⟩⟩⟩⟩⟩
theorem lw_p48 : lw_okq (⟨"MeterPoolModel", "serve", "(I)I"⟩, 16) := ⟨⟨by decide +kernel, by decide +kernel⟩, List.mem_of_getElem? (i := 736) (by decide +kernel), List.mem_of_getElem? (i := 927) (by decide +kernel), List.mem_of_getElem? (i := 928) (by decide +kernel)⟩
theorem lw_p49 : lw_okq (⟨"MeterPoolModel", "why", "(I)I"⟩, 16) := ⟨⟨by decide +kernel, by decide +kernel⟩, List.mem_of_getElem? (i := 736) (by decide +kernel), List.mem_of_getElem? (i := 931) (by decide +kernel), List.mem_of_getElem? (i := 932) (by decide +kernel)⟩
theorem lw_p50 : lw_okq (⟨"MeterPoolModel", "take", "(I)V"⟩, 16) := ⟨⟨by decide +kernel, by decide +kernel⟩, List.mem_of_getElem? (i := 736) (by decide +kernel), List.mem_of_getElem? (i := 935) (by decide +kernel), List.mem_of_getElem? (i := 936) (by decide +kernel)⟩
theorem lw_p51 : lw_okq (⟨"MeterPoolModel", "charge", "(I)V"⟩, 16) := ⟨⟨by decide +kernel, by decide +kernel⟩, List.mem_of_getElem? (i := 736) (by decide +kernel), List.mem_of_getElem? (i := 939) (by decide +kernel), List.mem_of_getElem? (i := 940) (by decide +kernel)⟩
theorem lw_p52 : lw_okq (⟨"MeterPoolModel", "faultNow", "()I"⟩, 16) := ⟨⟨by decide +kernel, by decide +kernel⟩, List.mem_of_getElem? (i := 736) (by decide +kernel), List.mem_of_getElem? (i := 955) (by decide +kernel), List.mem_of_getElem? (i := 956) (by decide +kernel)⟩
theorem lw_p53 : lw_okq (⟨"MeterPoolModel", "beginItem", "()V"⟩, 16) := ⟨⟨by decide +kernel, by decide +kernel⟩, List.mem_of_getElem? (i := 736) (by decide +kernel), List.mem_of_getElem? (i := 959) (by decide +kernel), List.mem_of_getElem? (i := 960) (by decide +kernel)⟩
theorem lw_p54 : lw_okq (⟨"MeterPoolModel", "takes", "(I)Z"⟩, 16) := ⟨⟨by decide +kernel, by decide +kernel⟩, List.mem_of_getElem? (i := 736) (by decide +kernel), List.mem_of_getElem? (i := 963) (by decide +kernel), List.mem_of_getElem? (i := 964) (by decide +kernel)⟩
theorem lw_p55 : lw_okq (⟨"MeterPoolModel", "isItem", "()Z"⟩, 16) := ⟨⟨by decide +kernel, by decide +kernel⟩, List.mem_of_getElem? (i := 736) (by decide +kernel), List.mem_of_getElem? (i := 967) (by decide +kernel), List.mem_of_getElem? (i := 968) (by decide +kernel)⟩
theorem lw_p56 : lw_okq (⟨"MeterPoolModel", "endItem", "()V"⟩, 16) := ⟨⟨by decide +kernel, by decide +kernel⟩, List.mem_of_getElem? (i := 736) (by decide +kernel), List.mem_of_getElem? (i := 971) (by decide +kernel), List.mem_of_getElem? (i := 972) (by decide +kernel)⟩
theorem lw_p57 : lw_okq (⟨"MeterPoolModel", "takesDigit", "(I)Z"⟩, 16) := ⟨⟨by decide +kernel, by decide +kernel⟩, List.mem_of_getElem? (i := 736) (by decide +kernel), List.mem_of_getElem? (i := 975) (by decide +kernel), List.mem_of_getElem? (i := 976) (by decide +kernel)⟩
theorem lw_p58 : lw_okq (⟨"MeterPoolModel", "takesCount", "(I)Z"⟩, 16) := ⟨⟨by decide +kernel, by decide +kernel⟩, List.mem_of_getElem? (i := 736) (by decide +kernel), List.mem_of_getElem? (i := 979) (by decide +kernel), List.mem_of_getElem? (i := 980) (by decide +kernel)⟩
theorem lw_p59 : lw_okq (⟨"MeterPoolModel", "houseNow", "(II)I"⟩, 16) := ⟨⟨by decide +kernel, by decide +kernel⟩, List.mem_of_getElem? (i := 736) (by decide +kernel), List.mem_of_getElem? (i := 1003) (by decide +kernel), List.mem_of_getElem? (i := 1004) (by decide +kernel)⟩
theorem lw_p60 : lw_okq (⟨"MeterPoolModel", "batteryNow", "(II)I"⟩, 16) := ⟨⟨by decide +kernel, by decide +kernel⟩, List.mem_of_getElem? (i := 736) (by decide +kernel), List.mem_of_getElem? (i := 1015) (by decide +kernel), List.mem_of_getElem? (i := 1016) (by decide +kernel)⟩
theorem lw_p61 : lw_okq (⟨"MeterPoolModel", "feederNow", "(II)I"⟩, 16) := ⟨⟨by decide +kernel, by decide +kernel⟩, List.mem_of_getElem? (i := 736) (by decide +kernel), List.mem_of_getElem? (i := 1023) (by decide +kernel), List.mem_of_getElem? (i := 1024) (by decide +kernel)⟩
theorem lw_p62 : lw_okq (⟨"MeterPoolModel", "ofHouses", "(II)I"⟩, 16) := ⟨⟨by decide +kernel, by decide +kernel⟩, List.mem_of_getElem? (i := 736) (by decide +kernel), List.mem_of_getElem? (i := 1027) (by decide +kernel), List.mem_of_getElem? (i := 1028) (by decide +kernel)⟩
theorem lw_p63 : lw_okq (⟨"MeterPoolModel", "accountNow", "(I)I"⟩, 16) := ⟨⟨by decide +kernel, by decide +kernel⟩, List.mem_of_getElem? (i := 736) (by decide +kernel), List.mem_of_getElem? (i := 1035) (by decide +kernel), List.mem_of_getElem? (i := 1036) (by decide +kernel)⟩
def lw_privs_4 : List (MethodName × Nat) := [(⟨"MeterPoolModel", "serve", "(I)I"⟩, 16), (⟨"MeterPoolModel", "why", "(I)I"⟩, 16), (⟨"MeterPoolModel", "take", "(I)V"⟩, 16), (⟨"MeterPoolModel", "charge", "(I)V"⟩, 16), (⟨"MeterPoolModel", "faultNow", "()I"⟩, 16), (⟨"MeterPoolModel", "beginItem", "()V"⟩, 16), (⟨"MeterPoolModel", "takes", "(I)Z"⟩, 16), (⟨"MeterPoolModel", "isItem", "()Z"⟩, 16), (⟨"MeterPoolModel", "endItem", "()V"⟩, 16), (⟨"MeterPoolModel", "takesDigit", "(I)Z"⟩, 16), (⟨"MeterPoolModel", "takesCount", "(I)Z"⟩, 16), (⟨"MeterPoolModel", "houseNow", "(II)I"⟩, 16), (⟨"MeterPoolModel", "batteryNow", "(II)I"⟩, 16), (⟨"MeterPoolModel", "feederNow", "(II)I"⟩, 16), (⟨"MeterPoolModel", "ofHouses", "(II)I"⟩, 16), (⟨"MeterPoolModel", "accountNow", "(I)I"⟩, 16)]
theorem lw_r4 : ∀ q ∈ lw_privs_4, lw_okq q := List.forall_mem_cons.mpr ⟨lw_p48, List.forall_mem_cons.mpr ⟨lw_p49, List.forall_mem_cons.mpr ⟨lw_p50, List.forall_mem_cons.mpr ⟨lw_p51, List.forall_mem_cons.mpr ⟨lw_p52, List.forall_mem_cons.mpr ⟨lw_p53, List.forall_mem_cons.mpr ⟨lw_p54, List.forall_mem_cons.mpr ⟨lw_p55, List.forall_mem_cons.mpr ⟨lw_p56, List.forall_mem_cons.mpr ⟨lw_p57, List.forall_mem_cons.mpr ⟨lw_p58, List.forall_mem_cons.mpr ⟨lw_p59, List.forall_mem_cons.mpr ⟨lw_p60, List.forall_mem_cons.mpr ⟨lw_p61, List.forall_mem_cons.mpr ⟨lw_p62, List.forall_mem_cons.mpr ⟨lw_p63, fun _ h => absurd h List.not_mem_nil⟩⟩⟩⟩⟩⟩⟩⟩⟩⟩⟩⟩⟩⟩⟩⟩
theorem lw_p64 : lw_okq (⟨"MeterPoolModel", "counted", "(I)I"⟩, 16) := ⟨⟨by decide +kernel, by decide +kernel⟩, List.mem_of_getElem? (i := 736) (by decide +kernel), List.mem_of_getElem? (i := 1047) (by decide +kernel), List.mem_of_getElem? (i := 1048) (by decide +kernel)⟩
theorem lw_p65 : lw_okq (⟨"MeterPoolModel", "negative", "()I"⟩, 16) := ⟨⟨by decide +kernel, by decide +kernel⟩, List.mem_of_getElem? (i := 736) (by decide +kernel), List.mem_of_getElem? (i := 1051) (by decide +kernel), List.mem_of_getElem? (i := 1052) (by decide +kernel)⟩
theorem lw_p66 : lw_okq (⟨"MeterPoolModel", "ahead", "(II)I"⟩, 16) := ⟨⟨by decide +kernel, by decide +kernel⟩, List.mem_of_getElem? (i := 736) (by decide +kernel), List.mem_of_getElem? (i := 1063) (by decide +kernel), List.mem_of_getElem? (i := 1064) (by decide +kernel)⟩
theorem lw_p67 : lw_okq (⟨"MeterPoolModel", "sheddings", "()I"⟩, 16) := ⟨⟨by decide +kernel, by decide +kernel⟩, List.mem_of_getElem? (i := 736) (by decide +kernel), List.mem_of_getElem? (i := 1067) (by decide +kernel), List.mem_of_getElem? (i := 1068) (by decide +kernel)⟩
theorem lw_p68 : lw_okq (⟨"MeterPoolModel", "dark", "()I"⟩, 16) := ⟨⟨by decide +kernel, by decide +kernel⟩, List.mem_of_getElem? (i := 736) (by decide +kernel), List.mem_of_getElem? (i := 1071) (by decide +kernel), List.mem_of_getElem? (i := 1072) (by decide +kernel)⟩
theorem lw_p69 : lw_okq (⟨"MeterPoolModel", "firstDark", "(II)I"⟩, 16) := ⟨⟨by decide +kernel, by decide +kernel⟩, List.mem_of_getElem? (i := 736) (by decide +kernel), List.mem_of_getElem? (i := 1079) (by decide +kernel), List.mem_of_getElem? (i := 1080) (by decide +kernel)⟩
theorem lw_p70 : lw_okq (⟨"MeterPoolModel", "mix", "(J)V"⟩, 16) := ⟨⟨by decide +kernel, by decide +kernel⟩, List.mem_of_getElem? (i := 736) (by decide +kernel), List.mem_of_getElem? (i := 1096) (by decide +kernel), List.mem_of_getElem? (i := 1097) (by decide +kernel)⟩
theorem lw_p71 : lw_okq (⟨"MeterPoolModel", "mixThings", "()V"⟩, 16) := ⟨⟨by decide +kernel, by decide +kernel⟩, List.mem_of_getElem? (i := 736) (by decide +kernel), List.mem_of_getElem? (i := 1101) (by decide +kernel), List.mem_of_getElem? (i := 1102) (by decide +kernel)⟩
def lw_privs_5 : List (MethodName × Nat) := [(⟨"MeterPoolModel", "counted", "(I)I"⟩, 16), (⟨"MeterPoolModel", "negative", "()I"⟩, 16), (⟨"MeterPoolModel", "ahead", "(II)I"⟩, 16), (⟨"MeterPoolModel", "sheddings", "()I"⟩, 16), (⟨"MeterPoolModel", "dark", "()I"⟩, 16), (⟨"MeterPoolModel", "firstDark", "(II)I"⟩, 16), (⟨"MeterPoolModel", "mix", "(J)V"⟩, 16), (⟨"MeterPoolModel", "mixThings", "()V"⟩, 16)]
theorem lw_r5 : ∀ q ∈ lw_privs_5, lw_okq q := List.forall_mem_cons.mpr ⟨lw_p64, List.forall_mem_cons.mpr ⟨lw_p65, List.forall_mem_cons.mpr ⟨lw_p66, List.forall_mem_cons.mpr ⟨lw_p67, List.forall_mem_cons.mpr ⟨lw_p68, List.forall_mem_cons.mpr ⟨lw_p69, List.forall_mem_cons.mpr ⟨lw_p70, List.forall_mem_cons.mpr ⟨lw_p71, fun _ h => absurd h List.not_mem_nil⟩⟩⟩⟩⟩⟩⟩⟩
def lw_privs : List (MethodName × Nat) := lw_privs_1 ++ (lw_privs_2 ++ (lw_privs_3 ++ (lw_privs_4 ++ (lw_privs_5))))
def lw_tbl : List Cond := k2_sels lw_privs ++ tables_1
theorem lw_privs_ok : ∀ q ∈ lw_privs, lw_okq q := by
  show ∀ q ∈ lw_privs_1 ++ (lw_privs_2 ++ (lw_privs_3 ++ (lw_privs_4 ++ (lw_privs_5)))), lw_okq q
  exact List.forall_mem_append.mpr ⟨lw_r1, List.forall_mem_append.mpr ⟨lw_r2, List.forall_mem_append.mpr ⟨lw_r3, List.forall_mem_append.mpr ⟨lw_r4, lw_r5⟩⟩⟩⟩
/-- the streams that the claim lets the run draw from -/
abbrev lw_cs : List Choice := [Jvm.Choice.named "NaN.bits"]
theorem lw_bits : nanBits ∈ lw_cs := by first | decide | exact List.mem_cons_self | simp [lw_cs, nanBits]
-- ===== end of PART A; then your names; then what follows =====
end
section
/-! ===== BEGIN words of one list among another's, by their places ===== -/
theorem goodIn_r {big : List Cond} (ws : List Cond) (ps : List Nat) (hp : ws = ps.filterMap (fun i => big[i]?)) (h : ws.all goodWord = true) : GoodIn big ws := by
  intro w hw
  have h1 := List.all_eq_true.mp h w hw
  rw [hp] at hw
  obtain ⟨i, -, hi⟩ := List.mem_filterMap.mp hw
  have hm : w ∈ big := by first | exact List.mem_of_getElem? hi | exact List.getElem?_mem hi
  exact ⟨hm, good_of_word h1⟩
theorem goodIn_app {big a b : List Cond} (ha : GoodIn big a) (hb : GoodIn big b) : GoodIn big (a ++ b) := fun w h => (List.mem_append.mp h).elim (ha w) (hb w)
theorem goodIn_ca {big a b : List Cond} {c : Cond} (ha : GoodIn big (c :: a)) (hb : GoodIn big b) : GoodIn big (c :: (a ++ b)) := fun w h => (List.mem_cons.mp h).elim (fun e => ha w (List.mem_cons.mpr (Or.inl e))) (fun h => (List.mem_append.mp h).elim (fun h => ha w (List.mem_cons.mpr (Or.inr h))) (hb w))
theorem goodIn_sub {big ws : List Cond} (hm : ∀ w ∈ ws, w ∈ big) (h : ws.all goodWord = true) : GoodIn big ws := fun w hw => ⟨hm w hw, good_of_word (List.all_eq_true.mp h w hw)⟩
/-! ===== END ===== -/

/-! ===== BEGIN printed: names, fields, word lists, decode rows ===== -/
def RX0 : String := "MeterPool$Batteries"
def TX0 : u_T := fun k => match k with
  | 0 => ("MeterPool$Batteries", "capacity", "[I", true)
  | 1 => ("MeterPool$Batteries", "rate", "[I", true)
  | 2 => ("MeterPool$Batteries", "efficiency", "[I", true)
  | _ => ("MeterPool$Batteries", "charge", "[I", true)
def tyX0 : Nat → FieldType := fun k => match k with
  | 0 => .array .int
  | 1 => .array .int
  | 2 => .array .int
  | _ => .array .int
abbrev wsX00 : List Cond := u_ws RX0 TX0 4
theorem nmX0 : ∀ a, a < 4 → ∀ b, b < 4 → a ≠ b → (TX0 a).2.1 ≠ (TX0 b).2.1 := by decide +kernel
theorem tyX0_ok : ∀ k, k < 4 → parseFieldDescriptor (TX0 k).2.2.1 = some (tyX0 k) := by decide +kernel
abbrev cX0_init : ByteArray := prog_2_method_1_code
def yX0_init : MethodName := ⟨RX0, "<init>", "()V"⟩
abbrev cX0_copy : ByteArray := prog_2_method_2_code
def yX0_copy : MethodName := ⟨RX0, "copy", "(LMeterPool$Batteries;)V"⟩
abbrev cX0_told : ByteArray := prog_2_method_3_code
def yX0_told : MethodName := ⟨RX0, "told", "(II)I"⟩
abbrev cX0_change : ByteArray := prog_2_method_4_code
def yX0_change : MethodName := ⟨RX0, "change", "(III)V"⟩
abbrev cX0_discardExcess : ByteArray := prog_2_method_5_code
def yX0_discardExcess : MethodName := ⟨RX0, "discardExcess", "(I)I"⟩
abbrev cX0_chargeOfAll : ByteArray := prog_2_method_6_code
def yX0_chargeOfAll : MethodName := ⟨RX0, "chargeOfAll", "()I"⟩
abbrev cX0_canGive : ByteArray := prog_2_method_7_code
def yX0_canGive : MethodName := ⟨RX0, "canGive", "(I)I"⟩
abbrev cX0_canGiveAll : ByteArray := prog_2_method_8_code
def yX0_canGiveAll : MethodName := ⟨RX0, "canGiveAll", "()I"⟩
abbrev cX0_give : ByteArray := prog_2_method_9_code
def yX0_give : MethodName := ⟨RX0, "give", "(I)V"⟩
abbrev cX0_canTake : ByteArray := prog_2_method_10_code
def yX0_canTake : MethodName := ⟨RX0, "canTake", "(II)I"⟩
abbrev cX0_takeIn : ByteArray := prog_2_method_11_code
def yX0_takeIn : MethodName := ⟨RX0, "takeIn", "(II)I"⟩
def RX1 : String := "MeterPool$History"
def TX1 : u_T := fun k => match k with
  | 0 => ("MeterPool$History", "size", "I", false)
  | _ => ("MeterPool$History", "states", "[LMeterPool$Village;", true)
def tyX1 : Nat → FieldType := fun k => match k with
  | 0 => .int
  | _ => .array (.object "MeterPool$Village")
abbrev wsX10 : List Cond := u_ws RX1 TX1 2
theorem nmX1 : ∀ a, a < 2 → ∀ b, b < 2 → a ≠ b → (TX1 a).2.1 ≠ (TX1 b).2.1 := by decide +kernel
theorem tyX1_ok : ∀ k, k < 2 → parseFieldDescriptor (TX1 k).2.2.1 = some (tyX1 k) := by decide +kernel
abbrev cX1_init : ByteArray := prog_3_method_1_code
def yX1_init : MethodName := ⟨RX1, "<init>", "()V"⟩
abbrev cX1_record : ByteArray := prog_3_method_2_code
def yX1_record : MethodName := ⟨RX1, "record", "(LMeterPool$Village;)V"⟩
abbrev cX1_dropOldest : ByteArray := prog_3_method_3_code
def yX1_dropOldest : MethodName := ⟨RX1, "dropOldest", "()V"⟩
abbrev cX1_takeBack : ByteArray := prog_3_method_4_code
def yX1_takeBack : MethodName := ⟨RX1, "takeBack", "(LMeterPool$Village;)V"⟩
def RX2 : String := "MeterPool$Houses"
def TX2 : u_T := fun k => match k with
  | 0 => ("MeterPool$Houses", "size", "I", false)
  | 1 => ("MeterPool$Houses", "feeder", "[I", true)
  | 2 => ("MeterPool$Houses", "demand", "[I", true)
  | 3 => ("MeterPool$Houses", "debt", "[I", true)
  | 4 => ("MeterPool$Houses", "connected", "[I", true)
  | 5 => ("MeterPool$Houses", "credit", "[I", true)
  | 6 => ("MeterPool$Houses", "got", "[I", true)
  | 7 => ("MeterPool$Houses", "reason", "[I", true)
  | 8 => ("MeterPool$Houses", "gotEver", "[I", true)
  | 9 => ("MeterPool$Houses", "could", "[I", true)
  | _ => ("MeterPool$Houses", "wants", "[I", true)
def tyX2 : Nat → FieldType := fun k => match k with
  | 0 => .int
  | 1 => .array .int
  | 2 => .array .int
  | 3 => .array .int
  | 4 => .array .int
  | 5 => .array .int
  | 6 => .array .int
  | 7 => .array .int
  | 8 => .array .int
  | 9 => .array .int
  | _ => .array .int
abbrev wsX20 : List Cond := u_ws RX2 TX2 11
theorem nmX2 : ∀ a, a < 11 → ∀ b, b < 11 → a ≠ b → (TX2 a).2.1 ≠ (TX2 b).2.1 := by decide +kernel
theorem tyX2_ok : ∀ k, k < 11 → parseFieldDescriptor (TX2 k).2.2.1 = some (tyX2 k) := by decide +kernel
abbrev cX2_init : ByteArray := prog_4_method_1_code
def yX2_init : MethodName := ⟨RX2, "<init>", "()V"⟩
abbrev cX2_add : ByteArray := prog_4_method_2_code
def yX2_add : MethodName := ⟨RX2, "add", "(II)I"⟩
abbrev cX2_remove : ByteArray := prog_4_method_3_code
def yX2_remove : MethodName := ⟨RX2, "remove", "(I)V"⟩
abbrev cX2_copy : ByteArray := prog_4_method_4_code
def yX2_copy : MethodName := ⟨RX2, "copy", "(LMeterPool$Houses;)V"⟩
abbrev cX2_told : ByteArray := prog_4_method_5_code
def yX2_told : MethodName := ⟨RX2, "told", "(II)I"⟩
abbrev cX2_change : ByteArray := prog_4_method_6_code
def yX2_change : MethodName := ⟨RX2, "change", "(III)V"⟩
abbrev cX2_canDraw : ByteArray := prog_4_method_7_code
def yX2_canDraw : MethodName := ⟨RX2, "canDraw", "(II)I"⟩
abbrev cX2_wantAll : ByteArray := prog_4_method_8_code
def yX2_wantAll : MethodName := ⟨RX2, "wantAll", "(I)V"⟩
abbrev cX2_sum : ByteArray := prog_4_method_9_code
def yX2_sum : MethodName := ⟨RX2, "sum", "([I)I"⟩
abbrev cX2_sumFrom : ByteArray := prog_4_method_10_code
def yX2_sumFrom : MethodName := ⟨RX2, "sumFrom", "(I[I)I"⟩
abbrev cX2_wantNothing : ByteArray := prog_4_method_11_code
def yX2_wantNothing : MethodName := ⟨RX2, "wantNothing", "(I)V"⟩
abbrev cX2_receive : ByteArray := prog_4_method_12_code
def yX2_receive : MethodName := ⟨RX2, "receive", "(IIZ)V"⟩
abbrev cX2_reasonOf : ByteArray := prog_4_method_13_code
def yX2_reasonOf : MethodName := ⟨RX2, "reasonOf", "(IZ)I"⟩
abbrev cX2_unmet : ByteArray := prog_4_method_14_code
def yX2_unmet : MethodName := ⟨RX2, "unmet", "()I"⟩
abbrev cX2_overdrawn : ByteArray := prog_4_method_15_code
def yX2_overdrawn : MethodName := ⟨RX2, "overdrawn", "()I"⟩
abbrev cX2_sizeOf : ByteArray := prog_4_method_16_code
def yX2_sizeOf : MethodName := ⟨RX2, "sizeOf", "(I)I"⟩
abbrev cX2_drawnFrom : ByteArray := prog_4_method_17_code
def yX2_drawnFrom : MethodName := ⟨RX2, "drawnFrom", "(II)I"⟩
def RX3 : String := "MeterPool$ListText"
def TX3 : u_T := fun k => match k with
  | 0 => ("MeterPool$ListText", "length", "I", false)
  | 1 => ("MeterPool$ListText", "codes", "[I", true)
  | 2 => ("MeterPool$ListText", "size", "I", false)
  | 3 => ("MeterPool$ListText", "numbers", "[I", true)
  | 4 => ("MeterPool$ListText", "value", "I", false)
  | _ => ("MeterPool$ListText", "times", "I", false)
def tyX3 : Nat → FieldType := fun k => match k with
  | 0 => .int
  | 1 => .array .int
  | 2 => .int
  | 3 => .array .int
  | 4 => .int
  | _ => .int
abbrev wsX30 : List Cond := u_ws RX3 TX3 6
theorem nmX3 : ∀ a, a < 6 → ∀ b, b < 6 → a ≠ b → (TX3 a).2.1 ≠ (TX3 b).2.1 := by decide +kernel
theorem tyX3_ok : ∀ k, k < 6 → parseFieldDescriptor (TX3 k).2.2.1 = some (tyX3 k) := by decide +kernel
abbrev cX3_init : ByteArray := prog_5_method_1_code
def yX3_init : MethodName := ⟨RX3, "<init>", "()V"⟩
abbrev cX3_append : ByteArray := prog_5_method_2_code
def yX3_append : MethodName := ⟨RX3, "append", "(I)V"⟩
abbrev cX3_firstFault : ByteArray := prog_5_method_3_code
def yX3_firstFault : MethodName := ⟨RX3, "firstFault", "()I"⟩
abbrev cX3_next : ByteArray := prog_5_method_4_code
def yX3_next : MethodName := ⟨RX3, "next", "(II)I"⟩
abbrev cX3_isDigit : ByteArray := prog_5_method_5_code
def yX3_isDigit : MethodName := ⟨RX3, "isDigit", "(I)Z"⟩
abbrev cX3_beginNumber : ByteArray := prog_5_method_6_code
def yX3_beginNumber : MethodName := ⟨RX3, "beginNumber", "(I)I"⟩
abbrev cX3_inNumber : ByteArray := prog_5_method_7_code
def yX3_inNumber : MethodName := ⟨RX3, "inNumber", "(I)I"⟩
abbrev cX3_beginTimes : ByteArray := prog_5_method_8_code
def yX3_beginTimes : MethodName := ⟨RX3, "beginTimes", "(I)I"⟩
abbrev cX3_inTimes : ByteArray := prog_5_method_9_code
def yX3_inTimes : MethodName := ⟨RX3, "inTimes", "(I)I"⟩
abbrev cX3_isWhole : ByteArray := prog_5_method_10_code
def yX3_isWhole : MethodName := ⟨RX3, "isWhole", "(I)Z"⟩
abbrev cX3_endItem : ByteArray := prog_5_method_11_code
def yX3_endItem : MethodName := ⟨RX3, "endItem", "(I)I"⟩
def RX4 : String := "MeterPool$Loans"
def TX4 : u_T := fun k => match k with
  | 0 => ("MeterPool$Loans", "size", "I", false)
  | 1 => ("MeterPool$Loans", "lender", "[I", true)
  | 2 => ("MeterPool$Loans", "borrower", "[I", true)
  | _ => ("MeterPool$Loans", "owed", "[I", true)
def tyX4 : Nat → FieldType := fun k => match k with
  | 0 => .int
  | 1 => .array .int
  | 2 => .array .int
  | _ => .array .int
abbrev wsX40 : List Cond := u_ws RX4 TX4 4
theorem nmX4 : ∀ a, a < 4 → ∀ b, b < 4 → a ≠ b → (TX4 a).2.1 ≠ (TX4 b).2.1 := by decide +kernel
theorem tyX4_ok : ∀ k, k < 4 → parseFieldDescriptor (TX4 k).2.2.1 = some (tyX4 k) := by decide +kernel
abbrev cX4_init : ByteArray := prog_6_method_1_code
def yX4_init : MethodName := ⟨RX4, "<init>", "()V"⟩
abbrev cX4_add : ByteArray := prog_6_method_2_code
def yX4_add : MethodName := ⟨RX4, "add", "(III)V"⟩
abbrev cX4_remove : ByteArray := prog_6_method_3_code
def yX4_remove : MethodName := ⟨RX4, "remove", "(I)V"⟩
abbrev cX4_copy : ByteArray := prog_6_method_4_code
def yX4_copy : MethodName := ⟨RX4, "copy", "(LMeterPool$Loans;)V"⟩
abbrev cX4_told : ByteArray := prog_6_method_5_code
def yX4_told : MethodName := ⟨RX4, "told", "(II)I"⟩
abbrev cX4_involve : ByteArray := prog_6_method_6_code
def yX4_involve : MethodName := ⟨RX4, "involve", "(I)Z"⟩
abbrev cX4_renumber : ByteArray := prog_6_method_7_code
def yX4_renumber : MethodName := ⟨RX4, "renumber", "(I)V"⟩
abbrev cX4_owedBy : ByteArray := prog_6_method_8_code
def yX4_owedBy : MethodName := ⟨RX4, "owedBy", "(I)I"⟩
abbrev cX4_owedTo : ByteArray := prog_6_method_9_code
def yX4_owedTo : MethodName := ⟨RX4, "owedTo", "(I)I"⟩
abbrev cX4_sumOwed : ByteArray := prog_6_method_10_code
def yX4_sumOwed : MethodName := ⟨RX4, "sumOwed", "([II)I"⟩
abbrev cX4_removePaid : ByteArray := prog_6_method_11_code
def yX4_removePaid : MethodName := ⟨RX4, "removePaid", "()V"⟩
abbrev cX4_offset : ByteArray := prog_6_method_12_code
def yX4_offset : MethodName := ⟨RX4, "offset", "()I"⟩
abbrev cX4_firstOpposed : ByteArray := prog_6_method_13_code
def yX4_firstOpposed : MethodName := ⟨RX4, "firstOpposed", "()I"⟩
abbrev cX4_opposedTo : ByteArray := prog_6_method_14_code
def yX4_opposedTo : MethodName := ⟨RX4, "opposedTo", "(I)I"⟩
def RX5 : String := "MeterPool$Village"
def TX5 : u_T := fun k => match k with
  | 0 => ("MeterPool$Village", "houses", "LMeterPool$Houses;", true)
  | 1 => ("MeterPool$Village", "loans", "LMeterPool$Loans;", true)
  | 2 => ("MeterPool$Village", "batteries", "LMeterPool$Batteries;", true)
  | 3 => ("MeterPool$Village", "settings", "[I", true)
  | 4 => ("MeterPool$Village", "accounts", "[I", true)
  | 5 => ("MeterPool$Village", "shedHours", "[I", true)
  | 6 => ("MeterPool$Village", "shedLatest", "[I", true)
  | 7 => ("MeterPool$Village", "list", "[I", true)
  | 8 => ("MeterPool$Village", "listSize", "I", false)
  | 9 => ("MeterPool$Village", "hour", "I", false)
  | _ => ("MeterPool$Village", "turn", "I", false)
def tyX5 : Nat → FieldType := fun k => match k with
  | 0 => .object "MeterPool$Houses"
  | 1 => .object "MeterPool$Loans"
  | 2 => .object "MeterPool$Batteries"
  | 3 => .array .int
  | 4 => .array .int
  | 5 => .array .int
  | 6 => .array .int
  | 7 => .array .int
  | 8 => .int
  | 9 => .int
  | _ => .int
abbrev wsX50 : List Cond := u_ws RX5 TX5 11
theorem nmX5 : ∀ a, a < 11 → ∀ b, b < 11 → a ≠ b → (TX5 a).2.1 ≠ (TX5 b).2.1 := by decide +kernel
theorem tyX5_ok : ∀ k, k < 11 → parseFieldDescriptor (TX5 k).2.2.1 = some (tyX5 k) := by decide +kernel
abbrev cX5_init : ByteArray := prog_7_method_1_code
def yX5_init : MethodName := ⟨RX5, "<init>", "()V"⟩
abbrev cX5_copy : ByteArray := prog_7_method_2_code
def yX5_copy : MethodName := ⟨RX5, "copy", "(LMeterPool$Village;)V"⟩
abbrev cX5_takeList : ByteArray := prog_7_method_3_code
def yX5_takeList : MethodName := ⟨RX5, "takeList", "([II)V"⟩
abbrev cX5_supplyOf : ByteArray := prog_7_method_4_code
def yX5_supplyOf : MethodName := ⟨RX5, "supplyOf", "(I)I"⟩
abbrev cX5_timesShed : ByteArray := prog_7_method_5_code
def yX5_timesShed : MethodName := ⟨RX5, "timesShed", "()I"⟩
abbrev cX5_partForDebt : ByteArray := prog_7_method_6_code
def yX5_partForDebt : MethodName := ⟨RX5, "partForDebt", "(II)I"⟩
abbrev cX5_partForLoans : ByteArray := prog_7_method_7_code
def yX5_partForLoans : MethodName := ⟨RX5, "partForLoans", "(II)I"⟩
abbrev cX5_takeToken : ByteArray := prog_7_method_8_code
def yX5_takeToken : MethodName := ⟨RX5, "takeToken", "(II)V"⟩
abbrev cX5_payLoans : ByteArray := prog_7_method_9_code
def yX5_payLoans : MethodName := ⟨RX5, "payLoans", "(II)V"⟩
abbrev cX5_affords : ByteArray := prog_7_method_10_code
def yX5_affords : MethodName := ⟨RX5, "affords", "(III)Z"⟩
abbrev cX5_passHours : ByteArray := prog_7_method_11_code
def yX5_passHours : MethodName := ⟨RX5, "passHours", "(I)V"⟩
abbrev cX5_hoursMet : ByteArray := prog_7_method_12_code
def yX5_hoursMet : MethodName := ⟨RX5, "hoursMet", "(II)I"⟩
abbrev cX5_passHour : ByteArray := prog_7_method_13_code
def yX5_passHour : MethodName := ⟨RX5, "passHour", "()V"⟩
abbrev cX5_shed : ByteArray := prog_7_method_14_code
def yX5_shed : MethodName := ⟨RX5, "shed", "(I)V"⟩
abbrev cX5_serve : ByteArray := prog_7_method_15_code
def yX5_serve : MethodName := ⟨RX5, "serve", "(I)I"⟩
abbrev cX5_partOf : ByteArray := prog_7_method_16_code
def yX5_partOf : MethodName := ⟨RX5, "partOf", "(II)I"⟩
abbrev cX5_store : ByteArray := prog_7_method_17_code
def yX5_store : MethodName := ⟨RX5, "store", "(I)V"⟩
def RX6 : String := "MeterPool"
def TX6 : u_T := fun k => match k with
  | 0 => ("MeterPool", "now", "LMeterPool$Village;", true)
  | 1 => ("MeterPool", "ahead", "LMeterPool$Village;", true)
  | 2 => ("MeterPool", "history", "LMeterPool$History;", true)
  | 3 => ("MeterPool", "images", "[LMeterPool$Village;", true)
  | 4 => ("MeterPool", "kept", "[Z", true)
  | _ => ("MeterPool", "text", "LMeterPool$ListText;", true)
def tyX6 : Nat → FieldType := fun k => match k with
  | 0 => .object "MeterPool$Village"
  | 1 => .object "MeterPool$Village"
  | 2 => .object "MeterPool$History"
  | 3 => .array (.object "MeterPool$Village")
  | 4 => .array .boolean
  | _ => .object "MeterPool$ListText"
abbrev wsX60 : List Cond := u_ws RX6 TX6 6
theorem nmX6 : ∀ a, a < 6 → ∀ b, b < 6 → a ≠ b → (TX6 a).2.1 ≠ (TX6 b).2.1 := by decide +kernel
theorem tyX6_ok : ∀ k, k < 6 → parseFieldDescriptor (TX6 k).2.2.1 = some (tyX6 k) := by decide +kernel
abbrev cX6_init : ByteArray := prog_1_method_1_code
def yX6_init : MethodName := ⟨RX6, "<init>", "()V"⟩
abbrev cX6_addHouse : ByteArray := prog_1_method_2_code
def yX6_addHouse : MethodName := ⟨RX6, "addHouse", "(II)I"⟩
abbrev cX6_setHouse : ByteArray := prog_1_method_3_code
def yX6_setHouse : MethodName := ⟨RX6, "setHouse", "(III)I"⟩
abbrev cX6_removeHouse : ByteArray := prog_1_method_4_code
def yX6_removeHouse : MethodName := ⟨RX6, "removeHouse", "(I)I"⟩
abbrev cX6_buy : ByteArray := prog_1_method_5_code
def yX6_buy : MethodName := ⟨RX6, "buy", "(II)I"⟩
abbrev cX6_lend : ByteArray := prog_1_method_6_code
def yX6_lend : MethodName := ⟨RX6, "lend", "(III)I"⟩
abbrev cX6_remit : ByteArray := prog_1_method_7_code
def yX6_remit : MethodName := ⟨RX6, "remit", "(I)I"⟩
abbrev cX6_net : ByteArray := prog_1_method_8_code
def yX6_net : MethodName := ⟨RX6, "net", "()I"⟩
abbrev cX6_set : ByteArray := prog_1_method_9_code
def yX6_set : MethodName := ⟨RX6, "set", "(II)I"⟩
abbrev cX6_setBattery : ByteArray := prog_1_method_10_code
def yX6_setBattery : MethodName := ⟨RX6, "setBattery", "(III)I"⟩
abbrev cX6_run : ByteArray := prog_1_method_11_code
def yX6_run : MethodName := ⟨RX6, "run", "(I)I"⟩
abbrev cX6_type : ByteArray := prog_1_method_12_code
def yX6_type : MethodName := ⟨RX6, "type", "(I)I"⟩
abbrev cX6_clear : ByteArray := prog_1_method_13_code
def yX6_clear : MethodName := ⟨RX6, "clear", "()I"⟩
abbrev cX6_fault : ByteArray := prog_1_method_14_code
def yX6_fault : MethodName := ⟨RX6, "fault", "()I"⟩
abbrev cX6_load : ByteArray := prog_1_method_15_code
def yX6_load : MethodName := ⟨RX6, "load", "()I"⟩
abbrev cX6_undo : ByteArray := prog_1_method_16_code
def yX6_undo : MethodName := ⟨RX6, "undo", "()I"⟩
abbrev cX6_keep : ByteArray := prog_1_method_17_code
def yX6_keep : MethodName := ⟨RX6, "keep", "(I)I"⟩
abbrev cX6_back : ByteArray := prog_1_method_18_code
def yX6_back : MethodName := ⟨RX6, "back", "(I)I"⟩
abbrev cX6_house : ByteArray := prog_1_method_19_code
def yX6_house : MethodName := ⟨RX6, "house", "(II)I"⟩
abbrev cX6_loan : ByteArray := prog_1_method_20_code
def yX6_loan : MethodName := ⟨RX6, "loan", "(II)I"⟩
abbrev cX6_battery : ByteArray := prog_1_method_21_code
def yX6_battery : MethodName := ⟨RX6, "battery", "(II)I"⟩
abbrev cX6_feeder : ByteArray := prog_1_method_22_code
def yX6_feeder : MethodName := ⟨RX6, "feeder", "(II)I"⟩
abbrev cX6_account : ByteArray := prog_1_method_23_code
def yX6_account : MethodName := ⟨RX6, "account", "(I)I"⟩
abbrev cX6_supply : ByteArray := prog_1_method_24_code
def yX6_supply : MethodName := ⟨RX6, "supply", "(I)I"⟩
abbrev cX6_count : ByteArray := prog_1_method_25_code
def yX6_count : MethodName := ⟨RX6, "count", "(I)I"⟩
abbrev cX6_setting : ByteArray := prog_1_method_26_code
def yX6_setting : MethodName := ⟨RX6, "setting", "(I)I"⟩
abbrev cX6_ifRun : ByteArray := prog_1_method_27_code
def yX6_ifRun : MethodName := ⟨RX6, "ifRun", "(II)I"⟩
abbrev cX6_darkIn : ByteArray := prog_1_method_28_code
def yX6_darkIn : MethodName := ⟨RX6, "darkIn", "(I)I"⟩
abbrev cX6_tokenFor : ByteArray := prog_1_method_29_code
def yX6_tokenFor : MethodName := ⟨RX6, "tokenFor", "(II)I"⟩
abbrev cX6_met : ByteArray := prog_1_method_30_code
def yX6_met : MethodName := ⟨RX6, "met", "()D"⟩
abbrev cX6_digest : ByteArray := prog_1_method_31_code
def yX6_digest : MethodName := ⟨RX6, "digest", "()J"⟩
abbrev cX6_within : ByteArray := prog_1_method_32_code
def yX6_within : MethodName := ⟨RX6, "within", "(III)Z"⟩
abbrev cX6_isHouse : ByteArray := prog_1_method_33_code
def yX6_isHouse : MethodName := ⟨RX6, "isHouse", "(I)Z"⟩
abbrev cX6_isLoan : ByteArray := prog_1_method_34_code
def yX6_isLoan : MethodName := ⟨RX6, "isLoan", "(I)Z"⟩
abbrev cX6_isBattery : ByteArray := prog_1_method_35_code
def yX6_isBattery : MethodName := ⟨RX6, "isBattery", "(I)Z"⟩
abbrev cX6_isSetting : ByteArray := prog_1_method_36_code
def yX6_isSetting : MethodName := ⟨RX6, "isSetting", "(I)Z"⟩
abbrev cX6_isImage : ByteArray := prog_1_method_37_code
def yX6_isImage : MethodName := ⟨RX6, "isImage", "(I)Z"⟩
abbrev cX6_seenAhead : ByteArray := prog_1_method_38_code
def yX6_seenAhead : MethodName := ⟨RX6, "seenAhead", "(I)I"⟩
abbrev cX6_wouldServe : ByteArray := prog_1_method_39_code
def yX6_wouldServe : MethodName := ⟨RX6, "wouldServe", "(III)Z"⟩
abbrev cX6_mix : ByteArray := prog_1_method_40_code
def yX6_mix : MethodName := ⟨RX6, "mix", "(JJ)J"⟩
abbrev cX6_mixTotals : ByteArray := prog_1_method_41_code
def yX6_mixTotals : MethodName := ⟨RX6, "mixTotals", "(J)J"⟩
abbrev cX6_mixHouses : ByteArray := prog_1_method_42_code
def yX6_mixHouses : MethodName := ⟨RX6, "mixHouses", "(J)J"⟩
abbrev cX6_mixLoans : ByteArray := prog_1_method_43_code
def yX6_mixLoans : MethodName := ⟨RX6, "mixLoans", "(J)J"⟩
abbrev cX6_mixPlant : ByteArray := prog_1_method_44_code
def yX6_mixPlant : MethodName := ⟨RX6, "mixPlant", "(J)J"⟩
abbrev cX6_mixAhead : ByteArray := prog_1_method_45_code
def yX6_mixAhead : MethodName := ⟨RX6, "mixAhead", "(J)J"⟩
abbrev cX6_mixText : ByteArray := prog_1_method_46_code
def yX6_mixText : MethodName := ⟨RX6, "mixText", "(J)J"⟩
abbrev cX6_bitsOf : ByteArray := prog_1_method_47_code
def yX6_bitsOf : MethodName := ⟨RX6, "bitsOf", "(D)J"⟩
def RX7 : String := "MeterPoolModel"
def TX7 : u_T := fun k => match k with
  | 0 => ("MeterPoolModel", "z", "[I", true)
  | 1 => ("MeterPoolModel", "aside", "[I", true)
  | 2 => ("MeterPoolModel", "states", "I", false)
  | 3 => ("MeterPoolModel", "history", "[I", true)
  | 4 => ("MeterPoolModel", "kept", "I", false)
  | 5 => ("MeterPoolModel", "images", "[I", true)
  | 6 => ("MeterPoolModel", "length", "I", false)
  | 7 => ("MeterPoolModel", "text", "[I", true)
  | 8 => ("MeterPoolModel", "wants", "[I", true)
  | 9 => ("MeterPoolModel", "list", "[I", true)
  | 10 => ("MeterPoolModel", "listed", "I", false)
  | 11 => ("MeterPoolModel", "number", "I", false)
  | 12 => ("MeterPoolModel", "digits", "I", false)
  | 13 => ("MeterPoolModel", "count", "I", false)
  | 14 => ("MeterPoolModel", "counting", "I", false)
  | _ => ("MeterPoolModel", "hash", "J", false)
def tyX7 : Nat → FieldType := fun k => match k with
  | 0 => .array .int
  | 1 => .array .int
  | 2 => .int
  | 3 => .array .int
  | 4 => .int
  | 5 => .array .int
  | 6 => .int
  | 7 => .array .int
  | 8 => .array .int
  | 9 => .array .int
  | 10 => .int
  | 11 => .int
  | 12 => .int
  | 13 => .int
  | 14 => .int
  | _ => .long
abbrev wsX70 : List Cond := u_ws RX7 TX7 16
theorem nmX7 : ∀ a, a < 16 → ∀ b, b < 16 → a ≠ b → (TX7 a).2.1 ≠ (TX7 b).2.1 := by decide +kernel
theorem tyX7_ok : ∀ k, k < 16 → parseFieldDescriptor (TX7 k).2.2.1 = some (tyX7 k) := by decide +kernel
abbrev cX7_init : ByteArray := prog_9_method_1_code
def yX7_init : MethodName := ⟨RX7, "<init>", "()V"⟩
abbrev cX7_within : ByteArray := prog_9_method_2_code
def yX7_within : MethodName := ⟨RX7, "within", "(III)Z"⟩
abbrev cX7_of : ByteArray := prog_9_method_3_code
def yX7_of : MethodName := ⟨RX7, "of", "(II)I"⟩
abbrev cX7_add : ByteArray := prog_9_method_4_code
def yX7_add : MethodName := ⟨RX7, "add", "(III)V"⟩
abbrev cX7_loanOf : ByteArray := prog_9_method_5_code
def yX7_loanOf : MethodName := ⟨RX7, "loanOf", "(II)I"⟩
abbrev cX7_cell : ByteArray := prog_9_method_6_code
def yX7_cell : MethodName := ⟨RX7, "cell", "(II)I"⟩
abbrev cX7_setting1 : ByteArray := prog_9_method_7_code
def yX7_setting1 : MethodName := ⟨RX7, "setting1", "(I)I"⟩
abbrev cX7_isHouse : ByteArray := prog_9_method_8_code
def yX7_isHouse : MethodName := ⟨RX7, "isHouse", "(I)Z"⟩
abbrev cX7_copy : ByteArray := prog_9_method_9_code
def yX7_copy : MethodName := ⟨RX7, "copy", "([II[II)V"⟩
abbrev cX7_record : ByteArray := prog_9_method_10_code
def yX7_record : MethodName := ⟨RX7, "record", "()V"⟩
abbrev cX7_addHouse : ByteArray := prog_9_method_11_code
def yX7_addHouse : MethodName := ⟨RX7, "addHouse", "(II)I"⟩
abbrev cX7_isProperty : ByteArray := prog_9_method_12_code
def yX7_isProperty : MethodName := ⟨RX7, "isProperty", "(II)Z"⟩
abbrev cX7_setHouse : ByteArray := prog_9_method_13_code
def yX7_setHouse : MethodName := ⟨RX7, "setHouse", "(III)I"⟩
abbrev cX7_owed : ByteArray := prog_9_method_14_code
def yX7_owed : MethodName := ⟨RX7, "owed", "(II)I"⟩
abbrev cX7_removeHouse : ByteArray := prog_9_method_15_code
def yX7_removeHouse : MethodName := ⟨RX7, "removeHouse", "(I)I"⟩
abbrev cX7_dropPaid : ByteArray := prog_9_method_16_code
def yX7_dropPaid : MethodName := ⟨RX7, "dropPaid", "()V"⟩
abbrev cX7_token : ByteArray := prog_9_method_17_code
def yX7_token : MethodName := ⟨RX7, "token", "(II)V"⟩
abbrev cX7_buy : ByteArray := prog_9_method_18_code
def yX7_buy : MethodName := ⟨RX7, "buy", "(II)I"⟩
abbrev cX7_lend : ByteArray := prog_9_method_19_code
def yX7_lend : MethodName := ⟨RX7, "lend", "(III)I"⟩
abbrev cX7_isLoan : ByteArray := prog_9_method_20_code
def yX7_isLoan : MethodName := ⟨RX7, "isLoan", "(I)Z"⟩
abbrev cX7_remit : ByteArray := prog_9_method_21_code
def yX7_remit : MethodName := ⟨RX7, "remit", "(I)I"⟩
abbrev cX7_against : ByteArray := prog_9_method_22_code
def yX7_against : MethodName := ⟨RX7, "against", "(I)I"⟩
abbrev cX7_netOnce : ByteArray := prog_9_method_23_code
def yX7_netOnce : MethodName := ⟨RX7, "netOnce", "()I"⟩
abbrev cX7_net : ByteArray := prog_9_method_24_code
def yX7_net : MethodName := ⟨RX7, "net", "()I"⟩
abbrev cX7_isSetting : ByteArray := prog_9_method_25_code
def yX7_isSetting : MethodName := ⟨RX7, "isSetting", "(II)Z"⟩
abbrev cX7_set : ByteArray := prog_9_method_26_code
def yX7_set : MethodName := ⟨RX7, "set", "(II)I"⟩
abbrev cX7_isBattery : ByteArray := prog_9_method_27_code
def yX7_isBattery : MethodName := ⟨RX7, "isBattery", "(II)Z"⟩
abbrev cX7_setBattery : ByteArray := prog_9_method_28_code
def yX7_setBattery : MethodName := ⟨RX7, "setBattery", "(III)I"⟩
abbrev cX7_canDraw : ByteArray := prog_9_method_29_code
def yX7_canDraw : MethodName := ⟨RX7, "canDraw", "(I)I"⟩
abbrev cX7_canGive : ByteArray := prog_9_method_30_code
def yX7_canGive : MethodName := ⟨RX7, "canGive", "(I)I"⟩
abbrev cX7_wanted : ByteArray := prog_9_method_31_code
def yX7_wanted : MethodName := ⟨RX7, "wanted", "()I"⟩
abbrev cX7_shed : ByteArray := prog_9_method_32_code
def yX7_shed : MethodName := ⟨RX7, "shed", "()V"⟩
abbrev cX7_serve : ByteArray := prog_9_method_33_code
def yX7_serve : MethodName := ⟨RX7, "serve", "(I)I"⟩
abbrev cX7_why : ByteArray := prog_9_method_34_code
def yX7_why : MethodName := ⟨RX7, "why", "(I)I"⟩
abbrev cX7_take : ByteArray := prog_9_method_35_code
def yX7_take : MethodName := ⟨RX7, "take", "(I)V"⟩
abbrev cX7_charge : ByteArray := prog_9_method_36_code
def yX7_charge : MethodName := ⟨RX7, "charge", "(I)V"⟩
abbrev cX7_supplyAt : ByteArray := prog_9_method_37_code
def yX7_supplyAt : MethodName := ⟨RX7, "supplyAt", "(I)I"⟩
abbrev cX7_pass : ByteArray := prog_9_method_38_code
def yX7_pass : MethodName := ⟨RX7, "pass", "()V"⟩
abbrev cX7_run : ByteArray := prog_9_method_39_code
def yX7_run : MethodName := ⟨RX7, "run", "(I)I"⟩
abbrev cX7_type : ByteArray := prog_9_method_40_code
def yX7_type : MethodName := ⟨RX7, "type", "(I)I"⟩
abbrev cX7_clear : ByteArray := prog_9_method_41_code
def yX7_clear : MethodName := ⟨RX7, "clear", "()I"⟩
abbrev cX7_beginItem : ByteArray := prog_9_method_42_code
def yX7_beginItem : MethodName := ⟨RX7, "beginItem", "()V"⟩
abbrev cX7_takesDigit : ByteArray := prog_9_method_43_code
def yX7_takesDigit : MethodName := ⟨RX7, "takesDigit", "(I)Z"⟩
abbrev cX7_takesCount : ByteArray := prog_9_method_44_code
def yX7_takesCount : MethodName := ⟨RX7, "takesCount", "(I)Z"⟩
abbrev cX7_isItem : ByteArray := prog_9_method_45_code
def yX7_isItem : MethodName := ⟨RX7, "isItem", "()Z"⟩
abbrev cX7_endItem : ByteArray := prog_9_method_46_code
def yX7_endItem : MethodName := ⟨RX7, "endItem", "()V"⟩
abbrev cX7_takes : ByteArray := prog_9_method_47_code
def yX7_takes : MethodName := ⟨RX7, "takes", "(I)Z"⟩
abbrev cX7_faultNow : ByteArray := prog_9_method_48_code
def yX7_faultNow : MethodName := ⟨RX7, "faultNow", "()I"⟩
abbrev cX7_fault : ByteArray := prog_9_method_49_code
def yX7_fault : MethodName := ⟨RX7, "fault", "()I"⟩
abbrev cX7_load : ByteArray := prog_9_method_50_code
def yX7_load : MethodName := ⟨RX7, "load", "()I"⟩
abbrev cX7_undo : ByteArray := prog_9_method_51_code
def yX7_undo : MethodName := ⟨RX7, "undo", "()I"⟩
abbrev cX7_keep : ByteArray := prog_9_method_52_code
def yX7_keep : MethodName := ⟨RX7, "keep", "(I)I"⟩
abbrev cX7_back : ByteArray := prog_9_method_53_code
def yX7_back : MethodName := ⟨RX7, "back", "(I)I"⟩
abbrev cX7_houseNow : ByteArray := prog_9_method_54_code
def yX7_houseNow : MethodName := ⟨RX7, "houseNow", "(II)I"⟩
abbrev cX7_house : ByteArray := prog_9_method_55_code
def yX7_house : MethodName := ⟨RX7, "house", "(II)I"⟩
abbrev cX7_loan : ByteArray := prog_9_method_56_code
def yX7_loan : MethodName := ⟨RX7, "loan", "(II)I"⟩
abbrev cX7_batteryNow : ByteArray := prog_9_method_57_code
def yX7_batteryNow : MethodName := ⟨RX7, "batteryNow", "(II)I"⟩
abbrev cX7_battery : ByteArray := prog_9_method_58_code
def yX7_battery : MethodName := ⟨RX7, "battery", "(II)I"⟩
abbrev cX7_ofHouses : ByteArray := prog_9_method_59_code
def yX7_ofHouses : MethodName := ⟨RX7, "ofHouses", "(II)I"⟩
abbrev cX7_feederNow : ByteArray := prog_9_method_60_code
def yX7_feederNow : MethodName := ⟨RX7, "feederNow", "(II)I"⟩
abbrev cX7_feeder : ByteArray := prog_9_method_61_code
def yX7_feeder : MethodName := ⟨RX7, "feeder", "(II)I"⟩
abbrev cX7_accountNow : ByteArray := prog_9_method_62_code
def yX7_accountNow : MethodName := ⟨RX7, "accountNow", "(I)I"⟩
abbrev cX7_account : ByteArray := prog_9_method_63_code
def yX7_account : MethodName := ⟨RX7, "account", "(I)I"⟩
abbrev cX7_supply : ByteArray := prog_9_method_64_code
def yX7_supply : MethodName := ⟨RX7, "supply", "(I)I"⟩
abbrev cX7_negative : ByteArray := prog_9_method_65_code
def yX7_negative : MethodName := ⟨RX7, "negative", "()I"⟩
abbrev cX7_counted : ByteArray := prog_9_method_66_code
def yX7_counted : MethodName := ⟨RX7, "counted", "(I)I"⟩
abbrev cX7_count : ByteArray := prog_9_method_67_code
def yX7_count : MethodName := ⟨RX7, "count", "(I)I"⟩
abbrev cX7_setting : ByteArray := prog_9_method_68_code
def yX7_setting : MethodName := ⟨RX7, "setting", "(I)I"⟩
abbrev cX7_dark : ByteArray := prog_9_method_69_code
def yX7_dark : MethodName := ⟨RX7, "dark", "()I"⟩
abbrev cX7_sheddings : ByteArray := prog_9_method_70_code
def yX7_sheddings : MethodName := ⟨RX7, "sheddings", "()I"⟩
abbrev cX7_ahead : ByteArray := prog_9_method_71_code
def yX7_ahead : MethodName := ⟨RX7, "ahead", "(II)I"⟩
abbrev cX7_ifRun : ByteArray := prog_9_method_72_code
def yX7_ifRun : MethodName := ⟨RX7, "ifRun", "(II)I"⟩
abbrev cX7_firstDark : ByteArray := prog_9_method_73_code
def yX7_firstDark : MethodName := ⟨RX7, "firstDark", "(II)I"⟩
abbrev cX7_darkIn : ByteArray := prog_9_method_74_code
def yX7_darkIn : MethodName := ⟨RX7, "darkIn", "(I)I"⟩
abbrev cX7_tokenFor : ByteArray := prog_9_method_75_code
def yX7_tokenFor : MethodName := ⟨RX7, "tokenFor", "(II)I"⟩
abbrev cX7_met : ByteArray := prog_9_method_76_code
def yX7_met : MethodName := ⟨RX7, "met", "()D"⟩
abbrev cX7_mix : ByteArray := prog_9_method_77_code
def yX7_mix : MethodName := ⟨RX7, "mix", "(J)V"⟩
abbrev cX7_mixThings : ByteArray := prog_9_method_78_code
def yX7_mixThings : MethodName := ⟨RX7, "mixThings", "()V"⟩
abbrev cX7_digest : ByteArray := prog_9_method_79_code
def yX7_digest : MethodName := ⟨RX7, "digest", "()J"⟩
def RJxe99ae : String := "java/lang/Double"
def TJxe99ae : u_T := fun k => match k with
  | _ => ("", "", "", false)
def tyJxe99ae : Nat → FieldType := fun k => match k with
  | _ => .int
abbrev wsJxe99ae0 : List Cond := u_ws RJxe99ae TJxe99ae 0
theorem nmJxe99ae : ∀ a, a < 0 → ∀ b, b < 0 → a ≠ b → (TJxe99ae a).2.1 ≠ (TJxe99ae b).2.1 := by decide +kernel
theorem tyJxe99ae_ok : ∀ k, k < 0 → parseFieldDescriptor (TJxe99ae k).2.2.1 = some (tyJxe99ae k) := by decide +kernel
abbrev cJxe99ae_isNaN_b9ae7 : ByteArray := prog_10_method_6_code
def yJxe99ae_isNaN_b9ae7 : MethodName := ⟨RJxe99ae, "isNaN", "(D)Z"⟩
abbrev cJxe99ae_doubleToLongBits_ccdee : ByteArray := prog_10_method_23_code
def yJxe99ae_doubleToLongBits_ccdee : MethodName := ⟨RJxe99ae, "doubleToLongBits", "(D)J"⟩
def RJ9 : String := "java/lang/Math"
def TJ9 : u_T := fun k => match k with
  | _ => ("", "", "", false)
def tyJ9 : Nat → FieldType := fun k => match k with
  | _ => .int
abbrev wsJ90 : List Cond := u_ws RJ9 TJ9 0
theorem nmJ9 : ∀ a, a < 0 → ∀ b, b < 0 → a ≠ b → (TJ9 a).2.1 ≠ (TJ9 b).2.1 := by decide +kernel
theorem tyJ9_ok : ∀ k, k < 0 → parseFieldDescriptor (TJ9 k).2.2.1 = some (tyJ9 k) := by decide +kernel
abbrev cJ9_max_7cf53 : ByteArray := prog_11_method_65_code
def yJ9_max_7cf53 : MethodName := ⟨RJ9, "max", "(II)I"⟩
abbrev cJ9_min_7cf53 : ByteArray := prog_11_method_69_code
def yJ9_min_7cf53 : MethodName := ⟨RJ9, "min", "(II)I"⟩
def RJ10 : String := "java/lang/System"
def TJ10 : u_T := fun k => match k with
  | _ => ("", "", "", false)
def tyJ10 : Nat → FieldType := fun k => match k with
  | _ => .int
abbrev wsJ100 : List Cond := u_ws RJ10 TJ10 0
theorem nmJ10 : ∀ a, a < 0 → ∀ b, b < 0 → a ≠ b → (TJ10 a).2.1 ≠ (TJ10 b).2.1 := by decide +kernel
theorem tyJ10_ok : ∀ k, k < 0 → parseFieldDescriptor (TJ10 k).2.2.1 = some (tyJ10 k) := by decide +kernel
def RL : String := "MeterPoolLaw"
abbrev cL_law : ByteArray := code
def yL_law : MethodName := ⟨RL, "law", "([I)Z"⟩
abbrev vwCl : List vw_C := [(RX0, TX0, 4), (RX1, TX1, 2), (RX2, TX2, 11), (RX3, TX3, 6), (RX4, TX4, 4), (RX5, TX5, 11), (RX6, TX6, 6), (RX7, TX7, 16)]
end
section
/-! every word of the tables, by its place -/
def lw_w : List Cond := lw_tbl.filter goodWord
theorem lw_w_in : ∀ w ∈ lw_w, w ∈ lw_tbl := fun w h => (List.mem_filter.mp h).1
theorem lw_gi : GoodIn lw_w lw_w := fun w hw => ⟨hw, good_of_word (List.mem_filter.mp hw).2⟩
theorem tb1 : ∀ w ∈ tables_1_1, goodWord w = true → w ∈ lw_w := fun _ h hg => List.mem_filter.mpr ⟨List.mem_append_right _ (List.mem_append_left _ h), hg⟩
theorem tb2 : ∀ w ∈ tables_1_2, goodWord w = true → w ∈ lw_w := fun _ h hg => List.mem_filter.mpr ⟨List.mem_append_right _ (List.mem_append_right _ (List.mem_append_left _ h)), hg⟩
theorem tb3 : ∀ w ∈ tables_1_3, goodWord w = true → w ∈ lw_w := fun _ h hg => List.mem_filter.mpr ⟨List.mem_append_right _ (List.mem_append_right _ (List.mem_append_right _ (List.mem_append_left _ h))), hg⟩
theorem tb4 : ∀ w ∈ tables_1_4, goodWord w = true → w ∈ lw_w := fun _ h hg => List.mem_filter.mpr ⟨List.mem_append_right _ (List.mem_append_right _ (List.mem_append_right _ (List.mem_append_right _ (List.mem_append_left _ h)))), hg⟩
theorem tb5 : ∀ w ∈ tables_1_5, goodWord w = true → w ∈ lw_w := fun _ h hg => List.mem_filter.mpr ⟨List.mem_append_right _ (List.mem_append_right _ (List.mem_append_right _ (List.mem_append_right _ (List.mem_append_right _ (h))))), hg⟩
theorem q1_12 : (Cond.classLink RL 7 RX6 : Cond) ∈ lw_w := tb1 _ (List.mem_of_getElem? (i := 12) rfl) rfl
theorem q1_13 : (Cond.instantiable RX6 6 : Cond) ∈ lw_w := tb1 _ (List.mem_of_getElem? (i := 13) rfl) rfl
theorem q1_1 : (Cond.initialized RX6 : Cond) ∈ lw_w := tb1 _ (List.mem_of_getElem? (i := 1) rfl) rfl
theorem q4_15 : (Cond.classLink RL 10 RX7 : Cond) ∈ lw_w := tb4 _ (List.mem_of_getElem? (i := 15) rfl) rfl
theorem q4_16 : (Cond.instantiable RX7 16 : Cond) ∈ lw_w := tb4 _ (List.mem_of_getElem? (i := 16) rfl) rfl
theorem q1_8 : (Cond.initialized RX7 : Cond) ∈ lw_w := tb1 _ (List.mem_of_getElem? (i := 8) rfl) rfl
theorem q1_14 : (Cond.methodLink RL 9 yX6_init : Cond) ∈ lw_w := tb1 _ (List.mem_of_getElem? (i := 14) rfl) rfl
theorem q1_15 : (Cond.instanceMethod yX6_init : Cond) ∈ lw_w := tb1 _ (List.mem_of_getElem? (i := 15) rfl) rfl
theorem q1_16 : (Cond.code yX6_init cX6_init 2 none : Cond) ∈ lw_w := tb1 _ (List.mem_of_getElem? (i := 16) rfl) rfl
theorem q1_17 : (Cond.methodLink RX6 1 objectInit : Cond) ∈ lw_w := tb1 _ (List.mem_of_getElem? (i := 17) rfl) rfl
theorem q1_18 : (Cond.instanceMethod objectInit : Cond) ∈ lw_w := tb1 _ (List.mem_of_getElem? (i := 18) rfl) rfl
theorem q1_19 : (Cond.code objectInit ⟨#[0xb1]⟩ 1 none : Cond) ∈ lw_w := tb1 _ (List.mem_of_getElem? (i := 19) rfl) rfl
theorem q1_20 : (Cond.classLink RX6 7 RX5 : Cond) ∈ lw_w := tb1 _ (List.mem_of_getElem? (i := 20) rfl) rfl
theorem q1_21 : (Cond.instantiable RX5 11 : Cond) ∈ lw_w := tb1 _ (List.mem_of_getElem? (i := 21) rfl) rfl
theorem q1_2 : (Cond.initialized RX5 : Cond) ∈ lw_w := tb1 _ (List.mem_of_getElem? (i := 2) rfl) rfl
theorem q1_213 : (Cond.fieldLink RX6 10 "MeterPool" "now" "LMeterPool$Village;" : Cond) ∈ lw_w := tb1 _ (List.mem_of_getElem? (i := 213) rfl) rfl
theorem q1_214 : (Cond.fieldLink RX6 16 "MeterPool" "ahead" "LMeterPool$Village;" : Cond) ∈ lw_w := tb1 _ (List.mem_of_getElem? (i := 214) rfl) rfl
theorem q1_166 : (Cond.classLink RX6 19 RX1 : Cond) ∈ lw_w := tb1 _ (List.mem_of_getElem? (i := 166) rfl) rfl
theorem q1_167 : (Cond.instantiable RX1 2 : Cond) ∈ lw_w := tb1 _ (List.mem_of_getElem? (i := 167) rfl) rfl
theorem q1_6 : (Cond.initialized RX1 : Cond) ∈ lw_w := tb1 _ (List.mem_of_getElem? (i := 6) rfl) rfl
theorem q1_215 : (Cond.fieldLink RX6 22 "MeterPool" "history" "LMeterPool$History;" : Cond) ∈ lw_w := tb1 _ (List.mem_of_getElem? (i := 215) rfl) rfl
theorem q1_216 : (Cond.fieldLink RX6 26 "MeterPool" "images" "[LMeterPool$Village;" : Cond) ∈ lw_w := tb1 _ (List.mem_of_getElem? (i := 216) rfl) rfl
theorem q1_212 : (Cond.arrayClass .boolean : Cond) ∈ lw_w := tb1 _ (List.mem_of_getElem? (i := 212) rfl) rfl
theorem q1_217 : (Cond.fieldLink RX6 30 "MeterPool" "kept" "[Z" : Cond) ∈ lw_w := tb1 _ (List.mem_of_getElem? (i := 217) rfl) rfl
theorem q1_183 : (Cond.classLink RX6 34 RX3 : Cond) ∈ lw_w := tb1 _ (List.mem_of_getElem? (i := 183) rfl) rfl
theorem q1_184 : (Cond.instantiable RX3 6 : Cond) ∈ lw_w := tb1 _ (List.mem_of_getElem? (i := 184) rfl) rfl
theorem q1_7 : (Cond.initialized RX3 : Cond) ∈ lw_w := tb1 _ (List.mem_of_getElem? (i := 7) rfl) rfl
theorem q1_218 : (Cond.fieldLink RX6 37 "MeterPool" "text" "LMeterPool$ListText;" : Cond) ∈ lw_w := tb1 _ (List.mem_of_getElem? (i := 218) rfl) rfl
theorem q1_22 : (Cond.methodLink RX6 9 yX5_init : Cond) ∈ lw_w := tb1 _ (List.mem_of_getElem? (i := 22) rfl) rfl
theorem q1_23 : (Cond.instanceMethod yX5_init : Cond) ∈ lw_w := tb1 _ (List.mem_of_getElem? (i := 23) rfl) rfl
theorem q1_24 : (Cond.code yX5_init cX5_init 1 none : Cond) ∈ lw_w := tb1 _ (List.mem_of_getElem? (i := 24) rfl) rfl
theorem q1_25 : (Cond.methodLink RX5 3 objectInit : Cond) ∈ lw_w := tb1 _ (List.mem_of_getElem? (i := 25) rfl) rfl
theorem q1_26 : (Cond.classLink RX5 9 RX2 : Cond) ∈ lw_w := tb1 _ (List.mem_of_getElem? (i := 26) rfl) rfl
theorem q1_27 : (Cond.instantiable RX2 11 : Cond) ∈ lw_w := tb1 _ (List.mem_of_getElem? (i := 27) rfl) rfl
theorem q1_3 : (Cond.initialized RX2 : Cond) ∈ lw_w := tb1 _ (List.mem_of_getElem? (i := 3) rfl) rfl
theorem q1_122 : (Cond.fieldLink RX5 12 "MeterPool$Village" "houses" "LMeterPool$Houses;" : Cond) ∈ lw_w := tb1 _ (List.mem_of_getElem? (i := 122) rfl) rfl
theorem q1_78 : (Cond.classLink RX5 18 RX4 : Cond) ∈ lw_w := tb1 _ (List.mem_of_getElem? (i := 78) rfl) rfl
theorem q1_79 : (Cond.instantiable RX4 4 : Cond) ∈ lw_w := tb1 _ (List.mem_of_getElem? (i := 79) rfl) rfl
theorem q1_4 : (Cond.initialized RX4 : Cond) ∈ lw_w := tb1 _ (List.mem_of_getElem? (i := 4) rfl) rfl
theorem q1_124 : (Cond.fieldLink RX5 21 "MeterPool$Village" "loans" "LMeterPool$Loans;" : Cond) ∈ lw_w := tb1 _ (List.mem_of_getElem? (i := 124) rfl) rfl
theorem q1_103 : (Cond.classLink RX5 25 RX0 : Cond) ∈ lw_w := tb1 _ (List.mem_of_getElem? (i := 103) rfl) rfl
theorem q1_104 : (Cond.instantiable RX0 4 : Cond) ∈ lw_w := tb1 _ (List.mem_of_getElem? (i := 104) rfl) rfl
theorem q1_5 : (Cond.initialized RX0 : Cond) ∈ lw_w := tb1 _ (List.mem_of_getElem? (i := 5) rfl) rfl
theorem q1_126 : (Cond.fieldLink RX5 28 "MeterPool$Village" "batteries" "LMeterPool$Batteries;" : Cond) ∈ lw_w := tb1 _ (List.mem_of_getElem? (i := 126) rfl) rfl
theorem q1_77 : (Cond.arrayClass .int : Cond) ∈ lw_w := tb1 _ (List.mem_of_getElem? (i := 77) rfl) rfl
theorem q1_128 : (Cond.fieldLink RX5 32 "MeterPool$Village" "settings" "[I" : Cond) ∈ lw_w := tb1 _ (List.mem_of_getElem? (i := 128) rfl) rfl
theorem q1_130 : (Cond.fieldLink RX5 36 "MeterPool$Village" "accounts" "[I" : Cond) ∈ lw_w := tb1 _ (List.mem_of_getElem? (i := 130) rfl) rfl
theorem q1_132 : (Cond.fieldLink RX5 39 "MeterPool$Village" "shedHours" "[I" : Cond) ∈ lw_w := tb1 _ (List.mem_of_getElem? (i := 132) rfl) rfl
theorem q1_134 : (Cond.fieldLink RX5 42 "MeterPool$Village" "shedLatest" "[I" : Cond) ∈ lw_w := tb1 _ (List.mem_of_getElem? (i := 134) rfl) rfl
theorem q1_136 : (Cond.fieldLink RX5 45 "MeterPool$Village" "list" "[I" : Cond) ∈ lw_w := tb1 _ (List.mem_of_getElem? (i := 136) rfl) rfl
theorem q1_137 : (Cond.fieldLink RX5 48 "MeterPool$Village" "listSize" "I" : Cond) ∈ lw_w := tb1 _ (List.mem_of_getElem? (i := 137) rfl) rfl
theorem q1_139 : (Cond.fieldLink RX5 52 "MeterPool$Village" "hour" "I" : Cond) ∈ lw_w := tb1 _ (List.mem_of_getElem? (i := 139) rfl) rfl
theorem q1_141 : (Cond.fieldLink RX5 55 "MeterPool$Village" "turn" "I" : Cond) ∈ lw_w := tb1 _ (List.mem_of_getElem? (i := 141) rfl) rfl
theorem q1_29 : (Cond.instanceMethod yX2_init : Cond) ∈ lw_w := tb1 _ (List.mem_of_getElem? (i := 29) rfl) rfl
theorem q1_30 : (Cond.code yX2_init cX2_init 1 none : Cond) ∈ lw_w := tb1 _ (List.mem_of_getElem? (i := 30) rfl) rfl
theorem q1_31 : (Cond.methodLink RX2 3 objectInit : Cond) ∈ lw_w := tb1 _ (List.mem_of_getElem? (i := 31) rfl) rfl
theorem q1_35 : (Cond.fieldLink RX2 9 "MeterPool$Houses" "feeder" "[I" : Cond) ∈ lw_w := tb1 _ (List.mem_of_getElem? (i := 35) rfl) rfl
theorem q1_37 : (Cond.fieldLink RX2 15 "MeterPool$Houses" "demand" "[I" : Cond) ∈ lw_w := tb1 _ (List.mem_of_getElem? (i := 37) rfl) rfl
theorem q1_40 : (Cond.fieldLink RX2 18 "MeterPool$Houses" "debt" "[I" : Cond) ∈ lw_w := tb1 _ (List.mem_of_getElem? (i := 40) rfl) rfl
theorem q1_42 : (Cond.fieldLink RX2 21 "MeterPool$Houses" "connected" "[I" : Cond) ∈ lw_w := tb1 _ (List.mem_of_getElem? (i := 42) rfl) rfl
theorem q1_43 : (Cond.fieldLink RX2 24 "MeterPool$Houses" "credit" "[I" : Cond) ∈ lw_w := tb1 _ (List.mem_of_getElem? (i := 43) rfl) rfl
theorem q1_46 : (Cond.fieldLink RX2 27 "MeterPool$Houses" "got" "[I" : Cond) ∈ lw_w := tb1 _ (List.mem_of_getElem? (i := 46) rfl) rfl
theorem q1_49 : (Cond.fieldLink RX2 30 "MeterPool$Houses" "reason" "[I" : Cond) ∈ lw_w := tb1 _ (List.mem_of_getElem? (i := 49) rfl) rfl
theorem q1_50 : (Cond.fieldLink RX2 33 "MeterPool$Houses" "gotEver" "[I" : Cond) ∈ lw_w := tb1 _ (List.mem_of_getElem? (i := 50) rfl) rfl
theorem q1_51 : (Cond.fieldLink RX2 36 "MeterPool$Houses" "could" "[I" : Cond) ∈ lw_w := tb1 _ (List.mem_of_getElem? (i := 51) rfl) rfl
theorem q1_52 : (Cond.fieldLink RX2 39 "MeterPool$Houses" "wants" "[I" : Cond) ∈ lw_w := tb1 _ (List.mem_of_getElem? (i := 52) rfl) rfl
theorem q1_81 : (Cond.instanceMethod yX4_init : Cond) ∈ lw_w := tb1 _ (List.mem_of_getElem? (i := 81) rfl) rfl
theorem q1_82 : (Cond.code yX4_init cX4_init 1 none : Cond) ∈ lw_w := tb1 _ (List.mem_of_getElem? (i := 82) rfl) rfl
theorem q1_83 : (Cond.methodLink RX4 3 objectInit : Cond) ∈ lw_w := tb1 _ (List.mem_of_getElem? (i := 83) rfl) rfl
theorem q1_87 : (Cond.fieldLink RX4 9 "MeterPool$Loans" "lender" "[I" : Cond) ∈ lw_w := tb1 _ (List.mem_of_getElem? (i := 87) rfl) rfl
theorem q1_89 : (Cond.fieldLink RX4 15 "MeterPool$Loans" "borrower" "[I" : Cond) ∈ lw_w := tb1 _ (List.mem_of_getElem? (i := 89) rfl) rfl
theorem q1_91 : (Cond.fieldLink RX4 18 "MeterPool$Loans" "owed" "[I" : Cond) ∈ lw_w := tb1 _ (List.mem_of_getElem? (i := 91) rfl) rfl
theorem q1_105 : (Cond.methodLink RX5 27 yX0_init : Cond) ∈ lw_w := tb1 _ (List.mem_of_getElem? (i := 105) rfl) rfl
theorem q1_106 : (Cond.instanceMethod yX0_init : Cond) ∈ lw_w := tb1 _ (List.mem_of_getElem? (i := 106) rfl) rfl
theorem q1_107 : (Cond.code yX0_init cX0_init 2 none : Cond) ∈ lw_w := tb1 _ (List.mem_of_getElem? (i := 107) rfl) rfl
theorem q1_108 : (Cond.methodLink RX0 3 objectInit : Cond) ∈ lw_w := tb1 _ (List.mem_of_getElem? (i := 108) rfl) rfl
theorem q1_109 : (Cond.fieldLink RX0 9 "MeterPool$Batteries" "capacity" "[I" : Cond) ∈ lw_w := tb1 _ (List.mem_of_getElem? (i := 109) rfl) rfl
theorem q1_110 : (Cond.fieldLink RX0 15 "MeterPool$Batteries" "rate" "[I" : Cond) ∈ lw_w := tb1 _ (List.mem_of_getElem? (i := 110) rfl) rfl
theorem q1_111 : (Cond.fieldLink RX0 18 "MeterPool$Batteries" "efficiency" "[I" : Cond) ∈ lw_w := tb1 _ (List.mem_of_getElem? (i := 111) rfl) rfl
theorem q1_112 : (Cond.fieldLink RX0 21 "MeterPool$Batteries" "charge" "[I" : Cond) ∈ lw_w := tb1 _ (List.mem_of_getElem? (i := 112) rfl) rfl
theorem q1_168 : (Cond.methodLink RX6 21 yX1_init : Cond) ∈ lw_w := tb1 _ (List.mem_of_getElem? (i := 168) rfl) rfl
theorem q1_169 : (Cond.instanceMethod yX1_init : Cond) ∈ lw_w := tb1 _ (List.mem_of_getElem? (i := 169) rfl) rfl
theorem q1_170 : (Cond.code yX1_init cX1_init 2 none : Cond) ∈ lw_w := tb1 _ (List.mem_of_getElem? (i := 170) rfl) rfl
theorem q1_171 : (Cond.methodLink RX1 3 objectInit : Cond) ∈ lw_w := tb1 _ (List.mem_of_getElem? (i := 171) rfl) rfl
theorem q1_172 : (Cond.classLink RX1 9 RX5 : Cond) ∈ lw_w := tb1 _ (List.mem_of_getElem? (i := 172) rfl) rfl
theorem q1_177 : (Cond.fieldLink RX1 11 "MeterPool$History" "states" "[LMeterPool$Village;" : Cond) ∈ lw_w := tb1 _ (List.mem_of_getElem? (i := 177) rfl) rfl
theorem q1_174 : (Cond.methodLink RX1 17 yX5_init : Cond) ∈ lw_w := tb1 _ (List.mem_of_getElem? (i := 174) rfl) rfl
theorem q1_186 : (Cond.instanceMethod yX3_init : Cond) ∈ lw_w := tb1 _ (List.mem_of_getElem? (i := 186) rfl) rfl
theorem q1_187 : (Cond.code yX3_init cX3_init 1 none : Cond) ∈ lw_w := tb1 _ (List.mem_of_getElem? (i := 187) rfl) rfl
theorem q1_188 : (Cond.methodLink RX3 3 objectInit : Cond) ∈ lw_w := tb1 _ (List.mem_of_getElem? (i := 188) rfl) rfl
theorem q1_191 : (Cond.fieldLink RX3 9 "MeterPool$ListText" "codes" "[I" : Cond) ∈ lw_w := tb1 _ (List.mem_of_getElem? (i := 191) rfl) rfl
theorem q1_195 : (Cond.fieldLink RX3 15 "MeterPool$ListText" "numbers" "[I" : Cond) ∈ lw_w := tb1 _ (List.mem_of_getElem? (i := 195) rfl) rfl
theorem q4_17 : (Cond.methodLink RL 12 yX7_init : Cond) ∈ lw_w := tb4 _ (List.mem_of_getElem? (i := 17) rfl) rfl
theorem q4_18 : (Cond.instanceMethod yX7_init : Cond) ∈ lw_w := tb4 _ (List.mem_of_getElem? (i := 18) rfl) rfl
theorem q4_19 : (Cond.code yX7_init cX7_init 2 none : Cond) ∈ lw_w := tb4 _ (List.mem_of_getElem? (i := 19) rfl) rfl
theorem q4_20 : (Cond.methodLink RX7 1 objectInit : Cond) ∈ lw_w := tb4 _ (List.mem_of_getElem? (i := 20) rfl) rfl
theorem q4_21 : (Cond.fieldLink RX7 7 "MeterPoolModel" "z" "[I" : Cond) ∈ lw_w := tb4 _ (List.mem_of_getElem? (i := 21) rfl) rfl
theorem q4_22 : (Cond.fieldLink RX7 13 "MeterPoolModel" "aside" "[I" : Cond) ∈ lw_w := tb4 _ (List.mem_of_getElem? (i := 22) rfl) rfl
theorem q4_24 : (Cond.fieldLink RX7 16 "MeterPoolModel" "history" "[I" : Cond) ∈ lw_w := tb4 _ (List.mem_of_getElem? (i := 24) rfl) rfl
theorem q4_26 : (Cond.fieldLink RX7 19 "MeterPoolModel" "images" "[I" : Cond) ∈ lw_w := tb4 _ (List.mem_of_getElem? (i := 26) rfl) rfl
theorem q4_28 : (Cond.fieldLink RX7 22 "MeterPoolModel" "text" "[I" : Cond) ∈ lw_w := tb4 _ (List.mem_of_getElem? (i := 28) rfl) rfl
theorem q4_29 : (Cond.fieldLink RX7 25 "MeterPoolModel" "wants" "[I" : Cond) ∈ lw_w := tb4 _ (List.mem_of_getElem? (i := 29) rfl) rfl
theorem q4_30 : (Cond.fieldLink RX7 28 "MeterPoolModel" "list" "[I" : Cond) ∈ lw_w := tb4 _ (List.mem_of_getElem? (i := 30) rfl) rfl
theorem q1_232 : (Cond.methodLink RL 13 yX6_addHouse : Cond) ∈ lw_w := tb1 _ (List.mem_of_getElem? (i := 232) rfl) rfl
theorem q1_233 : (Cond.instanceMethod yX6_addHouse : Cond) ∈ lw_w := tb1 _ (List.mem_of_getElem? (i := 233) rfl) rfl
theorem q1_234 : (Cond.selects RX6 yX6_addHouse yX6_addHouse : Cond) ∈ lw_w := tb1 _ (List.mem_of_getElem? (i := 234) rfl) rfl
theorem q1_235 : (Cond.code yX6_addHouse cX6_addHouse 3 (some .int) : Cond) ∈ lw_w := tb1 _ (List.mem_of_getElem? (i := 235) rfl) rfl
theorem q1_239 : (Cond.constant RX6 45 (-1000002) : Cond) ∈ lw_w := tb1 _ (List.mem_of_getElem? (i := 239) rfl) rfl
theorem q1_123 : (Cond.fieldLink RX6 46 "MeterPool$Village" "houses" "LMeterPool$Houses;" : Cond) ∈ lw_w := tb1 _ (List.mem_of_getElem? (i := 123) rfl) rfl
theorem q1_33 : (Cond.fieldLink RX6 50 "MeterPool$Houses" "size" "I" : Cond) ∈ lw_w := tb1 _ (List.mem_of_getElem? (i := 33) rfl) rfl
theorem q2_0 : (Cond.constant RX6 56 (-1000004) : Cond) ∈ lw_w := tb2 _ (List.mem_of_getElem? (i := 0) rfl) rfl
theorem q1_236 : (Cond.methodLink RX6 41 yX6_within : Cond) ∈ lw_w := tb1 _ (List.mem_of_getElem? (i := 236) rfl) rfl
theorem q1_237 : (Cond.static yX6_within : Cond) ∈ lw_w := tb1 _ (List.mem_of_getElem? (i := 237) rfl) rfl
theorem q1_238 : (Cond.code yX6_within cX6_within 3 (some .boolean) : Cond) ∈ lw_w := tb1 _ (List.mem_of_getElem? (i := 238) rfl) rfl
theorem q2_1 : (Cond.methodLink RX6 57 yX1_record : Cond) ∈ lw_w := tb2 _ (List.mem_of_getElem? (i := 1) rfl) rfl
theorem q2_2 : (Cond.instanceMethod yX1_record : Cond) ∈ lw_w := tb2 _ (List.mem_of_getElem? (i := 2) rfl) rfl
theorem q2_3 : (Cond.selects RX1 yX1_record yX1_record : Cond) ∈ lw_w := tb2 _ (List.mem_of_getElem? (i := 3) rfl) rfl
theorem q2_4 : (Cond.code yX1_record cX1_record 2 none : Cond) ∈ lw_w := tb2 _ (List.mem_of_getElem? (i := 4) rfl) rfl
theorem q1_175 : (Cond.fieldLink RX1 18 "MeterPool$History" "size" "I" : Cond) ∈ lw_w := tb1 _ (List.mem_of_getElem? (i := 175) rfl) rfl
theorem q2_5 : (Cond.methodLink RX1 22 yX1_dropOldest : Cond) ∈ lw_w := tb2 _ (List.mem_of_getElem? (i := 5) rfl) rfl
theorem q2_7 : (Cond.instanceMethod yX1_dropOldest : Cond) ∈ lw_w := tb2 _ (List.mem_of_getElem? (i := 7) rfl) rfl
theorem qs0 : (Cond.selects RX1 yX1_dropOldest yX1_dropOldest : Cond) ∈ lw_w := List.mem_filter.mpr ⟨List.mem_append_left _ (List.mem_of_getElem? (i := 0) rfl), rfl⟩
theorem q2_8 : (Cond.code yX1_dropOldest cX1_dropOldest 3 none : Cond) ∈ lw_w := tb2 _ (List.mem_of_getElem? (i := 8) rfl) rfl
theorem q2_9 : (Cond.methodLink RX1 25 yX5_copy : Cond) ∈ lw_w := tb2 _ (List.mem_of_getElem? (i := 9) rfl) rfl
theorem q2_10 : (Cond.instanceMethod yX5_copy : Cond) ∈ lw_w := tb2 _ (List.mem_of_getElem? (i := 10) rfl) rfl
theorem q2_11 : (Cond.selects RX5 yX5_copy yX5_copy : Cond) ∈ lw_w := tb2 _ (List.mem_of_getElem? (i := 11) rfl) rfl
theorem q2_12 : (Cond.code yX5_copy cX5_copy 2 none : Cond) ∈ lw_w := tb2 _ (List.mem_of_getElem? (i := 12) rfl) rfl
theorem q2_30 : (Cond.methodLink RX5 68 arraycopyName : Cond) ∈ lw_w := tb2 _ (List.mem_of_getElem? (i := 30) rfl) rfl
theorem q2_19 : (Cond.native arraycopyName : Cond) ∈ lw_w := tb2 _ (List.mem_of_getElem? (i := 19) rfl) rfl
theorem q2_18 : (Cond.static arraycopyName : Cond) ∈ lw_w := tb2 _ (List.mem_of_getElem? (i := 18) rfl) rfl
theorem q1_9 : (Cond.initialized "java/lang/System" : Cond) ∈ lw_w := tb1 _ (List.mem_of_getElem? (i := 9) rfl) rfl
theorem q2_13 : (Cond.methodLink RX5 58 yX2_copy : Cond) ∈ lw_w := tb2 _ (List.mem_of_getElem? (i := 13) rfl) rfl
theorem q2_14 : (Cond.instanceMethod yX2_copy : Cond) ∈ lw_w := tb2 _ (List.mem_of_getElem? (i := 14) rfl) rfl
theorem q2_15 : (Cond.selects RX2 yX2_copy yX2_copy : Cond) ∈ lw_w := tb2 _ (List.mem_of_getElem? (i := 15) rfl) rfl
theorem q2_16 : (Cond.code yX2_copy cX2_copy 2 none : Cond) ∈ lw_w := tb2 _ (List.mem_of_getElem? (i := 16) rfl) rfl
theorem q1_32 : (Cond.fieldLink RX2 42 "MeterPool$Houses" "size" "I" : Cond) ∈ lw_w := tb1 _ (List.mem_of_getElem? (i := 32) rfl) rfl
theorem q2_17 : (Cond.methodLink RX2 46 arraycopyName : Cond) ∈ lw_w := tb2 _ (List.mem_of_getElem? (i := 17) rfl) rfl
theorem q2_20 : (Cond.methodLink RX5 62 yX4_copy : Cond) ∈ lw_w := tb2 _ (List.mem_of_getElem? (i := 20) rfl) rfl
theorem q2_21 : (Cond.instanceMethod yX4_copy : Cond) ∈ lw_w := tb2 _ (List.mem_of_getElem? (i := 21) rfl) rfl
theorem q2_22 : (Cond.selects RX4 yX4_copy yX4_copy : Cond) ∈ lw_w := tb2 _ (List.mem_of_getElem? (i := 22) rfl) rfl
theorem q2_23 : (Cond.code yX4_copy cX4_copy 2 none : Cond) ∈ lw_w := tb2 _ (List.mem_of_getElem? (i := 23) rfl) rfl
theorem q1_84 : (Cond.fieldLink RX4 21 "MeterPool$Loans" "size" "I" : Cond) ∈ lw_w := tb1 _ (List.mem_of_getElem? (i := 84) rfl) rfl
theorem q2_24 : (Cond.methodLink RX4 25 arraycopyName : Cond) ∈ lw_w := tb2 _ (List.mem_of_getElem? (i := 24) rfl) rfl
theorem q2_25 : (Cond.methodLink RX5 65 yX0_copy : Cond) ∈ lw_w := tb2 _ (List.mem_of_getElem? (i := 25) rfl) rfl
theorem q2_26 : (Cond.instanceMethod yX0_copy : Cond) ∈ lw_w := tb2 _ (List.mem_of_getElem? (i := 26) rfl) rfl
theorem q2_27 : (Cond.selects RX0 yX0_copy yX0_copy : Cond) ∈ lw_w := tb2 _ (List.mem_of_getElem? (i := 27) rfl) rfl
theorem q2_28 : (Cond.code yX0_copy cX0_copy 2 none : Cond) ∈ lw_w := tb2 _ (List.mem_of_getElem? (i := 28) rfl) rfl
theorem q2_29 : (Cond.methodLink RX0 24 arraycopyName : Cond) ∈ lw_w := tb2 _ (List.mem_of_getElem? (i := 29) rfl) rfl
theorem q2_31 : (Cond.methodLink RX5 74 yX5_takeList : Cond) ∈ lw_w := tb2 _ (List.mem_of_getElem? (i := 31) rfl) rfl
theorem q2_32 : (Cond.instanceMethod yX5_takeList : Cond) ∈ lw_w := tb2 _ (List.mem_of_getElem? (i := 32) rfl) rfl
theorem q2_33 : (Cond.selects RX5 yX5_takeList yX5_takeList : Cond) ∈ lw_w := tb2 _ (List.mem_of_getElem? (i := 33) rfl) rfl
theorem q2_34 : (Cond.code yX5_takeList cX5_takeList 3 none : Cond) ∈ lw_w := tb2 _ (List.mem_of_getElem? (i := 34) rfl) rfl
theorem q2_35 : (Cond.methodLink RX6 61 yX2_add : Cond) ∈ lw_w := tb2 _ (List.mem_of_getElem? (i := 35) rfl) rfl
theorem q2_36 : (Cond.instanceMethod yX2_add : Cond) ∈ lw_w := tb2 _ (List.mem_of_getElem? (i := 36) rfl) rfl
theorem q2_37 : (Cond.selects RX2 yX2_add yX2_add : Cond) ∈ lw_w := tb2 _ (List.mem_of_getElem? (i := 37) rfl) rfl
theorem q2_38 : (Cond.code yX2_add cX2_add 4 (some .int) : Cond) ∈ lw_w := tb2 _ (List.mem_of_getElem? (i := 38) rfl) rfl
theorem q4_70 : (Cond.methodLink RL 17 yX7_addHouse : Cond) ∈ lw_w := tb4 _ (List.mem_of_getElem? (i := 70) rfl) rfl
theorem q4_71 : (Cond.instanceMethod yX7_addHouse : Cond) ∈ lw_w := tb4 _ (List.mem_of_getElem? (i := 71) rfl) rfl
theorem q4_72 : (Cond.selects RX7 yX7_addHouse yX7_addHouse : Cond) ∈ lw_w := tb4 _ (List.mem_of_getElem? (i := 72) rfl) rfl
theorem q4_73 : (Cond.code yX7_addHouse cX7_addHouse 5 (some .int) : Cond) ∈ lw_w := tb4 _ (List.mem_of_getElem? (i := 73) rfl) rfl
theorem q4_77 : (Cond.constant RX7 43 (-1000002) : Cond) ∈ lw_w := tb4 _ (List.mem_of_getElem? (i := 77) rfl) rfl
theorem q4_78 : (Cond.constant RX7 44 (-1000004) : Cond) ∈ lw_w := tb4 _ (List.mem_of_getElem? (i := 78) rfl) rfl
theorem q4_74 : (Cond.methodLink RX7 31 yX7_within : Cond) ∈ lw_w := tb4 _ (List.mem_of_getElem? (i := 74) rfl) rfl
theorem q4_75 : (Cond.static yX7_within : Cond) ∈ lw_w := tb4 _ (List.mem_of_getElem? (i := 75) rfl) rfl
theorem q4_76 : (Cond.code yX7_within cX7_within 3 (some .boolean) : Cond) ∈ lw_w := tb4 _ (List.mem_of_getElem? (i := 76) rfl) rfl
theorem q4_79 : (Cond.methodLink RX7 45 yX7_record : Cond) ∈ lw_w := tb4 _ (List.mem_of_getElem? (i := 79) rfl) rfl
theorem q4_81 : (Cond.instanceMethod yX7_record : Cond) ∈ lw_w := tb4 _ (List.mem_of_getElem? (i := 81) rfl) rfl
theorem qs28 : (Cond.selects RX7 yX7_record yX7_record : Cond) ∈ lw_w := List.mem_filter.mpr ⟨List.mem_append_left _ (List.mem_of_getElem? (i := 28) rfl), rfl⟩
theorem q4_82 : (Cond.code yX7_record cX7_record 2 none : Cond) ∈ lw_w := tb4 _ (List.mem_of_getElem? (i := 82) rfl) rfl
theorem q4_23 : (Cond.fieldLink RX7 35 "MeterPoolModel" "states" "I" : Cond) ∈ lw_w := tb4 _ (List.mem_of_getElem? (i := 23) rfl) rfl
theorem q4_83 : (Cond.methodLink RX7 39 yX7_copy : Cond) ∈ lw_w := tb4 _ (List.mem_of_getElem? (i := 83) rfl) rfl
theorem q4_85 : (Cond.instanceMethod yX7_copy : Cond) ∈ lw_w := tb4 _ (List.mem_of_getElem? (i := 85) rfl) rfl
theorem qs29 : (Cond.selects RX7 yX7_copy yX7_copy : Cond) ∈ lw_w := List.mem_filter.mpr ⟨List.mem_append_left _ (List.mem_of_getElem? (i := 29) rfl), rfl⟩
theorem q4_86 : (Cond.code yX7_copy cX7_copy 6 none : Cond) ∈ lw_w := tb4 _ (List.mem_of_getElem? (i := 86) rfl) rfl
theorem q2_39 : (Cond.methodLink RL 18 yX6_setHouse : Cond) ∈ lw_w := tb2 _ (List.mem_of_getElem? (i := 39) rfl) rfl
theorem q2_40 : (Cond.instanceMethod yX6_setHouse : Cond) ∈ lw_w := tb2 _ (List.mem_of_getElem? (i := 40) rfl) rfl
theorem q2_41 : (Cond.selects RX6 yX6_setHouse yX6_setHouse : Cond) ∈ lw_w := tb2 _ (List.mem_of_getElem? (i := 41) rfl) rfl
theorem q2_42 : (Cond.code yX6_setHouse cX6_setHouse 5 (some .int) : Cond) ∈ lw_w := tb2 _ (List.mem_of_getElem? (i := 42) rfl) rfl
theorem q2_47 : (Cond.fieldLink RX6 69 "MeterPool" "HOUSE_MOST" "[I" : Cond) ∈ lw_w := tb2 _ (List.mem_of_getElem? (i := 47) rfl) rfl
theorem q2_43 : (Cond.methodLink RX6 65 yX6_isHouse : Cond) ∈ lw_w := tb2 _ (List.mem_of_getElem? (i := 43) rfl) rfl
theorem q2_45 : (Cond.instanceMethod yX6_isHouse : Cond) ∈ lw_w := tb2 _ (List.mem_of_getElem? (i := 45) rfl) rfl
theorem qs1 : (Cond.selects RX6 yX6_isHouse yX6_isHouse : Cond) ∈ lw_w := List.mem_filter.mpr ⟨List.mem_append_left _ (List.mem_of_getElem? (i := 1) rfl), rfl⟩
theorem q2_46 : (Cond.code yX6_isHouse cX6_isHouse 2 (some .boolean) : Cond) ∈ lw_w := tb2 _ (List.mem_of_getElem? (i := 46) rfl) rfl
theorem q2_49 : (Cond.methodLink RX6 73 yX2_told : Cond) ∈ lw_w := tb2 _ (List.mem_of_getElem? (i := 49) rfl) rfl
theorem q2_50 : (Cond.instanceMethod yX2_told : Cond) ∈ lw_w := tb2 _ (List.mem_of_getElem? (i := 50) rfl) rfl
theorem q2_51 : (Cond.selects RX2 yX2_told yX2_told : Cond) ∈ lw_w := tb2 _ (List.mem_of_getElem? (i := 51) rfl) rfl
theorem q2_52 : (Cond.code yX2_told cX2_told 3 (some .int) : Cond) ∈ lw_w := tb2 _ (List.mem_of_getElem? (i := 52) rfl) rfl
theorem q2_53 : (Cond.methodLink RX6 76 yX2_change : Cond) ∈ lw_w := tb2 _ (List.mem_of_getElem? (i := 53) rfl) rfl
theorem q2_54 : (Cond.instanceMethod yX2_change : Cond) ∈ lw_w := tb2 _ (List.mem_of_getElem? (i := 54) rfl) rfl
theorem q2_55 : (Cond.selects RX2 yX2_change yX2_change : Cond) ∈ lw_w := tb2 _ (List.mem_of_getElem? (i := 55) rfl) rfl
theorem q2_56 : (Cond.code yX2_change cX2_change 4 none : Cond) ∈ lw_w := tb2 _ (List.mem_of_getElem? (i := 56) rfl) rfl
theorem q4_87 : (Cond.methodLink RL 22 yX7_setHouse : Cond) ∈ lw_w := tb4 _ (List.mem_of_getElem? (i := 87) rfl) rfl
theorem q4_88 : (Cond.instanceMethod yX7_setHouse : Cond) ∈ lw_w := tb4 _ (List.mem_of_getElem? (i := 88) rfl) rfl
theorem q4_89 : (Cond.selects RX7 yX7_setHouse yX7_setHouse : Cond) ∈ lw_w := tb4 _ (List.mem_of_getElem? (i := 89) rfl) rfl
theorem q4_90 : (Cond.code yX7_setHouse cX7_setHouse 5 (some .int) : Cond) ∈ lw_w := tb4 _ (List.mem_of_getElem? (i := 90) rfl) rfl
theorem q4_91 : (Cond.methodLink RX7 48 yX7_isHouse : Cond) ∈ lw_w := tb4 _ (List.mem_of_getElem? (i := 91) rfl) rfl
theorem q4_93 : (Cond.instanceMethod yX7_isHouse : Cond) ∈ lw_w := tb4 _ (List.mem_of_getElem? (i := 93) rfl) rfl
theorem qs30 : (Cond.selects RX7 yX7_isHouse yX7_isHouse : Cond) ∈ lw_w := List.mem_filter.mpr ⟨List.mem_append_left _ (List.mem_of_getElem? (i := 30) rfl), rfl⟩
theorem q4_94 : (Cond.code yX7_isHouse cX7_isHouse 2 (some .boolean) : Cond) ∈ lw_w := tb4 _ (List.mem_of_getElem? (i := 94) rfl) rfl
theorem q4_95 : (Cond.methodLink RX7 52 yX7_isProperty : Cond) ∈ lw_w := tb4 _ (List.mem_of_getElem? (i := 95) rfl) rfl
theorem q4_96 : (Cond.static yX7_isProperty : Cond) ∈ lw_w := tb4 _ (List.mem_of_getElem? (i := 96) rfl) rfl
theorem q4_97 : (Cond.code yX7_isProperty cX7_isProperty 2 (some .boolean) : Cond) ∈ lw_w := tb4 _ (List.mem_of_getElem? (i := 97) rfl) rfl
theorem q4_98 : (Cond.methodLink RX7 56 yX7_of : Cond) ∈ lw_w := tb4 _ (List.mem_of_getElem? (i := 98) rfl) rfl
theorem q4_100 : (Cond.instanceMethod yX7_of : Cond) ∈ lw_w := tb4 _ (List.mem_of_getElem? (i := 100) rfl) rfl
theorem qs31 : (Cond.selects RX7 yX7_of yX7_of : Cond) ∈ lw_w := List.mem_filter.mpr ⟨List.mem_append_left _ (List.mem_of_getElem? (i := 31) rfl), rfl⟩
theorem q4_101 : (Cond.code yX7_of cX7_of 3 (some .int) : Cond) ∈ lw_w := tb4 _ (List.mem_of_getElem? (i := 101) rfl) rfl
theorem q2_57 : (Cond.methodLink RL 23 yX6_removeHouse : Cond) ∈ lw_w := tb2 _ (List.mem_of_getElem? (i := 57) rfl) rfl
theorem q2_58 : (Cond.instanceMethod yX6_removeHouse : Cond) ∈ lw_w := tb2 _ (List.mem_of_getElem? (i := 58) rfl) rfl
theorem q2_59 : (Cond.selects RX6 yX6_removeHouse yX6_removeHouse : Cond) ∈ lw_w := tb2 _ (List.mem_of_getElem? (i := 59) rfl) rfl
theorem q2_60 : (Cond.code yX6_removeHouse cX6_removeHouse 2 (some .int) : Cond) ∈ lw_w := tb2 _ (List.mem_of_getElem? (i := 60) rfl) rfl
theorem q1_125 : (Cond.fieldLink RX6 80 "MeterPool$Village" "loans" "LMeterPool$Loans;" : Cond) ∈ lw_w := tb1 _ (List.mem_of_getElem? (i := 125) rfl) rfl
theorem q2_65 : (Cond.constant RX6 89 (-1000003) : Cond) ∈ lw_w := tb2 _ (List.mem_of_getElem? (i := 65) rfl) rfl
theorem q2_61 : (Cond.methodLink RX6 84 yX4_involve : Cond) ∈ lw_w := tb2 _ (List.mem_of_getElem? (i := 61) rfl) rfl
theorem q2_62 : (Cond.instanceMethod yX4_involve : Cond) ∈ lw_w := tb2 _ (List.mem_of_getElem? (i := 62) rfl) rfl
theorem q2_63 : (Cond.selects RX4 yX4_involve yX4_involve : Cond) ∈ lw_w := tb2 _ (List.mem_of_getElem? (i := 63) rfl) rfl
theorem q2_64 : (Cond.code yX4_involve cX4_involve 3 (some .boolean) : Cond) ∈ lw_w := tb2 _ (List.mem_of_getElem? (i := 64) rfl) rfl
theorem q2_66 : (Cond.methodLink RX6 90 yX2_remove : Cond) ∈ lw_w := tb2 _ (List.mem_of_getElem? (i := 66) rfl) rfl
theorem q2_67 : (Cond.instanceMethod yX2_remove : Cond) ∈ lw_w := tb2 _ (List.mem_of_getElem? (i := 67) rfl) rfl
theorem q2_68 : (Cond.selects RX2 yX2_remove yX2_remove : Cond) ∈ lw_w := tb2 _ (List.mem_of_getElem? (i := 68) rfl) rfl
theorem q2_69 : (Cond.code yX2_remove cX2_remove 3 none : Cond) ∈ lw_w := tb2 _ (List.mem_of_getElem? (i := 69) rfl) rfl
theorem q2_70 : (Cond.methodLink RX6 94 yX4_renumber : Cond) ∈ lw_w := tb2 _ (List.mem_of_getElem? (i := 70) rfl) rfl
theorem q2_71 : (Cond.instanceMethod yX4_renumber : Cond) ∈ lw_w := tb2 _ (List.mem_of_getElem? (i := 71) rfl) rfl
theorem q2_72 : (Cond.selects RX4 yX4_renumber yX4_renumber : Cond) ∈ lw_w := tb2 _ (List.mem_of_getElem? (i := 72) rfl) rfl
theorem q2_73 : (Cond.code yX4_renumber cX4_renumber 3 none : Cond) ∈ lw_w := tb2 _ (List.mem_of_getElem? (i := 73) rfl) rfl
theorem q4_102 : (Cond.methodLink RL 27 yX7_removeHouse : Cond) ∈ lw_w := tb4 _ (List.mem_of_getElem? (i := 102) rfl) rfl
theorem q4_103 : (Cond.instanceMethod yX7_removeHouse : Cond) ∈ lw_w := tb4 _ (List.mem_of_getElem? (i := 103) rfl) rfl
theorem q4_104 : (Cond.selects RX7 yX7_removeHouse yX7_removeHouse : Cond) ∈ lw_w := tb4 _ (List.mem_of_getElem? (i := 104) rfl) rfl
theorem q4_105 : (Cond.code yX7_removeHouse cX7_removeHouse 4 (some .int) : Cond) ∈ lw_w := tb4 _ (List.mem_of_getElem? (i := 105) rfl) rfl
theorem q4_114 : (Cond.constant RX7 66 (-1000003) : Cond) ∈ lw_w := tb4 _ (List.mem_of_getElem? (i := 114) rfl) rfl
theorem q4_106 : (Cond.methodLink RX7 63 yX7_owed : Cond) ∈ lw_w := tb4 _ (List.mem_of_getElem? (i := 106) rfl) rfl
theorem q4_108 : (Cond.instanceMethod yX7_owed : Cond) ∈ lw_w := tb4 _ (List.mem_of_getElem? (i := 108) rfl) rfl
theorem qs32 : (Cond.selects RX7 yX7_owed yX7_owed : Cond) ∈ lw_w := List.mem_filter.mpr ⟨List.mem_append_left _ (List.mem_of_getElem? (i := 32) rfl), rfl⟩
theorem q4_109 : (Cond.code yX7_owed cX7_owed 5 (some .int) : Cond) ∈ lw_w := tb4 _ (List.mem_of_getElem? (i := 109) rfl) rfl
theorem q4_110 : (Cond.methodLink RX7 60 yX7_loanOf : Cond) ∈ lw_w := tb4 _ (List.mem_of_getElem? (i := 110) rfl) rfl
theorem q4_112 : (Cond.instanceMethod yX7_loanOf : Cond) ∈ lw_w := tb4 _ (List.mem_of_getElem? (i := 112) rfl) rfl
theorem qs33 : (Cond.selects RX7 yX7_loanOf yX7_loanOf : Cond) ∈ lw_w := List.mem_filter.mpr ⟨List.mem_append_left _ (List.mem_of_getElem? (i := 33) rfl), rfl⟩
theorem q4_113 : (Cond.code yX7_loanOf cX7_loanOf 3 (some .int) : Cond) ∈ lw_w := tb4 _ (List.mem_of_getElem? (i := 113) rfl) rfl
theorem q2_74 : (Cond.methodLink RL 28 yX6_buy : Cond) ∈ lw_w := tb2 _ (List.mem_of_getElem? (i := 74) rfl) rfl
theorem q2_75 : (Cond.instanceMethod yX6_buy : Cond) ∈ lw_w := tb2 _ (List.mem_of_getElem? (i := 75) rfl) rfl
theorem q2_76 : (Cond.selects RX6 yX6_buy yX6_buy : Cond) ∈ lw_w := tb2 _ (List.mem_of_getElem? (i := 76) rfl) rfl
theorem q2_77 : (Cond.code yX6_buy cX6_buy 3 (some .int) : Cond) ∈ lw_w := tb2 _ (List.mem_of_getElem? (i := 77) rfl) rfl
theorem q1_44 : (Cond.fieldLink RX6 101 "MeterPool$Houses" "credit" "[I" : Cond) ∈ lw_w := tb1 _ (List.mem_of_getElem? (i := 44) rfl) rfl
theorem q2_78 : (Cond.methodLink RX6 97 yX5_takeToken : Cond) ∈ lw_w := tb2 _ (List.mem_of_getElem? (i := 78) rfl) rfl
theorem q2_79 : (Cond.instanceMethod yX5_takeToken : Cond) ∈ lw_w := tb2 _ (List.mem_of_getElem? (i := 79) rfl) rfl
theorem q2_80 : (Cond.selects RX5 yX5_takeToken yX5_takeToken : Cond) ∈ lw_w := tb2 _ (List.mem_of_getElem? (i := 80) rfl) rfl
theorem q2_81 : (Cond.code yX5_takeToken cX5_takeToken 5 none : Cond) ∈ lw_w := tb2 _ (List.mem_of_getElem? (i := 81) rfl) rfl
theorem q1_41 : (Cond.fieldLink RX5 78 "MeterPool$Houses" "debt" "[I" : Cond) ∈ lw_w := tb1 _ (List.mem_of_getElem? (i := 41) rfl) rfl
theorem q1_45 : (Cond.fieldLink RX5 101 "MeterPool$Houses" "credit" "[I" : Cond) ∈ lw_w := tb1 _ (List.mem_of_getElem? (i := 45) rfl) rfl
theorem q2_82 : (Cond.methodLink RX5 87 yX5_partForDebt : Cond) ∈ lw_w := tb2 _ (List.mem_of_getElem? (i := 82) rfl) rfl
theorem q2_83 : (Cond.instanceMethod yX5_partForDebt : Cond) ∈ lw_w := tb2 _ (List.mem_of_getElem? (i := 83) rfl) rfl
theorem q2_84 : (Cond.selects RX5 yX5_partForDebt yX5_partForDebt : Cond) ∈ lw_w := tb2 _ (List.mem_of_getElem? (i := 84) rfl) rfl
theorem q2_85 : (Cond.code yX5_partForDebt cX5_partForDebt 3 (some .int) : Cond) ∈ lw_w := tb2 _ (List.mem_of_getElem? (i := 85) rfl) rfl
theorem q2_86 : (Cond.methodLink RX5 81 Lib.Math.min.name : Cond) ∈ lw_w := tb2 _ (List.mem_of_getElem? (i := 86) rfl) rfl
theorem q2_87 : (Cond.static Lib.Math.min.name : Cond) ∈ lw_w := tb2 _ (List.mem_of_getElem? (i := 87) rfl) rfl
theorem q1_10 : (Cond.initialized "java/lang/Math" : Cond) ∈ lw_w := tb1 _ (List.mem_of_getElem? (i := 10) rfl) rfl
theorem q2_88 : (Cond.code Lib.Math.min.name Lib.Math.min.code 2 (some .int) : Cond) ∈ lw_w := tb2 _ (List.mem_of_getElem? (i := 88) rfl) rfl
theorem q2_89 : (Cond.methodLink RX5 94 yX5_partForLoans : Cond) ∈ lw_w := tb2 _ (List.mem_of_getElem? (i := 89) rfl) rfl
theorem q2_90 : (Cond.instanceMethod yX5_partForLoans : Cond) ∈ lw_w := tb2 _ (List.mem_of_getElem? (i := 90) rfl) rfl
theorem q2_91 : (Cond.selects RX5 yX5_partForLoans yX5_partForLoans : Cond) ∈ lw_w := tb2 _ (List.mem_of_getElem? (i := 91) rfl) rfl
theorem q2_92 : (Cond.code yX5_partForLoans cX5_partForLoans 4 (some .int) : Cond) ∈ lw_w := tb2 _ (List.mem_of_getElem? (i := 92) rfl) rfl
theorem q2_93 : (Cond.methodLink RX5 90 yX4_owedBy : Cond) ∈ lw_w := tb2 _ (List.mem_of_getElem? (i := 93) rfl) rfl
theorem q2_94 : (Cond.instanceMethod yX4_owedBy : Cond) ∈ lw_w := tb2 _ (List.mem_of_getElem? (i := 94) rfl) rfl
theorem q2_95 : (Cond.selects RX4 yX4_owedBy yX4_owedBy : Cond) ∈ lw_w := tb2 _ (List.mem_of_getElem? (i := 95) rfl) rfl
theorem q2_96 : (Cond.code yX4_owedBy cX4_owedBy 2 (some .int) : Cond) ∈ lw_w := tb2 _ (List.mem_of_getElem? (i := 96) rfl) rfl
theorem q2_97 : (Cond.methodLink RX4 31 yX4_sumOwed : Cond) ∈ lw_w := tb2 _ (List.mem_of_getElem? (i := 97) rfl) rfl
theorem q2_99 : (Cond.instanceMethod yX4_sumOwed : Cond) ∈ lw_w := tb2 _ (List.mem_of_getElem? (i := 99) rfl) rfl
theorem qs2 : (Cond.selects RX4 yX4_sumOwed yX4_sumOwed : Cond) ∈ lw_w := List.mem_filter.mpr ⟨List.mem_append_left _ (List.mem_of_getElem? (i := 2) rfl), rfl⟩
theorem q2_100 : (Cond.code yX4_sumOwed cX4_sumOwed 5 (some .int) : Cond) ∈ lw_w := tb2 _ (List.mem_of_getElem? (i := 100) rfl) rfl
theorem q2_101 : (Cond.methodLink RX5 97 yX5_payLoans : Cond) ∈ lw_w := tb2 _ (List.mem_of_getElem? (i := 101) rfl) rfl
theorem q2_103 : (Cond.instanceMethod yX5_payLoans : Cond) ∈ lw_w := tb2 _ (List.mem_of_getElem? (i := 103) rfl) rfl
theorem qs3 : (Cond.selects RX5 yX5_payLoans yX5_payLoans : Cond) ∈ lw_w := List.mem_filter.mpr ⟨List.mem_append_left _ (List.mem_of_getElem? (i := 3) rfl), rfl⟩
theorem q2_104 : (Cond.code yX5_payLoans cX5_payLoans 6 none : Cond) ∈ lw_w := tb2 _ (List.mem_of_getElem? (i := 104) rfl) rfl
theorem q1_86 : (Cond.fieldLink RX5 104 "MeterPool$Loans" "size" "I" : Cond) ∈ lw_w := tb1 _ (List.mem_of_getElem? (i := 86) rfl) rfl
theorem q1_90 : (Cond.fieldLink RX5 107 "MeterPool$Loans" "borrower" "[I" : Cond) ∈ lw_w := tb1 _ (List.mem_of_getElem? (i := 90) rfl) rfl
theorem q1_93 : (Cond.fieldLink RX5 110 "MeterPool$Loans" "owed" "[I" : Cond) ∈ lw_w := tb1 _ (List.mem_of_getElem? (i := 93) rfl) rfl
theorem q1_88 : (Cond.fieldLink RX5 113 "MeterPool$Loans" "lender" "[I" : Cond) ∈ lw_w := tb1 _ (List.mem_of_getElem? (i := 88) rfl) rfl
theorem q2_105 : (Cond.methodLink RX5 116 yX4_removePaid : Cond) ∈ lw_w := tb2 _ (List.mem_of_getElem? (i := 105) rfl) rfl
theorem q2_106 : (Cond.instanceMethod yX4_removePaid : Cond) ∈ lw_w := tb2 _ (List.mem_of_getElem? (i := 106) rfl) rfl
theorem q2_107 : (Cond.selects RX4 yX4_removePaid yX4_removePaid : Cond) ∈ lw_w := tb2 _ (List.mem_of_getElem? (i := 107) rfl) rfl
theorem q2_108 : (Cond.code yX4_removePaid cX4_removePaid 2 none : Cond) ∈ lw_w := tb2 _ (List.mem_of_getElem? (i := 108) rfl) rfl
theorem q2_109 : (Cond.methodLink RX4 35 yX4_remove : Cond) ∈ lw_w := tb2 _ (List.mem_of_getElem? (i := 109) rfl) rfl
theorem q2_110 : (Cond.instanceMethod yX4_remove : Cond) ∈ lw_w := tb2 _ (List.mem_of_getElem? (i := 110) rfl) rfl
theorem q2_111 : (Cond.selects RX4 yX4_remove yX4_remove : Cond) ∈ lw_w := tb2 _ (List.mem_of_getElem? (i := 111) rfl) rfl
theorem q2_112 : (Cond.code yX4_remove cX4_remove 3 none : Cond) ∈ lw_w := tb2 _ (List.mem_of_getElem? (i := 112) rfl) rfl
theorem q4_115 : (Cond.methodLink RL 31 yX7_buy : Cond) ∈ lw_w := tb4 _ (List.mem_of_getElem? (i := 115) rfl) rfl
theorem q4_116 : (Cond.instanceMethod yX7_buy : Cond) ∈ lw_w := tb4 _ (List.mem_of_getElem? (i := 116) rfl) rfl
theorem q4_117 : (Cond.selects RX7 yX7_buy yX7_buy : Cond) ∈ lw_w := tb4 _ (List.mem_of_getElem? (i := 117) rfl) rfl
theorem q4_118 : (Cond.code yX7_buy cX7_buy 3 (some .int) : Cond) ∈ lw_w := tb4 _ (List.mem_of_getElem? (i := 118) rfl) rfl
theorem q4_119 : (Cond.methodLink RX7 78 yX7_token : Cond) ∈ lw_w := tb4 _ (List.mem_of_getElem? (i := 119) rfl) rfl
theorem q4_121 : (Cond.instanceMethod yX7_token : Cond) ∈ lw_w := tb4 _ (List.mem_of_getElem? (i := 121) rfl) rfl
theorem qs34 : (Cond.selects RX7 yX7_token yX7_token : Cond) ∈ lw_w := List.mem_filter.mpr ⟨List.mem_append_left _ (List.mem_of_getElem? (i := 34) rfl), rfl⟩
theorem q4_122 : (Cond.code yX7_token cX7_token 11 none : Cond) ∈ lw_w := tb4 _ (List.mem_of_getElem? (i := 122) rfl) rfl
theorem q4_123 : (Cond.methodLink RX7 67 yX7_setting1 : Cond) ∈ lw_w := tb4 _ (List.mem_of_getElem? (i := 123) rfl) rfl
theorem q4_125 : (Cond.instanceMethod yX7_setting1 : Cond) ∈ lw_w := tb4 _ (List.mem_of_getElem? (i := 125) rfl) rfl
theorem qs35 : (Cond.selects RX7 yX7_setting1 yX7_setting1 : Cond) ∈ lw_w := List.mem_filter.mpr ⟨List.mem_append_left _ (List.mem_of_getElem? (i := 35) rfl), rfl⟩
theorem q4_126 : (Cond.code yX7_setting1 cX7_setting1 2 (some .int) : Cond) ∈ lw_w := tb4 _ (List.mem_of_getElem? (i := 126) rfl) rfl
theorem q4_127 : (Cond.methodLink RX7 71 yX7_add : Cond) ∈ lw_w := tb4 _ (List.mem_of_getElem? (i := 127) rfl) rfl
theorem q4_129 : (Cond.instanceMethod yX7_add : Cond) ∈ lw_w := tb4 _ (List.mem_of_getElem? (i := 129) rfl) rfl
theorem qs36 : (Cond.selects RX7 yX7_add yX7_add : Cond) ∈ lw_w := List.mem_filter.mpr ⟨List.mem_append_left _ (List.mem_of_getElem? (i := 36) rfl), rfl⟩
theorem q4_130 : (Cond.code yX7_add cX7_add 4 none : Cond) ∈ lw_w := tb4 _ (List.mem_of_getElem? (i := 130) rfl) rfl
theorem q4_131 : (Cond.methodLink RX7 75 yX7_dropPaid : Cond) ∈ lw_w := tb4 _ (List.mem_of_getElem? (i := 131) rfl) rfl
theorem q4_133 : (Cond.instanceMethod yX7_dropPaid : Cond) ∈ lw_w := tb4 _ (List.mem_of_getElem? (i := 133) rfl) rfl
theorem qs37 : (Cond.selects RX7 yX7_dropPaid yX7_dropPaid : Cond) ∈ lw_w := List.mem_filter.mpr ⟨List.mem_append_left _ (List.mem_of_getElem? (i := 37) rfl), rfl⟩
theorem q4_134 : (Cond.code yX7_dropPaid cX7_dropPaid 4 none : Cond) ∈ lw_w := tb4 _ (List.mem_of_getElem? (i := 134) rfl) rfl
theorem q2_113 : (Cond.methodLink RL 32 yX6_lend : Cond) ∈ lw_w := tb2 _ (List.mem_of_getElem? (i := 113) rfl) rfl
theorem q2_114 : (Cond.instanceMethod yX6_lend : Cond) ∈ lw_w := tb2 _ (List.mem_of_getElem? (i := 114) rfl) rfl
theorem q2_115 : (Cond.selects RX6 yX6_lend yX6_lend : Cond) ∈ lw_w := tb2 _ (List.mem_of_getElem? (i := 115) rfl) rfl
theorem q2_116 : (Cond.code yX6_lend cX6_lend 4 (some .int) : Cond) ∈ lw_w := tb2 _ (List.mem_of_getElem? (i := 116) rfl) rfl
theorem q1_85 : (Cond.fieldLink RX6 104 "MeterPool$Loans" "size" "I" : Cond) ∈ lw_w := tb1 _ (List.mem_of_getElem? (i := 85) rfl) rfl
theorem q2_117 : (Cond.methodLink RX6 105 yX4_add : Cond) ∈ lw_w := tb2 _ (List.mem_of_getElem? (i := 117) rfl) rfl
theorem q2_118 : (Cond.instanceMethod yX4_add : Cond) ∈ lw_w := tb2 _ (List.mem_of_getElem? (i := 118) rfl) rfl
theorem q2_119 : (Cond.selects RX4 yX4_add yX4_add : Cond) ∈ lw_w := tb2 _ (List.mem_of_getElem? (i := 119) rfl) rfl
theorem q2_120 : (Cond.code yX4_add cX4_add 4 none : Cond) ∈ lw_w := tb2 _ (List.mem_of_getElem? (i := 120) rfl) rfl
theorem q4_135 : (Cond.methodLink RL 35 yX7_lend : Cond) ∈ lw_w := tb4 _ (List.mem_of_getElem? (i := 135) rfl) rfl
theorem q4_136 : (Cond.instanceMethod yX7_lend : Cond) ∈ lw_w := tb4 _ (List.mem_of_getElem? (i := 136) rfl) rfl
theorem q4_137 : (Cond.selects RX7 yX7_lend yX7_lend : Cond) ∈ lw_w := tb4 _ (List.mem_of_getElem? (i := 137) rfl) rfl
theorem q4_138 : (Cond.code yX7_lend cX7_lend 5 (some .int) : Cond) ∈ lw_w := tb4 _ (List.mem_of_getElem? (i := 138) rfl) rfl
theorem q2_121 : (Cond.methodLink RL 36 yX6_remit : Cond) ∈ lw_w := tb2 _ (List.mem_of_getElem? (i := 121) rfl) rfl
theorem q2_122 : (Cond.instanceMethod yX6_remit : Cond) ∈ lw_w := tb2 _ (List.mem_of_getElem? (i := 122) rfl) rfl
theorem q2_123 : (Cond.selects RX6 yX6_remit yX6_remit : Cond) ∈ lw_w := tb2 _ (List.mem_of_getElem? (i := 123) rfl) rfl
theorem q2_124 : (Cond.code yX6_remit cX6_remit 3 (some .int) : Cond) ∈ lw_w := tb2 _ (List.mem_of_getElem? (i := 124) rfl) rfl
theorem q1_92 : (Cond.fieldLink RX6 110 "MeterPool$Loans" "owed" "[I" : Cond) ∈ lw_w := tb1 _ (List.mem_of_getElem? (i := 92) rfl) rfl
theorem q2_125 : (Cond.methodLink RX6 107 yX6_isLoan : Cond) ∈ lw_w := tb2 _ (List.mem_of_getElem? (i := 125) rfl) rfl
theorem q2_127 : (Cond.instanceMethod yX6_isLoan : Cond) ∈ lw_w := tb2 _ (List.mem_of_getElem? (i := 127) rfl) rfl
theorem qs4 : (Cond.selects RX6 yX6_isLoan yX6_isLoan : Cond) ∈ lw_w := List.mem_filter.mpr ⟨List.mem_append_left _ (List.mem_of_getElem? (i := 4) rfl), rfl⟩
theorem q2_128 : (Cond.code yX6_isLoan cX6_isLoan 2 (some .boolean) : Cond) ∈ lw_w := tb2 _ (List.mem_of_getElem? (i := 128) rfl) rfl
theorem q2_129 : (Cond.methodLink RX6 113 yX4_remove : Cond) ∈ lw_w := tb2 _ (List.mem_of_getElem? (i := 129) rfl) rfl
theorem q4_139 : (Cond.methodLink RL 39 yX7_remit : Cond) ∈ lw_w := tb4 _ (List.mem_of_getElem? (i := 139) rfl) rfl
theorem q4_140 : (Cond.instanceMethod yX7_remit : Cond) ∈ lw_w := tb4 _ (List.mem_of_getElem? (i := 140) rfl) rfl
theorem q4_141 : (Cond.selects RX7 yX7_remit yX7_remit : Cond) ∈ lw_w := tb4 _ (List.mem_of_getElem? (i := 141) rfl) rfl
theorem q4_142 : (Cond.code yX7_remit cX7_remit 3 (some .int) : Cond) ∈ lw_w := tb4 _ (List.mem_of_getElem? (i := 142) rfl) rfl
theorem q4_143 : (Cond.methodLink RX7 82 yX7_isLoan : Cond) ∈ lw_w := tb4 _ (List.mem_of_getElem? (i := 143) rfl) rfl
theorem q4_145 : (Cond.instanceMethod yX7_isLoan : Cond) ∈ lw_w := tb4 _ (List.mem_of_getElem? (i := 145) rfl) rfl
theorem qs38 : (Cond.selects RX7 yX7_isLoan yX7_isLoan : Cond) ∈ lw_w := List.mem_filter.mpr ⟨List.mem_append_left _ (List.mem_of_getElem? (i := 38) rfl), rfl⟩
theorem q4_146 : (Cond.code yX7_isLoan cX7_isLoan 2 (some .boolean) : Cond) ∈ lw_w := tb4 _ (List.mem_of_getElem? (i := 146) rfl) rfl
theorem q2_130 : (Cond.methodLink RL 40 yX6_net : Cond) ∈ lw_w := tb2 _ (List.mem_of_getElem? (i := 130) rfl) rfl
theorem q2_131 : (Cond.instanceMethod yX6_net : Cond) ∈ lw_w := tb2 _ (List.mem_of_getElem? (i := 131) rfl) rfl
theorem q2_132 : (Cond.selects RX6 yX6_net yX6_net : Cond) ∈ lw_w := tb2 _ (List.mem_of_getElem? (i := 132) rfl) rfl
theorem q2_133 : (Cond.code yX6_net cX6_net 1 (some .int) : Cond) ∈ lw_w := tb2 _ (List.mem_of_getElem? (i := 133) rfl) rfl
theorem q2_134 : (Cond.methodLink RX6 114 yX4_offset : Cond) ∈ lw_w := tb2 _ (List.mem_of_getElem? (i := 134) rfl) rfl
theorem q2_135 : (Cond.instanceMethod yX4_offset : Cond) ∈ lw_w := tb2 _ (List.mem_of_getElem? (i := 135) rfl) rfl
theorem q2_136 : (Cond.selects RX4 yX4_offset yX4_offset : Cond) ∈ lw_w := tb2 _ (List.mem_of_getElem? (i := 136) rfl) rfl
theorem q2_137 : (Cond.code yX4_offset cX4_offset 6 (some .int) : Cond) ∈ lw_w := tb2 _ (List.mem_of_getElem? (i := 137) rfl) rfl
theorem q2_146 : (Cond.methodLink RX4 47 Lib.Math.min.name : Cond) ∈ lw_w := tb2 _ (List.mem_of_getElem? (i := 146) rfl) rfl
theorem q2_138 : (Cond.methodLink RX4 39 yX4_firstOpposed : Cond) ∈ lw_w := tb2 _ (List.mem_of_getElem? (i := 138) rfl) rfl
theorem q2_140 : (Cond.instanceMethod yX4_firstOpposed : Cond) ∈ lw_w := tb2 _ (List.mem_of_getElem? (i := 140) rfl) rfl
theorem qs5 : (Cond.selects RX4 yX4_firstOpposed yX4_firstOpposed : Cond) ∈ lw_w := List.mem_filter.mpr ⟨List.mem_append_left _ (List.mem_of_getElem? (i := 5) rfl), rfl⟩
theorem q2_141 : (Cond.code yX4_firstOpposed cX4_firstOpposed 2 (some .int) : Cond) ∈ lw_w := tb2 _ (List.mem_of_getElem? (i := 141) rfl) rfl
theorem q2_142 : (Cond.methodLink RX4 43 yX4_opposedTo : Cond) ∈ lw_w := tb2 _ (List.mem_of_getElem? (i := 142) rfl) rfl
theorem q2_144 : (Cond.instanceMethod yX4_opposedTo : Cond) ∈ lw_w := tb2 _ (List.mem_of_getElem? (i := 144) rfl) rfl
theorem qs6 : (Cond.selects RX4 yX4_opposedTo yX4_opposedTo : Cond) ∈ lw_w := List.mem_filter.mpr ⟨List.mem_append_left _ (List.mem_of_getElem? (i := 6) rfl), rfl⟩
theorem q2_145 : (Cond.code yX4_opposedTo cX4_opposedTo 3 (some .int) : Cond) ∈ lw_w := tb2 _ (List.mem_of_getElem? (i := 145) rfl) rfl
theorem q2_147 : (Cond.methodLink RX4 53 yX4_removePaid : Cond) ∈ lw_w := tb2 _ (List.mem_of_getElem? (i := 147) rfl) rfl
theorem q4_147 : (Cond.methodLink RL 44 yX7_net : Cond) ∈ lw_w := tb4 _ (List.mem_of_getElem? (i := 147) rfl) rfl
theorem q4_148 : (Cond.instanceMethod yX7_net : Cond) ∈ lw_w := tb4 _ (List.mem_of_getElem? (i := 148) rfl) rfl
theorem q4_149 : (Cond.selects RX7 yX7_net yX7_net : Cond) ∈ lw_w := tb4 _ (List.mem_of_getElem? (i := 149) rfl) rfl
theorem q4_150 : (Cond.code yX7_net cX7_net 3 (some .int) : Cond) ∈ lw_w := tb4 _ (List.mem_of_getElem? (i := 150) rfl) rfl
theorem q4_151 : (Cond.methodLink RX7 89 yX7_netOnce : Cond) ∈ lw_w := tb4 _ (List.mem_of_getElem? (i := 151) rfl) rfl
theorem q4_153 : (Cond.instanceMethod yX7_netOnce : Cond) ∈ lw_w := tb4 _ (List.mem_of_getElem? (i := 153) rfl) rfl
theorem qs39 : (Cond.selects RX7 yX7_netOnce yX7_netOnce : Cond) ∈ lw_w := List.mem_filter.mpr ⟨List.mem_append_left _ (List.mem_of_getElem? (i := 39) rfl), rfl⟩
theorem q4_154 : (Cond.code yX7_netOnce cX7_netOnce 4 (some .int) : Cond) ∈ lw_w := tb4 _ (List.mem_of_getElem? (i := 154) rfl) rfl
theorem q4_159 : (Cond.constant RX7 85 (-1000001) : Cond) ∈ lw_w := tb4 _ (List.mem_of_getElem? (i := 159) rfl) rfl
theorem q4_155 : (Cond.methodLink RX7 86 yX7_against : Cond) ∈ lw_w := tb4 _ (List.mem_of_getElem? (i := 155) rfl) rfl
theorem q4_157 : (Cond.instanceMethod yX7_against : Cond) ∈ lw_w := tb4 _ (List.mem_of_getElem? (i := 157) rfl) rfl
theorem qs40 : (Cond.selects RX7 yX7_against yX7_against : Cond) ∈ lw_w := List.mem_filter.mpr ⟨List.mem_append_left _ (List.mem_of_getElem? (i := 40) rfl), rfl⟩
theorem q4_158 : (Cond.code yX7_against cX7_against 3 (some .int) : Cond) ∈ lw_w := tb4 _ (List.mem_of_getElem? (i := 158) rfl) rfl
theorem q2_148 : (Cond.methodLink RL 45 yX6_set : Cond) ∈ lw_w := tb2 _ (List.mem_of_getElem? (i := 148) rfl) rfl
theorem q2_149 : (Cond.instanceMethod yX6_set : Cond) ∈ lw_w := tb2 _ (List.mem_of_getElem? (i := 149) rfl) rfl
theorem q2_150 : (Cond.selects RX6 yX6_set yX6_set : Cond) ∈ lw_w := tb2 _ (List.mem_of_getElem? (i := 150) rfl) rfl
theorem q2_151 : (Cond.code yX6_set cX6_set 4 (some .int) : Cond) ∈ lw_w := tb2 _ (List.mem_of_getElem? (i := 151) rfl) rfl
theorem q2_155 : (Cond.fieldLink RX6 121 "MeterPool" "SETTING_MOST" "[I" : Cond) ∈ lw_w := tb2 _ (List.mem_of_getElem? (i := 155) rfl) rfl
theorem q1_129 : (Cond.fieldLink RX6 124 "MeterPool$Village" "settings" "[I" : Cond) ∈ lw_w := tb1 _ (List.mem_of_getElem? (i := 129) rfl) rfl
theorem q2_152 : (Cond.methodLink RX6 118 yX6_isSetting : Cond) ∈ lw_w := tb2 _ (List.mem_of_getElem? (i := 152) rfl) rfl
theorem q2_153 : (Cond.static yX6_isSetting : Cond) ∈ lw_w := tb2 _ (List.mem_of_getElem? (i := 153) rfl) rfl
theorem q2_154 : (Cond.code yX6_isSetting cX6_isSetting 1 (some .boolean) : Cond) ∈ lw_w := tb2 _ (List.mem_of_getElem? (i := 154) rfl) rfl
theorem q4_160 : (Cond.methodLink RL 48 yX7_set : Cond) ∈ lw_w := tb4 _ (List.mem_of_getElem? (i := 160) rfl) rfl
theorem q4_161 : (Cond.instanceMethod yX7_set : Cond) ∈ lw_w := tb4 _ (List.mem_of_getElem? (i := 161) rfl) rfl
theorem q4_162 : (Cond.selects RX7 yX7_set yX7_set : Cond) ∈ lw_w := tb4 _ (List.mem_of_getElem? (i := 162) rfl) rfl
theorem q4_163 : (Cond.code yX7_set cX7_set 4 (some .int) : Cond) ∈ lw_w := tb4 _ (List.mem_of_getElem? (i := 163) rfl) rfl
theorem q4_164 : (Cond.methodLink RX7 93 yX7_isSetting : Cond) ∈ lw_w := tb4 _ (List.mem_of_getElem? (i := 164) rfl) rfl
theorem q4_165 : (Cond.static yX7_isSetting : Cond) ∈ lw_w := tb4 _ (List.mem_of_getElem? (i := 165) rfl) rfl
theorem q4_166 : (Cond.code yX7_isSetting cX7_isSetting 2 (some .boolean) : Cond) ∈ lw_w := tb4 _ (List.mem_of_getElem? (i := 166) rfl) rfl
theorem q2_157 : (Cond.methodLink RL 49 yX6_setBattery : Cond) ∈ lw_w := tb2 _ (List.mem_of_getElem? (i := 157) rfl) rfl
theorem q2_158 : (Cond.instanceMethod yX6_setBattery : Cond) ∈ lw_w := tb2 _ (List.mem_of_getElem? (i := 158) rfl) rfl
theorem q2_159 : (Cond.selects RX6 yX6_setBattery yX6_setBattery : Cond) ∈ lw_w := tb2 _ (List.mem_of_getElem? (i := 159) rfl) rfl
theorem q2_160 : (Cond.code yX6_setBattery cX6_setBattery 5 (some .int) : Cond) ∈ lw_w := tb2 _ (List.mem_of_getElem? (i := 160) rfl) rfl
theorem q2_164 : (Cond.fieldLink RX6 130 "MeterPool" "BATTERY_LEAST" "[I" : Cond) ∈ lw_w := tb2 _ (List.mem_of_getElem? (i := 164) rfl) rfl
theorem q2_166 : (Cond.fieldLink RX6 133 "MeterPool" "BATTERY_MOST" "[I" : Cond) ∈ lw_w := tb2 _ (List.mem_of_getElem? (i := 166) rfl) rfl
theorem q1_127 : (Cond.fieldLink RX6 136 "MeterPool$Village" "batteries" "LMeterPool$Batteries;" : Cond) ∈ lw_w := tb1 _ (List.mem_of_getElem? (i := 127) rfl) rfl
theorem q1_131 : (Cond.fieldLink RX6 144 "MeterPool$Village" "accounts" "[I" : Cond) ∈ lw_w := tb1 _ (List.mem_of_getElem? (i := 131) rfl) rfl
theorem q2_161 : (Cond.methodLink RX6 127 yX6_isBattery : Cond) ∈ lw_w := tb2 _ (List.mem_of_getElem? (i := 161) rfl) rfl
theorem q2_162 : (Cond.static yX6_isBattery : Cond) ∈ lw_w := tb2 _ (List.mem_of_getElem? (i := 162) rfl) rfl
theorem q2_163 : (Cond.code yX6_isBattery cX6_isBattery 1 (some .boolean) : Cond) ∈ lw_w := tb2 _ (List.mem_of_getElem? (i := 163) rfl) rfl
theorem q2_168 : (Cond.methodLink RX6 140 yX0_told : Cond) ∈ lw_w := tb2 _ (List.mem_of_getElem? (i := 168) rfl) rfl
theorem q2_169 : (Cond.instanceMethod yX0_told : Cond) ∈ lw_w := tb2 _ (List.mem_of_getElem? (i := 169) rfl) rfl
theorem q2_170 : (Cond.selects RX0 yX0_told yX0_told : Cond) ∈ lw_w := tb2 _ (List.mem_of_getElem? (i := 170) rfl) rfl
theorem q2_171 : (Cond.code yX0_told cX0_told 3 (some .int) : Cond) ∈ lw_w := tb2 _ (List.mem_of_getElem? (i := 171) rfl) rfl
theorem q2_172 : (Cond.methodLink RX0 30 yX0_canGive : Cond) ∈ lw_w := tb2 _ (List.mem_of_getElem? (i := 172) rfl) rfl
theorem q2_173 : (Cond.instanceMethod yX0_canGive : Cond) ∈ lw_w := tb2 _ (List.mem_of_getElem? (i := 173) rfl) rfl
theorem q2_174 : (Cond.selects RX0 yX0_canGive yX0_canGive : Cond) ∈ lw_w := tb2 _ (List.mem_of_getElem? (i := 174) rfl) rfl
theorem q2_175 : (Cond.code yX0_canGive cX0_canGive 2 (some .int) : Cond) ∈ lw_w := tb2 _ (List.mem_of_getElem? (i := 175) rfl) rfl
theorem q2_176 : (Cond.methodLink RX0 40 Lib.Math.min.name : Cond) ∈ lw_w := tb2 _ (List.mem_of_getElem? (i := 176) rfl) rfl
theorem q2_177 : (Cond.methodLink RX6 143 yX0_change : Cond) ∈ lw_w := tb2 _ (List.mem_of_getElem? (i := 177) rfl) rfl
theorem q2_178 : (Cond.instanceMethod yX0_change : Cond) ∈ lw_w := tb2 _ (List.mem_of_getElem? (i := 178) rfl) rfl
theorem q2_179 : (Cond.selects RX0 yX0_change yX0_change : Cond) ∈ lw_w := tb2 _ (List.mem_of_getElem? (i := 179) rfl) rfl
theorem q2_180 : (Cond.code yX0_change cX0_change 4 none : Cond) ∈ lw_w := tb2 _ (List.mem_of_getElem? (i := 180) rfl) rfl
theorem q2_181 : (Cond.methodLink RX6 147 yX0_discardExcess : Cond) ∈ lw_w := tb2 _ (List.mem_of_getElem? (i := 181) rfl) rfl
theorem q2_182 : (Cond.instanceMethod yX0_discardExcess : Cond) ∈ lw_w := tb2 _ (List.mem_of_getElem? (i := 182) rfl) rfl
theorem q2_183 : (Cond.selects RX0 yX0_discardExcess yX0_discardExcess : Cond) ∈ lw_w := tb2 _ (List.mem_of_getElem? (i := 183) rfl) rfl
theorem q2_184 : (Cond.code yX0_discardExcess cX0_discardExcess 3 (some .int) : Cond) ∈ lw_w := tb2 _ (List.mem_of_getElem? (i := 184) rfl) rfl
theorem q2_185 : (Cond.methodLink RX0 34 Lib.Math.max.name : Cond) ∈ lw_w := tb2 _ (List.mem_of_getElem? (i := 185) rfl) rfl
theorem q2_186 : (Cond.static Lib.Math.max.name : Cond) ∈ lw_w := tb2 _ (List.mem_of_getElem? (i := 186) rfl) rfl
theorem q2_187 : (Cond.code Lib.Math.max.name Lib.Math.max.code 2 (some .int) : Cond) ∈ lw_w := tb2 _ (List.mem_of_getElem? (i := 187) rfl) rfl
theorem q4_167 : (Cond.methodLink RL 52 yX7_setBattery : Cond) ∈ lw_w := tb4 _ (List.mem_of_getElem? (i := 167) rfl) rfl
theorem q4_168 : (Cond.instanceMethod yX7_setBattery : Cond) ∈ lw_w := tb4 _ (List.mem_of_getElem? (i := 168) rfl) rfl
theorem q4_169 : (Cond.selects RX7 yX7_setBattery yX7_setBattery : Cond) ∈ lw_w := tb4 _ (List.mem_of_getElem? (i := 169) rfl) rfl
theorem q4_170 : (Cond.code yX7_setBattery cX7_setBattery 7 (some .int) : Cond) ∈ lw_w := tb4 _ (List.mem_of_getElem? (i := 170) rfl) rfl
theorem q4_171 : (Cond.methodLink RX7 96 yX7_isBattery : Cond) ∈ lw_w := tb4 _ (List.mem_of_getElem? (i := 171) rfl) rfl
theorem q4_172 : (Cond.static yX7_isBattery : Cond) ∈ lw_w := tb4 _ (List.mem_of_getElem? (i := 172) rfl) rfl
theorem q4_173 : (Cond.code yX7_isBattery cX7_isBattery 2 (some .boolean) : Cond) ∈ lw_w := tb4 _ (List.mem_of_getElem? (i := 173) rfl) rfl
theorem q2_188 : (Cond.methodLink RL 53 yX6_run : Cond) ∈ lw_w := tb2 _ (List.mem_of_getElem? (i := 188) rfl) rfl
theorem q2_189 : (Cond.instanceMethod yX6_run : Cond) ∈ lw_w := tb2 _ (List.mem_of_getElem? (i := 189) rfl) rfl
theorem q2_190 : (Cond.selects RX6 yX6_run yX6_run : Cond) ∈ lw_w := tb2 _ (List.mem_of_getElem? (i := 190) rfl) rfl
theorem q2_191 : (Cond.code yX6_run cX6_run 3 (some .int) : Cond) ∈ lw_w := tb2 _ (List.mem_of_getElem? (i := 191) rfl) rfl
theorem q2_192 : (Cond.methodLink RX6 151 yX5_passHours : Cond) ∈ lw_w := tb2 _ (List.mem_of_getElem? (i := 192) rfl) rfl
theorem q2_193 : (Cond.instanceMethod yX5_passHours : Cond) ∈ lw_w := tb2 _ (List.mem_of_getElem? (i := 193) rfl) rfl
theorem q2_194 : (Cond.selects RX5 yX5_passHours yX5_passHours : Cond) ∈ lw_w := tb2 _ (List.mem_of_getElem? (i := 194) rfl) rfl
theorem q2_195 : (Cond.code yX5_passHours cX5_passHours 3 none : Cond) ∈ lw_w := tb2 _ (List.mem_of_getElem? (i := 195) rfl) rfl
theorem q2_196 : (Cond.methodLink RX5 122 yX5_passHour : Cond) ∈ lw_w := tb2 _ (List.mem_of_getElem? (i := 196) rfl) rfl
theorem q2_198 : (Cond.instanceMethod yX5_passHour : Cond) ∈ lw_w := tb2 _ (List.mem_of_getElem? (i := 198) rfl) rfl
theorem qs7 : (Cond.selects RX5 yX5_passHour yX5_passHour : Cond) ∈ lw_w := List.mem_filter.mpr ⟨List.mem_append_left _ (List.mem_of_getElem? (i := 7) rfl), rfl⟩
theorem q2_199 : (Cond.code yX5_passHour cX5_passHour 4 none : Cond) ∈ lw_w := tb2 _ (List.mem_of_getElem? (i := 199) rfl) rfl
theorem q2_200 : (Cond.methodLink RX5 128 yX5_supplyOf : Cond) ∈ lw_w := tb2 _ (List.mem_of_getElem? (i := 200) rfl) rfl
theorem q2_201 : (Cond.instanceMethod yX5_supplyOf : Cond) ∈ lw_w := tb2 _ (List.mem_of_getElem? (i := 201) rfl) rfl
theorem q2_202 : (Cond.selects RX5 yX5_supplyOf yX5_supplyOf : Cond) ∈ lw_w := tb2 _ (List.mem_of_getElem? (i := 202) rfl) rfl
theorem q2_203 : (Cond.code yX5_supplyOf cX5_supplyOf 2 (some .int) : Cond) ∈ lw_w := tb2 _ (List.mem_of_getElem? (i := 203) rfl) rfl
theorem q2_204 : (Cond.methodLink RX5 131 yX0_canGiveAll : Cond) ∈ lw_w := tb2 _ (List.mem_of_getElem? (i := 204) rfl) rfl
theorem q2_205 : (Cond.instanceMethod yX0_canGiveAll : Cond) ∈ lw_w := tb2 _ (List.mem_of_getElem? (i := 205) rfl) rfl
theorem q2_206 : (Cond.selects RX0 yX0_canGiveAll yX0_canGiveAll : Cond) ∈ lw_w := tb2 _ (List.mem_of_getElem? (i := 206) rfl) rfl
theorem q2_207 : (Cond.code yX0_canGiveAll cX0_canGiveAll 1 (some .int) : Cond) ∈ lw_w := tb2 _ (List.mem_of_getElem? (i := 207) rfl) rfl
theorem q2_208 : (Cond.methodLink RX5 135 yX2_wantAll : Cond) ∈ lw_w := tb2 _ (List.mem_of_getElem? (i := 208) rfl) rfl
theorem q2_209 : (Cond.instanceMethod yX2_wantAll : Cond) ∈ lw_w := tb2 _ (List.mem_of_getElem? (i := 209) rfl) rfl
theorem q2_210 : (Cond.selects RX2 yX2_wantAll yX2_wantAll : Cond) ∈ lw_w := tb2 _ (List.mem_of_getElem? (i := 210) rfl) rfl
theorem q2_211 : (Cond.code yX2_wantAll cX2_wantAll 3 none : Cond) ∈ lw_w := tb2 _ (List.mem_of_getElem? (i := 211) rfl) rfl
theorem q2_212 : (Cond.methodLink RX2 61 yX2_canDraw : Cond) ∈ lw_w := tb2 _ (List.mem_of_getElem? (i := 212) rfl) rfl
theorem q2_213 : (Cond.instanceMethod yX2_canDraw : Cond) ∈ lw_w := tb2 _ (List.mem_of_getElem? (i := 213) rfl) rfl
theorem q2_214 : (Cond.selects RX2 yX2_canDraw yX2_canDraw : Cond) ∈ lw_w := tb2 _ (List.mem_of_getElem? (i := 214) rfl) rfl
theorem q2_215 : (Cond.code yX2_canDraw cX2_canDraw 3 (some .int) : Cond) ∈ lw_w := tb2 _ (List.mem_of_getElem? (i := 215) rfl) rfl
theorem q2_216 : (Cond.methodLink RX2 52 Lib.Math.min.name : Cond) ∈ lw_w := tb2 _ (List.mem_of_getElem? (i := 216) rfl) rfl
theorem q2_217 : (Cond.methodLink RX2 58 Lib.Math.max.name : Cond) ∈ lw_w := tb2 _ (List.mem_of_getElem? (i := 217) rfl) rfl
theorem q2_218 : (Cond.methodLink RX5 139 yX5_shed : Cond) ∈ lw_w := tb2 _ (List.mem_of_getElem? (i := 218) rfl) rfl
theorem q2_220 : (Cond.instanceMethod yX5_shed : Cond) ∈ lw_w := tb2 _ (List.mem_of_getElem? (i := 220) rfl) rfl
theorem qs8 : (Cond.selects RX5 yX5_shed yX5_shed : Cond) ∈ lw_w := List.mem_filter.mpr ⟨List.mem_append_left _ (List.mem_of_getElem? (i := 8) rfl), rfl⟩
theorem q2_221 : (Cond.code yX5_shed cX5_shed 3 none : Cond) ∈ lw_w := tb2 _ (List.mem_of_getElem? (i := 221) rfl) rfl
theorem q1_53 : (Cond.fieldLink RX5 151 "MeterPool$Houses" "wants" "[I" : Cond) ∈ lw_w := tb1 _ (List.mem_of_getElem? (i := 53) rfl) rfl
theorem q2_222 : (Cond.methodLink RX5 154 yX2_sum : Cond) ∈ lw_w := tb2 _ (List.mem_of_getElem? (i := 222) rfl) rfl
theorem q2_223 : (Cond.instanceMethod yX2_sum : Cond) ∈ lw_w := tb2 _ (List.mem_of_getElem? (i := 223) rfl) rfl
theorem q2_224 : (Cond.selects RX2 yX2_sum yX2_sum : Cond) ∈ lw_w := tb2 _ (List.mem_of_getElem? (i := 224) rfl) rfl
theorem q2_225 : (Cond.code yX2_sum cX2_sum 4 (some .int) : Cond) ∈ lw_w := tb2 _ (List.mem_of_getElem? (i := 225) rfl) rfl
theorem q2_226 : (Cond.methodLink RX5 158 yX2_sumFrom : Cond) ∈ lw_w := tb2 _ (List.mem_of_getElem? (i := 226) rfl) rfl
theorem q2_227 : (Cond.instanceMethod yX2_sumFrom : Cond) ∈ lw_w := tb2 _ (List.mem_of_getElem? (i := 227) rfl) rfl
theorem q2_228 : (Cond.selects RX2 yX2_sumFrom yX2_sumFrom : Cond) ∈ lw_w := tb2 _ (List.mem_of_getElem? (i := 228) rfl) rfl
theorem q2_229 : (Cond.code yX2_sumFrom cX2_sumFrom 5 (some .int) : Cond) ∈ lw_w := tb2 _ (List.mem_of_getElem? (i := 229) rfl) rfl
theorem q2_230 : (Cond.methodLink RX5 162 yX2_wantNothing : Cond) ∈ lw_w := tb2 _ (List.mem_of_getElem? (i := 230) rfl) rfl
theorem q2_231 : (Cond.instanceMethod yX2_wantNothing : Cond) ∈ lw_w := tb2 _ (List.mem_of_getElem? (i := 231) rfl) rfl
theorem q2_232 : (Cond.selects RX2 yX2_wantNothing yX2_wantNothing : Cond) ∈ lw_w := tb2 _ (List.mem_of_getElem? (i := 232) rfl) rfl
theorem q2_233 : (Cond.code yX2_wantNothing cX2_wantNothing 3 none : Cond) ∈ lw_w := tb2 _ (List.mem_of_getElem? (i := 233) rfl) rfl
theorem q2_234 : (Cond.methodLink RX5 142 yX5_serve : Cond) ∈ lw_w := tb2 _ (List.mem_of_getElem? (i := 234) rfl) rfl
theorem q2_236 : (Cond.instanceMethod yX5_serve : Cond) ∈ lw_w := tb2 _ (List.mem_of_getElem? (i := 236) rfl) rfl
theorem qs9 : (Cond.selects RX5 yX5_serve yX5_serve : Cond) ∈ lw_w := List.mem_filter.mpr ⟨List.mem_append_left _ (List.mem_of_getElem? (i := 9) rfl), rfl⟩
theorem q2_237 : (Cond.code yX5_serve cX5_serve 6 (some .int) : Cond) ∈ lw_w := tb2 _ (List.mem_of_getElem? (i := 237) rfl) rfl
theorem q1_34 : (Cond.fieldLink RX5 165 "MeterPool$Houses" "size" "I" : Cond) ∈ lw_w := tb1 _ (List.mem_of_getElem? (i := 34) rfl) rfl
theorem q1_36 : (Cond.fieldLink RX5 166 "MeterPool$Houses" "feeder" "[I" : Cond) ∈ lw_w := tb1 _ (List.mem_of_getElem? (i := 36) rfl) rfl
theorem q2_238 : (Cond.methodLink RX5 169 yX5_partOf : Cond) ∈ lw_w := tb2 _ (List.mem_of_getElem? (i := 238) rfl) rfl
theorem q3_0 : (Cond.instanceMethod yX5_partOf : Cond) ∈ lw_w := tb3 _ (List.mem_of_getElem? (i := 0) rfl) rfl
theorem qs10 : (Cond.selects RX5 yX5_partOf yX5_partOf : Cond) ∈ lw_w := List.mem_filter.mpr ⟨List.mem_append_left _ (List.mem_of_getElem? (i := 10) rfl), rfl⟩
theorem q3_1 : (Cond.code yX5_partOf cX5_partOf 3 (some .int) : Cond) ∈ lw_w := tb3 _ (List.mem_of_getElem? (i := 1) rfl) rfl
theorem q3_2 : (Cond.methodLink RX5 172 yX2_receive : Cond) ∈ lw_w := tb3 _ (List.mem_of_getElem? (i := 2) rfl) rfl
theorem q3_3 : (Cond.instanceMethod yX2_receive : Cond) ∈ lw_w := tb3 _ (List.mem_of_getElem? (i := 3) rfl) rfl
theorem q3_4 : (Cond.selects RX2 yX2_receive yX2_receive : Cond) ∈ lw_w := tb3 _ (List.mem_of_getElem? (i := 4) rfl) rfl
theorem q3_5 : (Cond.code yX2_receive cX2_receive 4 none : Cond) ∈ lw_w := tb3 _ (List.mem_of_getElem? (i := 5) rfl) rfl
theorem q3_6 : (Cond.methodLink RX2 64 yX2_reasonOf : Cond) ∈ lw_w := tb3 _ (List.mem_of_getElem? (i := 6) rfl) rfl
theorem q3_8 : (Cond.instanceMethod yX2_reasonOf : Cond) ∈ lw_w := tb3 _ (List.mem_of_getElem? (i := 8) rfl) rfl
theorem qs11 : (Cond.selects RX2 yX2_reasonOf yX2_reasonOf : Cond) ∈ lw_w := List.mem_filter.mpr ⟨List.mem_append_left _ (List.mem_of_getElem? (i := 11) rfl), rfl⟩
theorem q3_9 : (Cond.code yX2_reasonOf cX2_reasonOf 3 (some .int) : Cond) ∈ lw_w := tb3 _ (List.mem_of_getElem? (i := 9) rfl) rfl
theorem q3_10 : (Cond.methodLink RX5 145 yX0_give : Cond) ∈ lw_w := tb3 _ (List.mem_of_getElem? (i := 10) rfl) rfl
theorem q3_11 : (Cond.instanceMethod yX0_give : Cond) ∈ lw_w := tb3 _ (List.mem_of_getElem? (i := 11) rfl) rfl
theorem q3_12 : (Cond.selects RX0 yX0_give yX0_give : Cond) ∈ lw_w := tb3 _ (List.mem_of_getElem? (i := 12) rfl) rfl
theorem q3_13 : (Cond.code yX0_give cX0_give 5 none : Cond) ∈ lw_w := tb3 _ (List.mem_of_getElem? (i := 13) rfl) rfl
theorem q3_14 : (Cond.methodLink RX5 148 yX5_store : Cond) ∈ lw_w := tb3 _ (List.mem_of_getElem? (i := 14) rfl) rfl
theorem q3_16 : (Cond.instanceMethod yX5_store : Cond) ∈ lw_w := tb3 _ (List.mem_of_getElem? (i := 16) rfl) rfl
theorem qs12 : (Cond.selects RX5 yX5_store yX5_store : Cond) ∈ lw_w := List.mem_filter.mpr ⟨List.mem_append_left _ (List.mem_of_getElem? (i := 12) rfl), rfl⟩
theorem q3_17 : (Cond.code yX5_store cX5_store 5 none : Cond) ∈ lw_w := tb3 _ (List.mem_of_getElem? (i := 17) rfl) rfl
theorem q3_18 : (Cond.methodLink RX5 176 yX0_canTake : Cond) ∈ lw_w := tb3 _ (List.mem_of_getElem? (i := 18) rfl) rfl
theorem q3_19 : (Cond.instanceMethod yX0_canTake : Cond) ∈ lw_w := tb3 _ (List.mem_of_getElem? (i := 19) rfl) rfl
theorem q3_20 : (Cond.selects RX0 yX0_canTake yX0_canTake : Cond) ∈ lw_w := tb3 _ (List.mem_of_getElem? (i := 20) rfl) rfl
theorem q3_21 : (Cond.code yX0_canTake cX0_canTake 6 (some .int) : Cond) ∈ lw_w := tb3 _ (List.mem_of_getElem? (i := 21) rfl) rfl
theorem q3_22 : (Cond.methodLink RX5 179 yX0_takeIn : Cond) ∈ lw_w := tb3 _ (List.mem_of_getElem? (i := 22) rfl) rfl
theorem q3_23 : (Cond.instanceMethod yX0_takeIn : Cond) ∈ lw_w := tb3 _ (List.mem_of_getElem? (i := 23) rfl) rfl
theorem q3_24 : (Cond.selects RX0 yX0_takeIn yX0_takeIn : Cond) ∈ lw_w := tb3 _ (List.mem_of_getElem? (i := 24) rfl) rfl
theorem q3_25 : (Cond.code yX0_takeIn cX0_takeIn 4 (some .int) : Cond) ∈ lw_w := tb3 _ (List.mem_of_getElem? (i := 25) rfl) rfl
theorem q4_174 : (Cond.methodLink RL 56 yX7_run : Cond) ∈ lw_w := tb4 _ (List.mem_of_getElem? (i := 174) rfl) rfl
theorem q4_175 : (Cond.instanceMethod yX7_run : Cond) ∈ lw_w := tb4 _ (List.mem_of_getElem? (i := 175) rfl) rfl
theorem q4_176 : (Cond.selects RX7 yX7_run yX7_run : Cond) ∈ lw_w := tb4 _ (List.mem_of_getElem? (i := 176) rfl) rfl
theorem q4_177 : (Cond.code yX7_run cX7_run 4 (some .int) : Cond) ∈ lw_w := tb4 _ (List.mem_of_getElem? (i := 177) rfl) rfl
theorem q4_178 : (Cond.methodLink RX7 130 yX7_pass : Cond) ∈ lw_w := tb4 _ (List.mem_of_getElem? (i := 178) rfl) rfl
theorem q4_180 : (Cond.instanceMethod yX7_pass : Cond) ∈ lw_w := tb4 _ (List.mem_of_getElem? (i := 180) rfl) rfl
theorem qs41 : (Cond.selects RX7 yX7_pass yX7_pass : Cond) ∈ lw_w := List.mem_filter.mpr ⟨List.mem_append_left _ (List.mem_of_getElem? (i := 41) rfl), rfl⟩
theorem q4_181 : (Cond.code yX7_pass cX7_pass 5 none : Cond) ∈ lw_w := tb4 _ (List.mem_of_getElem? (i := 181) rfl) rfl
theorem q4_182 : (Cond.methodLink RX7 108 yX7_supplyAt : Cond) ∈ lw_w := tb4 _ (List.mem_of_getElem? (i := 182) rfl) rfl
theorem q4_184 : (Cond.instanceMethod yX7_supplyAt : Cond) ∈ lw_w := tb4 _ (List.mem_of_getElem? (i := 184) rfl) rfl
theorem qs42 : (Cond.selects RX7 yX7_supplyAt yX7_supplyAt : Cond) ∈ lw_w := List.mem_filter.mpr ⟨List.mem_append_left _ (List.mem_of_getElem? (i := 42) rfl), rfl⟩
theorem q4_185 : (Cond.code yX7_supplyAt cX7_supplyAt 2 (some .int) : Cond) ∈ lw_w := tb4 _ (List.mem_of_getElem? (i := 185) rfl) rfl
theorem q4_186 : (Cond.methodLink RX7 105 yX7_canGive : Cond) ∈ lw_w := tb4 _ (List.mem_of_getElem? (i := 186) rfl) rfl
theorem q4_188 : (Cond.instanceMethod yX7_canGive : Cond) ∈ lw_w := tb4 _ (List.mem_of_getElem? (i := 188) rfl) rfl
theorem qs43 : (Cond.selects RX7 yX7_canGive yX7_canGive : Cond) ∈ lw_w := List.mem_filter.mpr ⟨List.mem_append_left _ (List.mem_of_getElem? (i := 43) rfl), rfl⟩
theorem q4_189 : (Cond.code yX7_canGive cX7_canGive 2 (some .int) : Cond) ∈ lw_w := tb4 _ (List.mem_of_getElem? (i := 189) rfl) rfl
theorem q4_190 : (Cond.methodLink RX7 99 yX7_cell : Cond) ∈ lw_w := tb4 _ (List.mem_of_getElem? (i := 190) rfl) rfl
theorem q4_192 : (Cond.instanceMethod yX7_cell : Cond) ∈ lw_w := tb4 _ (List.mem_of_getElem? (i := 192) rfl) rfl
theorem qs44 : (Cond.selects RX7 yX7_cell yX7_cell : Cond) ∈ lw_w := List.mem_filter.mpr ⟨List.mem_append_left _ (List.mem_of_getElem? (i := 44) rfl), rfl⟩
theorem q4_193 : (Cond.code yX7_cell cX7_cell 3 (some .int) : Cond) ∈ lw_w := tb4 _ (List.mem_of_getElem? (i := 193) rfl) rfl
theorem q4_194 : (Cond.methodLink RX7 102 yX7_canDraw : Cond) ∈ lw_w := tb4 _ (List.mem_of_getElem? (i := 194) rfl) rfl
theorem q4_196 : (Cond.instanceMethod yX7_canDraw : Cond) ∈ lw_w := tb4 _ (List.mem_of_getElem? (i := 196) rfl) rfl
theorem qs45 : (Cond.selects RX7 yX7_canDraw yX7_canDraw : Cond) ∈ lw_w := List.mem_filter.mpr ⟨List.mem_append_left _ (List.mem_of_getElem? (i := 45) rfl), rfl⟩
theorem q4_197 : (Cond.code yX7_canDraw cX7_canDraw 4 (some .int) : Cond) ∈ lw_w := tb4 _ (List.mem_of_getElem? (i := 197) rfl) rfl
theorem q4_198 : (Cond.methodLink RX7 111 yX7_wanted : Cond) ∈ lw_w := tb4 _ (List.mem_of_getElem? (i := 198) rfl) rfl
theorem q4_200 : (Cond.instanceMethod yX7_wanted : Cond) ∈ lw_w := tb4 _ (List.mem_of_getElem? (i := 200) rfl) rfl
theorem qs46 : (Cond.selects RX7 yX7_wanted yX7_wanted : Cond) ∈ lw_w := List.mem_filter.mpr ⟨List.mem_append_left _ (List.mem_of_getElem? (i := 46) rfl), rfl⟩
theorem q4_201 : (Cond.code yX7_wanted cX7_wanted 3 (some .int) : Cond) ∈ lw_w := tb4 _ (List.mem_of_getElem? (i := 201) rfl) rfl
theorem q4_202 : (Cond.methodLink RX7 114 yX7_shed : Cond) ∈ lw_w := tb4 _ (List.mem_of_getElem? (i := 202) rfl) rfl
theorem q4_204 : (Cond.instanceMethod yX7_shed : Cond) ∈ lw_w := tb4 _ (List.mem_of_getElem? (i := 204) rfl) rfl
theorem qs47 : (Cond.selects RX7 yX7_shed yX7_shed : Cond) ∈ lw_w := List.mem_filter.mpr ⟨List.mem_append_left _ (List.mem_of_getElem? (i := 47) rfl), rfl⟩
theorem q4_205 : (Cond.code yX7_shed cX7_shed 4 none : Cond) ∈ lw_w := tb4 _ (List.mem_of_getElem? (i := 205) rfl) rfl
theorem q4_206 : (Cond.methodLink RX7 117 yX7_serve : Cond) ∈ lw_w := tb4 _ (List.mem_of_getElem? (i := 206) rfl) rfl
theorem q4_208 : (Cond.instanceMethod yX7_serve : Cond) ∈ lw_w := tb4 _ (List.mem_of_getElem? (i := 208) rfl) rfl
theorem qs48 : (Cond.selects RX7 yX7_serve yX7_serve : Cond) ∈ lw_w := List.mem_filter.mpr ⟨List.mem_append_left _ (List.mem_of_getElem? (i := 48) rfl), rfl⟩
theorem q4_209 : (Cond.code yX7_serve cX7_serve 6 (some .int) : Cond) ∈ lw_w := tb4 _ (List.mem_of_getElem? (i := 209) rfl) rfl
theorem q4_210 : (Cond.methodLink RX7 120 yX7_why : Cond) ∈ lw_w := tb4 _ (List.mem_of_getElem? (i := 210) rfl) rfl
theorem q4_212 : (Cond.instanceMethod yX7_why : Cond) ∈ lw_w := tb4 _ (List.mem_of_getElem? (i := 212) rfl) rfl
theorem qs49 : (Cond.selects RX7 yX7_why yX7_why : Cond) ∈ lw_w := List.mem_filter.mpr ⟨List.mem_append_left _ (List.mem_of_getElem? (i := 49) rfl), rfl⟩
theorem q4_213 : (Cond.code yX7_why cX7_why 2 (some .int) : Cond) ∈ lw_w := tb4 _ (List.mem_of_getElem? (i := 213) rfl) rfl
theorem q4_214 : (Cond.methodLink RX7 123 yX7_take : Cond) ∈ lw_w := tb4 _ (List.mem_of_getElem? (i := 214) rfl) rfl
theorem q4_216 : (Cond.instanceMethod yX7_take : Cond) ∈ lw_w := tb4 _ (List.mem_of_getElem? (i := 216) rfl) rfl
theorem qs50 : (Cond.selects RX7 yX7_take yX7_take : Cond) ∈ lw_w := List.mem_filter.mpr ⟨List.mem_append_left _ (List.mem_of_getElem? (i := 50) rfl), rfl⟩
theorem q4_217 : (Cond.code yX7_take cX7_take 5 none : Cond) ∈ lw_w := tb4 _ (List.mem_of_getElem? (i := 217) rfl) rfl
theorem q4_218 : (Cond.methodLink RX7 127 yX7_charge : Cond) ∈ lw_w := tb4 _ (List.mem_of_getElem? (i := 218) rfl) rfl
theorem q4_220 : (Cond.instanceMethod yX7_charge : Cond) ∈ lw_w := tb4 _ (List.mem_of_getElem? (i := 220) rfl) rfl
theorem qs51 : (Cond.selects RX7 yX7_charge yX7_charge : Cond) ∈ lw_w := List.mem_filter.mpr ⟨List.mem_append_left _ (List.mem_of_getElem? (i := 51) rfl), rfl⟩
theorem q4_221 : (Cond.code yX7_charge cX7_charge 6 none : Cond) ∈ lw_w := tb4 _ (List.mem_of_getElem? (i := 221) rfl) rfl
theorem q3_26 : (Cond.methodLink RL 57 yX6_type : Cond) ∈ lw_w := tb3 _ (List.mem_of_getElem? (i := 26) rfl) rfl
theorem q3_27 : (Cond.instanceMethod yX6_type : Cond) ∈ lw_w := tb3 _ (List.mem_of_getElem? (i := 27) rfl) rfl
theorem q3_28 : (Cond.selects RX6 yX6_type yX6_type : Cond) ∈ lw_w := tb3 _ (List.mem_of_getElem? (i := 28) rfl) rfl
theorem q3_29 : (Cond.code yX6_type cX6_type 2 (some .int) : Cond) ∈ lw_w := tb3 _ (List.mem_of_getElem? (i := 29) rfl) rfl
theorem q1_190 : (Cond.fieldLink RX6 154 "MeterPool$ListText" "length" "I" : Cond) ∈ lw_w := tb1 _ (List.mem_of_getElem? (i := 190) rfl) rfl
theorem q3_30 : (Cond.methodLink RX6 157 yX3_append : Cond) ∈ lw_w := tb3 _ (List.mem_of_getElem? (i := 30) rfl) rfl
theorem q3_31 : (Cond.instanceMethod yX3_append : Cond) ∈ lw_w := tb3 _ (List.mem_of_getElem? (i := 31) rfl) rfl
theorem q3_32 : (Cond.selects RX3 yX3_append yX3_append : Cond) ∈ lw_w := tb3 _ (List.mem_of_getElem? (i := 32) rfl) rfl
theorem q3_33 : (Cond.code yX3_append cX3_append 2 none : Cond) ∈ lw_w := tb3 _ (List.mem_of_getElem? (i := 33) rfl) rfl
theorem q1_189 : (Cond.fieldLink RX3 18 "MeterPool$ListText" "length" "I" : Cond) ∈ lw_w := tb1 _ (List.mem_of_getElem? (i := 189) rfl) rfl
theorem q4_222 : (Cond.methodLink RL 60 yX7_type : Cond) ∈ lw_w := tb4 _ (List.mem_of_getElem? (i := 222) rfl) rfl
theorem q4_223 : (Cond.instanceMethod yX7_type : Cond) ∈ lw_w := tb4 _ (List.mem_of_getElem? (i := 223) rfl) rfl
theorem q4_224 : (Cond.selects RX7 yX7_type yX7_type : Cond) ∈ lw_w := tb4 _ (List.mem_of_getElem? (i := 224) rfl) rfl
theorem q4_225 : (Cond.code yX7_type cX7_type 2 (some .int) : Cond) ∈ lw_w := tb4 _ (List.mem_of_getElem? (i := 225) rfl) rfl
theorem q4_27 : (Cond.fieldLink RX7 133 "MeterPoolModel" "length" "I" : Cond) ∈ lw_w := tb4 _ (List.mem_of_getElem? (i := 27) rfl) rfl
theorem q3_34 : (Cond.methodLink RL 61 yX6_clear : Cond) ∈ lw_w := tb3 _ (List.mem_of_getElem? (i := 34) rfl) rfl
theorem q3_35 : (Cond.instanceMethod yX6_clear : Cond) ∈ lw_w := tb3 _ (List.mem_of_getElem? (i := 35) rfl) rfl
theorem q3_36 : (Cond.selects RX6 yX6_clear yX6_clear : Cond) ∈ lw_w := tb3 _ (List.mem_of_getElem? (i := 36) rfl) rfl
theorem q3_37 : (Cond.code yX6_clear cX6_clear 2 (some .int) : Cond) ∈ lw_w := tb3 _ (List.mem_of_getElem? (i := 37) rfl) rfl
theorem q4_226 : (Cond.methodLink RL 64 yX7_clear : Cond) ∈ lw_w := tb4 _ (List.mem_of_getElem? (i := 226) rfl) rfl
theorem q4_227 : (Cond.instanceMethod yX7_clear : Cond) ∈ lw_w := tb4 _ (List.mem_of_getElem? (i := 227) rfl) rfl
theorem q4_228 : (Cond.selects RX7 yX7_clear yX7_clear : Cond) ∈ lw_w := tb4 _ (List.mem_of_getElem? (i := 228) rfl) rfl
theorem q4_229 : (Cond.code yX7_clear cX7_clear 2 (some .int) : Cond) ∈ lw_w := tb4 _ (List.mem_of_getElem? (i := 229) rfl) rfl
theorem q3_38 : (Cond.methodLink RL 65 yX6_fault : Cond) ∈ lw_w := tb3 _ (List.mem_of_getElem? (i := 38) rfl) rfl
theorem q3_39 : (Cond.instanceMethod yX6_fault : Cond) ∈ lw_w := tb3 _ (List.mem_of_getElem? (i := 39) rfl) rfl
theorem q3_40 : (Cond.selects RX6 yX6_fault yX6_fault : Cond) ∈ lw_w := tb3 _ (List.mem_of_getElem? (i := 40) rfl) rfl
theorem q3_41 : (Cond.code yX6_fault cX6_fault 1 (some .int) : Cond) ∈ lw_w := tb3 _ (List.mem_of_getElem? (i := 41) rfl) rfl
theorem q3_42 : (Cond.methodLink RX6 160 yX3_firstFault : Cond) ∈ lw_w := tb3 _ (List.mem_of_getElem? (i := 42) rfl) rfl
theorem q3_43 : (Cond.instanceMethod yX3_firstFault : Cond) ∈ lw_w := tb3 _ (List.mem_of_getElem? (i := 43) rfl) rfl
theorem q3_44 : (Cond.selects RX3 yX3_firstFault yX3_firstFault : Cond) ∈ lw_w := tb3 _ (List.mem_of_getElem? (i := 44) rfl) rfl
theorem q3_45 : (Cond.code yX3_firstFault cX3_firstFault 3 (some .int) : Cond) ∈ lw_w := tb3 _ (List.mem_of_getElem? (i := 45) rfl) rfl
theorem q1_193 : (Cond.fieldLink RX3 22 "MeterPool$ListText" "size" "I" : Cond) ∈ lw_w := tb1 _ (List.mem_of_getElem? (i := 193) rfl) rfl
theorem q3_78 : (Cond.constant RX3 37 (-1000001) : Cond) ∈ lw_w := tb3 _ (List.mem_of_getElem? (i := 78) rfl) rfl
theorem q3_46 : (Cond.methodLink RX3 25 yX3_next : Cond) ∈ lw_w := tb3 _ (List.mem_of_getElem? (i := 46) rfl) rfl
theorem q3_48 : (Cond.instanceMethod yX3_next : Cond) ∈ lw_w := tb3 _ (List.mem_of_getElem? (i := 48) rfl) rfl
theorem qs13 : (Cond.selects RX3 yX3_next yX3_next : Cond) ∈ lw_w := List.mem_filter.mpr ⟨List.mem_append_left _ (List.mem_of_getElem? (i := 13) rfl), rfl⟩
theorem q3_49 : (Cond.code yX3_next cX3_next 3 (some .int) : Cond) ∈ lw_w := tb3 _ (List.mem_of_getElem? (i := 49) rfl) rfl
theorem q3_50 : (Cond.methodLink RX3 38 yX3_beginNumber : Cond) ∈ lw_w := tb3 _ (List.mem_of_getElem? (i := 50) rfl) rfl
theorem q3_52 : (Cond.instanceMethod yX3_beginNumber : Cond) ∈ lw_w := tb3 _ (List.mem_of_getElem? (i := 52) rfl) rfl
theorem qs14 : (Cond.selects RX3 yX3_beginNumber yX3_beginNumber : Cond) ∈ lw_w := List.mem_filter.mpr ⟨List.mem_append_left _ (List.mem_of_getElem? (i := 14) rfl), rfl⟩
theorem q3_53 : (Cond.code yX3_beginNumber cX3_beginNumber 2 (some .int) : Cond) ∈ lw_w := tb3 _ (List.mem_of_getElem? (i := 53) rfl) rfl
theorem q1_197 : (Cond.fieldLink RX3 53 "MeterPool$ListText" "value" "I" : Cond) ∈ lw_w := tb1 _ (List.mem_of_getElem? (i := 197) rfl) rfl
theorem q3_54 : (Cond.methodLink RX3 50 yX3_isDigit : Cond) ∈ lw_w := tb3 _ (List.mem_of_getElem? (i := 54) rfl) rfl
theorem q3_55 : (Cond.static yX3_isDigit : Cond) ∈ lw_w := tb3 _ (List.mem_of_getElem? (i := 55) rfl) rfl
theorem q3_56 : (Cond.code yX3_isDigit cX3_isDigit 1 (some .boolean) : Cond) ∈ lw_w := tb3 _ (List.mem_of_getElem? (i := 56) rfl) rfl
theorem q3_57 : (Cond.methodLink RX3 41 yX3_inNumber : Cond) ∈ lw_w := tb3 _ (List.mem_of_getElem? (i := 57) rfl) rfl
theorem q3_59 : (Cond.instanceMethod yX3_inNumber : Cond) ∈ lw_w := tb3 _ (List.mem_of_getElem? (i := 59) rfl) rfl
theorem qs15 : (Cond.selects RX3 yX3_inNumber yX3_inNumber : Cond) ∈ lw_w := List.mem_filter.mpr ⟨List.mem_append_left _ (List.mem_of_getElem? (i := 15) rfl), rfl⟩
theorem q3_60 : (Cond.code yX3_inNumber cX3_inNumber 2 (some .int) : Cond) ∈ lw_w := tb3 _ (List.mem_of_getElem? (i := 60) rfl) rfl
theorem q3_61 : (Cond.methodLink RX3 33 yX3_endItem : Cond) ∈ lw_w := tb3 _ (List.mem_of_getElem? (i := 61) rfl) rfl
theorem q3_63 : (Cond.instanceMethod yX3_endItem : Cond) ∈ lw_w := tb3 _ (List.mem_of_getElem? (i := 63) rfl) rfl
theorem qs16 : (Cond.selects RX3 yX3_endItem yX3_endItem : Cond) ∈ lw_w := List.mem_filter.mpr ⟨List.mem_append_left _ (List.mem_of_getElem? (i := 16) rfl), rfl⟩
theorem q3_64 : (Cond.code yX3_endItem cX3_endItem 4 (some .int) : Cond) ∈ lw_w := tb3 _ (List.mem_of_getElem? (i := 64) rfl) rfl
theorem q1_198 : (Cond.fieldLink RX3 56 "MeterPool$ListText" "times" "I" : Cond) ∈ lw_w := tb1 _ (List.mem_of_getElem? (i := 198) rfl) rfl
theorem q3_65 : (Cond.methodLink RX3 59 Lib.Math.min.name : Cond) ∈ lw_w := tb3 _ (List.mem_of_getElem? (i := 65) rfl) rfl
theorem q3_66 : (Cond.methodLink RX3 44 yX3_beginTimes : Cond) ∈ lw_w := tb3 _ (List.mem_of_getElem? (i := 66) rfl) rfl
theorem q3_68 : (Cond.instanceMethod yX3_beginTimes : Cond) ∈ lw_w := tb3 _ (List.mem_of_getElem? (i := 68) rfl) rfl
theorem qs17 : (Cond.selects RX3 yX3_beginTimes yX3_beginTimes : Cond) ∈ lw_w := List.mem_filter.mpr ⟨List.mem_append_left _ (List.mem_of_getElem? (i := 17) rfl), rfl⟩
theorem q3_69 : (Cond.code yX3_beginTimes cX3_beginTimes 2 (some .int) : Cond) ∈ lw_w := tb3 _ (List.mem_of_getElem? (i := 69) rfl) rfl
theorem q3_70 : (Cond.methodLink RX3 47 yX3_inTimes : Cond) ∈ lw_w := tb3 _ (List.mem_of_getElem? (i := 70) rfl) rfl
theorem q3_72 : (Cond.instanceMethod yX3_inTimes : Cond) ∈ lw_w := tb3 _ (List.mem_of_getElem? (i := 72) rfl) rfl
theorem qs18 : (Cond.selects RX3 yX3_inTimes yX3_inTimes : Cond) ∈ lw_w := List.mem_filter.mpr ⟨List.mem_append_left _ (List.mem_of_getElem? (i := 18) rfl), rfl⟩
theorem q3_73 : (Cond.code yX3_inTimes cX3_inTimes 2 (some .int) : Cond) ∈ lw_w := tb3 _ (List.mem_of_getElem? (i := 73) rfl) rfl
theorem q3_74 : (Cond.methodLink RX3 29 yX3_isWhole : Cond) ∈ lw_w := tb3 _ (List.mem_of_getElem? (i := 74) rfl) rfl
theorem q3_76 : (Cond.instanceMethod yX3_isWhole : Cond) ∈ lw_w := tb3 _ (List.mem_of_getElem? (i := 76) rfl) rfl
theorem qs19 : (Cond.selects RX3 yX3_isWhole yX3_isWhole : Cond) ∈ lw_w := List.mem_filter.mpr ⟨List.mem_append_left _ (List.mem_of_getElem? (i := 19) rfl), rfl⟩
theorem q3_77 : (Cond.code yX3_isWhole cX3_isWhole 2 (some .boolean) : Cond) ∈ lw_w := tb3 _ (List.mem_of_getElem? (i := 77) rfl) rfl
theorem q4_230 : (Cond.methodLink RL 68 yX7_fault : Cond) ∈ lw_w := tb4 _ (List.mem_of_getElem? (i := 230) rfl) rfl
theorem q4_231 : (Cond.instanceMethod yX7_fault : Cond) ∈ lw_w := tb4 _ (List.mem_of_getElem? (i := 231) rfl) rfl
theorem q4_232 : (Cond.selects RX7 yX7_fault yX7_fault : Cond) ∈ lw_w := tb4 _ (List.mem_of_getElem? (i := 232) rfl) rfl
theorem q4_233 : (Cond.code yX7_fault cX7_fault 1 (some .int) : Cond) ∈ lw_w := tb4 _ (List.mem_of_getElem? (i := 233) rfl) rfl
theorem q4_234 : (Cond.methodLink RX7 170 yX7_faultNow : Cond) ∈ lw_w := tb4 _ (List.mem_of_getElem? (i := 234) rfl) rfl
theorem q4_236 : (Cond.instanceMethod yX7_faultNow : Cond) ∈ lw_w := tb4 _ (List.mem_of_getElem? (i := 236) rfl) rfl
theorem qs52 : (Cond.selects RX7 yX7_faultNow yX7_faultNow : Cond) ∈ lw_w := List.mem_filter.mpr ⟨List.mem_append_left _ (List.mem_of_getElem? (i := 52) rfl), rfl⟩
theorem q4_237 : (Cond.code yX7_faultNow cX7_faultNow 2 (some .int) : Cond) ∈ lw_w := tb4 _ (List.mem_of_getElem? (i := 237) rfl) rfl
theorem q4_31 : (Cond.fieldLink RX7 148 "MeterPoolModel" "listed" "I" : Cond) ∈ lw_w := tb4 _ (List.mem_of_getElem? (i := 31) rfl) rfl
theorem q4_238 : (Cond.methodLink RX7 151 yX7_beginItem : Cond) ∈ lw_w := tb4 _ (List.mem_of_getElem? (i := 238) rfl) rfl
theorem q5_0 : (Cond.instanceMethod yX7_beginItem : Cond) ∈ lw_w := tb5 _ (List.mem_of_getElem? (i := 0) rfl) rfl
theorem qs53 : (Cond.selects RX7 yX7_beginItem yX7_beginItem : Cond) ∈ lw_w := List.mem_filter.mpr ⟨List.mem_append_left _ (List.mem_of_getElem? (i := 53) rfl), rfl⟩
theorem q5_1 : (Cond.code yX7_beginItem cX7_beginItem 1 none : Cond) ∈ lw_w := tb5 _ (List.mem_of_getElem? (i := 1) rfl) rfl
theorem q4_32 : (Cond.fieldLink RX7 136 "MeterPoolModel" "number" "I" : Cond) ∈ lw_w := tb4 _ (List.mem_of_getElem? (i := 32) rfl) rfl
theorem q4_33 : (Cond.fieldLink RX7 139 "MeterPoolModel" "digits" "I" : Cond) ∈ lw_w := tb4 _ (List.mem_of_getElem? (i := 33) rfl) rfl
theorem q4_34 : (Cond.fieldLink RX7 142 "MeterPoolModel" "count" "I" : Cond) ∈ lw_w := tb4 _ (List.mem_of_getElem? (i := 34) rfl) rfl
theorem q4_35 : (Cond.fieldLink RX7 145 "MeterPoolModel" "counting" "I" : Cond) ∈ lw_w := tb4 _ (List.mem_of_getElem? (i := 35) rfl) rfl
theorem q5_2 : (Cond.methodLink RX7 167 yX7_takes : Cond) ∈ lw_w := tb5 _ (List.mem_of_getElem? (i := 2) rfl) rfl
theorem q5_4 : (Cond.instanceMethod yX7_takes : Cond) ∈ lw_w := tb5 _ (List.mem_of_getElem? (i := 4) rfl) rfl
theorem qs54 : (Cond.selects RX7 yX7_takes yX7_takes : Cond) ∈ lw_w := List.mem_filter.mpr ⟨List.mem_append_left _ (List.mem_of_getElem? (i := 54) rfl), rfl⟩
theorem q5_5 : (Cond.code yX7_takes cX7_takes 3 (some .boolean) : Cond) ∈ lw_w := tb5 _ (List.mem_of_getElem? (i := 5) rfl) rfl
theorem q5_6 : (Cond.methodLink RX7 154 yX7_isItem : Cond) ∈ lw_w := tb5 _ (List.mem_of_getElem? (i := 6) rfl) rfl
theorem q5_8 : (Cond.instanceMethod yX7_isItem : Cond) ∈ lw_w := tb5 _ (List.mem_of_getElem? (i := 8) rfl) rfl
theorem qs55 : (Cond.selects RX7 yX7_isItem yX7_isItem : Cond) ∈ lw_w := List.mem_filter.mpr ⟨List.mem_append_left _ (List.mem_of_getElem? (i := 55) rfl), rfl⟩
theorem q5_9 : (Cond.code yX7_isItem cX7_isItem 1 (some .boolean) : Cond) ∈ lw_w := tb5 _ (List.mem_of_getElem? (i := 9) rfl) rfl
theorem q5_10 : (Cond.methodLink RX7 158 yX7_endItem : Cond) ∈ lw_w := tb5 _ (List.mem_of_getElem? (i := 10) rfl) rfl
theorem q5_12 : (Cond.instanceMethod yX7_endItem : Cond) ∈ lw_w := tb5 _ (List.mem_of_getElem? (i := 12) rfl) rfl
theorem qs56 : (Cond.selects RX7 yX7_endItem yX7_endItem : Cond) ∈ lw_w := List.mem_filter.mpr ⟨List.mem_append_left _ (List.mem_of_getElem? (i := 56) rfl), rfl⟩
theorem q5_13 : (Cond.code yX7_endItem cX7_endItem 2 none : Cond) ∈ lw_w := tb5 _ (List.mem_of_getElem? (i := 13) rfl) rfl
theorem q5_14 : (Cond.methodLink RX7 161 yX7_takesDigit : Cond) ∈ lw_w := tb5 _ (List.mem_of_getElem? (i := 14) rfl) rfl
theorem q5_16 : (Cond.instanceMethod yX7_takesDigit : Cond) ∈ lw_w := tb5 _ (List.mem_of_getElem? (i := 16) rfl) rfl
theorem qs57 : (Cond.selects RX7 yX7_takesDigit yX7_takesDigit : Cond) ∈ lw_w := List.mem_filter.mpr ⟨List.mem_append_left _ (List.mem_of_getElem? (i := 57) rfl), rfl⟩
theorem q5_17 : (Cond.code yX7_takesDigit cX7_takesDigit 3 (some .boolean) : Cond) ∈ lw_w := tb5 _ (List.mem_of_getElem? (i := 17) rfl) rfl
theorem q5_18 : (Cond.methodLink RX7 164 yX7_takesCount : Cond) ∈ lw_w := tb5 _ (List.mem_of_getElem? (i := 18) rfl) rfl
theorem q5_20 : (Cond.instanceMethod yX7_takesCount : Cond) ∈ lw_w := tb5 _ (List.mem_of_getElem? (i := 20) rfl) rfl
theorem qs58 : (Cond.selects RX7 yX7_takesCount yX7_takesCount : Cond) ∈ lw_w := List.mem_filter.mpr ⟨List.mem_append_left _ (List.mem_of_getElem? (i := 58) rfl), rfl⟩
theorem q5_21 : (Cond.code yX7_takesCount cX7_takesCount 5 (some .boolean) : Cond) ∈ lw_w := tb5 _ (List.mem_of_getElem? (i := 21) rfl) rfl
theorem q3_79 : (Cond.methodLink RL 69 yX6_load : Cond) ∈ lw_w := tb3 _ (List.mem_of_getElem? (i := 79) rfl) rfl
theorem q3_80 : (Cond.instanceMethod yX6_load : Cond) ∈ lw_w := tb3 _ (List.mem_of_getElem? (i := 80) rfl) rfl
theorem q3_81 : (Cond.selects RX6 yX6_load yX6_load : Cond) ∈ lw_w := tb3 _ (List.mem_of_getElem? (i := 81) rfl) rfl
theorem q3_82 : (Cond.code yX6_load cX6_load 1 (some .int) : Cond) ∈ lw_w := tb3 _ (List.mem_of_getElem? (i := 82) rfl) rfl
theorem q3_83 : (Cond.constant RX6 163 (-1000001) : Cond) ∈ lw_w := tb3 _ (List.mem_of_getElem? (i := 83) rfl) rfl
theorem q1_196 : (Cond.fieldLink RX6 164 "MeterPool$ListText" "numbers" "[I" : Cond) ∈ lw_w := tb1 _ (List.mem_of_getElem? (i := 196) rfl) rfl
theorem q1_194 : (Cond.fieldLink RX6 167 "MeterPool$ListText" "size" "I" : Cond) ∈ lw_w := tb1 _ (List.mem_of_getElem? (i := 194) rfl) rfl
theorem q1_138 : (Cond.fieldLink RX6 172 "MeterPool$Village" "listSize" "I" : Cond) ∈ lw_w := tb1 _ (List.mem_of_getElem? (i := 138) rfl) rfl
theorem q3_84 : (Cond.methodLink RX6 168 yX5_takeList : Cond) ∈ lw_w := tb3 _ (List.mem_of_getElem? (i := 84) rfl) rfl
theorem q5_22 : (Cond.methodLink RL 72 yX7_load : Cond) ∈ lw_w := tb5 _ (List.mem_of_getElem? (i := 22) rfl) rfl
theorem q5_23 : (Cond.instanceMethod yX7_load : Cond) ∈ lw_w := tb5 _ (List.mem_of_getElem? (i := 23) rfl) rfl
theorem q5_24 : (Cond.selects RX7 yX7_load yX7_load : Cond) ∈ lw_w := tb5 _ (List.mem_of_getElem? (i := 24) rfl) rfl
theorem q5_25 : (Cond.code yX7_load cX7_load 2 (some .int) : Cond) ∈ lw_w := tb5 _ (List.mem_of_getElem? (i := 25) rfl) rfl
theorem q3_85 : (Cond.methodLink RL 73 yX6_undo : Cond) ∈ lw_w := tb3 _ (List.mem_of_getElem? (i := 85) rfl) rfl
theorem q3_86 : (Cond.instanceMethod yX6_undo : Cond) ∈ lw_w := tb3 _ (List.mem_of_getElem? (i := 86) rfl) rfl
theorem q3_87 : (Cond.selects RX6 yX6_undo yX6_undo : Cond) ∈ lw_w := tb3 _ (List.mem_of_getElem? (i := 87) rfl) rfl
theorem q3_88 : (Cond.code yX6_undo cX6_undo 1 (some .int) : Cond) ∈ lw_w := tb3 _ (List.mem_of_getElem? (i := 88) rfl) rfl
theorem q1_176 : (Cond.fieldLink RX6 175 "MeterPool$History" "size" "I" : Cond) ∈ lw_w := tb1 _ (List.mem_of_getElem? (i := 176) rfl) rfl
theorem q3_89 : (Cond.methodLink RX6 176 yX1_takeBack : Cond) ∈ lw_w := tb3 _ (List.mem_of_getElem? (i := 89) rfl) rfl
theorem q3_90 : (Cond.instanceMethod yX1_takeBack : Cond) ∈ lw_w := tb3 _ (List.mem_of_getElem? (i := 90) rfl) rfl
theorem q3_91 : (Cond.selects RX1 yX1_takeBack yX1_takeBack : Cond) ∈ lw_w := tb3 _ (List.mem_of_getElem? (i := 91) rfl) rfl
theorem q3_92 : (Cond.code yX1_takeBack cX1_takeBack 2 none : Cond) ∈ lw_w := tb3 _ (List.mem_of_getElem? (i := 92) rfl) rfl
theorem q5_26 : (Cond.methodLink RL 76 yX7_undo : Cond) ∈ lw_w := tb5 _ (List.mem_of_getElem? (i := 26) rfl) rfl
theorem q5_27 : (Cond.instanceMethod yX7_undo : Cond) ∈ lw_w := tb5 _ (List.mem_of_getElem? (i := 27) rfl) rfl
theorem q5_28 : (Cond.selects RX7 yX7_undo yX7_undo : Cond) ∈ lw_w := tb5 _ (List.mem_of_getElem? (i := 28) rfl) rfl
theorem q5_29 : (Cond.code yX7_undo cX7_undo 1 (some .int) : Cond) ∈ lw_w := tb5 _ (List.mem_of_getElem? (i := 29) rfl) rfl
theorem q3_93 : (Cond.methodLink RL 77 yX6_keep : Cond) ∈ lw_w := tb3 _ (List.mem_of_getElem? (i := 93) rfl) rfl
theorem q3_94 : (Cond.instanceMethod yX6_keep : Cond) ∈ lw_w := tb3 _ (List.mem_of_getElem? (i := 94) rfl) rfl
theorem q3_95 : (Cond.selects RX6 yX6_keep yX6_keep : Cond) ∈ lw_w := tb3 _ (List.mem_of_getElem? (i := 95) rfl) rfl
theorem q3_96 : (Cond.code yX6_keep cX6_keep 2 (some .int) : Cond) ∈ lw_w := tb3 _ (List.mem_of_getElem? (i := 96) rfl) rfl
theorem q1_140 : (Cond.fieldLink RX6 185 "MeterPool$Village" "hour" "I" : Cond) ∈ lw_w := tb1 _ (List.mem_of_getElem? (i := 140) rfl) rfl
theorem q3_97 : (Cond.methodLink RX6 179 yX6_isImage : Cond) ∈ lw_w := tb3 _ (List.mem_of_getElem? (i := 97) rfl) rfl
theorem q3_98 : (Cond.static yX6_isImage : Cond) ∈ lw_w := tb3 _ (List.mem_of_getElem? (i := 98) rfl) rfl
theorem q3_99 : (Cond.code yX6_isImage cX6_isImage 1 (some .boolean) : Cond) ∈ lw_w := tb3 _ (List.mem_of_getElem? (i := 99) rfl) rfl
theorem q3_100 : (Cond.methodLink RX6 182 yX5_copy : Cond) ∈ lw_w := tb3 _ (List.mem_of_getElem? (i := 100) rfl) rfl
theorem q5_30 : (Cond.methodLink RL 80 yX7_keep : Cond) ∈ lw_w := tb5 _ (List.mem_of_getElem? (i := 30) rfl) rfl
theorem q5_31 : (Cond.instanceMethod yX7_keep : Cond) ∈ lw_w := tb5 _ (List.mem_of_getElem? (i := 31) rfl) rfl
theorem q5_32 : (Cond.selects RX7 yX7_keep yX7_keep : Cond) ∈ lw_w := tb5 _ (List.mem_of_getElem? (i := 32) rfl) rfl
theorem q5_33 : (Cond.code yX7_keep cX7_keep 2 (some .int) : Cond) ∈ lw_w := tb5 _ (List.mem_of_getElem? (i := 33) rfl) rfl
theorem q4_25 : (Cond.fieldLink RX7 173 "MeterPoolModel" "kept" "I" : Cond) ∈ lw_w := tb4 _ (List.mem_of_getElem? (i := 25) rfl) rfl
theorem q3_101 : (Cond.methodLink RL 81 yX6_back : Cond) ∈ lw_w := tb3 _ (List.mem_of_getElem? (i := 101) rfl) rfl
theorem q3_102 : (Cond.instanceMethod yX6_back : Cond) ∈ lw_w := tb3 _ (List.mem_of_getElem? (i := 102) rfl) rfl
theorem q3_103 : (Cond.selects RX6 yX6_back yX6_back : Cond) ∈ lw_w := tb3 _ (List.mem_of_getElem? (i := 103) rfl) rfl
theorem q3_104 : (Cond.code yX6_back cX6_back 2 (some .int) : Cond) ∈ lw_w := tb3 _ (List.mem_of_getElem? (i := 104) rfl) rfl
theorem q5_34 : (Cond.methodLink RL 84 yX7_back : Cond) ∈ lw_w := tb5 _ (List.mem_of_getElem? (i := 34) rfl) rfl
theorem q5_35 : (Cond.instanceMethod yX7_back : Cond) ∈ lw_w := tb5 _ (List.mem_of_getElem? (i := 35) rfl) rfl
theorem q5_36 : (Cond.selects RX7 yX7_back yX7_back : Cond) ∈ lw_w := tb5 _ (List.mem_of_getElem? (i := 36) rfl) rfl
theorem q5_37 : (Cond.code yX7_back cX7_back 2 (some .int) : Cond) ∈ lw_w := tb5 _ (List.mem_of_getElem? (i := 37) rfl) rfl
theorem q3_105 : (Cond.methodLink RL 85 yX6_house : Cond) ∈ lw_w := tb3 _ (List.mem_of_getElem? (i := 105) rfl) rfl
theorem q3_106 : (Cond.instanceMethod yX6_house : Cond) ∈ lw_w := tb3 _ (List.mem_of_getElem? (i := 106) rfl) rfl
theorem q3_107 : (Cond.selects RX6 yX6_house yX6_house : Cond) ∈ lw_w := tb3 _ (List.mem_of_getElem? (i := 107) rfl) rfl
theorem q3_108 : (Cond.code yX6_house cX6_house 3 (some .int) : Cond) ∈ lw_w := tb3 _ (List.mem_of_getElem? (i := 108) rfl) rfl
theorem q3_109 : (Cond.methodLink RX6 188 yX2_canDraw : Cond) ∈ lw_w := tb3 _ (List.mem_of_getElem? (i := 109) rfl) rfl
theorem q3_110 : (Cond.methodLink RX6 191 yX4_owedBy : Cond) ∈ lw_w := tb3 _ (List.mem_of_getElem? (i := 110) rfl) rfl
theorem q3_111 : (Cond.methodLink RX6 194 yX4_owedTo : Cond) ∈ lw_w := tb3 _ (List.mem_of_getElem? (i := 111) rfl) rfl
theorem q3_112 : (Cond.instanceMethod yX4_owedTo : Cond) ∈ lw_w := tb3 _ (List.mem_of_getElem? (i := 112) rfl) rfl
theorem q3_113 : (Cond.selects RX4 yX4_owedTo yX4_owedTo : Cond) ∈ lw_w := tb3 _ (List.mem_of_getElem? (i := 113) rfl) rfl
theorem q3_114 : (Cond.code yX4_owedTo cX4_owedTo 2 (some .int) : Cond) ∈ lw_w := tb3 _ (List.mem_of_getElem? (i := 114) rfl) rfl
theorem q5_38 : (Cond.methodLink RL 88 yX7_house : Cond) ∈ lw_w := tb5 _ (List.mem_of_getElem? (i := 38) rfl) rfl
theorem q5_39 : (Cond.instanceMethod yX7_house : Cond) ∈ lw_w := tb5 _ (List.mem_of_getElem? (i := 39) rfl) rfl
theorem q5_40 : (Cond.selects RX7 yX7_house yX7_house : Cond) ∈ lw_w := tb5 _ (List.mem_of_getElem? (i := 40) rfl) rfl
theorem q5_41 : (Cond.code yX7_house cX7_house 3 (some .int) : Cond) ∈ lw_w := tb5 _ (List.mem_of_getElem? (i := 41) rfl) rfl
theorem q5_42 : (Cond.methodLink RX7 176 yX7_houseNow : Cond) ∈ lw_w := tb5 _ (List.mem_of_getElem? (i := 42) rfl) rfl
theorem q5_44 : (Cond.instanceMethod yX7_houseNow : Cond) ∈ lw_w := tb5 _ (List.mem_of_getElem? (i := 44) rfl) rfl
theorem qs59 : (Cond.selects RX7 yX7_houseNow yX7_houseNow : Cond) ∈ lw_w := List.mem_filter.mpr ⟨List.mem_append_left _ (List.mem_of_getElem? (i := 59) rfl), rfl⟩
theorem q5_45 : (Cond.code yX7_houseNow cX7_houseNow 3 (some .int) : Cond) ∈ lw_w := tb5 _ (List.mem_of_getElem? (i := 45) rfl) rfl
theorem q3_115 : (Cond.methodLink RL 89 yX6_loan : Cond) ∈ lw_w := tb3 _ (List.mem_of_getElem? (i := 115) rfl) rfl
theorem q3_116 : (Cond.instanceMethod yX6_loan : Cond) ∈ lw_w := tb3 _ (List.mem_of_getElem? (i := 116) rfl) rfl
theorem q3_117 : (Cond.selects RX6 yX6_loan yX6_loan : Cond) ∈ lw_w := tb3 _ (List.mem_of_getElem? (i := 117) rfl) rfl
theorem q3_118 : (Cond.code yX6_loan cX6_loan 3 (some .int) : Cond) ∈ lw_w := tb3 _ (List.mem_of_getElem? (i := 118) rfl) rfl
theorem q3_119 : (Cond.methodLink RX6 197 yX4_told : Cond) ∈ lw_w := tb3 _ (List.mem_of_getElem? (i := 119) rfl) rfl
theorem q3_120 : (Cond.instanceMethod yX4_told : Cond) ∈ lw_w := tb3 _ (List.mem_of_getElem? (i := 120) rfl) rfl
theorem q3_121 : (Cond.selects RX4 yX4_told yX4_told : Cond) ∈ lw_w := tb3 _ (List.mem_of_getElem? (i := 121) rfl) rfl
theorem q3_122 : (Cond.code yX4_told cX4_told 3 (some .int) : Cond) ∈ lw_w := tb3 _ (List.mem_of_getElem? (i := 122) rfl) rfl
theorem q5_46 : (Cond.methodLink RL 92 yX7_loan : Cond) ∈ lw_w := tb5 _ (List.mem_of_getElem? (i := 46) rfl) rfl
theorem q5_47 : (Cond.instanceMethod yX7_loan : Cond) ∈ lw_w := tb5 _ (List.mem_of_getElem? (i := 47) rfl) rfl
theorem q5_48 : (Cond.selects RX7 yX7_loan yX7_loan : Cond) ∈ lw_w := tb5 _ (List.mem_of_getElem? (i := 48) rfl) rfl
theorem q5_49 : (Cond.code yX7_loan cX7_loan 3 (some .int) : Cond) ∈ lw_w := tb5 _ (List.mem_of_getElem? (i := 49) rfl) rfl
theorem q3_123 : (Cond.methodLink RL 93 yX6_battery : Cond) ∈ lw_w := tb3 _ (List.mem_of_getElem? (i := 123) rfl) rfl
theorem q3_124 : (Cond.instanceMethod yX6_battery : Cond) ∈ lw_w := tb3 _ (List.mem_of_getElem? (i := 124) rfl) rfl
theorem q3_125 : (Cond.selects RX6 yX6_battery yX6_battery : Cond) ∈ lw_w := tb3 _ (List.mem_of_getElem? (i := 125) rfl) rfl
theorem q3_126 : (Cond.code yX6_battery cX6_battery 3 (some .int) : Cond) ∈ lw_w := tb3 _ (List.mem_of_getElem? (i := 126) rfl) rfl
theorem q5_50 : (Cond.methodLink RL 96 yX7_battery : Cond) ∈ lw_w := tb5 _ (List.mem_of_getElem? (i := 50) rfl) rfl
theorem q5_51 : (Cond.instanceMethod yX7_battery : Cond) ∈ lw_w := tb5 _ (List.mem_of_getElem? (i := 51) rfl) rfl
theorem q5_52 : (Cond.selects RX7 yX7_battery yX7_battery : Cond) ∈ lw_w := tb5 _ (List.mem_of_getElem? (i := 52) rfl) rfl
theorem q5_53 : (Cond.code yX7_battery cX7_battery 3 (some .int) : Cond) ∈ lw_w := tb5 _ (List.mem_of_getElem? (i := 53) rfl) rfl
theorem q5_54 : (Cond.methodLink RX7 179 yX7_batteryNow : Cond) ∈ lw_w := tb5 _ (List.mem_of_getElem? (i := 54) rfl) rfl
theorem q5_56 : (Cond.instanceMethod yX7_batteryNow : Cond) ∈ lw_w := tb5 _ (List.mem_of_getElem? (i := 56) rfl) rfl
theorem qs60 : (Cond.selects RX7 yX7_batteryNow yX7_batteryNow : Cond) ∈ lw_w := List.mem_filter.mpr ⟨List.mem_append_left _ (List.mem_of_getElem? (i := 60) rfl), rfl⟩
theorem q5_57 : (Cond.code yX7_batteryNow cX7_batteryNow 3 (some .int) : Cond) ∈ lw_w := tb5 _ (List.mem_of_getElem? (i := 57) rfl) rfl
theorem q3_127 : (Cond.methodLink RL 97 yX6_feeder : Cond) ∈ lw_w := tb3 _ (List.mem_of_getElem? (i := 127) rfl) rfl
theorem q3_128 : (Cond.instanceMethod yX6_feeder : Cond) ∈ lw_w := tb3 _ (List.mem_of_getElem? (i := 128) rfl) rfl
theorem q3_129 : (Cond.selects RX6 yX6_feeder yX6_feeder : Cond) ∈ lw_w := tb3 _ (List.mem_of_getElem? (i := 129) rfl) rfl
theorem q3_130 : (Cond.code yX6_feeder cX6_feeder 3 (some .int) : Cond) ∈ lw_w := tb3 _ (List.mem_of_getElem? (i := 130) rfl) rfl
theorem q1_133 : (Cond.fieldLink RX6 208 "MeterPool$Village" "shedHours" "[I" : Cond) ∈ lw_w := tb1 _ (List.mem_of_getElem? (i := 133) rfl) rfl
theorem q1_135 : (Cond.fieldLink RX6 211 "MeterPool$Village" "shedLatest" "[I" : Cond) ∈ lw_w := tb1 _ (List.mem_of_getElem? (i := 135) rfl) rfl
theorem q3_131 : (Cond.methodLink RX6 198 yX2_sizeOf : Cond) ∈ lw_w := tb3 _ (List.mem_of_getElem? (i := 131) rfl) rfl
theorem q3_132 : (Cond.instanceMethod yX2_sizeOf : Cond) ∈ lw_w := tb3 _ (List.mem_of_getElem? (i := 132) rfl) rfl
theorem q3_133 : (Cond.selects RX2 yX2_sizeOf yX2_sizeOf : Cond) ∈ lw_w := tb3 _ (List.mem_of_getElem? (i := 133) rfl) rfl
theorem q3_134 : (Cond.code yX2_sizeOf cX2_sizeOf 4 (some .int) : Cond) ∈ lw_w := tb3 _ (List.mem_of_getElem? (i := 134) rfl) rfl
theorem q3_135 : (Cond.methodLink RX6 201 yX2_drawnFrom : Cond) ∈ lw_w := tb3 _ (List.mem_of_getElem? (i := 135) rfl) rfl
theorem q3_136 : (Cond.instanceMethod yX2_drawnFrom : Cond) ∈ lw_w := tb3 _ (List.mem_of_getElem? (i := 136) rfl) rfl
theorem q3_137 : (Cond.selects RX2 yX2_drawnFrom yX2_drawnFrom : Cond) ∈ lw_w := tb3 _ (List.mem_of_getElem? (i := 137) rfl) rfl
theorem q3_138 : (Cond.code yX2_drawnFrom cX2_drawnFrom 5 (some .int) : Cond) ∈ lw_w := tb3 _ (List.mem_of_getElem? (i := 138) rfl) rfl
theorem q3_139 : (Cond.methodLink RX6 204 yX2_sumFrom : Cond) ∈ lw_w := tb3 _ (List.mem_of_getElem? (i := 139) rfl) rfl
theorem q5_58 : (Cond.methodLink RL 100 yX7_feeder : Cond) ∈ lw_w := tb5 _ (List.mem_of_getElem? (i := 58) rfl) rfl
theorem q5_59 : (Cond.instanceMethod yX7_feeder : Cond) ∈ lw_w := tb5 _ (List.mem_of_getElem? (i := 59) rfl) rfl
theorem q5_60 : (Cond.selects RX7 yX7_feeder yX7_feeder : Cond) ∈ lw_w := tb5 _ (List.mem_of_getElem? (i := 60) rfl) rfl
theorem q5_61 : (Cond.code yX7_feeder cX7_feeder 3 (some .int) : Cond) ∈ lw_w := tb5 _ (List.mem_of_getElem? (i := 61) rfl) rfl
theorem q5_62 : (Cond.methodLink RX7 185 yX7_feederNow : Cond) ∈ lw_w := tb5 _ (List.mem_of_getElem? (i := 62) rfl) rfl
theorem q5_64 : (Cond.instanceMethod yX7_feederNow : Cond) ∈ lw_w := tb5 _ (List.mem_of_getElem? (i := 64) rfl) rfl
theorem qs61 : (Cond.selects RX7 yX7_feederNow yX7_feederNow : Cond) ∈ lw_w := List.mem_filter.mpr ⟨List.mem_append_left _ (List.mem_of_getElem? (i := 61) rfl), rfl⟩
theorem q5_65 : (Cond.code yX7_feederNow cX7_feederNow 3 (some .int) : Cond) ∈ lw_w := tb5 _ (List.mem_of_getElem? (i := 65) rfl) rfl
theorem q5_66 : (Cond.methodLink RX7 182 yX7_ofHouses : Cond) ∈ lw_w := tb5 _ (List.mem_of_getElem? (i := 66) rfl) rfl
theorem q5_68 : (Cond.instanceMethod yX7_ofHouses : Cond) ∈ lw_w := tb5 _ (List.mem_of_getElem? (i := 68) rfl) rfl
theorem qs62 : (Cond.selects RX7 yX7_ofHouses yX7_ofHouses : Cond) ∈ lw_w := List.mem_filter.mpr ⟨List.mem_append_left _ (List.mem_of_getElem? (i := 62) rfl), rfl⟩
theorem q5_69 : (Cond.code yX7_ofHouses cX7_ofHouses 5 (some .int) : Cond) ∈ lw_w := tb5 _ (List.mem_of_getElem? (i := 69) rfl) rfl
theorem q3_140 : (Cond.methodLink RL 101 yX6_account : Cond) ∈ lw_w := tb3 _ (List.mem_of_getElem? (i := 140) rfl) rfl
theorem q3_141 : (Cond.instanceMethod yX6_account : Cond) ∈ lw_w := tb3 _ (List.mem_of_getElem? (i := 141) rfl) rfl
theorem q3_142 : (Cond.selects RX6 yX6_account yX6_account : Cond) ∈ lw_w := tb3 _ (List.mem_of_getElem? (i := 142) rfl) rfl
theorem q3_143 : (Cond.code yX6_account cX6_account 2 (some .int) : Cond) ∈ lw_w := tb3 _ (List.mem_of_getElem? (i := 143) rfl) rfl
theorem q3_144 : (Cond.methodLink RX6 214 yX0_chargeOfAll : Cond) ∈ lw_w := tb3 _ (List.mem_of_getElem? (i := 144) rfl) rfl
theorem q3_145 : (Cond.instanceMethod yX0_chargeOfAll : Cond) ∈ lw_w := tb3 _ (List.mem_of_getElem? (i := 145) rfl) rfl
theorem q3_146 : (Cond.selects RX0 yX0_chargeOfAll yX0_chargeOfAll : Cond) ∈ lw_w := tb3 _ (List.mem_of_getElem? (i := 146) rfl) rfl
theorem q3_147 : (Cond.code yX0_chargeOfAll cX0_chargeOfAll 1 (some .int) : Cond) ∈ lw_w := tb3 _ (List.mem_of_getElem? (i := 147) rfl) rfl
theorem q5_70 : (Cond.methodLink RL 104 yX7_account : Cond) ∈ lw_w := tb5 _ (List.mem_of_getElem? (i := 70) rfl) rfl
theorem q5_71 : (Cond.instanceMethod yX7_account : Cond) ∈ lw_w := tb5 _ (List.mem_of_getElem? (i := 71) rfl) rfl
theorem q5_72 : (Cond.selects RX7 yX7_account yX7_account : Cond) ∈ lw_w := tb5 _ (List.mem_of_getElem? (i := 72) rfl) rfl
theorem q5_73 : (Cond.code yX7_account cX7_account 2 (some .int) : Cond) ∈ lw_w := tb5 _ (List.mem_of_getElem? (i := 73) rfl) rfl
theorem q5_74 : (Cond.methodLink RX7 188 yX7_accountNow : Cond) ∈ lw_w := tb5 _ (List.mem_of_getElem? (i := 74) rfl) rfl
theorem q5_76 : (Cond.instanceMethod yX7_accountNow : Cond) ∈ lw_w := tb5 _ (List.mem_of_getElem? (i := 76) rfl) rfl
theorem qs63 : (Cond.selects RX7 yX7_accountNow yX7_accountNow : Cond) ∈ lw_w := List.mem_filter.mpr ⟨List.mem_append_left _ (List.mem_of_getElem? (i := 63) rfl), rfl⟩
theorem q5_77 : (Cond.code yX7_accountNow cX7_accountNow 2 (some .int) : Cond) ∈ lw_w := tb5 _ (List.mem_of_getElem? (i := 77) rfl) rfl
theorem q3_148 : (Cond.methodLink RL 105 yX6_supply : Cond) ∈ lw_w := tb3 _ (List.mem_of_getElem? (i := 148) rfl) rfl
theorem q3_149 : (Cond.instanceMethod yX6_supply : Cond) ∈ lw_w := tb3 _ (List.mem_of_getElem? (i := 149) rfl) rfl
theorem q3_150 : (Cond.selects RX6 yX6_supply yX6_supply : Cond) ∈ lw_w := tb3 _ (List.mem_of_getElem? (i := 150) rfl) rfl
theorem q3_151 : (Cond.code yX6_supply cX6_supply 2 (some .int) : Cond) ∈ lw_w := tb3 _ (List.mem_of_getElem? (i := 151) rfl) rfl
theorem q3_152 : (Cond.methodLink RX6 217 yX5_supplyOf : Cond) ∈ lw_w := tb3 _ (List.mem_of_getElem? (i := 152) rfl) rfl
theorem q5_78 : (Cond.methodLink RL 108 yX7_supply : Cond) ∈ lw_w := tb5 _ (List.mem_of_getElem? (i := 78) rfl) rfl
theorem q5_79 : (Cond.instanceMethod yX7_supply : Cond) ∈ lw_w := tb5 _ (List.mem_of_getElem? (i := 79) rfl) rfl
theorem q5_80 : (Cond.selects RX7 yX7_supply yX7_supply : Cond) ∈ lw_w := tb5 _ (List.mem_of_getElem? (i := 80) rfl) rfl
theorem q5_81 : (Cond.code yX7_supply cX7_supply 2 (some .int) : Cond) ∈ lw_w := tb5 _ (List.mem_of_getElem? (i := 81) rfl) rfl
theorem q3_153 : (Cond.methodLink RL 109 yX6_count : Cond) ∈ lw_w := tb3 _ (List.mem_of_getElem? (i := 153) rfl) rfl
theorem q3_154 : (Cond.instanceMethod yX6_count : Cond) ∈ lw_w := tb3 _ (List.mem_of_getElem? (i := 154) rfl) rfl
theorem q3_155 : (Cond.selects RX6 yX6_count yX6_count : Cond) ∈ lw_w := tb3 _ (List.mem_of_getElem? (i := 155) rfl) rfl
theorem q3_156 : (Cond.code yX6_count cX6_count 2 (some .int) : Cond) ∈ lw_w := tb3 _ (List.mem_of_getElem? (i := 156) rfl) rfl
theorem q1_142 : (Cond.fieldLink RX6 220 "MeterPool$Village" "turn" "I" : Cond) ∈ lw_w := tb1 _ (List.mem_of_getElem? (i := 142) rfl) rfl
theorem q3_157 : (Cond.methodLink RX6 223 yX2_overdrawn : Cond) ∈ lw_w := tb3 _ (List.mem_of_getElem? (i := 157) rfl) rfl
theorem q3_158 : (Cond.instanceMethod yX2_overdrawn : Cond) ∈ lw_w := tb3 _ (List.mem_of_getElem? (i := 158) rfl) rfl
theorem q3_159 : (Cond.selects RX2 yX2_overdrawn yX2_overdrawn : Cond) ∈ lw_w := tb3 _ (List.mem_of_getElem? (i := 159) rfl) rfl
theorem q3_160 : (Cond.code yX2_overdrawn cX2_overdrawn 3 (some .int) : Cond) ∈ lw_w := tb3 _ (List.mem_of_getElem? (i := 160) rfl) rfl
theorem q5_82 : (Cond.methodLink RL 112 yX7_count : Cond) ∈ lw_w := tb5 _ (List.mem_of_getElem? (i := 82) rfl) rfl
theorem q5_83 : (Cond.instanceMethod yX7_count : Cond) ∈ lw_w := tb5 _ (List.mem_of_getElem? (i := 83) rfl) rfl
theorem q5_84 : (Cond.selects RX7 yX7_count yX7_count : Cond) ∈ lw_w := tb5 _ (List.mem_of_getElem? (i := 84) rfl) rfl
theorem q5_85 : (Cond.code yX7_count cX7_count 2 (some .int) : Cond) ∈ lw_w := tb5 _ (List.mem_of_getElem? (i := 85) rfl) rfl
theorem q5_86 : (Cond.methodLink RX7 194 yX7_counted : Cond) ∈ lw_w := tb5 _ (List.mem_of_getElem? (i := 86) rfl) rfl
theorem q5_88 : (Cond.instanceMethod yX7_counted : Cond) ∈ lw_w := tb5 _ (List.mem_of_getElem? (i := 88) rfl) rfl
theorem qs64 : (Cond.selects RX7 yX7_counted yX7_counted : Cond) ∈ lw_w := List.mem_filter.mpr ⟨List.mem_append_left _ (List.mem_of_getElem? (i := 64) rfl), rfl⟩
theorem q5_89 : (Cond.code yX7_counted cX7_counted 2 (some .int) : Cond) ∈ lw_w := tb5 _ (List.mem_of_getElem? (i := 89) rfl) rfl
theorem q5_90 : (Cond.methodLink RX7 191 yX7_negative : Cond) ∈ lw_w := tb5 _ (List.mem_of_getElem? (i := 90) rfl) rfl
theorem q5_92 : (Cond.instanceMethod yX7_negative : Cond) ∈ lw_w := tb5 _ (List.mem_of_getElem? (i := 92) rfl) rfl
theorem qs65 : (Cond.selects RX7 yX7_negative yX7_negative : Cond) ∈ lw_w := List.mem_filter.mpr ⟨List.mem_append_left _ (List.mem_of_getElem? (i := 65) rfl), rfl⟩
theorem q5_93 : (Cond.code yX7_negative cX7_negative 3 (some .int) : Cond) ∈ lw_w := tb5 _ (List.mem_of_getElem? (i := 93) rfl) rfl
theorem q3_161 : (Cond.methodLink RL 113 yX6_setting : Cond) ∈ lw_w := tb3 _ (List.mem_of_getElem? (i := 161) rfl) rfl
theorem q3_162 : (Cond.instanceMethod yX6_setting : Cond) ∈ lw_w := tb3 _ (List.mem_of_getElem? (i := 162) rfl) rfl
theorem q3_163 : (Cond.selects RX6 yX6_setting yX6_setting : Cond) ∈ lw_w := tb3 _ (List.mem_of_getElem? (i := 163) rfl) rfl
theorem q3_164 : (Cond.code yX6_setting cX6_setting 2 (some .int) : Cond) ∈ lw_w := tb3 _ (List.mem_of_getElem? (i := 164) rfl) rfl
theorem q5_94 : (Cond.methodLink RL 116 yX7_setting : Cond) ∈ lw_w := tb5 _ (List.mem_of_getElem? (i := 94) rfl) rfl
theorem q5_95 : (Cond.instanceMethod yX7_setting : Cond) ∈ lw_w := tb5 _ (List.mem_of_getElem? (i := 95) rfl) rfl
theorem q5_96 : (Cond.selects RX7 yX7_setting yX7_setting : Cond) ∈ lw_w := tb5 _ (List.mem_of_getElem? (i := 96) rfl) rfl
theorem q5_97 : (Cond.code yX7_setting cX7_setting 2 (some .int) : Cond) ∈ lw_w := tb5 _ (List.mem_of_getElem? (i := 97) rfl) rfl
theorem q3_165 : (Cond.methodLink RL 117 yX6_ifRun : Cond) ∈ lw_w := tb3 _ (List.mem_of_getElem? (i := 165) rfl) rfl
theorem q3_166 : (Cond.instanceMethod yX6_ifRun : Cond) ∈ lw_w := tb3 _ (List.mem_of_getElem? (i := 166) rfl) rfl
theorem q3_167 : (Cond.selects RX6 yX6_ifRun yX6_ifRun : Cond) ∈ lw_w := tb3 _ (List.mem_of_getElem? (i := 167) rfl) rfl
theorem q3_168 : (Cond.code yX6_ifRun cX6_ifRun 3 (some .int) : Cond) ∈ lw_w := tb3 _ (List.mem_of_getElem? (i := 168) rfl) rfl
theorem q3_169 : (Cond.methodLink RX6 226 yX6_seenAhead : Cond) ∈ lw_w := tb3 _ (List.mem_of_getElem? (i := 169) rfl) rfl
theorem q3_171 : (Cond.instanceMethod yX6_seenAhead : Cond) ∈ lw_w := tb3 _ (List.mem_of_getElem? (i := 171) rfl) rfl
theorem qs20 : (Cond.selects RX6 yX6_seenAhead yX6_seenAhead : Cond) ∈ lw_w := List.mem_filter.mpr ⟨List.mem_append_left _ (List.mem_of_getElem? (i := 20) rfl), rfl⟩
theorem q3_172 : (Cond.code yX6_seenAhead cX6_seenAhead 2 (some .int) : Cond) ∈ lw_w := tb3 _ (List.mem_of_getElem? (i := 172) rfl) rfl
theorem q3_173 : (Cond.methodLink RX6 284 yX5_timesShed : Cond) ∈ lw_w := tb3 _ (List.mem_of_getElem? (i := 173) rfl) rfl
theorem q3_174 : (Cond.instanceMethod yX5_timesShed : Cond) ∈ lw_w := tb3 _ (List.mem_of_getElem? (i := 174) rfl) rfl
theorem q3_175 : (Cond.selects RX5 yX5_timesShed yX5_timesShed : Cond) ∈ lw_w := tb3 _ (List.mem_of_getElem? (i := 175) rfl) rfl
theorem q3_176 : (Cond.code yX5_timesShed cX5_timesShed 1 (some .int) : Cond) ∈ lw_w := tb3 _ (List.mem_of_getElem? (i := 176) rfl) rfl
theorem q3_177 : (Cond.methodLink RX6 287 yX2_unmet : Cond) ∈ lw_w := tb3 _ (List.mem_of_getElem? (i := 177) rfl) rfl
theorem q3_178 : (Cond.instanceMethod yX2_unmet : Cond) ∈ lw_w := tb3 _ (List.mem_of_getElem? (i := 178) rfl) rfl
theorem q3_179 : (Cond.selects RX2 yX2_unmet yX2_unmet : Cond) ∈ lw_w := tb3 _ (List.mem_of_getElem? (i := 179) rfl) rfl
theorem q3_180 : (Cond.code yX2_unmet cX2_unmet 3 (some .int) : Cond) ∈ lw_w := tb3 _ (List.mem_of_getElem? (i := 180) rfl) rfl
theorem q5_98 : (Cond.methodLink RL 120 yX7_ifRun : Cond) ∈ lw_w := tb5 _ (List.mem_of_getElem? (i := 98) rfl) rfl
theorem q5_99 : (Cond.instanceMethod yX7_ifRun : Cond) ∈ lw_w := tb5 _ (List.mem_of_getElem? (i := 99) rfl) rfl
theorem q5_100 : (Cond.selects RX7 yX7_ifRun yX7_ifRun : Cond) ∈ lw_w := tb5 _ (List.mem_of_getElem? (i := 100) rfl) rfl
theorem q5_101 : (Cond.code yX7_ifRun cX7_ifRun 3 (some .int) : Cond) ∈ lw_w := tb5 _ (List.mem_of_getElem? (i := 101) rfl) rfl
theorem q5_102 : (Cond.methodLink RX7 203 yX7_ahead : Cond) ∈ lw_w := tb5 _ (List.mem_of_getElem? (i := 102) rfl) rfl
theorem q5_104 : (Cond.instanceMethod yX7_ahead : Cond) ∈ lw_w := tb5 _ (List.mem_of_getElem? (i := 104) rfl) rfl
theorem qs66 : (Cond.selects RX7 yX7_ahead yX7_ahead : Cond) ∈ lw_w := List.mem_filter.mpr ⟨List.mem_append_left _ (List.mem_of_getElem? (i := 66) rfl), rfl⟩
theorem q5_105 : (Cond.code yX7_ahead cX7_ahead 7 (some .int) : Cond) ∈ lw_w := tb5 _ (List.mem_of_getElem? (i := 105) rfl) rfl
theorem q5_106 : (Cond.methodLink RX7 197 yX7_sheddings : Cond) ∈ lw_w := tb5 _ (List.mem_of_getElem? (i := 106) rfl) rfl
theorem q5_108 : (Cond.instanceMethod yX7_sheddings : Cond) ∈ lw_w := tb5 _ (List.mem_of_getElem? (i := 108) rfl) rfl
theorem qs67 : (Cond.selects RX7 yX7_sheddings yX7_sheddings : Cond) ∈ lw_w := List.mem_filter.mpr ⟨List.mem_append_left _ (List.mem_of_getElem? (i := 67) rfl), rfl⟩
theorem q5_109 : (Cond.code yX7_sheddings cX7_sheddings 1 (some .int) : Cond) ∈ lw_w := tb5 _ (List.mem_of_getElem? (i := 109) rfl) rfl
theorem q5_110 : (Cond.methodLink RX7 200 yX7_dark : Cond) ∈ lw_w := tb5 _ (List.mem_of_getElem? (i := 110) rfl) rfl
theorem q5_112 : (Cond.instanceMethod yX7_dark : Cond) ∈ lw_w := tb5 _ (List.mem_of_getElem? (i := 112) rfl) rfl
theorem qs68 : (Cond.selects RX7 yX7_dark yX7_dark : Cond) ∈ lw_w := List.mem_filter.mpr ⟨List.mem_append_left _ (List.mem_of_getElem? (i := 68) rfl), rfl⟩
theorem q5_113 : (Cond.code yX7_dark cX7_dark 3 (some .int) : Cond) ∈ lw_w := tb5 _ (List.mem_of_getElem? (i := 113) rfl) rfl
theorem q3_181 : (Cond.methodLink RL 121 yX6_darkIn : Cond) ∈ lw_w := tb3 _ (List.mem_of_getElem? (i := 181) rfl) rfl
theorem q3_182 : (Cond.instanceMethod yX6_darkIn : Cond) ∈ lw_w := tb3 _ (List.mem_of_getElem? (i := 182) rfl) rfl
theorem q3_183 : (Cond.selects RX6 yX6_darkIn yX6_darkIn : Cond) ∈ lw_w := tb3 _ (List.mem_of_getElem? (i := 183) rfl) rfl
theorem q3_184 : (Cond.code yX6_darkIn cX6_darkIn 3 (some .int) : Cond) ∈ lw_w := tb3 _ (List.mem_of_getElem? (i := 184) rfl) rfl
theorem q3_185 : (Cond.methodLink RX6 229 yX5_hoursMet : Cond) ∈ lw_w := tb3 _ (List.mem_of_getElem? (i := 185) rfl) rfl
theorem q3_186 : (Cond.instanceMethod yX5_hoursMet : Cond) ∈ lw_w := tb3 _ (List.mem_of_getElem? (i := 186) rfl) rfl
theorem q3_187 : (Cond.selects RX5 yX5_hoursMet yX5_hoursMet : Cond) ∈ lw_w := tb3 _ (List.mem_of_getElem? (i := 187) rfl) rfl
theorem q3_188 : (Cond.code yX5_hoursMet cX5_hoursMet 4 (some .int) : Cond) ∈ lw_w := tb3 _ (List.mem_of_getElem? (i := 188) rfl) rfl
theorem q1_47 : (Cond.fieldLink RX5 125 "MeterPool$Houses" "got" "[I" : Cond) ∈ lw_w := tb1 _ (List.mem_of_getElem? (i := 47) rfl) rfl
theorem q1_38 : (Cond.fieldLink RX5 119 "MeterPool$Houses" "demand" "[I" : Cond) ∈ lw_w := tb1 _ (List.mem_of_getElem? (i := 38) rfl) rfl
theorem q5_114 : (Cond.methodLink RL 124 yX7_darkIn : Cond) ∈ lw_w := tb5 _ (List.mem_of_getElem? (i := 114) rfl) rfl
theorem q5_115 : (Cond.instanceMethod yX7_darkIn : Cond) ∈ lw_w := tb5 _ (List.mem_of_getElem? (i := 115) rfl) rfl
theorem q5_116 : (Cond.selects RX7 yX7_darkIn yX7_darkIn : Cond) ∈ lw_w := tb5 _ (List.mem_of_getElem? (i := 116) rfl) rfl
theorem q5_117 : (Cond.code yX7_darkIn cX7_darkIn 2 (some .int) : Cond) ∈ lw_w := tb5 _ (List.mem_of_getElem? (i := 117) rfl) rfl
theorem q5_118 : (Cond.methodLink RX7 206 yX7_firstDark : Cond) ∈ lw_w := tb5 _ (List.mem_of_getElem? (i := 118) rfl) rfl
theorem q5_120 : (Cond.instanceMethod yX7_firstDark : Cond) ∈ lw_w := tb5 _ (List.mem_of_getElem? (i := 120) rfl) rfl
theorem qs69 : (Cond.selects RX7 yX7_firstDark yX7_firstDark : Cond) ∈ lw_w := List.mem_filter.mpr ⟨List.mem_append_left _ (List.mem_of_getElem? (i := 69) rfl), rfl⟩
theorem q5_121 : (Cond.code yX7_firstDark cX7_firstDark 5 (some .int) : Cond) ∈ lw_w := tb5 _ (List.mem_of_getElem? (i := 121) rfl) rfl
theorem q3_189 : (Cond.methodLink RL 125 yX6_tokenFor : Cond) ∈ lw_w := tb3 _ (List.mem_of_getElem? (i := 189) rfl) rfl
theorem q3_190 : (Cond.instanceMethod yX6_tokenFor : Cond) ∈ lw_w := tb3 _ (List.mem_of_getElem? (i := 190) rfl) rfl
theorem q3_191 : (Cond.selects RX6 yX6_tokenFor yX6_tokenFor : Cond) ∈ lw_w := tb3 _ (List.mem_of_getElem? (i := 191) rfl) rfl
theorem q3_192 : (Cond.code yX6_tokenFor cX6_tokenFor 6 (some .int) : Cond) ∈ lw_w := tb3 _ (List.mem_of_getElem? (i := 192) rfl) rfl
theorem q3_193 : (Cond.methodLink RX6 232 yX5_partForLoans : Cond) ∈ lw_w := tb3 _ (List.mem_of_getElem? (i := 193) rfl) rfl
theorem q3_194 : (Cond.methodLink RX6 235 yX5_affords : Cond) ∈ lw_w := tb3 _ (List.mem_of_getElem? (i := 194) rfl) rfl
theorem q3_195 : (Cond.instanceMethod yX5_affords : Cond) ∈ lw_w := tb3 _ (List.mem_of_getElem? (i := 195) rfl) rfl
theorem q3_196 : (Cond.selects RX5 yX5_affords yX5_affords : Cond) ∈ lw_w := tb3 _ (List.mem_of_getElem? (i := 196) rfl) rfl
theorem q3_197 : (Cond.code yX5_affords cX5_affords 6 (some .boolean) : Cond) ∈ lw_w := tb3 _ (List.mem_of_getElem? (i := 197) rfl) rfl
theorem q3_198 : (Cond.methodLink RX6 238 yX6_wouldServe : Cond) ∈ lw_w := tb3 _ (List.mem_of_getElem? (i := 198) rfl) rfl
theorem q3_200 : (Cond.instanceMethod yX6_wouldServe : Cond) ∈ lw_w := tb3 _ (List.mem_of_getElem? (i := 200) rfl) rfl
theorem qs21 : (Cond.selects RX6 yX6_wouldServe yX6_wouldServe : Cond) ∈ lw_w := List.mem_filter.mpr ⟨List.mem_append_left _ (List.mem_of_getElem? (i := 21) rfl), rfl⟩
theorem q3_201 : (Cond.code yX6_wouldServe cX6_wouldServe 4 (some .boolean) : Cond) ∈ lw_w := tb3 _ (List.mem_of_getElem? (i := 201) rfl) rfl
theorem q5_122 : (Cond.methodLink RL 128 yX7_tokenFor : Cond) ∈ lw_w := tb5 _ (List.mem_of_getElem? (i := 122) rfl) rfl
theorem q5_123 : (Cond.instanceMethod yX7_tokenFor : Cond) ∈ lw_w := tb5 _ (List.mem_of_getElem? (i := 123) rfl) rfl
theorem q5_124 : (Cond.selects RX7 yX7_tokenFor yX7_tokenFor : Cond) ∈ lw_w := tb5 _ (List.mem_of_getElem? (i := 124) rfl) rfl
theorem q5_125 : (Cond.code yX7_tokenFor cX7_tokenFor 5 (some .int) : Cond) ∈ lw_w := tb5 _ (List.mem_of_getElem? (i := 125) rfl) rfl
theorem q3_202 : (Cond.methodLink RL 129 yX6_met : Cond) ∈ lw_w := tb3 _ (List.mem_of_getElem? (i := 202) rfl) rfl
theorem q3_203 : (Cond.instanceMethod yX6_met : Cond) ∈ lw_w := tb3 _ (List.mem_of_getElem? (i := 203) rfl) rfl
theorem q3_204 : (Cond.selects RX6 yX6_met yX6_met : Cond) ∈ lw_w := tb3 _ (List.mem_of_getElem? (i := 204) rfl) rfl
theorem q3_205 : (Cond.code yX6_met cX6_met 2 (some .double) : Cond) ∈ lw_w := tb3 _ (List.mem_of_getElem? (i := 205) rfl) rfl
theorem q1_39 : (Cond.fieldLink RX6 241 "MeterPool$Houses" "demand" "[I" : Cond) ∈ lw_w := tb1 _ (List.mem_of_getElem? (i := 39) rfl) rfl
theorem q1_48 : (Cond.fieldLink RX6 248 "MeterPool$Houses" "got" "[I" : Cond) ∈ lw_w := tb1 _ (List.mem_of_getElem? (i := 48) rfl) rfl
theorem q3_206 : (Cond.methodLink RX6 244 yX2_sum : Cond) ∈ lw_w := tb3 _ (List.mem_of_getElem? (i := 206) rfl) rfl
theorem q5_126 : (Cond.methodLink RL 133 yX7_met : Cond) ∈ lw_w := tb5 _ (List.mem_of_getElem? (i := 126) rfl) rfl
theorem q5_127 : (Cond.instanceMethod yX7_met : Cond) ∈ lw_w := tb5 _ (List.mem_of_getElem? (i := 127) rfl) rfl
theorem q5_128 : (Cond.selects RX7 yX7_met yX7_met : Cond) ∈ lw_w := tb5 _ (List.mem_of_getElem? (i := 128) rfl) rfl
theorem q5_129 : (Cond.code yX7_met cX7_met 4 (some .double) : Cond) ∈ lw_w := tb5 _ (List.mem_of_getElem? (i := 129) rfl) rfl
theorem q3_207 : (Cond.methodLink RL 134 yX6_digest : Cond) ∈ lw_w := tb3 _ (List.mem_of_getElem? (i := 207) rfl) rfl
theorem q3_208 : (Cond.instanceMethod yX6_digest : Cond) ∈ lw_w := tb3 _ (List.mem_of_getElem? (i := 208) rfl) rfl
theorem q3_209 : (Cond.selects RX6 yX6_digest yX6_digest : Cond) ∈ lw_w := tb3 _ (List.mem_of_getElem? (i := 209) rfl) rfl
theorem q3_210 : (Cond.code yX6_digest cX6_digest 3 (some .long) : Cond) ∈ lw_w := tb3 _ (List.mem_of_getElem? (i := 210) rfl) rfl
theorem q3_211 : (Cond.constantLong RX6 251 (2111) : Cond) ∈ lw_w := tb3 _ (List.mem_of_getElem? (i := 211) rfl) rfl
theorem q3_212 : (Cond.methodLink RX6 253 yX6_mixTotals : Cond) ∈ lw_w := tb3 _ (List.mem_of_getElem? (i := 212) rfl) rfl
theorem q3_214 : (Cond.instanceMethod yX6_mixTotals : Cond) ∈ lw_w := tb3 _ (List.mem_of_getElem? (i := 214) rfl) rfl
theorem qs22 : (Cond.selects RX6 yX6_mixTotals yX6_mixTotals : Cond) ∈ lw_w := List.mem_filter.mpr ⟨List.mem_append_left _ (List.mem_of_getElem? (i := 22) rfl), rfl⟩
theorem q3_215 : (Cond.code yX6_mixTotals cX6_mixTotals 6 (some .long) : Cond) ∈ lw_w := tb3 _ (List.mem_of_getElem? (i := 215) rfl) rfl
theorem q3_216 : (Cond.methodLink RX6 292 yX6_count : Cond) ∈ lw_w := tb3 _ (List.mem_of_getElem? (i := 216) rfl) rfl
theorem q3_217 : (Cond.methodLink RX6 277 yX6_mix : Cond) ∈ lw_w := tb3 _ (List.mem_of_getElem? (i := 217) rfl) rfl
theorem q3_218 : (Cond.static yX6_mix : Cond) ∈ lw_w := tb3 _ (List.mem_of_getElem? (i := 218) rfl) rfl
theorem q3_219 : (Cond.code yX6_mix cX6_mix 4 (some .long) : Cond) ∈ lw_w := tb3 _ (List.mem_of_getElem? (i := 219) rfl) rfl
theorem q3_220 : (Cond.constantLong RX6 290 (31) : Cond) ∈ lw_w := tb3 _ (List.mem_of_getElem? (i := 220) rfl) rfl
theorem q3_221 : (Cond.methodLink RX6 295 yX6_setting : Cond) ∈ lw_w := tb3 _ (List.mem_of_getElem? (i := 221) rfl) rfl
theorem q3_222 : (Cond.methodLink RX6 298 yX6_account : Cond) ∈ lw_w := tb3 _ (List.mem_of_getElem? (i := 222) rfl) rfl
theorem q3_223 : (Cond.methodLink RX6 257 yX6_mixHouses : Cond) ∈ lw_w := tb3 _ (List.mem_of_getElem? (i := 223) rfl) rfl
theorem q3_225 : (Cond.instanceMethod yX6_mixHouses : Cond) ∈ lw_w := tb3 _ (List.mem_of_getElem? (i := 225) rfl) rfl
theorem qs23 : (Cond.selects RX6 yX6_mixHouses yX6_mixHouses : Cond) ∈ lw_w := List.mem_filter.mpr ⟨List.mem_append_left _ (List.mem_of_getElem? (i := 23) rfl), rfl⟩
theorem q3_226 : (Cond.code yX6_mixHouses cX6_mixHouses 7 (some .long) : Cond) ∈ lw_w := tb3 _ (List.mem_of_getElem? (i := 226) rfl) rfl
theorem q3_227 : (Cond.methodLink RX6 301 yX6_house : Cond) ∈ lw_w := tb3 _ (List.mem_of_getElem? (i := 227) rfl) rfl
theorem q3_228 : (Cond.methodLink RX6 260 yX6_mixLoans : Cond) ∈ lw_w := tb3 _ (List.mem_of_getElem? (i := 228) rfl) rfl
theorem q3_230 : (Cond.instanceMethod yX6_mixLoans : Cond) ∈ lw_w := tb3 _ (List.mem_of_getElem? (i := 230) rfl) rfl
theorem qs24 : (Cond.selects RX6 yX6_mixLoans yX6_mixLoans : Cond) ∈ lw_w := List.mem_filter.mpr ⟨List.mem_append_left _ (List.mem_of_getElem? (i := 24) rfl), rfl⟩
theorem q3_231 : (Cond.code yX6_mixLoans cX6_mixLoans 7 (some .long) : Cond) ∈ lw_w := tb3 _ (List.mem_of_getElem? (i := 231) rfl) rfl
theorem q3_232 : (Cond.methodLink RX6 304 yX6_loan : Cond) ∈ lw_w := tb3 _ (List.mem_of_getElem? (i := 232) rfl) rfl
theorem q3_233 : (Cond.methodLink RX6 263 yX6_mixPlant : Cond) ∈ lw_w := tb3 _ (List.mem_of_getElem? (i := 233) rfl) rfl
theorem q3_235 : (Cond.instanceMethod yX6_mixPlant : Cond) ∈ lw_w := tb3 _ (List.mem_of_getElem? (i := 235) rfl) rfl
theorem qs25 : (Cond.selects RX6 yX6_mixPlant yX6_mixPlant : Cond) ∈ lw_w := List.mem_filter.mpr ⟨List.mem_append_left _ (List.mem_of_getElem? (i := 25) rfl), rfl⟩
theorem q3_236 : (Cond.code yX6_mixPlant cX6_mixPlant 7 (some .long) : Cond) ∈ lw_w := tb3 _ (List.mem_of_getElem? (i := 236) rfl) rfl
theorem q3_237 : (Cond.methodLink RX6 307 yX6_battery : Cond) ∈ lw_w := tb3 _ (List.mem_of_getElem? (i := 237) rfl) rfl
theorem q3_238 : (Cond.methodLink RX6 310 yX6_feeder : Cond) ∈ lw_w := tb3 _ (List.mem_of_getElem? (i := 238) rfl) rfl
theorem q3_239 : (Cond.methodLink RX6 313 yX6_supply : Cond) ∈ lw_w := tb3 _ (List.mem_of_getElem? (i := 239) rfl) rfl
theorem q4_0 : (Cond.methodLink RX6 266 yX6_mixAhead : Cond) ∈ lw_w := tb4 _ (List.mem_of_getElem? (i := 0) rfl) rfl
theorem q4_2 : (Cond.instanceMethod yX6_mixAhead : Cond) ∈ lw_w := tb4 _ (List.mem_of_getElem? (i := 2) rfl) rfl
theorem qs26 : (Cond.selects RX6 yX6_mixAhead yX6_mixAhead : Cond) ∈ lw_w := List.mem_filter.mpr ⟨List.mem_append_left _ (List.mem_of_getElem? (i := 26) rfl), rfl⟩
theorem q4_3 : (Cond.code yX6_mixAhead cX6_mixAhead 6 (some .long) : Cond) ∈ lw_w := tb4 _ (List.mem_of_getElem? (i := 3) rfl) rfl
theorem q4_4 : (Cond.methodLink RX6 269 yX6_met : Cond) ∈ lw_w := tb4 _ (List.mem_of_getElem? (i := 4) rfl) rfl
theorem q4_5 : (Cond.methodLink RX6 273 yX6_bitsOf : Cond) ∈ lw_w := tb4 _ (List.mem_of_getElem? (i := 5) rfl) rfl
theorem q4_6 : (Cond.static yX6_bitsOf : Cond) ∈ lw_w := tb4 _ (List.mem_of_getElem? (i := 6) rfl) rfl
theorem q4_7 : (Cond.code yX6_bitsOf cX6_bitsOf 8 (some .long) : Cond) ∈ lw_w := tb4 _ (List.mem_of_getElem? (i := 7) rfl) rfl
theorem q4_8 : (Cond.constantLong RX6 319 (1023) : Cond) ∈ lw_w := tb4 _ (List.mem_of_getElem? (i := 8) rfl) rfl
theorem q4_9 : (Cond.constantDouble RX6 321 (4611686018427387904) : Cond) ∈ lw_w := tb4 _ (List.mem_of_getElem? (i := 9) rfl) rfl
theorem q4_10 : (Cond.constantDouble RX6 323 (4841369599423283200) : Cond) ∈ lw_w := tb4 _ (List.mem_of_getElem? (i := 10) rfl) rfl
theorem q4_11 : (Cond.methodLink RX6 281 yX6_mixText : Cond) ∈ lw_w := tb4 _ (List.mem_of_getElem? (i := 11) rfl) rfl
theorem q4_13 : (Cond.instanceMethod yX6_mixText : Cond) ∈ lw_w := tb4 _ (List.mem_of_getElem? (i := 13) rfl) rfl
theorem qs27 : (Cond.selects RX6 yX6_mixText yX6_mixText : Cond) ∈ lw_w := List.mem_filter.mpr ⟨List.mem_append_left _ (List.mem_of_getElem? (i := 27) rfl), rfl⟩
theorem q4_14 : (Cond.code yX6_mixText cX6_mixText 6 (some .long) : Cond) ∈ lw_w := tb4 _ (List.mem_of_getElem? (i := 14) rfl) rfl
theorem q1_192 : (Cond.fieldLink RX6 316 "MeterPool$ListText" "codes" "[I" : Cond) ∈ lw_w := tb1 _ (List.mem_of_getElem? (i := 192) rfl) rfl
theorem q5_130 : (Cond.methodLink RL 138 yX7_digest : Cond) ∈ lw_w := tb5 _ (List.mem_of_getElem? (i := 130) rfl) rfl
theorem q5_131 : (Cond.instanceMethod yX7_digest : Cond) ∈ lw_w := tb5 _ (List.mem_of_getElem? (i := 131) rfl) rfl
theorem q5_132 : (Cond.selects RX7 yX7_digest yX7_digest : Cond) ∈ lw_w := tb5 _ (List.mem_of_getElem? (i := 132) rfl) rfl
theorem q5_133 : (Cond.code yX7_digest cX7_digest 2 (some .long) : Cond) ∈ lw_w := tb5 _ (List.mem_of_getElem? (i := 133) rfl) rfl
theorem q5_134 : (Cond.constantLong RX7 219 (2111) : Cond) ∈ lw_w := tb5 _ (List.mem_of_getElem? (i := 134) rfl) rfl
theorem q4_36 : (Cond.fieldLink RX7 211 "MeterPoolModel" "hash" "J" : Cond) ∈ lw_w := tb4 _ (List.mem_of_getElem? (i := 36) rfl) rfl
theorem q5_135 : (Cond.methodLink RX7 215 yX7_mix : Cond) ∈ lw_w := tb5 _ (List.mem_of_getElem? (i := 135) rfl) rfl
theorem q5_137 : (Cond.instanceMethod yX7_mix : Cond) ∈ lw_w := tb5 _ (List.mem_of_getElem? (i := 137) rfl) rfl
theorem qs70 : (Cond.selects RX7 yX7_mix yX7_mix : Cond) ∈ lw_w := List.mem_filter.mpr ⟨List.mem_append_left _ (List.mem_of_getElem? (i := 70) rfl), rfl⟩
theorem q5_138 : (Cond.code yX7_mix cX7_mix 3 none : Cond) ∈ lw_w := tb5 _ (List.mem_of_getElem? (i := 138) rfl) rfl
theorem q5_139 : (Cond.constantLong RX7 209 (31) : Cond) ∈ lw_w := tb5 _ (List.mem_of_getElem? (i := 139) rfl) rfl
theorem q5_140 : (Cond.methodLink RX7 221 yX7_mixThings : Cond) ∈ lw_w := tb5 _ (List.mem_of_getElem? (i := 140) rfl) rfl
theorem q5_142 : (Cond.instanceMethod yX7_mixThings : Cond) ∈ lw_w := tb5 _ (List.mem_of_getElem? (i := 142) rfl) rfl
theorem qs71 : (Cond.selects RX7 yX7_mixThings yX7_mixThings : Cond) ∈ lw_w := List.mem_filter.mpr ⟨List.mem_append_left _ (List.mem_of_getElem? (i := 71) rfl), rfl⟩
theorem q5_143 : (Cond.code yX7_mixThings cX7_mixThings 2 none : Cond) ∈ lw_w := tb5 _ (List.mem_of_getElem? (i := 143) rfl) rfl
theorem q5_144 : (Cond.methodLink RX7 224 yX7_met : Cond) ∈ lw_w := tb5 _ (List.mem_of_getElem? (i := 144) rfl) rfl
theorem q5_145 : (Cond.methodLink RX7 228 yJxe99ae_doubleToLongBits_ccdee : Cond) ∈ lw_w := tb5 _ (List.mem_of_getElem? (i := 145) rfl) rfl
theorem q5_146 : (Cond.static yJxe99ae_doubleToLongBits_ccdee : Cond) ∈ lw_w := tb5 _ (List.mem_of_getElem? (i := 146) rfl) rfl
theorem q1_11 : (Cond.initialized RJxe99ae : Cond) ∈ lw_w := tb1 _ (List.mem_of_getElem? (i := 11) rfl) rfl
theorem q5_147 : (Cond.code yJxe99ae_doubleToLongBits_ccdee cJxe99ae_doubleToLongBits_ccdee 2 (some .long) : Cond) ∈ lw_w := tb5 _ (List.mem_of_getElem? (i := 147) rfl) rfl
theorem q5_151 : (Cond.methodLink RJxe99ae 134 ⟨"java/lang/Double", "doubleToRawLongBits", "(D)J"⟩ : Cond) ∈ lw_w := tb5 _ (List.mem_of_getElem? (i := 151) rfl) rfl
theorem q5_153 : (Cond.native ⟨"java/lang/Double", "doubleToRawLongBits", "(D)J"⟩ : Cond) ∈ lw_w := tb5 _ (List.mem_of_getElem? (i := 153) rfl) rfl
theorem q5_152 : (Cond.static ⟨"java/lang/Double", "doubleToRawLongBits", "(D)J"⟩ : Cond) ∈ lw_w := tb5 _ (List.mem_of_getElem? (i := 152) rfl) rfl
theorem q5_154 : (Cond.constantLong RJxe99ae 137 (9221120237041090560) : Cond) ∈ lw_w := tb5 _ (List.mem_of_getElem? (i := 154) rfl) rfl
theorem q5_148 : (Cond.methodLink RJxe99ae 122 yJxe99ae_isNaN_b9ae7 : Cond) ∈ lw_w := tb5 _ (List.mem_of_getElem? (i := 148) rfl) rfl
theorem q5_149 : (Cond.static yJxe99ae_isNaN_b9ae7 : Cond) ∈ lw_w := tb5 _ (List.mem_of_getElem? (i := 149) rfl) rfl
theorem q5_150 : (Cond.code yJxe99ae_isNaN_b9ae7 cJxe99ae_isNaN_b9ae7 2 (some .boolean) : Cond) ∈ lw_w := tb5 _ (List.mem_of_getElem? (i := 150) rfl) rfl
theorem n1_28 : (Jvm.Cond.methodLinkNest "MeterPool$Village" (11 : Nat) ({ cls := "MeterPool$Houses", name := "<init>", desc := "()V" } : Jvm.MethodName) "MeterPool" : Cond) ∈ lw_tbl := List.mem_append_right _ (List.mem_append_left _ (List.mem_of_getElem? (i := 28) rfl))
theorem n1_76 : (Jvm.Cond.superclass "MeterPool$Houses" "java/lang/Object" : Cond) ∈ lw_tbl := List.mem_append_right _ (List.mem_append_left _ (List.mem_of_getElem? (i := 76) rfl))
theorem n1_80 : (Jvm.Cond.methodLinkNest "MeterPool$Village" (20 : Nat) ({ cls := "MeterPool$Loans", name := "<init>", desc := "()V" } : Jvm.MethodName) "MeterPool" : Cond) ∈ lw_tbl := List.mem_append_right _ (List.mem_append_left _ (List.mem_of_getElem? (i := 80) rfl))
theorem n1_102 : (Jvm.Cond.superclass "MeterPool$Loans" "java/lang/Object" : Cond) ∈ lw_tbl := List.mem_append_right _ (List.mem_append_left _ (List.mem_of_getElem? (i := 102) rfl))
theorem n1_121 : (Jvm.Cond.superclass "MeterPool$Batteries" "java/lang/Object" : Cond) ∈ lw_tbl := List.mem_append_right _ (List.mem_append_left _ (List.mem_of_getElem? (i := 121) rfl))
theorem n1_165 : (Jvm.Cond.superclass "MeterPool$Village" "java/lang/Object" : Cond) ∈ lw_tbl := List.mem_append_right _ (List.mem_append_left _ (List.mem_of_getElem? (i := 165) rfl))
theorem n1_173 : (Jvm.Cond.arrayOver (Jvm.ClassFile.FieldType.object "MeterPool$Village") : Cond) ∈ lw_tbl := List.mem_append_right _ (List.mem_append_left _ (List.mem_of_getElem? (i := 173) rfl))
theorem n1_182 : (Jvm.Cond.superclass "MeterPool$History" "java/lang/Object" : Cond) ∈ lw_tbl := List.mem_append_right _ (List.mem_append_left _ (List.mem_of_getElem? (i := 182) rfl))
theorem n1_185 : (Jvm.Cond.methodLinkNest "MeterPool" (36 : Nat) ({ cls := "MeterPool$ListText", name := "<init>", desc := "()V" } : Jvm.MethodName) "MeterPool" : Cond) ∈ lw_tbl := List.mem_append_right _ (List.mem_append_left _ (List.mem_of_getElem? (i := 185) rfl))
theorem n1_211 : (Jvm.Cond.superclass "MeterPool$ListText" "java/lang/Object" : Cond) ∈ lw_tbl := List.mem_append_right _ (List.mem_append_left _ (List.mem_of_getElem? (i := 211) rfl))
theorem n1_231 : (Jvm.Cond.superclass "MeterPool" "java/lang/Object" : Cond) ∈ lw_tbl := List.mem_append_right _ (List.mem_append_left _ (List.mem_of_getElem? (i := 231) rfl))
theorem n2_48 : (Jvm.Cond.laysStatic "MeterPool" "HOUSE_MOST" "[I" : Cond) ∈ lw_tbl := List.mem_append_right _ (List.mem_append_right _ (List.mem_append_left _ (List.mem_of_getElem? (i := 48) rfl)))
theorem n2_156 : (Jvm.Cond.laysStatic "MeterPool" "SETTING_MOST" "[I" : Cond) ∈ lw_tbl := List.mem_append_right _ (List.mem_append_right _ (List.mem_append_left _ (List.mem_of_getElem? (i := 156) rfl)))
theorem n2_165 : (Jvm.Cond.laysStatic "MeterPool" "BATTERY_LEAST" "[I" : Cond) ∈ lw_tbl := List.mem_append_right _ (List.mem_append_right _ (List.mem_append_left _ (List.mem_of_getElem? (i := 165) rfl)))
theorem n2_167 : (Jvm.Cond.laysStatic "MeterPool" "BATTERY_MOST" "[I" : Cond) ∈ lw_tbl := List.mem_append_right _ (List.mem_append_right _ (List.mem_append_left _ (List.mem_of_getElem? (i := 167) rfl)))
theorem n4_69 : (Jvm.Cond.superclass "MeterPoolModel" "java/lang/Object" : Cond) ∈ lw_tbl := List.mem_append_right _ (List.mem_append_right _ (List.mem_append_right _ (List.mem_append_right _ (List.mem_append_left _ (List.mem_of_getElem? (i := 69) rfl)))))
set_option maxRecDepth 100000 in
theorem inX0_0 : ∀ w ∈ wsX00, w ∈ lw_tbl ∧ goodWord w = true := by decide +kernel
theorem inX0 : ∀ w ∈ wsX00, w ∈ lw_w := fun w h => List.mem_filter.mpr (inX0_0 w h)
set_option maxRecDepth 100000 in
theorem inX1_0 : ∀ w ∈ wsX10, w ∈ lw_tbl ∧ goodWord w = true := by decide +kernel
theorem inX1 : ∀ w ∈ wsX10, w ∈ lw_w := fun w h => List.mem_filter.mpr (inX1_0 w h)
set_option maxRecDepth 100000 in
theorem inX2_0 : ∀ w ∈ wsX20, w ∈ lw_tbl ∧ goodWord w = true := by decide +kernel
theorem inX2 : ∀ w ∈ wsX20, w ∈ lw_w := fun w h => List.mem_filter.mpr (inX2_0 w h)
set_option maxRecDepth 100000 in
theorem inX3_0 : ∀ w ∈ wsX30, w ∈ lw_tbl ∧ goodWord w = true := by decide +kernel
theorem inX3 : ∀ w ∈ wsX30, w ∈ lw_w := fun w h => List.mem_filter.mpr (inX3_0 w h)
set_option maxRecDepth 100000 in
theorem inX4_0 : ∀ w ∈ wsX40, w ∈ lw_tbl ∧ goodWord w = true := by decide +kernel
theorem inX4 : ∀ w ∈ wsX40, w ∈ lw_w := fun w h => List.mem_filter.mpr (inX4_0 w h)
set_option maxRecDepth 100000 in
theorem inX5_0 : ∀ w ∈ wsX50, w ∈ lw_tbl ∧ goodWord w = true := by decide +kernel
theorem inX5 : ∀ w ∈ wsX50, w ∈ lw_w := fun w h => List.mem_filter.mpr (inX5_0 w h)
set_option maxRecDepth 100000 in
theorem inX6_0 : ∀ w ∈ wsX60, w ∈ lw_tbl ∧ goodWord w = true := by decide +kernel
theorem inX6 : ∀ w ∈ wsX60, w ∈ lw_w := fun w h => List.mem_filter.mpr (inX6_0 w h)
set_option maxRecDepth 100000 in
theorem inX7_0 : ∀ w ∈ wsX70, w ∈ lw_tbl ∧ goodWord w = true := by decide +kernel
theorem inX7 : ∀ w ∈ wsX70, w ∈ lw_w := fun w h => List.mem_filter.mpr (inX7_0 w h)
end
section
/-! THE WALK'S FRAME: a context X (machine, frame, tables, the cells that may change, the goal, the world's family), 'J X pc locals stack S': from every heap that holds the world of S the machine comes to the goal. -/
abbrev JX (σ : Type) : Type := (Program × Launch × Env × Room × State) × (MethodId × Array Value × List Frame × Method × Code) × (Nat × va_G × ClassId × ClassId × ClassId) × (Nat × Nat) × ((Nat → Prop) × (State → Prop) × (σ → va_W))
abbrev JX.p {σ : Type} (X : JX σ) : Program := X.1.1
abbrev JX.l {σ : Type} (X : JX σ) : Launch := X.1.2.1
abbrev JX.e {σ : Type} (X : JX σ) : Env := X.1.2.2.1
abbrev JX.R {σ : Type} (X : JX σ) : Room := X.1.2.2.2.1
abbrev JX.s {σ : Type} (X : JX σ) : State := X.1.2.2.2.2
abbrev JX.m {σ : Type} (X : JX σ) : MethodId := X.2.1.1
abbrev JX.args {σ : Type} (X : JX σ) : Array Value := X.2.1.2.1
abbrev JX.below {σ : Type} (X : JX σ) : List Frame := X.2.1.2.2.1
abbrev JX.meth {σ : Type} (X : JX σ) : Method := X.2.1.2.2.2.1
abbrev JX.c {σ : Type} (X : JX σ) : Code := X.2.1.2.2.2.2
abbrev JX.nL {σ : Type} (X : JX σ) : Nat := X.2.2.1.1
abbrev JX.D {σ : Type} (X : JX σ) : va_G := X.2.2.1.2.1
abbrev JX.cI {σ : Type} (X : JX σ) : ClassId := X.2.2.1.2.2.1
abbrev JX.cZ {σ : Type} (X : JX σ) : ClassId := X.2.2.1.2.2.2.1
abbrev JX.cV {σ : Type} (X : JX σ) : ClassId := X.2.2.1.2.2.2.2
abbrev JX.kc {σ : Type} (X : JX σ) : Nat := X.2.2.2.1.1
abbrev JX.ks {σ : Type} (X : JX σ) : Nat := X.2.2.2.1.2
abbrev JX.A {σ : Type} (X : JX σ) : Nat → Prop := X.2.2.2.2.1
abbrev JX.Q {σ : Type} (X : JX σ) : State → Prop := X.2.2.2.2.2.1
abbrev JX.B {σ : Type} (X : JX σ) : σ → va_W := X.2.2.2.2.2.2
def jtys (cI cZ cV : ClassId) : List (ClassId × FieldType) := [(cI, .int), (cZ, .boolean), (cV, .object RX5)]
def J {σ : Type} (X : JX σ) (pc : Nat) (lv : List (Nat × Value)) (st : List Value) (S : σ) : Prop :=
  ∀ (ls : Array Slot) (H : Heap) (locs : List Loc), lv_has ls X.nL lv → va_P X.D vwCl (X.B S) H → va_D X.A (X.B S) → va_S X.A X.s.heap H locs → W X.p X.l X.e X.R X.s X.m X.args X.below X.meth X.c H locs X.kc X.ks X.Q (F0 X.m pc ls st)
def OK {σ : Type} (X : JX σ) (own : String) (cc : ByteArray) (rm : Room) : Prop :=
  X.p.tables.exec = Jvm.exec ∧ X.c.code = cc ∧ X.c.maxLocals = X.nL ∧ X.s.vm.findClass own = some X.m.cls ∧ (∀ w ∈ lw_w, w.before X.args X.s = true) ∧ va_K X.D vwCl (jtys X.cI X.cZ X.cV) X.s ∧ (∀ q, X.s.heap.size ≤ q → X.A q) ∧ X.R = rm ∧ X.kc ≤ rm.cells ∧ X.ks ≤ rm.slots
/-! the pure programs' words: a check, a name, a bind -/
def inb (i : Int32) (n : Nat) : Bool := decide (0 ≤ i.toInt) && decide (i.toInt < (n : Int))
def bnd {α : Type} (b : Bool) (x : Option α) : Option α := if b = true then x else none
def letv {α β : Type} (e : α) (f : α → β) : β := f e
def bnd2 {α β : Type} (x : Option α) (f : α → Option β) : Option β := x.bind f
theorem inb_vp {i : Int32} {n : Nat} (h : inb i n = true) : vp_in i n := by
  unfold inb at h
  rw [Bool.and_eq_true, decide_eq_true_eq, decide_eq_true_eq] at h
  exact vp_in_iff.mpr h
theorem bnd_row {α : Type} {b : Bool} {x : Option α} {r : α} (h : bnd b x = some r) : b = true ∧ x = some r := by
  unfold bnd at h
  by_cases hb : b = true
  · rw [if_pos hb] at h; exact ⟨hb, h⟩
  · rw [if_neg hb] at h; cases h
theorem bind_row {α β : Type} {x : Option α} {f : α → Option β} {r : β} (h : bnd2 x f = some r) : ∃ a, x = some a ∧ f a = some r := by
  unfold bnd2 at h
  cases x with
  | none => cases h
  | some a => exact ⟨a, rfl, h⟩
theorem ite_t {α : Type} {c : Prop} {dc : Decidable c} {a b r : α} (hc : c) (h : (if c then a else b) = r) : a = r := by rwa [if_pos hc] at h
theorem ite_f {α : Type} {c : Prop} {dc : Decidable c} {a b r : α} (hc : ¬ c) (h : (if c then a else b) = r) : b = r := by rwa [if_neg hc] at h
section JR
variable {σ ρ : Type} {X : JX σ} {own : String} {cc : ByteArray} {rm : Room} {pc : Nat} {lv lv' : List (Nat × Value)} {st : List Value} {S S' : σ} {res : ρ}
theorem j_let {e : Int32} {f : Int32 → Option ρ} (hF : letv e f = some res) (k : ∀ y : Int32, f y = some res → J X pc lv (.int y :: st) S) : J X pc lv (.int e :: st) S := k e hF
theorem j_letl {e : Int64} {f : Int64 → Option ρ} (hF : letv e f = some res) (k : ∀ y : Int64, f y = some res → J X pc lv (.long y :: st) S) : J X pc lv (.long e :: st) S := k e hF
theorem j_letd {e : UInt64} {f : UInt64 → Option ρ} (hF : letv e f = some res) (k : ∀ y : UInt64, f y = some res → J X pc lv (.double y :: st) S) : J X pc lv (.double e :: st) S := k e hF
theorem j_sub (ks : List Nat) (hl : lv_pick lv ks = lv') (k : J X pc lv' st S) : J X pc lv st S := fun ls H locs a1 a2 a3 a4 => k ls H locs (lv_sub a1 ks hl) a2 a3 a4

theorem j_iconst (h : OK X own cc rm) {n : Int} {v : Int32} (hv : Int32.ofInt n = v) (hdg : decode cc pc = .ok (.iconst n, 1)) (k : J X (pc + 1) lv (.int v :: st) S) : J X pc lv (st) S := fun ls H locs a1 a2 a3 a4 => lv_iconst h.1 h.2.1 hdg hv (k ls H locs a1 a2 a3 a4)
theorem j_bipush (h : OK X own cc rm) {n : Int} {v : Int32} (hv : (Int8.ofInt n).toInt32 = v) (hdg : decode cc pc = .ok (.bipush n, 2)) (k : J X (pc + 2) lv (.int v :: st) S) : J X pc lv (st) S := fun ls H locs a1 a2 a3 a4 => lv_bipush h.1 h.2.1 hdg hv (k ls H locs a1 a2 a3 a4)
theorem j_sipush (h : OK X own cc rm) {n : Int} {v : Int32} (hv : (Int16.ofInt n).toInt32 = v) (hdg : decode cc pc = .ok (.sipush n, 3)) (k : J X (pc + 3) lv (.int v :: st) S) : J X pc lv (st) S := fun ls H locs a1 a2 a3 a4 => lv_sipush h.1 h.2.1 hdg hv (k ls H locs a1 a2 a3 a4)
theorem j_lconst (h : OK X own cc rm) {n : Fin 2} {v : Int64} (hv : Int64.ofNat (n : Nat) = v) (hdg : decode cc pc = .ok (.lconst n, 1)) (k : J X (pc + 1) lv (.long v :: st) S) : J X pc lv (st) S := fun ls H locs a1 a2 a3 a4 => lv_lconst h.1 h.2.1 hdg hv (k ls H locs a1 a2 a3 a4)
theorem j_dconst0 (h : OK X own cc rm)  (hdg : decode cc pc = .ok (.dconst 0, 1)) (k : J X (pc + 1) lv (.double FP.dconst0 :: st) S) : J X pc lv (st) S := fun ls H locs a1 a2 a3 a4 => lv_dconst0 h.1 h.2.1 hdg (k ls H locs a1 a2 a3 a4)
theorem j_dconst1 (h : OK X own cc rm)  (hdg : decode cc pc = .ok (.dconst 1, 1)) (k : J X (pc + 1) lv (.double FP.dconst1 :: st) S) : J X pc lv (st) S := fun ls H locs a1 a2 a3 a4 => lv_dconst1 h.1 h.2.1 hdg (k ls H locs a1 a2 a3 a4)
theorem j_ldc (h : OK X own cc rm) {index : Nat} {v : Int32} (hq : (Cond.constant own index v) ∈ lw_w) (hdg : decode cc pc = .ok (.ldc index, 2)) (k : J X (pc + 2) lv (.int v :: st) S) : J X pc lv st S := fun ls H locs a1 a2 a3 a4 => lv_ldc h.1 h.2.1 h.2.2.2.1 (h.2.2.2.2.1 _ hq) hdg (k ls H locs a1 a2 a3 a4)
theorem j_ldc2 (h : OK X own cc rm) {index : Nat} {v : Int64} (hq : (Cond.constantLong own index v) ∈ lw_w) (hdg : decode cc pc = .ok (.ldc2_w index, 3)) (k : J X (pc + 3) lv (.long v :: st) S) : J X pc lv st S := fun ls H locs a1 a2 a3 a4 => lv_ldc2 h.1 h.2.1 h.2.2.2.1 (h.2.2.2.2.1 _ hq) hdg (k ls H locs a1 a2 a3 a4)
theorem j_ldc2d (h : OK X own cc rm) {index : Nat} {v : UInt64} (hq : (Cond.constantDouble own index v) ∈ lw_w) (hdg : decode cc pc = .ok (.ldc2_w index, 3)) (k : J X (pc + 3) lv (.double v :: st) S) : J X pc lv st S := fun ls H locs a1 a2 a3 a4 => lv_ldc2d h.1 h.2.1 h.2.2.2.1 (h.2.2.2.2.1 _ hq) hdg (k ls H locs a1 a2 a3 a4)
theorem j_iload_n (h : OK X own cc rm) (q : Nat) {k : Fin 4} {i : Nat} {x : Int32} (hi : (k : Nat) = i) (hl : lv[q]? = some (i, .int x)) (hdg : decode cc pc = .ok (.iload_n k, 1)) (kk : J X (pc + 1) lv (.int x :: st) S) : J X pc lv st S := fun ls H locs a1 a2 a3 a4 => lv_iload_n h.1 h.2.1 hdg hi (lv_at a1 q hl) (kk ls H locs a1 a2 a3 a4)
theorem j_iload (h : OK X own cc rm) (q : Nat) {i : Nat} {x : Int32} (hl : lv[q]? = some (i, .int x)) (hdg : decode cc pc = .ok (.iload i, 2)) (kk : J X (pc + 2) lv (.int x :: st) S) : J X pc lv st S := fun ls H locs a1 a2 a3 a4 => lv_iload h.1 h.2.1 hdg (lv_at a1 q hl) (kk ls H locs a1 a2 a3 a4)
theorem j_lload_n (h : OK X own cc rm) (q : Nat) {k : Fin 4} {i : Nat} {x : Int64} (hi : (k : Nat) = i) (hl : lv[q]? = some (i, .long x)) (hdg : decode cc pc = .ok (.lload_n k, 1)) (kk : J X (pc + 1) lv (.long x :: st) S) : J X pc lv st S := fun ls H locs a1 a2 a3 a4 => lv_lload_n h.1 h.2.1 hdg hi (lv_at a1 q hl) (kk ls H locs a1 a2 a3 a4)
theorem j_lload (h : OK X own cc rm) (q : Nat) {i : Nat} {x : Int64} (hl : lv[q]? = some (i, .long x)) (hdg : decode cc pc = .ok (.lload i, 2)) (kk : J X (pc + 2) lv (.long x :: st) S) : J X pc lv st S := fun ls H locs a1 a2 a3 a4 => lv_lload h.1 h.2.1 hdg (lv_at a1 q hl) (kk ls H locs a1 a2 a3 a4)
theorem j_dload_n (h : OK X own cc rm) (q : Nat) {k : Fin 4} {i : Nat} {x : UInt64} (hi : (k : Nat) = i) (hl : lv[q]? = some (i, .double x)) (hdg : decode cc pc = .ok (.dload_n k, 1)) (kk : J X (pc + 1) lv (.double x :: st) S) : J X pc lv st S := fun ls H locs a1 a2 a3 a4 => lv_dload_n h.1 h.2.1 hdg hi (lv_at a1 q hl) (kk ls H locs a1 a2 a3 a4)
theorem j_dload (h : OK X own cc rm) (q : Nat) {i : Nat} {x : UInt64} (hl : lv[q]? = some (i, .double x)) (hdg : decode cc pc = .ok (.dload i, 2)) (kk : J X (pc + 2) lv (.double x :: st) S) : J X pc lv st S := fun ls H locs a1 a2 a3 a4 => lv_dload h.1 h.2.1 hdg (lv_at a1 q hl) (kk ls H locs a1 a2 a3 a4)
theorem j_aload_n (h : OK X own cc rm) (q : Nat) {k : Fin 4} {i : Nat} {x : Nat} (hi : (k : Nat) = i) (hl : lv[q]? = some (i, .ref x)) (hdg : decode cc pc = .ok (.aload_n k, 1)) (kk : J X (pc + 1) lv (.ref x :: st) S) : J X pc lv st S := fun ls H locs a1 a2 a3 a4 => lv_aload_n h.1 h.2.1 hdg hi (lv_at a1 q hl) (kk ls H locs a1 a2 a3 a4)
theorem j_aload (h : OK X own cc rm) (q : Nat) {i : Nat} {x : Nat} (hl : lv[q]? = some (i, .ref x)) (hdg : decode cc pc = .ok (.aload i, 2)) (kk : J X (pc + 2) lv (.ref x :: st) S) : J X pc lv st S := fun ls H locs a1 a2 a3 a4 => lv_aload h.1 h.2.1 hdg (lv_at a1 q hl) (kk ls H locs a1 a2 a3 a4)
theorem j_istore_n (h : OK X own cc rm) {nL0 : Nat} (hnL : X.nL = nL0) {k : Fin 4} {i : Nat} {x : Int32} (lv1 : List (Nat × Value)) (hi : (k : Nat) = i) (hn : i < nL0) (hl : (i, Value.int x) :: lv.filter (fun q => !(q.1 == i) && !(q.1 + 1 == i && q.2.category == 2)) = lv1) (hdg : decode cc pc = .ok (.istore_n k, 1)) (kk : J X (pc + 1) lv1 st S) : J X pc lv (.int x :: st) S := fun ls H locs a1 a2 a3 a4 => lv_istore_n h.1 h.2.1 hdg hi a1 (by rw [hnL]; exact hn) hl (fun ls2 b1 => kk ls2 H locs b1 a2 a3 a4)
theorem j_istore (h : OK X own cc rm) {nL0 : Nat} (hnL : X.nL = nL0) {i : Nat} {x : Int32} (lv1 : List (Nat × Value)) (hn : i < nL0) (hl : (i, Value.int x) :: lv.filter (fun q => !(q.1 == i) && !(q.1 + 1 == i && q.2.category == 2)) = lv1) (hdg : decode cc pc = .ok (.istore i, 2)) (kk : J X (pc + 2) lv1 st S) : J X pc lv (.int x :: st) S := fun ls H locs a1 a2 a3 a4 => lv_istore h.1 h.2.1 hdg a1 (by rw [hnL]; exact hn) hl (fun ls2 b1 => kk ls2 H locs b1 a2 a3 a4)
theorem j_astore_n (h : OK X own cc rm) {nL0 : Nat} (hnL : X.nL = nL0) {k : Fin 4} {i : Nat} {x : Nat} (lv1 : List (Nat × Value)) (hi : (k : Nat) = i) (hn : i < nL0) (hl : (i, Value.ref x) :: lv.filter (fun q => !(q.1 == i) && !(q.1 + 1 == i && q.2.category == 2)) = lv1) (hdg : decode cc pc = .ok (.astore_n k, 1)) (kk : J X (pc + 1) lv1 st S) : J X pc lv (.ref x :: st) S := fun ls H locs a1 a2 a3 a4 => lv_astore_n h.1 h.2.1 hdg hi a1 (by rw [hnL]; exact hn) hl (fun ls2 b1 => kk ls2 H locs b1 a2 a3 a4)
theorem j_astore (h : OK X own cc rm) {nL0 : Nat} (hnL : X.nL = nL0) {i : Nat} {x : Nat} (lv1 : List (Nat × Value)) (hn : i < nL0) (hl : (i, Value.ref x) :: lv.filter (fun q => !(q.1 == i) && !(q.1 + 1 == i && q.2.category == 2)) = lv1) (hdg : decode cc pc = .ok (.astore i, 2)) (kk : J X (pc + 2) lv1 st S) : J X pc lv (.ref x :: st) S := fun ls H locs a1 a2 a3 a4 => lv_astore h.1 h.2.1 hdg a1 (by rw [hnL]; exact hn) hl (fun ls2 b1 => kk ls2 H locs b1 a2 a3 a4)
theorem j_lstore_n (h : OK X own cc rm) {nL0 : Nat} (hnL : X.nL = nL0) {k : Fin 4} {i : Nat} {x : Int64} (lv1 : List (Nat × Value)) (hi : (k : Nat) = i) (hn : i + 1 < nL0) (hl : (i, Value.long x) :: lv.filter (fun q => !(q.1 == i) && (!(q.1 == i + 1) && !(q.1 + 1 == i && q.2.category == 2))) = lv1) (hdg : decode cc pc = .ok (.lstore_n k, 1)) (kk : J X (pc + 1) lv1 st S) : J X pc lv (.long x :: st) S := fun ls H locs a1 a2 a3 a4 => lv_lstore_n h.1 h.2.1 hdg hi a1 (by rw [hnL]; exact hn) hl (fun ls2 b1 => kk ls2 H locs b1 a2 a3 a4)
theorem j_lstore (h : OK X own cc rm) {nL0 : Nat} (hnL : X.nL = nL0) {i : Nat} {x : Int64} (lv1 : List (Nat × Value)) (hn : i + 1 < nL0) (hl : (i, Value.long x) :: lv.filter (fun q => !(q.1 == i) && (!(q.1 == i + 1) && !(q.1 + 1 == i && q.2.category == 2))) = lv1) (hdg : decode cc pc = .ok (.lstore i, 2)) (kk : J X (pc + 2) lv1 st S) : J X pc lv (.long x :: st) S := fun ls H locs a1 a2 a3 a4 => lv_lstore h.1 h.2.1 hdg a1 (by rw [hnL]; exact hn) hl (fun ls2 b1 => kk ls2 H locs b1 a2 a3 a4)
theorem j_dstore_n (h : OK X own cc rm) {nL0 : Nat} (hnL : X.nL = nL0) {k : Fin 4} {i : Nat} {x : UInt64} (lv1 : List (Nat × Value)) (hi : (k : Nat) = i) (hn : i + 1 < nL0) (hl : (i, Value.double x) :: lv.filter (fun q => !(q.1 == i) && (!(q.1 == i + 1) && !(q.1 + 1 == i && q.2.category == 2))) = lv1) (hdg : decode cc pc = .ok (.dstore_n k, 1)) (kk : J X (pc + 1) lv1 st S) : J X pc lv (.double x :: st) S := fun ls H locs a1 a2 a3 a4 => lv_dstore_n h.1 h.2.1 hdg hi a1 (by rw [hnL]; exact hn) hl (fun ls2 b1 => kk ls2 H locs b1 a2 a3 a4)
theorem j_dstore (h : OK X own cc rm) {nL0 : Nat} (hnL : X.nL = nL0) {i : Nat} {x : UInt64} (lv1 : List (Nat × Value)) (hn : i + 1 < nL0) (hl : (i, Value.double x) :: lv.filter (fun q => !(q.1 == i) && (!(q.1 == i + 1) && !(q.1 + 1 == i && q.2.category == 2))) = lv1) (hdg : decode cc pc = .ok (.dstore i, 2)) (kk : J X (pc + 2) lv1 st S) : J X pc lv (.double x :: st) S := fun ls H locs a1 a2 a3 a4 => lv_dstore h.1 h.2.1 hdg a1 (by rw [hnL]; exact hn) hl (fun ls2 b1 => kk ls2 H locs b1 a2 a3 a4)
theorem j_iinc (h : OK X own cc rm) {nL0 : Nat} (hnL : X.nL = nL0) (q : Nat) {i : Nat} {n : Int} {x y : Int32} (lv1 : List (Nat × Value)) (hq : lv[q]? = some (i, .int x)) (hy : Int32.ofInt n = y) (hn : i < nL0) (hl : (i, Value.int (x + y)) :: lv.filter (fun q => !(q.1 == i) && !(q.1 + 1 == i && q.2.category == 2)) = lv1) (hdg : decode cc pc = .ok (.iinc i n, 3)) (kk : J X (pc + 3) lv1 st S) : J X pc lv st S := fun ls H locs a1 a2 a3 a4 => lv_iinc h.1 h.2.1 hdg a1 hq (by rw [hy]) (by rw [hnL]; exact hn) hl (fun ls2 b1 => kk ls2 H locs b1 a2 a3 a4)
theorem j_iincL {e : Int32} {f : Int32 → Option ρ} (hF : letv e f = some res) (k : ∀ y : Int32, y = e → f y = some res → J X pc lv st S) : J X pc lv st S := k e rfl hF
theorem j_iadd (h : OK X own cc rm) {x y : Int32} (hdg : decode cc pc = .ok (.iadd, 1)) (k : J X (pc + 1) lv (.int (x + y) :: st) S) : J X pc lv (.int y :: .int x :: st) S := fun ls H locs a1 a2 a3 a4 => lv_iadd h.1 h.2.1 hdg (k ls H locs a1 a2 a3 a4)
theorem j_isub (h : OK X own cc rm) {x y : Int32} (hdg : decode cc pc = .ok (.isub, 1)) (k : J X (pc + 1) lv (.int (x - y) :: st) S) : J X pc lv (.int y :: .int x :: st) S := fun ls H locs a1 a2 a3 a4 => lv_isub h.1 h.2.1 hdg (k ls H locs a1 a2 a3 a4)
theorem j_imul (h : OK X own cc rm) {x y : Int32} (hdg : decode cc pc = .ok (.imul, 1)) (k : J X (pc + 1) lv (.int (x * y) :: st) S) : J X pc lv (.int y :: .int x :: st) S := fun ls H locs a1 a2 a3 a4 => lv_imul h.1 h.2.1 hdg (k ls H locs a1 a2 a3 a4)
theorem j_iand (h : OK X own cc rm) {x y : Int32} (hdg : decode cc pc = .ok (.iand, 1)) (k : J X (pc + 1) lv (.int (x &&& y) :: st) S) : J X pc lv (.int y :: .int x :: st) S := fun ls H locs a1 a2 a3 a4 => lv_iand h.1 h.2.1 hdg (k ls H locs a1 a2 a3 a4)
theorem j_ior (h : OK X own cc rm) {x y : Int32} (hdg : decode cc pc = .ok (.ior, 1)) (k : J X (pc + 1) lv (.int (x ||| y) :: st) S) : J X pc lv (.int y :: .int x :: st) S := fun ls H locs a1 a2 a3 a4 => lv_ior h.1 h.2.1 hdg (k ls H locs a1 a2 a3 a4)
theorem j_ishl (h : OK X own cc rm) {x y : Int32} (hdg : decode cc pc = .ok (.ishl, 1)) (k : J X (pc + 1) lv (.int (x <<< (y &&& 31)) :: st) S) : J X pc lv (.int y :: .int x :: st) S := fun ls H locs a1 a2 a3 a4 => lv_ishl h.1 h.2.1 hdg (k ls H locs a1 a2 a3 a4)
theorem j_ishr (h : OK X own cc rm) {x y : Int32} (hdg : decode cc pc = .ok (.ishr, 1)) (k : J X (pc + 1) lv (.int (x >>> (y &&& 31)) :: st) S) : J X pc lv (.int y :: .int x :: st) S := fun ls H locs a1 a2 a3 a4 => lv_ishr h.1 h.2.1 hdg (k ls H locs a1 a2 a3 a4)
theorem j_ineg (h : OK X own cc rm) {x : Int32} (hdg : decode cc pc = .ok (.ineg, 1)) (k : J X (pc + 1) lv (.int (-x) :: st) S) : J X pc lv (.int x :: st) S := fun ls H locs a1 a2 a3 a4 => lv_ineg h.1 h.2.1 hdg (k ls H locs a1 a2 a3 a4)
theorem j_idiv (h : OK X own cc rm) {x y : Int32} (hne : ¬ y = 0) (hdg : decode cc pc = .ok (.idiv, 1)) (k : J X (pc + 1) lv (.int (x / y) :: st) S) : J X pc lv (.int y :: .int x :: st) S := fun ls H locs a1 a2 a3 a4 => lv_idiv h.1 h.2.1 hdg hne (k ls H locs a1 a2 a3 a4)
theorem j_irem (h : OK X own cc rm) {x y : Int32} (hne : ¬ y = 0) (hdg : decode cc pc = .ok (.irem, 1)) (k : J X (pc + 1) lv (.int (x - x / y * y) :: st) S) : J X pc lv (.int y :: .int x :: st) S := fun ls H locs a1 a2 a3 a4 => lv_irem h.1 h.2.1 hdg hne (k ls H locs a1 a2 a3 a4)
theorem j_ladd (h : OK X own cc rm) {x y : Int64} (hdg : decode cc pc = .ok (.ladd, 1)) (k : J X (pc + 1) lv (.long (x + y) :: st) S) : J X pc lv (.long y :: .long x :: st) S := fun ls H locs a1 a2 a3 a4 => lv_ladd h.1 h.2.1 hdg (k ls H locs a1 a2 a3 a4)
theorem j_lsub (h : OK X own cc rm) {x y : Int64} (hdg : decode cc pc = .ok (.lsub, 1)) (k : J X (pc + 1) lv (.long (x - y) :: st) S) : J X pc lv (.long y :: .long x :: st) S := fun ls H locs a1 a2 a3 a4 => lv_lsub h.1 h.2.1 hdg (k ls H locs a1 a2 a3 a4)
theorem j_lmul (h : OK X own cc rm) {x y : Int64} (hdg : decode cc pc = .ok (.lmul, 1)) (k : J X (pc + 1) lv (.long (x * y) :: st) S) : J X pc lv (.long y :: .long x :: st) S := fun ls H locs a1 a2 a3 a4 => lv_lmul h.1 h.2.1 hdg (k ls H locs a1 a2 a3 a4)
theorem j_lor (h : OK X own cc rm) {x y : Int64} (hdg : decode cc pc = .ok (.lor, 1)) (k : J X (pc + 1) lv (.long (x ||| y) :: st) S) : J X pc lv (.long y :: .long x :: st) S := fun ls H locs a1 a2 a3 a4 => lv_lor h.1 h.2.1 hdg (k ls H locs a1 a2 a3 a4)
theorem j_lshl (h : OK X own cc rm) {x : Int64} {y : Int32} (hdg : decode cc pc = .ok (.lshl, 1)) (k : J X (pc + 1) lv (.long (x <<< (y.toInt64 &&& 63)) :: st) S) : J X pc lv (.int y :: .long x :: st) S := fun ls H locs a1 a2 a3 a4 => lv_lshl h.1 h.2.1 hdg rfl (k ls H locs a1 a2 a3 a4)
theorem j_i2l (h : OK X own cc rm) {x : Int32} (hdg : decode cc pc = .ok (.i2l, 1)) (k : J X (pc + 1) lv (.long x.toInt64 :: st) S) : J X pc lv (.int x :: st) S := fun ls H locs a1 a2 a3 a4 => lv_i2l h.1 h.2.1 hdg rfl (k ls H locs a1 a2 a3 a4)
theorem j_lcmp (h : OK X own cc rm) {x y : Int64} (hdg : decode cc pc = .ok (.lcmp, 1)) (k : J X (pc + 1) lv (.int (lg_cmp x y) :: st) S) : J X pc lv (.long y :: .long x :: st) S := fun ls H locs a1 a2 a3 a4 => W.lcmp h.1 h.2.1 hdg (k ls H locs a1 a2 a3 a4)
theorem j_i2d (h : OK X own cc rm) {x : Int32} (hdg : decode cc pc = .ok (.i2d, 1)) (k : J X (pc + 1) lv (.double (FP.i2d x) :: st) S) : J X pc lv (.int x :: st) S := fun ls H locs a1 a2 a3 a4 => lv_i2d h.1 h.2.1 hdg (k ls H locs a1 a2 a3 a4)
theorem j_d2l (h : OK X own cc rm) {x : UInt64} (hdg : decode cc pc = .ok (.d2l, 1)) (k : J X (pc + 1) lv (.long (FP.d2l x) :: st) S) : J X pc lv (.double x :: st) S := fun ls H locs a1 a2 a3 a4 => lv_d2l h.1 h.2.1 hdg (k ls H locs a1 a2 a3 a4)
theorem j_dcmp (h : OK X own cc rm) {x y : UInt64} {op : CmpOp} (hdg : decode cc pc = .ok (.dcmp op, 1)) (k : J X (pc + 1) lv (.int (Op.cmpValue (FP.dcmp x y) op) :: st) S) : J X pc lv (.double y :: .double x :: st) S := fun ls H locs a1 a2 a3 a4 => lv_dcmp h.1 h.2.1 hdg (k ls H locs a1 a2 a3 a4)
theorem j_ddiv (h : OK X own cc rm) {x y : UInt64} (hne : vf_n64 (FP.ddiv x y)) (hdg : decode cc pc = .ok (.ddiv, 1)) (k : J X (pc + 1) lv (.double (FP.ddiv x y) :: st) S) : J X pc lv (.double y :: .double x :: st) S := fun ls H locs a1 a2 a3 a4 => lv_ddiv h.1 h.2.1 hdg hne (k ls H locs a1 a2 a3 a4)
theorem j_dmul (h : OK X own cc rm) {x y : UInt64} (hne : vf_n64 (FP.dmul x y)) (hdg : decode cc pc = .ok (.dmul, 1)) (k : J X (pc + 1) lv (.double (FP.dmul x y) :: st) S) : J X pc lv (.double y :: .double x :: st) S := fun ls H locs a1 a2 a3 a4 => lv_dmul h.1 h.2.1 hdg hne (k ls H locs a1 a2 a3 a4)
theorem j_dsub (h : OK X own cc rm) {x y : UInt64} (hne : vf_n64 (FP.dsub x y)) (hdg : decode cc pc = .ok (.dsub, 1)) (k : J X (pc + 1) lv (.double (FP.dsub x y) :: st) S) : J X pc lv (.double y :: .double x :: st) S := fun ls H locs a1 a2 a3 a4 => lv_dsub h.1 h.2.1 hdg hne (k ls H locs a1 a2 a3 a4)
theorem j_dup (h : OK X own cc rm) {v : Value} (hv : v.category = 1) (hdg : decode cc pc = .ok (.dup, 1)) (k : J X (pc + 1) lv (v :: v :: st) S) : J X pc lv (v :: st) S := fun ls H locs a1 a2 a3 a4 => lv_dup h.1 h.2.1 hdg hv (k ls H locs a1 a2 a3 a4)
theorem j_pop (h : OK X own cc rm) {v : Value} (hv : v.category = 1) (hdg : decode cc pc = .ok (.pop, 1)) (k : J X (pc + 1) lv (st) S) : J X pc lv (v :: st) S := fun ls H locs a1 a2 a3 a4 => lv_pop h.1 h.2.1 hdg hv (k ls H locs a1 a2 a3 a4)
theorem j_dup2 (h : OK X own cc rm) {v u : Value} (hv : v.category = 1) (hu : u.category = 1) (hdg : decode cc pc = .ok (.dup2, 1)) (k : J X (pc + 1) lv (v :: u :: v :: u :: st) S) : J X pc lv (v :: u :: st) S := fun ls H locs a1 a2 a3 a4 => lv_dup2_11 h.1 h.2.1 hdg hv hu (k ls H locs a1 a2 a3 a4)
theorem j_if_eq (h : OK X own cc rm) {x : Int32} {off : Int} (tgt : Nat) {fa fb : Option ρ} (ht : (pc : Int) + off = (tgt : Int)) (hdg : decode cc pc = .ok (.ifCond .eq off, 3)) (hF : (if x = 0 then fa else fb) = some res) (ka : fa = some res → J X (tgt) lv st S) (kb : fb = some res → J X (pc + 3) lv st S) : J X pc lv (.int x :: st) S := fun ls H locs a1 a2 a3 a4 => lv_if_eq h.1 h.2.1 hdg ht (fun hc => ka (ite_t hc hF) ls H locs a1 a2 a3 a4) (fun hc => kb (ite_f hc hF) ls H locs a1 a2 a3 a4)
theorem j_icmp_eq (h : OK X own cc rm) {x y : Int32} {off : Int} (tgt : Nat) {fa fb : Option ρ} (ht : (pc : Int) + off = (tgt : Int)) (hdg : decode cc pc = .ok (.if_icmp .eq off, 3)) (hF : (if x = y then fa else fb) = some res) (ka : fa = some res → J X (tgt) lv st S) (kb : fb = some res → J X (pc + 3) lv st S) : J X pc lv (.int y :: .int x :: st) S := fun ls H locs a1 a2 a3 a4 => lv_icmp_eq h.1 h.2.1 hdg ht (fun hc => ka (ite_t hc hF) ls H locs a1 a2 a3 a4) (fun hc => kb (ite_f hc hF) ls H locs a1 a2 a3 a4)
theorem j_if_ne (h : OK X own cc rm) {x : Int32} {off : Int} (tgt : Nat) {fa fb : Option ρ} (ht : (pc : Int) + off = (tgt : Int)) (hdg : decode cc pc = .ok (.ifCond .ne off, 3)) (hF : (if x = 0 then fa else fb) = some res) (ka : fa = some res → J X (pc + 3) lv st S) (kb : fb = some res → J X (tgt) lv st S) : J X pc lv (.int x :: st) S := fun ls H locs a1 a2 a3 a4 => lv_if_ne h.1 h.2.1 hdg ht (fun hc => kb (ite_f hc hF) ls H locs a1 a2 a3 a4) (fun hc => ka (ite_t hc hF) ls H locs a1 a2 a3 a4)
theorem j_icmp_ne (h : OK X own cc rm) {x y : Int32} {off : Int} (tgt : Nat) {fa fb : Option ρ} (ht : (pc : Int) + off = (tgt : Int)) (hdg : decode cc pc = .ok (.if_icmp .ne off, 3)) (hF : (if x = y then fa else fb) = some res) (ka : fa = some res → J X (pc + 3) lv st S) (kb : fb = some res → J X (tgt) lv st S) : J X pc lv (.int y :: .int x :: st) S := fun ls H locs a1 a2 a3 a4 => lv_icmp_ne h.1 h.2.1 hdg ht (fun hc => kb (ite_f hc hF) ls H locs a1 a2 a3 a4) (fun hc => ka (ite_t hc hF) ls H locs a1 a2 a3 a4)
theorem j_if_lt (h : OK X own cc rm) {x : Int32} {off : Int} (tgt : Nat) {fa fb : Option ρ} (ht : (pc : Int) + off = (tgt : Int)) (hdg : decode cc pc = .ok (.ifCond .lt off, 3)) (hF : (if x < 0 then fa else fb) = some res) (ka : fa = some res → J X (tgt) lv st S) (kb : fb = some res → J X (pc + 3) lv st S) : J X pc lv (.int x :: st) S := fun ls H locs a1 a2 a3 a4 => lv_if_lt h.1 h.2.1 hdg ht (fun hc => ka (ite_t hc hF) ls H locs a1 a2 a3 a4) (fun hc => kb (ite_f hc hF) ls H locs a1 a2 a3 a4)
theorem j_icmp_lt (h : OK X own cc rm) {x y : Int32} {off : Int} (tgt : Nat) {fa fb : Option ρ} (ht : (pc : Int) + off = (tgt : Int)) (hdg : decode cc pc = .ok (.if_icmp .lt off, 3)) (hF : (if x < y then fa else fb) = some res) (ka : fa = some res → J X (tgt) lv st S) (kb : fb = some res → J X (pc + 3) lv st S) : J X pc lv (.int y :: .int x :: st) S := fun ls H locs a1 a2 a3 a4 => lv_icmp_lt h.1 h.2.1 hdg ht (fun hc => ka (ite_t hc hF) ls H locs a1 a2 a3 a4) (fun hc => kb (ite_f hc hF) ls H locs a1 a2 a3 a4)
theorem j_if_ge (h : OK X own cc rm) {x : Int32} {off : Int} (tgt : Nat) {fa fb : Option ρ} (ht : (pc : Int) + off = (tgt : Int)) (hdg : decode cc pc = .ok (.ifCond .ge off, 3)) (hF : (if 0 ≤ x then fa else fb) = some res) (ka : fa = some res → J X (tgt) lv st S) (kb : fb = some res → J X (pc + 3) lv st S) : J X pc lv (.int x :: st) S := fun ls H locs a1 a2 a3 a4 => lv_if_ge h.1 h.2.1 hdg ht (fun hc => ka (ite_t hc hF) ls H locs a1 a2 a3 a4) (fun hc => kb (ite_f hc hF) ls H locs a1 a2 a3 a4)
theorem j_icmp_ge (h : OK X own cc rm) {x y : Int32} {off : Int} (tgt : Nat) {fa fb : Option ρ} (ht : (pc : Int) + off = (tgt : Int)) (hdg : decode cc pc = .ok (.if_icmp .ge off, 3)) (hF : (if y ≤ x then fa else fb) = some res) (ka : fa = some res → J X (tgt) lv st S) (kb : fb = some res → J X (pc + 3) lv st S) : J X pc lv (.int y :: .int x :: st) S := fun ls H locs a1 a2 a3 a4 => lv_icmp_ge h.1 h.2.1 hdg ht (fun hc => ka (ite_t hc hF) ls H locs a1 a2 a3 a4) (fun hc => kb (ite_f hc hF) ls H locs a1 a2 a3 a4)
theorem j_if_gt (h : OK X own cc rm) {x : Int32} {off : Int} (tgt : Nat) {fa fb : Option ρ} (ht : (pc : Int) + off = (tgt : Int)) (hdg : decode cc pc = .ok (.ifCond .gt off, 3)) (hF : (if 0 < x then fa else fb) = some res) (ka : fa = some res → J X (tgt) lv st S) (kb : fb = some res → J X (pc + 3) lv st S) : J X pc lv (.int x :: st) S := fun ls H locs a1 a2 a3 a4 => lv_if_gt h.1 h.2.1 hdg ht (fun hc => ka (ite_t hc hF) ls H locs a1 a2 a3 a4) (fun hc => kb (ite_f hc hF) ls H locs a1 a2 a3 a4)
theorem j_icmp_gt (h : OK X own cc rm) {x y : Int32} {off : Int} (tgt : Nat) {fa fb : Option ρ} (ht : (pc : Int) + off = (tgt : Int)) (hdg : decode cc pc = .ok (.if_icmp .gt off, 3)) (hF : (if y < x then fa else fb) = some res) (ka : fa = some res → J X (tgt) lv st S) (kb : fb = some res → J X (pc + 3) lv st S) : J X pc lv (.int y :: .int x :: st) S := fun ls H locs a1 a2 a3 a4 => lv_icmp_gt h.1 h.2.1 hdg ht (fun hc => ka (ite_t hc hF) ls H locs a1 a2 a3 a4) (fun hc => kb (ite_f hc hF) ls H locs a1 a2 a3 a4)
theorem j_if_le (h : OK X own cc rm) {x : Int32} {off : Int} (tgt : Nat) {fa fb : Option ρ} (ht : (pc : Int) + off = (tgt : Int)) (hdg : decode cc pc = .ok (.ifCond .le off, 3)) (hF : (if x ≤ 0 then fa else fb) = some res) (ka : fa = some res → J X (tgt) lv st S) (kb : fb = some res → J X (pc + 3) lv st S) : J X pc lv (.int x :: st) S := fun ls H locs a1 a2 a3 a4 => lv_if_le h.1 h.2.1 hdg ht (fun hc => ka (ite_t hc hF) ls H locs a1 a2 a3 a4) (fun hc => kb (ite_f hc hF) ls H locs a1 a2 a3 a4)
theorem j_icmp_le (h : OK X own cc rm) {x y : Int32} {off : Int} (tgt : Nat) {fa fb : Option ρ} (ht : (pc : Int) + off = (tgt : Int)) (hdg : decode cc pc = .ok (.if_icmp .le off, 3)) (hF : (if x ≤ y then fa else fb) = some res) (ka : fa = some res → J X (tgt) lv st S) (kb : fb = some res → J X (pc + 3) lv st S) : J X pc lv (.int y :: .int x :: st) S := fun ls H locs a1 a2 a3 a4 => lv_icmp_le h.1 h.2.1 hdg ht (fun hc => ka (ite_t hc hF) ls H locs a1 a2 a3 a4) (fun hc => kb (ite_f hc hF) ls H locs a1 a2 a3 a4)
theorem j_goto (h : OK X own cc rm) {off : Int} (tgt : Nat) (ht : (pc : Int) + off = (tgt : Int)) (hdg : decode cc pc = .ok (.goto off, 3)) (k : J X tgt lv st S) : J X pc lv st S := fun ls H locs a1 a2 a3 a4 => lv_goto h.1 h.2.1 hdg ht (k ls H locs a1 a2 a3 a4)
theorem j_tableIn (h : OK X own cc rm) {dflt lo hi : Int} {offs : Array Int} {len : Nat} (off : Int) {x : Int32} (tgt : Nat) (x0 : Int32) (hx : x = x0) (h1 : ¬ x0.toInt < lo) (h2 : ¬ hi < x0.toInt) (ho : offs[(x0.toInt - lo).toNat]? = some off) (ht : (pc : Int) + off = (tgt : Int)) (hdg : decode cc pc = .ok (.tableswitch dflt lo hi offs, len)) (k : J X tgt lv st S) : J X pc lv (.int x :: st) S := by subst hx; exact fun ls H locs a1 a2 a3 a4 => lv_tableIn h.1 h.2.1 hdg h1 h2 ho ht (k ls H locs a1 a2 a3 a4)
theorem j_tableOut (h : OK X own cc rm) {dflt lo hi : Int} {offs : Array Int} {len : Nat} {x : Int32} (tgt : Nat) (h1 : x.toInt < lo ∨ hi < x.toInt) (ht : (pc : Int) + dflt = (tgt : Int)) (hdg : decode cc pc = .ok (.tableswitch dflt lo hi offs, len)) (k : J X tgt lv st S) : J X pc lv (.int x :: st) S := fun ls H locs a1 a2 a3 a4 => lv_tableOut h.1 h.2.1 hdg h1 ht (k ls H locs a1 a2 a3 a4)
theorem j_lookup (h : OK X own cc rm) {dflt : Int} {ps : Array (Int × Int)} {len : Nat} {x : Int32} (off : Int) (tgt : Nat) (hp : (ps.toList.zip (ps.toList.drop 1)).all (fun (a, next) => a.1 < next.1) = true) (ho : Op.lookupswitch.offset ps.toList dflt x.toInt = off) (ht : (pc : Int) + off = (tgt : Int)) (hdg : decode cc pc = .ok (.lookupswitch dflt ps, len)) (k : J X tgt lv st S) : J X pc lv (.int x :: st) S := fun ls H locs a1 a2 a3 a4 => lv_lookup h.1 h.2.1 hdg hp ho ht (k ls H locs a1 a2 a3 a4)
end JR
end
section
/-! the world's family: what a cell holds at S, and what a write makes of S -/
def vO {σ : Type} (B : σ → va_W) (a ci : Nat) (fs : σ → List Value) : Prop := ∀ S, ∃ pos : Nat, (B S)[pos]? = some (a, .inr (ci, fs S))
def vOp {σ : Type} (B : σ → va_W) (a ci : Nat) (fs : σ → List Value) (k : Nat) (put : σ → Int32 → σ) : Prop := ∀ S x, ∃ pos : Nat, (B S)[pos]? = some (a, .inr (ci, fs S)) ∧ (B S).set pos (a, .inr (ci, (fs S).set k (.int x))) = B (put S x)
def vOpl {σ : Type} (B : σ → va_W) (a ci : Nat) (fs : σ → List Value) (k : Nat) (put : σ → Int64 → σ) : Prop := ∀ S x, ∃ pos : Nat, (B S)[pos]? = some (a, .inr (ci, fs S)) ∧ (B S).set pos (a, .inr (ci, (fs S).set k (.long x))) = B (put S x)
def vA {σ : Type} (cI : ClassId) (B : σ → va_W) (a n : Nat) (get : σ → Nat → Int32) : Prop := ∀ S, ∃ pos : Nat, (B S)[pos]? = some (a, .inl (cI, n, .inl (get S)))
def vAp {σ : Type} (cI : ClassId) (B : σ → va_W) (a n : Nat) (get : σ → Nat → Int32) (put : σ → (Nat → Int32) → σ) : Prop := ∀ S g, ∃ pos : Nat, (B S)[pos]? = some (a, .inl (cI, n, .inl (get S))) ∧ (B S).set pos (a, .inl (cI, n, .inl g)) = B (put S g)
def vQ {σ : Type} (cV : ClassId) (B : σ → va_W) (a n : Nat) (get : σ → Nat → Option Nat) : Prop := ∀ S, ∃ pos : Nat, (B S)[pos]? = some (a, .inl (cV, n, .inr (.inr (.inr (.inr (get S))))))
def vQp {σ : Type} (cV : ClassId) (B : σ → va_W) (a n : Nat) (get : σ → Nat → Option Nat) (okv : σ → Nat → Nat → Prop) (put : σ → Nat → Nat → σ) : Prop := ∀ S j v, okv S j v → ∃ pos : Nat, (B S)[pos]? = some (a, .inl (cV, n, .inr (.inr (.inr (.inr (get S)))))) ∧ (B S).set pos (a, .inl (cV, n, .inr (.inr (.inr (.inr (va_up (get S) j (some v))))))) = B (put S j v)
theorem vOp.o {σ : Type} {B : σ → va_W} {a ci : Nat} {fs : σ → List Value} {k : Nat} {put : σ → Int32 → σ} (h : vOp B a ci fs k put) : vO B a ci fs := fun S => let ⟨p, hp, _⟩ := h S 0; ⟨p, hp⟩
theorem vAp.a {σ : Type} {cI : ClassId} {B : σ → va_W} {a n : Nat} {get : σ → Nat → Int32} {put : σ → (Nat → Int32) → σ} (h : vAp cI B a n get put) : vA cI B a n get := fun S => let ⟨p, hp, _⟩ := h S (get S); ⟨p, hp⟩
def jmin (x y : Int32) : Int32 := if y < x then y else x
def jmax (x y : Int32) : Int32 := if x < y then y else x
section JH
variable {σ τ ρ : Type} {X : JX σ} {own : String} {cc : ByteArray} {rm : Room} {pc : Nat} {lv lv' : List (Nat × Value)} {st : List Value} {S S' : σ} {res : ρ}
theorem j_get (h : OK X own cc rm) {a ci N index : Nat} {C : String} {T : u_T} {fs : σ → List Value} {ref name desc : String} {fin : Bool} {v : Value} (hO : vO X.B a ci fs) (hin : ∀ w ∈ u_ws C T N, w ∈ lw_w) (hc : vwCl[ci]? = some (C, T, N)) (k : Nat) (hk : k < N) (hT : T k = (ref, name, desc, fin)) (hq : (Cond.fieldLink own index ref name desc) ∈ lw_w) (hv : (fs S)[k]? = some v) (hdg : decode cc pc = .ok (.getfield index, 3)) (kk : J X (pc + 3) lv (v :: st) S) : J X pc lv (.ref a :: st) S := by
  obtain ⟨hx, hb, hml, hown, hts, hK, hA, hR, hkc, hks⟩ := h
  intro ls H locs a1 a2 a3 a4
  obtain ⟨pos, hpos⟩ := hO S
  exact va_get hx hb hts hin hown hK a2 pos hpos hc k hk (ref := ref) (by rw [hT]; exact hts _ hq) (by rw [hT]; exact fun _ h => h) hv hdg (kk ls H locs a1 a2 a3 a4)
theorem j_put (h : OK X own cc rm) {a ci N index : Nat} {C : String} {T : u_T} {fs : σ → List Value} {ref name : String} {k : Nat} {put : σ → Int32 → σ} {ty0 : Nat → FieldType} {x : Int32} (hO : vOp X.B a ci fs k put) (hin : ∀ w ∈ u_ws C T N, w ∈ lw_w) (hty : ∀ k, k < N → parseFieldDescriptor (T k).2.2.1 = some (ty0 k)) (hnm : ∀ a, a < N → ∀ b, b < N → a ≠ b → (T a).2.1 ≠ (T b).2.1) (hc : vwCl[ci]? = some (C, T, N)) (hk : k < N) (hT : T k = (ref, name, "I", false)) (hq : (Cond.fieldLink own index ref name "I") ∈ lw_w) (hl : k < (fs S).length) (hdg : decode cc pc = .ok (.putfield index, 3)) (kk : J X (pc + 3) lv st (put S x)) : J X pc lv (.int x :: .ref a :: st) S := by
  obtain ⟨hx, hb, hml, hown, hts, hK, hA, hR, hkc, hks⟩ := h
  intro ls H locs a1 a2 a3 a4
  obtain ⟨pos, hpos, hset⟩ := hO S x
  refine va_put hx hb hts hin ty0 hty hnm hown hK a2 a3 a4 pos hpos hc k hk (ref := ref) (by rw [hT]; exact hts _ hq) (by rw [hT]; exact fun _ h => h) (by rw [hT]) (ty := .int) (by rw [hT]; show parseFieldDescriptor "I" = some .int; decide +kernel) rfl rfl hl hdg (fun H1 locs1 b2 b3 b4 => ?_)
  rw [hset] at b2 b3
  exact kk ls H1 locs1 a1 b2 b3 b4
theorem j_putl (h : OK X own cc rm) {a ci N index : Nat} {C : String} {T : u_T} {fs : σ → List Value} {ref name : String} {k : Nat} {put : σ → Int64 → σ} {ty0 : Nat → FieldType} {x : Int64} (hO : vOpl X.B a ci fs k put) (hin : ∀ w ∈ u_ws C T N, w ∈ lw_w) (hty : ∀ k, k < N → parseFieldDescriptor (T k).2.2.1 = some (ty0 k)) (hnm : ∀ a, a < N → ∀ b, b < N → a ≠ b → (T a).2.1 ≠ (T b).2.1) (hc : vwCl[ci]? = some (C, T, N)) (hk : k < N) (hT : T k = (ref, name, "J", false)) (hq : (Cond.fieldLink own index ref name "J") ∈ lw_w) (hl : k < (fs S).length) (hdg : decode cc pc = .ok (.putfield index, 3)) (kk : J X (pc + 3) lv st (put S x)) : J X pc lv (.long x :: .ref a :: st) S := by
  obtain ⟨hx, hb, hml, hown, hts, hK, hA, hR, hkc, hks⟩ := h
  intro ls H locs a1 a2 a3 a4
  obtain ⟨pos, hpos, hset⟩ := hO S x
  refine va_put hx hb hts hin ty0 hty hnm hown hK a2 a3 a4 pos hpos hc k hk (ref := ref) (by rw [hT]; exact hts _ hq) (by rw [hT]; exact fun _ h => h) (by rw [hT]) (ty := .long) (by rw [hT]; show parseFieldDescriptor "J" = some .long; decide +kernel) rfl rfl hl hdg (fun H1 locs1 b2 b3 b4 => ?_)
  rw [hset] at b2 b3
  exact kk ls H1 locs1 a1 b2 b3 b4
theorem j_iald (h : OK X own cc rm) {a n : Nat} {get : σ → Nat → Int32} {i : Int32} (hA1 : vA X.cI X.B a n get) (hin : inb i n = true) (hdg : decode cc pc = .ok (.iaload, 1)) (kk : J X (pc + 1) lv (.int (get S i.toNatClampNeg) :: st) S) : J X pc lv (.int i :: .ref a :: st) S := by
  obtain ⟨hx, hb, hml, hown, hts, hK, hA, hR, hkc, hks⟩ := h
  intro ls H locs a1 a2 a3 a4
  obtain ⟨pos, hpos⟩ := hA1 S
  exact va_iald hx hb hK a2 pos 0 hpos rfl (inb_vp hin) hdg (kk ls H locs a1 a2 a3 a4)
theorem j_iast (h : OK X own cc rm) {a n : Nat} {get : σ → Nat → Int32} {put : σ → (Nat → Int32) → σ} {i x : Int32} (hA1 : vAp X.cI X.B a n get put) (hin : inb i n = true) (hdg : decode cc pc = .ok (.iastore, 1)) (kk : J X (pc + 1) lv st (put S (upd (get S) i.toNatClampNeg x))) : J X pc lv (.int x :: .int i :: .ref a :: st) S := by
  obtain ⟨hx, hb, hml, hown, hts, hK, hA, hR, hkc, hks⟩ := h
  intro ls H locs a1 a2 a3 a4
  obtain ⟨pos, hpos, hset⟩ := hA1 S (upd (get S) i.toNatClampNeg x)
  refine va_iast hx hb hK a2 a3 a4 pos 0 hpos rfl (inb_vp hin) hdg (fun H1 locs1 b2 b3 b4 => ?_)
  rw [hset] at b2 b3
  exact kk ls H1 locs1 a1 b2 b3 b4
theorem j_zald (h : OK X own cc rm) {a n : Nat} {get : σ → Nat → Int32} {i : Int32} (hA1 : vA X.cZ X.B a n get) (hin : inb i n = true) (hdg : decode cc pc = .ok (.baload, 1)) (kk : J X (pc + 1) lv (.int (get S i.toNatClampNeg) :: st) S) : J X pc lv (.int i :: .ref a :: st) S := by
  obtain ⟨hx, hb, hml, hown, hts, hK, hA, hR, hkc, hks⟩ := h
  intro ls H locs a1 a2 a3 a4
  obtain ⟨pos, hpos⟩ := hA1 S
  exact va_zald hx hb hK a2 pos 1 hpos rfl (inb_vp hin) hdg (kk ls H locs a1 a2 a3 a4)
theorem j_zast (h : OK X own cc rm) {a n : Nat} {get : σ → Nat → Int32} {put : σ → (Nat → Int32) → σ} {i x : Int32} (hA1 : vAp X.cZ X.B a n get put) (hin : inb i n = true) (hn : vp_nar .boolean x = x) (hdg : decode cc pc = .ok (.bastore, 1)) (kk : J X (pc + 1) lv st (put S (upd (get S) i.toNatClampNeg x))) : J X pc lv (.int x :: .int i :: .ref a :: st) S := by
  obtain ⟨hx, hb, hml, hown, hts, hK, hA, hR, hkc, hks⟩ := h
  intro ls H locs a1 a2 a3 a4
  obtain ⟨pos, hpos, hset⟩ := hA1 S (upd (get S) i.toNatClampNeg x)
  refine va_zast hx hb hK a2 a3 a4 pos 1 hpos rfl (inb_vp hin) hdg (fun H1 locs1 b2 b3 b4 => ?_)
  rw [hn, hset] at b2 b3
  exact kk ls H1 locs1 a1 b2 b3 b4
theorem j_aald (h : OK X own cc rm) {a n r : Nat} {get : σ → Nat → Option Nat} {i : Int32} (hA1 : vQ X.cV X.B a n get) (hin : inb i n = true) (hr : get S i.toNatClampNeg = some r) (hdg : decode cc pc = .ok (.aaload, 1)) (kk : J X (pc + 1) lv (.ref r :: st) S) : J X pc lv (.int i :: .ref a :: st) S := by
  obtain ⟨hx, hb, hml, hown, hts, hK, hA, hR, hkc, hks⟩ := h
  intro ls H locs a1 a2 a3 a4
  obtain ⟨pos, hpos⟩ := hA1 S
  refine va_aldq hx hb hK a2 pos 2 hpos rfl (inb_vp hin) hdg ?_
  rw [hr]
  exact kk ls H locs a1 a2 a3 a4
theorem j_aast (h : OK X own cc rm) {a n v : Nat} {get : σ → Nat → Option Nat} {okv : σ → Nat → Nat → Prop} {put : σ → Nat → Nat → σ} {i : Int32} {fs : σ → List Value} (hA1 : vQp X.cV X.B a n get okv put) (hin : inb i n = true) (hok : okv S i.toNatClampNeg v) (hO : vO X.B v 5 fs) (hdg : decode cc pc = .ok (.aastore, 1)) (kk : J X (pc + 1) lv st (put S i.toNatClampNeg v)) : J X pc lv (.ref v :: .int i :: .ref a :: st) S := by
  obtain ⟨hx, hb, hml, hown, hts, hK, hA, hR, hkc, hks⟩ := h
  intro ls H locs a1 a2 a3 a4
  obtain ⟨pos, hpos, hset⟩ := hA1 S i.toNatClampNeg v hok
  obtain ⟨pv, hpv⟩ := hO S
  refine va_astq (r := (RX5, TX5, 11)) hx hb hK a2 a3 a4 pos 2 pv 5 hpos rfl hpv rfl (inb_vp hin) hdg (fun H1 locs1 b2 b3 b4 => ?_)
  rw [hset] at b2 b3
  exact kk ls H1 locs1 a1 b2 b3 b4
theorem j_copy (h : OK X own cc rm) {a0 a n0 n1 index : Nat} {f g : σ → Nat → Int32} {put : σ → (Nat → Int32) → σ} {sp dp n : Int32} (sp' dp' n' : Nat) (hA0 : vA X.cI X.B a0 n0 f) (hA1 : vAp X.cI X.B a n1 g put) (e1 : sp.toNatClampNeg = sp') (e2 : dp.toNatClampNeg = dp') (e3 : n.toNatClampNeg = n') (h1 : ¬ sp < 0) (h2 : ¬ dp < 0) (h3 : ¬ n < 0) (h4 : sp' + n' ≤ n0) (h5 : dp' + n' ≤ n1) (hq : (Cond.methodLink own index arraycopyName) ∈ lw_w)
    (hfr : 1 ≤ rm.frames ∧ (st.map fun v => v.category).sum + (nativeFrameWords "java/lang/System" "arraycopy" 5 + 11) ≤ rm.locals) (hdg : decode cc pc = .ok (.invokestatic index, 3)) (kk : J X (pc + 3) lv st (put S (va_cpy (f S) (g S) sp' dp' n'))) : J X pc lv (.int n :: .int dp :: .ref a :: .int sp :: .ref a0 :: st) S := by
  obtain ⟨hx, hb, hml, hown, hts, hK, hA, hR, hkc, hks⟩ := h
  intro ls H locs a1 a2 a3 a4
  subst e1; subst e2; subst e3
  obtain ⟨p0, hp0⟩ := hA0 S
  obtain ⟨pos, hpos, hset⟩ := hA1 S (va_cpy (f S) (g S) sp.toNatClampNeg dp.toNatClampNeg n.toNatClampNeg)
  refine va_copyi hx hb (by rw [hml]; exact a1.1.symm) hown (hts _ hq) (hts _ q2_19) (hts _ q2_18) (hts _ q1_9) hK a2 a3 a4 p0 pos 0 0 hp0 hpos (ty := .int) rfl rfl rfl h1 h2 h3 h4 h5 (fun _ _ => rfl) (by rw [hR]; exact hfr.1) (by rw [hR]; exact hfr.2) hdg (fun H1 locs1 b2 b3 b4 => ?_)
  rw [hset] at b2 b3
  exact kk ls H1 locs1 a1 b2 b3 b4
theorem j_min (h : OK X own cc rm) {index : Nat} {x y : Int32} (hq : (Cond.methodLink own index Lib.Math.min.name) ∈ lw_w) (hfr : 1 ≤ rm.frames ∧ (st.map fun v => v.category).sum + 13 ≤ rm.locals) (hdg : decode cc pc = .ok (.invokestatic index, 3)) (kk : J X (pc + 3) lv (.int (jmin x y) :: st) S) : J X pc lv (.int y :: .int x :: st) S := by
  obtain ⟨hx, hb, hml, hown, hts, hK, hA, hR, hkc, hks⟩ := h
  intro ls H locs a1 a2 a3 a4
  exact va_mmin hx hb (by rw [hml]; exact a1.1.symm) hown (hts _ hq) (hts _ q2_87) (hts _ q1_10) (hts _ q2_88) (by rw [hR]; exact hfr.1) (by rw [hR]; exact hfr.2) (by rw [hR]; exact hkc) (by rw [hR]; exact hks) hdg (kk ls H locs a1 a2 a3 a4)
theorem j_max (h : OK X own cc rm) {index : Nat} {x y : Int32} (hq : (Cond.methodLink own index Lib.Math.max.name) ∈ lw_w) (hfr : 1 ≤ rm.frames ∧ (st.map fun v => v.category).sum + 13 ≤ rm.locals) (hdg : decode cc pc = .ok (.invokestatic index, 3)) (kk : J X (pc + 3) lv (.int (jmax x y) :: st) S) : J X pc lv (.int y :: .int x :: st) S := by
  obtain ⟨hx, hb, hml, hown, hts, hK, hA, hR, hkc, hks⟩ := h
  intro ls H locs a1 a2 a3 a4
  exact va_mmax hx hb (by rw [hml]; exact a1.1.symm) hown (hts _ hq) (hts _ q2_186) (hts _ q1_10) (hts _ q2_187) (by rw [hR]; exact hfr.1) (by rw [hR]; exact hfr.2) (by rw [hR]; exact hkc) (by rw [hR]; exact hks) hdg (kk ls H locs a1 a2 a3 a4)
end JH
/-! contracts over a world's family: from the world of S the method returns r, and the world is that of S' -/
def PreB {τ : Type} (D : va_G) (tys : List (ClassId × FieldType)) (B : τ → va_W) (T : τ) (sz : Nat) : State → Prop := fun U => U.heap.size = sz ∧ va_P D vwCl (B T) U.heap ∧ va_K D vwCl tys U ∧ va_D (fun _ => True) (B T)
def PostB {τ : Type} (D : va_G) (tys : List (ClassId × FieldType)) (B : τ → va_W) (T T' : τ) (sz : Nat) : State → Prop := fun t => va_P D vwCl (B T') t.heap ∧ va_K D vwCl tys t ∧ va_D (va_A (B T) sz) (B T')
def CTi {τ : Type} (l : Launch) (D : va_G) (tys : List (ClassId × FieldType)) (y : MethodName) (bytes : ByteArray) (maxL : Nat) (ret : Option FieldType) (rm : Room) (B : τ → va_W) (av : List Value) (T : τ) (r : Int32) (T' : τ) : Prop := ∀ sz, Met l y (.code y bytes maxL ret :: lw_w) rm (va_Pc av (PreB D tys B T sz)) (va_Qi (fun (r1 : Int32) (_ : Unit) => r1 = r) (fun _ => PostB D tys B T T' sz) (va_A (B T) sz)) 0 0 (va_A (B T) sz)
def CTl {τ : Type} (l : Launch) (D : va_G) (tys : List (ClassId × FieldType)) (y : MethodName) (bytes : ByteArray) (maxL : Nat) (ret : Option FieldType) (rm : Room) (B : τ → va_W) (av : List Value) (T : τ) (r : Int64) (T' : τ) : Prop := ∀ sz, Met l y (.code y bytes maxL ret :: lw_w) rm (va_Pc av (PreB D tys B T sz)) (va_Ql (fun (r1 : Int64) (_ : Unit) => r1 = r) (fun _ => PostB D tys B T T' sz) (va_A (B T) sz)) 0 0 (va_A (B T) sz)
def CTd {τ : Type} (l : Launch) (D : va_G) (tys : List (ClassId × FieldType)) (y : MethodName) (bytes : ByteArray) (maxL : Nat) (ret : Option FieldType) (rm : Room) (B : τ → va_W) (av : List Value) (T : τ) (r : UInt64) (T' : τ) : Prop := ∀ sz, Met l y (.code y bytes maxL ret :: lw_w) rm (va_Pc av (PreB D tys B T sz)) (va_Qd (fun (r1 : UInt64) (_ : Unit) => r1 = r) (fun _ => PostB D tys B T T' sz) (va_A (B T) sz)) 0 0 (va_A (B T) sz)
def CTv {τ : Type} (l : Launch) (D : va_G) (tys : List (ClassId × FieldType)) (y : MethodName) (bytes : ByteArray) (maxL : Nat) (ret : Option FieldType) (rm : Room) (B : τ → va_W) (av : List Value) (T : τ) (T' : τ) : Prop := ∀ sz, Met l y (.code y bytes maxL ret :: lw_w) rm (va_Pc av (PreB D tys B T sz)) (va_Qv (fun (_ : Unit) => True) (fun _ => PostB D tys B T T' sz) (va_A (B T) sz)) 0 0 (va_A (B T) sz)
theorem PreB.blind {τ : Type} {D : va_G} {tys : List (ClassId × FieldType)} {B : τ → va_W} {T : τ} {sz : Nat} {av : List Value} : FrameBlind (va_Pc av (PreB D tys B T sz)) := fun a U g mk q => by
  obtain ⟨q0, q1, qP, qK, qD⟩ := q
  exact ⟨q0, q1, qP, va_K.moved (u := U) (U := U.calling g mk a) (Vm.Alike.refl U.vm) qK, qD⟩
def CWv (C : String) (y : MethodName) (bytes : ByteArray) (maxL : Nat) (ret : Option FieldType) (n : Nat) : Prop := Cond.instanceMethod y ∈ lw_w ∧ Cond.selects C y y ∈ lw_w ∧ Cond.initialized C ∈ lw_w ∧ Cond.code y bytes maxL ret ∈ lw_w ∧ (y.cls = C ∧ y.cls ≠ "java/lang/invoke/MethodHandle" ∧ y.cls ≠ "java/lang/invoke/VarHandle" ∧ (parseMethodDescriptor y.desc).map (fun d => d.parameters.length) = some n)
def CWs (y : MethodName) (bytes : ByteArray) (maxL : Nat) (ret : Option FieldType) (n : Nat) : Prop := Cond.static y ∈ lw_w ∧ Cond.initialized y.cls ∈ lw_w ∧ Cond.code y bytes maxL ret ∈ lw_w ∧ (y.cls ≠ "java/lang/invoke/MethodHandle" ∧ y.cls ≠ "java/lang/invoke/VarHandle" ∧ (parseMethodDescriptor y.desc).map (fun d => d.parameters.length) = some n)
theorem gi_v {own C : String} {index : Nat} {y : MethodName} {bytes : ByteArray} {maxL n : Nat} {ret : Option FieldType} (q1 : Cond.methodLink own index y ∈ lw_w) (cw : CWv C y bytes maxL ret n) : GoodIn lw_w (wsV own index C y (.code y bytes maxL ret :: lw_w)) := by
  intro w hw
  have hm : w ∈ lw_w := by
    unfold wsV at hw
    simp only [List.cons_append, List.nil_append, List.mem_cons] at hw
    rcases hw with rfl | rfl | rfl | rfl | rfl | hw
    · exact q1
    · exact cw.1
    · exact cw.2.1
    · exact cw.2.2.1
    · exact cw.2.2.2.1
    · exact hw
  exact lw_gi w hm
theorem gi_s {own : String} {index : Nat} {y : MethodName} {bytes : ByteArray} {maxL n : Nat} {ret : Option FieldType} (q1 : Cond.methodLink own index y ∈ lw_w) (cw : CWs y bytes maxL ret n) : GoodIn lw_w (va_wsS own index y (.code y bytes maxL ret :: lw_w)) := by
  intro w hw
  have hm : w ∈ lw_w := by
    unfold va_wsS at hw
    simp only [List.cons_append, List.nil_append, List.mem_cons] at hw
    rcases hw with rfl | rfl | rfl | rfl | hw
    · exact q1
    · exact cw.1
    · exact cw.2.1
    · exact cw.2.2.1
    · exact hw
  exact lw_gi w hm
section JC
variable {σ τ ρ : Type} {X : JX σ} {own C : String} {cc bytes : ByteArray} {rm rmc : Room} {pc index maxL n ci a : Nat} {lv lv' : List (Nat × Value)} {st As : List Value} {S S' : σ} {res : ρ} {y : MethodName} {ret : Option FieldType} {B' : τ → va_W} {T T' : τ} {fs : σ → List Value} {q : vw_C}
def RoomOk (rm rmc : Room) (maxL : Nat) : Prop := rmc.cells = 0 ∧ rmc.slots = 0 ∧ rmc.frames + 1 ≤ rm.frames ∧ 8 + (maxL + 11) + rmc.locals ≤ rm.locals
theorem freeB (hA : ∀ q, X.s.heap.size ≤ q → X.A q) {H : Heap} {locs : List Loc} (hB : B' T = X.B S) (a3 : va_D X.A (X.B S)) (a4 : va_S X.A X.s.heap H locs) : ∀ q, va_A (B' T) H.size q → X.A q := by
  intro q hq
  rcases hq with ⟨k, e, hk⟩ | hq
  · rw [hB] at hk; exact a3.2 k (q, e) hk
  · exact hA q (Nat.le_trans a4.1 hq)
theorem preB {D : va_G} {tys : List (ClassId × FieldType)} {s : State} {H : Heap} {B : σ → va_W} {A : Nat → Prop} (hB : B' T = B S) (hK : va_K D vwCl tys s) (a2 : va_P D vwCl (B S) H) (a3 : va_D A (B S)) (U : State) (hU : U.heap = H) (hW : s.WarmedH U.vm) : PreB D tys B' T H.size U := ⟨by rw [hU], by rw [hU, hB]; exact a2, va_K.moved hW.alike hK, by rw [hB]; exact a3.weaken (fun _ _ _ _ => trivial)⟩
theorem j_callVi (h : OK X own cc rm) {r : Int32} (hM : CTi X.l X.D (jtys X.cI X.cZ X.cV) y bytes maxL ret rmc B' (.ref a :: As) T r T') (hB : B' T = X.B S) (hB' : B' T' = X.B S') (q1 : Cond.methodLink own index y ∈ lw_w) (cw : CWv C y bytes maxL ret n) (hO : vO X.B a ci fs) (hc : vwCl[ci]? = some q) (hC : q.1 = C) (hn : As.length = n) (hroom : RoomOk rm rmc maxL) (st0 : List Value) (hst0 : st0 = As.reverse ++ .ref a :: st) (hst : (st.map fun v => v.category).sum ≤ 8) (hdg : decode cc pc = .ok (.invokevirtual index, 3)) (kk : J X (pc + 3) lv (.int r :: st) S') : J X pc lv st0 S := by
  obtain ⟨hx, hb, hml, hown, hts, hK, hA, hR, hkc, hks⟩ := h
  subst hst0
  intro ls H locs a1 a2 a3 a4
  have hFc := freeB (T := T) hA hB a3 a4
  refine va_calli (va_runV (As := As) (rest := st) ⟨hx, hb, hml, hown, hts⟩ (hM H.size) (cwV n hts (gi_v q1 cw) rfl hroom.1 hroom.2.1 cw.2.2.2.2 (by rw [hR]; exact hroom.2.2)) ⟨PreB.blind, by obtain ⟨pos, hpos⟩ := hO S; rw [← hC]; exact va_recv hK a2 hc hpos, fun U hU hW => ⟨rfl, preB hB hK a2 a3 U hU hW⟩⟩ rfl hn a1.1 rfl (lv_room hst) hdg ⟨by rw [hR]; exact hkc, by rw [hR]; exact hks⟩) a4 (fun q _ h => hFc q h) hFc (fun r1 u t H1 locs1 ht hvm hw hB1 hz1 hk1 hS1 => ?_)
  obtain ⟨hP1, hK1, hD1⟩ := hB1
  subst hw
  rw [ht] at hP1
  exact kk ls H1 locs1 a1 (by rw [← hB']; exact hP1) (by rw [← hB']; exact hD1.weaken (fun k q _ hq => hFc q.1 hq)) hS1
theorem j_callSi (h : OK X own cc rm) {r : Int32} (hM : CTi X.l X.D (jtys X.cI X.cZ X.cV) y bytes maxL ret rmc B' (As) T r T') (hB : B' T = X.B S) (hB' : B' T' = X.B S') (q1 : Cond.methodLink own index y ∈ lw_w) (cw : CWs y bytes maxL ret n) (hn : As.length = n) (hroom : RoomOk rm rmc maxL) (st0 : List Value) (hst0 : st0 = As.reverse ++ st) (hst : (st.map fun v => v.category).sum ≤ 8) (hdg : decode cc pc = .ok (.invokestatic index, 3)) (kk : J X (pc + 3) lv (.int r :: st) S') : J X pc lv st0 S := by
  obtain ⟨hx, hb, hml, hown, hts, hK, hA, hR, hkc, hks⟩ := h
  subst hst0
  intro ls H locs a1 a2 a3 a4
  have hFc := freeB (T := T) hA hB a3 a4
  refine va_calli (va_runS (As := As) (rest := st) ⟨hx, hb, hml, hown, hts⟩ (hM H.size) (va_cwS n hts (gi_s q1 cw) rfl hroom.1 hroom.2.1 cw.2.2.2 (by rw [hR]; exact hroom.2.2)) ⟨PreB.blind, fun U hU hW => ⟨rfl, preB hB hK a2 a3 U hU hW⟩⟩ rfl hn a1.1 rfl (lv_room hst) hdg ⟨by rw [hR]; exact hkc, by rw [hR]; exact hks⟩) a4 (fun q _ h => hFc q h) hFc (fun r1 u t H1 locs1 ht hvm hw hB1 hz1 hk1 hS1 => ?_)
  obtain ⟨hP1, hK1, hD1⟩ := hB1
  subst hw
  rw [ht] at hP1
  exact kk ls H1 locs1 a1 (by rw [← hB']; exact hP1) (by rw [← hB']; exact hD1.weaken (fun k q _ hq => hFc q.1 hq)) hS1
theorem j_callVl (h : OK X own cc rm) {r : Int64} (hM : CTl X.l X.D (jtys X.cI X.cZ X.cV) y bytes maxL ret rmc B' (.ref a :: As) T r T') (hB : B' T = X.B S) (hB' : B' T' = X.B S') (q1 : Cond.methodLink own index y ∈ lw_w) (cw : CWv C y bytes maxL ret n) (hO : vO X.B a ci fs) (hc : vwCl[ci]? = some q) (hC : q.1 = C) (hn : As.length = n) (hroom : RoomOk rm rmc maxL) (st0 : List Value) (hst0 : st0 = As.reverse ++ .ref a :: st) (hst : (st.map fun v => v.category).sum ≤ 8) (hdg : decode cc pc = .ok (.invokevirtual index, 3)) (kk : J X (pc + 3) lv (.long r :: st) S') : J X pc lv st0 S := by
  obtain ⟨hx, hb, hml, hown, hts, hK, hA, hR, hkc, hks⟩ := h
  subst hst0
  intro ls H locs a1 a2 a3 a4
  have hFc := freeB (T := T) hA hB a3 a4
  refine va_calll (va_runV (As := As) (rest := st) ⟨hx, hb, hml, hown, hts⟩ (hM H.size) (cwV n hts (gi_v q1 cw) rfl hroom.1 hroom.2.1 cw.2.2.2.2 (by rw [hR]; exact hroom.2.2)) ⟨PreB.blind, by obtain ⟨pos, hpos⟩ := hO S; rw [← hC]; exact va_recv hK a2 hc hpos, fun U hU hW => ⟨rfl, preB hB hK a2 a3 U hU hW⟩⟩ rfl hn a1.1 rfl (lv_room hst) hdg ⟨by rw [hR]; exact hkc, by rw [hR]; exact hks⟩) a4 (fun q _ h => hFc q h) hFc (fun r1 u t H1 locs1 ht hvm hw hB1 hz1 hk1 hS1 => ?_)
  obtain ⟨hP1, hK1, hD1⟩ := hB1
  subst hw
  rw [ht] at hP1
  exact kk ls H1 locs1 a1 (by rw [← hB']; exact hP1) (by rw [← hB']; exact hD1.weaken (fun k q _ hq => hFc q.1 hq)) hS1
theorem j_callSl (h : OK X own cc rm) {r : Int64} (hM : CTl X.l X.D (jtys X.cI X.cZ X.cV) y bytes maxL ret rmc B' (As) T r T') (hB : B' T = X.B S) (hB' : B' T' = X.B S') (q1 : Cond.methodLink own index y ∈ lw_w) (cw : CWs y bytes maxL ret n) (hn : As.length = n) (hroom : RoomOk rm rmc maxL) (st0 : List Value) (hst0 : st0 = As.reverse ++ st) (hst : (st.map fun v => v.category).sum ≤ 8) (hdg : decode cc pc = .ok (.invokestatic index, 3)) (kk : J X (pc + 3) lv (.long r :: st) S') : J X pc lv st0 S := by
  obtain ⟨hx, hb, hml, hown, hts, hK, hA, hR, hkc, hks⟩ := h
  subst hst0
  intro ls H locs a1 a2 a3 a4
  have hFc := freeB (T := T) hA hB a3 a4
  refine va_calll (va_runS (As := As) (rest := st) ⟨hx, hb, hml, hown, hts⟩ (hM H.size) (va_cwS n hts (gi_s q1 cw) rfl hroom.1 hroom.2.1 cw.2.2.2 (by rw [hR]; exact hroom.2.2)) ⟨PreB.blind, fun U hU hW => ⟨rfl, preB hB hK a2 a3 U hU hW⟩⟩ rfl hn a1.1 rfl (lv_room hst) hdg ⟨by rw [hR]; exact hkc, by rw [hR]; exact hks⟩) a4 (fun q _ h => hFc q h) hFc (fun r1 u t H1 locs1 ht hvm hw hB1 hz1 hk1 hS1 => ?_)
  obtain ⟨hP1, hK1, hD1⟩ := hB1
  subst hw
  rw [ht] at hP1
  exact kk ls H1 locs1 a1 (by rw [← hB']; exact hP1) (by rw [← hB']; exact hD1.weaken (fun k q _ hq => hFc q.1 hq)) hS1
theorem j_callVd (h : OK X own cc rm) {r : UInt64} (hM : CTd X.l X.D (jtys X.cI X.cZ X.cV) y bytes maxL ret rmc B' (.ref a :: As) T r T') (hB : B' T = X.B S) (hB' : B' T' = X.B S') (q1 : Cond.methodLink own index y ∈ lw_w) (cw : CWv C y bytes maxL ret n) (hO : vO X.B a ci fs) (hc : vwCl[ci]? = some q) (hC : q.1 = C) (hn : As.length = n) (hroom : RoomOk rm rmc maxL) (st0 : List Value) (hst0 : st0 = As.reverse ++ .ref a :: st) (hst : (st.map fun v => v.category).sum ≤ 8) (hdg : decode cc pc = .ok (.invokevirtual index, 3)) (kk : J X (pc + 3) lv (.double r :: st) S') : J X pc lv st0 S := by
  obtain ⟨hx, hb, hml, hown, hts, hK, hA, hR, hkc, hks⟩ := h
  subst hst0
  intro ls H locs a1 a2 a3 a4
  have hFc := freeB (T := T) hA hB a3 a4
  refine va_calld (va_runV (As := As) (rest := st) ⟨hx, hb, hml, hown, hts⟩ (hM H.size) (cwV n hts (gi_v q1 cw) rfl hroom.1 hroom.2.1 cw.2.2.2.2 (by rw [hR]; exact hroom.2.2)) ⟨PreB.blind, by obtain ⟨pos, hpos⟩ := hO S; rw [← hC]; exact va_recv hK a2 hc hpos, fun U hU hW => ⟨rfl, preB hB hK a2 a3 U hU hW⟩⟩ rfl hn a1.1 rfl (lv_room hst) hdg ⟨by rw [hR]; exact hkc, by rw [hR]; exact hks⟩) a4 (fun q _ h => hFc q h) hFc (fun r1 u t H1 locs1 ht hvm hw hB1 hz1 hk1 hS1 => ?_)
  obtain ⟨hP1, hK1, hD1⟩ := hB1
  subst hw
  rw [ht] at hP1
  exact kk ls H1 locs1 a1 (by rw [← hB']; exact hP1) (by rw [← hB']; exact hD1.weaken (fun k q _ hq => hFc q.1 hq)) hS1
theorem j_callSd (h : OK X own cc rm) {r : UInt64} (hM : CTd X.l X.D (jtys X.cI X.cZ X.cV) y bytes maxL ret rmc B' (As) T r T') (hB : B' T = X.B S) (hB' : B' T' = X.B S') (q1 : Cond.methodLink own index y ∈ lw_w) (cw : CWs y bytes maxL ret n) (hn : As.length = n) (hroom : RoomOk rm rmc maxL) (st0 : List Value) (hst0 : st0 = As.reverse ++ st) (hst : (st.map fun v => v.category).sum ≤ 8) (hdg : decode cc pc = .ok (.invokestatic index, 3)) (kk : J X (pc + 3) lv (.double r :: st) S') : J X pc lv st0 S := by
  obtain ⟨hx, hb, hml, hown, hts, hK, hA, hR, hkc, hks⟩ := h
  subst hst0
  intro ls H locs a1 a2 a3 a4
  have hFc := freeB (T := T) hA hB a3 a4
  refine va_calld (va_runS (As := As) (rest := st) ⟨hx, hb, hml, hown, hts⟩ (hM H.size) (va_cwS n hts (gi_s q1 cw) rfl hroom.1 hroom.2.1 cw.2.2.2 (by rw [hR]; exact hroom.2.2)) ⟨PreB.blind, fun U hU hW => ⟨rfl, preB hB hK a2 a3 U hU hW⟩⟩ rfl hn a1.1 rfl (lv_room hst) hdg ⟨by rw [hR]; exact hkc, by rw [hR]; exact hks⟩) a4 (fun q _ h => hFc q h) hFc (fun r1 u t H1 locs1 ht hvm hw hB1 hz1 hk1 hS1 => ?_)
  obtain ⟨hP1, hK1, hD1⟩ := hB1
  subst hw
  rw [ht] at hP1
  exact kk ls H1 locs1 a1 (by rw [← hB']; exact hP1) (by rw [← hB']; exact hD1.weaken (fun k q _ hq => hFc q.1 hq)) hS1
theorem j_callVv (h : OK X own cc rm) (hM : CTv X.l X.D (jtys X.cI X.cZ X.cV) y bytes maxL ret rmc B' (.ref a :: As) T T') (hB : B' T = X.B S) (hB' : B' T' = X.B S') (q1 : Cond.methodLink own index y ∈ lw_w) (cw : CWv C y bytes maxL ret n) (hO : vO X.B a ci fs) (hc : vwCl[ci]? = some q) (hC : q.1 = C) (hn : As.length = n) (hroom : RoomOk rm rmc maxL) (st0 : List Value) (hst0 : st0 = As.reverse ++ .ref a :: st) (hst : (st.map fun v => v.category).sum ≤ 8) (hdg : decode cc pc = .ok (.invokevirtual index, 3)) (kk : J X (pc + 3) lv st S') : J X pc lv st0 S := by
  obtain ⟨hx, hb, hml, hown, hts, hK, hA, hR, hkc, hks⟩ := h
  subst hst0
  intro ls H locs a1 a2 a3 a4
  have hFc := freeB (T := T) hA hB a3 a4
  refine va_callv (va_runV (As := As) (rest := st) ⟨hx, hb, hml, hown, hts⟩ (hM H.size) (cwV n hts (gi_v q1 cw) rfl hroom.1 hroom.2.1 cw.2.2.2.2 (by rw [hR]; exact hroom.2.2)) ⟨PreB.blind, by obtain ⟨pos, hpos⟩ := hO S; rw [← hC]; exact va_recv hK a2 hc hpos, fun U hU hW => ⟨rfl, preB hB hK a2 a3 U hU hW⟩⟩ rfl hn a1.1 rfl (lv_room hst) hdg ⟨by rw [hR]; exact hkc, by rw [hR]; exact hks⟩) a4 (fun q _ h => hFc q h) hFc (fun u t H1 locs1 ht hvm hw hB1 hz1 hk1 hS1 => ?_)
  obtain ⟨hP1, hK1, hD1⟩ := hB1
  rw [ht] at hP1
  exact kk ls H1 locs1 a1 (by rw [← hB']; exact hP1) (by rw [← hB']; exact hD1.weaken (fun k q _ hq => hFc q.1 hq)) hS1
theorem j_callSv (h : OK X own cc rm) (hM : CTv X.l X.D (jtys X.cI X.cZ X.cV) y bytes maxL ret rmc B' (As) T T') (hB : B' T = X.B S) (hB' : B' T' = X.B S') (q1 : Cond.methodLink own index y ∈ lw_w) (cw : CWs y bytes maxL ret n) (hn : As.length = n) (hroom : RoomOk rm rmc maxL) (st0 : List Value) (hst0 : st0 = As.reverse ++ st) (hst : (st.map fun v => v.category).sum ≤ 8) (hdg : decode cc pc = .ok (.invokestatic index, 3)) (kk : J X (pc + 3) lv st S') : J X pc lv st0 S := by
  obtain ⟨hx, hb, hml, hown, hts, hK, hA, hR, hkc, hks⟩ := h
  subst hst0
  intro ls H locs a1 a2 a3 a4
  have hFc := freeB (T := T) hA hB a3 a4
  refine va_callv (va_runS (As := As) (rest := st) ⟨hx, hb, hml, hown, hts⟩ (hM H.size) (va_cwS n hts (gi_s q1 cw) rfl hroom.1 hroom.2.1 cw.2.2.2 (by rw [hR]; exact hroom.2.2)) ⟨PreB.blind, fun U hU hW => ⟨rfl, preB hB hK a2 a3 U hU hW⟩⟩ rfl hn a1.1 rfl (lv_room hst) hdg ⟨by rw [hR]; exact hkc, by rw [hR]; exact hks⟩) a4 (fun q _ h => hFc q h) hFc (fun u t H1 locs1 ht hvm hw hB1 hz1 hk1 hS1 => ?_)
  obtain ⟨hP1, hK1, hD1⟩ := hB1
  rw [ht] at hP1
  exact kk ls H1 locs1 a1 (by rw [← hB']; exact hP1) (by rw [← hB']; exact hD1.weaken (fun k q _ hq => hFc q.1 hq)) hS1
end JC
def EXi {σ : Type} (X : JX σ) (cc : ByteArray) (r : Int32) (S : σ) : Prop := ∀ (pc : Nat) (lv : List (Nat × Value)), decode cc pc = .ok (.ireturn, 1) → J X pc lv [.int r] S
def EXl {σ : Type} (X : JX σ) (cc : ByteArray) (r : Int64) (S : σ) : Prop := ∀ (pc : Nat) (lv : List (Nat × Value)), decode cc pc = .ok (.lreturn, 1) → J X pc lv [.long r] S
def EXd {σ : Type} (X : JX σ) (cc : ByteArray) (r : UInt64) (S : σ) : Prop := ∀ (pc : Nat) (lv : List (Nat × Value)), decode cc pc = .ok (.dreturn, 1) → J X pc lv [.double r] S
def EXv {σ : Type} (X : JX σ) (cc : ByteArray) (S : σ) : Prop := ∀ (pc : Nat) (lv : List (Nat × Value)), decode cc pc = .ok (.return_, 1) → J X pc lv [] S
set_option maxHeartbeats 1000000 in
theorem CTi.of {τ : Type} {l : Launch} {D : va_G} {cI cZ cV : ClassId} {y : MethodName} {bytes : ByteArray} {maxL : Nat} {rm : Room} {B : τ → va_W} {av : List Value} {T T' : τ} {r : Int32} (lv0 : List (Nat × Value)) (hlv : lv_args 0 av = lv0) (hsl : (lg_sl av).length ≤ maxL) (hy : plainName y.cls = true) (hrm : rm.cells = 0 ∧ rm.slots = 0) 
    (body : ∀ X : JX τ, X.l = l → X.D = D → X.cI = cI → X.cZ = cZ → X.cV = cV → X.B = B → X.nL = maxL → OK X y.cls bytes rm → EXi X bytes r T' → J X 0 lv0 [] T) : CTi l D (jtys cI cZ cV) y bytes maxL (some .int) rm B av T r T' := by
  intro sz
  refine Met.ofW (cc := bytes) (maxL := maxL) (ret := some .int) hy rfl ?_
  intro p e s m args below meth c s₁ Bd hml hv
  obtain ⟨rfl, hsz, hP, hK, hD0⟩ := hv
  subst hsz
  have hx := Bd.exec
  have hb := Bd.bytes
  have hr := Bd.returns
  have hts0 := atoms_spec (ws := .code y bytes maxL (some .int) :: lw_w) Bd.pre
  have hts : ∀ w ∈ lw_w, w.before av.toArray s = true := fun w hw => hts0 w (List.mem_cons_of_mem _ hw)
  have hown : s.vm.findClass y.cls = some m.cls := findClass_of_methodNamed Bd.named
  have hlocks := Bd.notSynchronized
  have hD := hD0.self (sz := s.heap.size)
  have hA : ∀ q : Nat, s.heap.size ≤ q → va_A (B T) s.heap.size q := fun q h => Or.inr h
  have hS : va_S (va_A (B T) s.heap.size) s.heap s.heap [] := va_S.rf
  have hl := lv_entry av (n := maxL) hsl
  rw [lg_entry_eq]
  rw [hlv] at hl
  exact body ((p, l, e, rm, s), (m, av.toArray, below, meth, c), (maxL, D, cI, cZ, cV), (0, 0), (va_A (B T) s.heap.size, MQ below (va_Qi (fun (r1 : Int32) (_ : Unit) => r1 = r) (fun _ => PostB D (jtys cI cZ cV) B T T' s.heap.size) (va_A (B T) s.heap.size)) av.toArray s 0 0 (va_A (B T) s.heap.size), B)) rfl rfl rfl rfl rfl rfl rfl ⟨hx, hb, hml, hown, hts, hK, hA, rfl, Nat.zero_le _, Nat.zero_le _⟩
    (fun pc lv hdg ls H locs a1 a2 a3 a4 => W.iret hx hb hr (fun t ht hW => ⟨⟨r, (), rfl, rfl, (by rw [ht]; exact a2), va_K.moved hW.alike hK, a3⟩, a4.F ht⟩) a4.2.2 hdg) _ _ _ hl hP hD hS
set_option maxHeartbeats 1000000 in
theorem CTl.of {τ : Type} {l : Launch} {D : va_G} {cI cZ cV : ClassId} {y : MethodName} {bytes : ByteArray} {maxL : Nat} {rm : Room} {B : τ → va_W} {av : List Value} {T T' : τ} {r : Int64} (lv0 : List (Nat × Value)) (hlv : lv_args 0 av = lv0) (hsl : (lg_sl av).length ≤ maxL) (hy : plainName y.cls = true) (hrm : rm.cells = 0 ∧ rm.slots = 0) 
    (body : ∀ X : JX τ, X.l = l → X.D = D → X.cI = cI → X.cZ = cZ → X.cV = cV → X.B = B → X.nL = maxL → OK X y.cls bytes rm → EXl X bytes r T' → J X 0 lv0 [] T) : CTl l D (jtys cI cZ cV) y bytes maxL (some .long) rm B av T r T' := by
  intro sz
  refine Met.ofW (cc := bytes) (maxL := maxL) (ret := some .long) hy rfl ?_
  intro p e s m args below meth c s₁ Bd hml hv
  obtain ⟨rfl, hsz, hP, hK, hD0⟩ := hv
  subst hsz
  have hx := Bd.exec
  have hb := Bd.bytes
  have hr := Bd.returns
  have hts0 := atoms_spec (ws := .code y bytes maxL (some .long) :: lw_w) Bd.pre
  have hts : ∀ w ∈ lw_w, w.before av.toArray s = true := fun w hw => hts0 w (List.mem_cons_of_mem _ hw)
  have hown : s.vm.findClass y.cls = some m.cls := findClass_of_methodNamed Bd.named
  have hlocks := Bd.notSynchronized
  have hD := hD0.self (sz := s.heap.size)
  have hA : ∀ q : Nat, s.heap.size ≤ q → va_A (B T) s.heap.size q := fun q h => Or.inr h
  have hS : va_S (va_A (B T) s.heap.size) s.heap s.heap [] := va_S.rf
  have hl := lv_entry av (n := maxL) hsl
  rw [lg_entry_eq]
  rw [hlv] at hl
  exact body ((p, l, e, rm, s), (m, av.toArray, below, meth, c), (maxL, D, cI, cZ, cV), (0, 0), (va_A (B T) s.heap.size, MQ below (va_Ql (fun (r1 : Int64) (_ : Unit) => r1 = r) (fun _ => PostB D (jtys cI cZ cV) B T T' s.heap.size) (va_A (B T) s.heap.size)) av.toArray s 0 0 (va_A (B T) s.heap.size), B)) rfl rfl rfl rfl rfl rfl rfl ⟨hx, hb, hml, hown, hts, hK, hA, rfl, Nat.zero_le _, Nat.zero_le _⟩
    (fun pc lv hdg ls H locs a1 a2 a3 a4 => W.lret hx hb hr (fun t ht hW => ⟨⟨r, (), rfl, rfl, (by rw [ht]; exact a2), va_K.moved hW.alike hK, a3⟩, a4.F ht⟩) a4.2.2 hdg) _ _ _ hl hP hD hS
set_option maxHeartbeats 1000000 in
theorem CTd.of {τ : Type} {l : Launch} {D : va_G} {cI cZ cV : ClassId} {y : MethodName} {bytes : ByteArray} {maxL : Nat} {rm : Room} {B : τ → va_W} {av : List Value} {T T' : τ} {r : UInt64} (lv0 : List (Nat × Value)) (hlv : lv_args 0 av = lv0) (hsl : (lg_sl av).length ≤ maxL) (hy : plainName y.cls = true) (hrm : rm.cells = 0 ∧ rm.slots = 0) 
    (body : ∀ X : JX τ, X.l = l → X.D = D → X.cI = cI → X.cZ = cZ → X.cV = cV → X.B = B → X.nL = maxL → OK X y.cls bytes rm → EXd X bytes r T' → J X 0 lv0 [] T) : CTd l D (jtys cI cZ cV) y bytes maxL (some .double) rm B av T r T' := by
  intro sz
  refine Met.ofW (cc := bytes) (maxL := maxL) (ret := some .double) hy rfl ?_
  intro p e s m args below meth c s₁ Bd hml hv
  obtain ⟨rfl, hsz, hP, hK, hD0⟩ := hv
  subst hsz
  have hx := Bd.exec
  have hb := Bd.bytes
  have hr := Bd.returns
  have hts0 := atoms_spec (ws := .code y bytes maxL (some .double) :: lw_w) Bd.pre
  have hts : ∀ w ∈ lw_w, w.before av.toArray s = true := fun w hw => hts0 w (List.mem_cons_of_mem _ hw)
  have hown : s.vm.findClass y.cls = some m.cls := findClass_of_methodNamed Bd.named
  have hlocks := Bd.notSynchronized
  have hD := hD0.self (sz := s.heap.size)
  have hA : ∀ q : Nat, s.heap.size ≤ q → va_A (B T) s.heap.size q := fun q h => Or.inr h
  have hS : va_S (va_A (B T) s.heap.size) s.heap s.heap [] := va_S.rf
  have hl := lv_entry av (n := maxL) hsl
  rw [lg_entry_eq]
  rw [hlv] at hl
  exact body ((p, l, e, rm, s), (m, av.toArray, below, meth, c), (maxL, D, cI, cZ, cV), (0, 0), (va_A (B T) s.heap.size, MQ below (va_Qd (fun (r1 : UInt64) (_ : Unit) => r1 = r) (fun _ => PostB D (jtys cI cZ cV) B T T' s.heap.size) (va_A (B T) s.heap.size)) av.toArray s 0 0 (va_A (B T) s.heap.size), B)) rfl rfl rfl rfl rfl rfl rfl ⟨hx, hb, hml, hown, hts, hK, hA, rfl, Nat.zero_le _, Nat.zero_le _⟩
    (fun pc lv hdg ls H locs a1 a2 a3 a4 => W.dret hx hb hr (fun t ht hW => ⟨⟨r, (), rfl, rfl, (by rw [ht]; exact a2), va_K.moved hW.alike hK, a3⟩, a4.F ht⟩) a4.2.2 hdg) _ _ _ hl hP hD hS
set_option maxHeartbeats 1000000 in
theorem CTz.of {τ : Type} {l : Launch} {D : va_G} {cI cZ cV : ClassId} {y : MethodName} {bytes : ByteArray} {maxL : Nat} {rm : Room} {B : τ → va_W} {av : List Value} {T T' : τ} {r : Int32} (lv0 : List (Nat × Value)) (hlv : lv_args 0 av = lv0) (hsl : (lg_sl av).length ≤ maxL) (hy : plainName y.cls = true) (hrm : rm.cells = 0 ∧ rm.slots = 0) (hnr : narrow .boolean (.int r) = .int r)
    (body : ∀ X : JX τ, X.l = l → X.D = D → X.cI = cI → X.cZ = cZ → X.cV = cV → X.B = B → X.nL = maxL → OK X y.cls bytes rm → EXi X bytes r T' → J X 0 lv0 [] T) : CTi l D (jtys cI cZ cV) y bytes maxL (some .boolean) rm B av T r T' := by
  intro sz
  refine Met.ofW (cc := bytes) (maxL := maxL) (ret := some .boolean) hy rfl ?_
  intro p e s m args below meth c s₁ Bd hml hv
  obtain ⟨rfl, hsz, hP, hK, hD0⟩ := hv
  subst hsz
  have hx := Bd.exec
  have hb := Bd.bytes
  have hr := Bd.returns
  have hts0 := atoms_spec (ws := .code y bytes maxL (some .boolean) :: lw_w) Bd.pre
  have hts : ∀ w ∈ lw_w, w.before av.toArray s = true := fun w hw => hts0 w (List.mem_cons_of_mem _ hw)
  have hown : s.vm.findClass y.cls = some m.cls := findClass_of_methodNamed Bd.named
  have hlocks := Bd.notSynchronized
  have hD := hD0.self (sz := s.heap.size)
  have hA : ∀ q : Nat, s.heap.size ≤ q → va_A (B T) s.heap.size q := fun q h => Or.inr h
  have hS : va_S (va_A (B T) s.heap.size) s.heap s.heap [] := va_S.rf
  have hl := lv_entry av (n := maxL) hsl
  rw [lg_entry_eq]
  rw [hlv] at hl
  exact body ((p, l, e, rm, s), (m, av.toArray, below, meth, c), (maxL, D, cI, cZ, cV), (0, 0), (va_A (B T) s.heap.size, MQ below (va_Qi (fun (r1 : Int32) (_ : Unit) => r1 = r) (fun _ => PostB D (jtys cI cZ cV) B T T' s.heap.size) (va_A (B T) s.heap.size)) av.toArray s 0 0 (va_A (B T) s.heap.size), B)) rfl rfl rfl rfl rfl rfl rfl ⟨hx, hb, hml, hown, hts, hK, hA, rfl, Nat.zero_le _, Nat.zero_le _⟩
    (fun pc lv hdg ls H locs a1 a2 a3 a4 => W.zret hx hb hr hnr (fun t ht hW => ⟨⟨r, (), rfl, rfl, (by rw [ht]; exact a2), va_K.moved hW.alike hK, a3⟩, a4.F ht⟩) a4.2.2 hdg) _ _ _ hl hP hD hS
set_option maxHeartbeats 1000000 in
theorem CTv.of {τ : Type} {l : Launch} {D : va_G} {cI cZ cV : ClassId} {y : MethodName} {bytes : ByteArray} {maxL : Nat} {rm : Room} {B : τ → va_W} {av : List Value} {T T' : τ} (lv0 : List (Nat × Value)) (hlv : lv_args 0 av = lv0) (hsl : (lg_sl av).length ≤ maxL) (hy : plainName y.cls = true) (hrm : rm.cells = 0 ∧ rm.slots = 0) 
    (body : ∀ X : JX τ, X.l = l → X.D = D → X.cI = cI → X.cZ = cZ → X.cV = cV → X.B = B → X.nL = maxL → OK X y.cls bytes rm → EXv X bytes T' → J X 0 lv0 [] T) : CTv l D (jtys cI cZ cV) y bytes maxL (none) rm B av T T' := by
  intro sz
  refine Met.ofW (cc := bytes) (maxL := maxL) (ret := none) hy rfl ?_
  intro p e s m args below meth c s₁ Bd hml hv
  obtain ⟨rfl, hsz, hP, hK, hD0⟩ := hv
  subst hsz
  have hx := Bd.exec
  have hb := Bd.bytes
  have hr := Bd.returns
  have hts0 := atoms_spec (ws := .code y bytes maxL (none) :: lw_w) Bd.pre
  have hts : ∀ w ∈ lw_w, w.before av.toArray s = true := fun w hw => hts0 w (List.mem_cons_of_mem _ hw)
  have hown : s.vm.findClass y.cls = some m.cls := findClass_of_methodNamed Bd.named
  have hlocks := Bd.notSynchronized
  have hD := hD0.self (sz := s.heap.size)
  have hA : ∀ q : Nat, s.heap.size ≤ q → va_A (B T) s.heap.size q := fun q h => Or.inr h
  have hS : va_S (va_A (B T) s.heap.size) s.heap s.heap [] := va_S.rf
  have hl := lv_entry av (n := maxL) hsl
  rw [lg_entry_eq]
  rw [hlv] at hl
  exact body ((p, l, e, rm, s), (m, av.toArray, below, meth, c), (maxL, D, cI, cZ, cV), (0, 0), (va_A (B T) s.heap.size, MQ below (va_Qv (fun (_ : Unit) => True) (fun _ => PostB D (jtys cI cZ cV) B T T' s.heap.size) (va_A (B T) s.heap.size)) av.toArray s 0 0 (va_A (B T) s.heap.size), B)) rfl rfl rfl rfl rfl rfl rfl ⟨hx, hb, hml, hown, hts, hK, hA, rfl, Nat.zero_le _, Nat.zero_le _⟩
    (fun pc lv hdg ls H locs a1 a2 a3 a4 => W.vret hx hb hr (fun t ht hW => ⟨⟨(), rfl, trivial, (by rw [ht]; exact a2), va_K.moved hW.alike hK, a3⟩, a4.F ht⟩) a4.2.2 hdg) _ _ _ hl hP hD hS
end
