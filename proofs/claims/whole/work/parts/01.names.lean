-- ===== PART A: goes FIRST, ahead of the names: the tables' words, and 'selects' of the private methods out of them =====
/-- a private method of a class that the tables say can be made, by its rows of tables_1 -/
def lw_okq (q : MethodName × Nat) : Prop := (q.1.cls ≠ "java/lang/invoke/MethodHandle" ∧ q.1.cls ≠ "java/lang/invoke/VarHandle") ∧ Cond.instantiable q.1.cls q.2 ∈ tables_1 ∧ Cond.privateMethod q.1 ∈ tables_1 ∧ Cond.instanceMethod q.1 ∈ tables_1
theorem lw_p0 : lw_okq (⟨"WinterYard$Yard", "forget", "(I)V"⟩, 8) := ⟨⟨by decide +kernel, by decide +kernel⟩, List.mem_of_getElem? (i := 17) (by decide +kernel), List.mem_of_getElem? (i := 23) (by decide +kernel), List.mem_of_getElem? (i := 24) (by decide +kernel)⟩
theorem lw_p1 : lw_okq (⟨"WinterYard$Yard", "note", "(III)V"⟩, 8) := ⟨⟨by decide +kernel, by decide +kernel⟩, List.mem_of_getElem? (i := 17) (by decide +kernel), List.mem_of_getElem? (i := 27) (by decide +kernel), List.mem_of_getElem? (i := 28) (by decide +kernel)⟩
theorem lw_p2 : lw_okq (⟨"WinterYard$History", "behindLatest", "()LWinterYard$Yard;"⟩, 3) := ⟨⟨by decide +kernel, by decide +kernel⟩, List.mem_of_getElem? (i := 63) (by decide +kernel), List.mem_of_getElem? (i := 141) (by decide +kernel), List.mem_of_getElem? (i := 142) (by decide +kernel)⟩
theorem lw_p3 : lw_okq (⟨"WinterYard$Yard", "lowestFreeNumber", "()I"⟩, 8) := ⟨⟨by decide +kernel, by decide +kernel⟩, List.mem_of_getElem? (i := 17) (by decide +kernel), List.mem_of_getElem? (i := 162) (by decide +kernel), List.mem_of_getElem? (i := 163) (by decide +kernel)⟩
theorem lw_p4 : lw_okq (⟨"WinterYard$Yard", "noteAfloat", "(I)V"⟩, 8) := ⟨⟨by decide +kernel, by decide +kernel⟩, List.mem_of_getElem? (i := 17) (by decide +kernel), List.mem_of_getElem? (i := 174) (by decide +kernel), List.mem_of_getElem? (i := 175) (by decide +kernel)⟩
theorem lw_p5 : lw_okq (⟨"WinterYard$Yard", "hasMast", "(I)Z"⟩, 8) := ⟨⟨by decide +kernel, by decide +kernel⟩, List.mem_of_getElem? (i := 17) (by decide +kernel), List.mem_of_getElem? (i := 194) (by decide +kernel), List.mem_of_getElem? (i := 195) (by decide +kernel)⟩
theorem lw_p6 : lw_okq (⟨"WinterYard$Yard", "boatsWith", "(II)I"⟩, 8) := ⟨⟨by decide +kernel, by decide +kernel⟩, List.mem_of_getElem? (i := 17) (by decide +kernel), List.mem_of_getElem? (i := 202) (by decide +kernel), List.mem_of_getElem? (i := 203) (by decide +kernel)⟩
theorem lw_p7 : lw_okq (⟨"WinterYard$Yard", "isDeepEnough", "(II)Z"⟩, 8) := ⟨⟨by decide +kernel, by decide +kernel⟩, List.mem_of_getElem? (i := 17) (by decide +kernel), List.mem_of_getElem? (i := 260) (by decide +kernel), List.mem_of_getElem? (i := 261) (by decide +kernel)⟩
theorem lw_p8 : lw_okq (⟨"WinterYard$Yard", "craneBears", "(I)Z"⟩, 8) := ⟨⟨by decide +kernel, by decide +kernel⟩, List.mem_of_getElem? (i := 17) (by decide +kernel), List.mem_of_getElem? (i := 271) (by decide +kernel), List.mem_of_getElem? (i := 272) (by decide +kernel)⟩
theorem lw_p9 : lw_okq (⟨"WinterYard$Yard", "cradleFor", "(I)I"⟩, 8) := ⟨⟨by decide +kernel, by decide +kernel⟩, List.mem_of_getElem? (i := 17) (by decide +kernel), List.mem_of_getElem? (i := 275) (by decide +kernel), List.mem_of_getElem? (i := 276) (by decide +kernel)⟩
theorem lw_p10 : lw_okq (⟨"WinterYard$Yard", "hasFreeCradle", "(I)Z"⟩, 8) := ⟨⟨by decide +kernel, by decide +kernel⟩, List.mem_of_getElem? (i := 17) (by decide +kernel), List.mem_of_getElem? (i := 279) (by decide +kernel), List.mem_of_getElem? (i := 280) (by decide +kernel)⟩
theorem lw_p11 : lw_okq (⟨"WinterYard$Yard", "hasRoom", "(II)Z"⟩, 8) := ⟨⟨by decide +kernel, by decide +kernel⟩, List.mem_of_getElem? (i := 17) (by decide +kernel), List.mem_of_getElem? (i := 295) (by decide +kernel), List.mem_of_getElem? (i := 296) (by decide +kernel)⟩
theorem lw_p12 : lw_okq (⟨"WinterYard$Yard", "metresLeft", "(I)I"⟩, 8) := ⟨⟨by decide +kernel, by decide +kernel⟩, List.mem_of_getElem? (i := 17) (by decide +kernel), List.mem_of_getElem? (i := 299) (by decide +kernel), List.mem_of_getElem? (i := 300) (by decide +kernel)⟩
theorem lw_p13 : lw_okq (⟨"WinterYard$Yard", "putAtOuterEnd", "(II)V"⟩, 8) := ⟨⟨by decide +kernel, by decide +kernel⟩, List.mem_of_getElem? (i := 17) (by decide +kernel), List.mem_of_getElem? (i := 314) (by decide +kernel), List.mem_of_getElem? (i := 315) (by decide +kernel)⟩
theorem lw_p14 : lw_okq (⟨"WinterYard$Yard", "takeLift", "()V"⟩, 8) := ⟨⟨by decide +kernel, by decide +kernel⟩, List.mem_of_getElem? (i := 17) (by decide +kernel), List.mem_of_getElem? (i := 322) (by decide +kernel), List.mem_of_getElem? (i := 323) (by decide +kernel)⟩
theorem lw_p15 : lw_okq (⟨"WinterYard$Yard", "standsIn", "(II)Z"⟩, 8) := ⟨⟨by decide +kernel, by decide +kernel⟩, List.mem_of_getElem? (i := 17) (by decide +kernel), List.mem_of_getElem? (i := 350) (by decide +kernel), List.mem_of_getElem? (i := 351) (by decide +kernel)⟩
def lw_privs_1 : List (MethodName × Nat) := [(⟨"WinterYard$Yard", "forget", "(I)V"⟩, 8), (⟨"WinterYard$Yard", "note", "(III)V"⟩, 8), (⟨"WinterYard$History", "behindLatest", "()LWinterYard$Yard;"⟩, 3), (⟨"WinterYard$Yard", "lowestFreeNumber", "()I"⟩, 8), (⟨"WinterYard$Yard", "noteAfloat", "(I)V"⟩, 8), (⟨"WinterYard$Yard", "hasMast", "(I)Z"⟩, 8), (⟨"WinterYard$Yard", "boatsWith", "(II)I"⟩, 8), (⟨"WinterYard$Yard", "isDeepEnough", "(II)Z"⟩, 8), (⟨"WinterYard$Yard", "craneBears", "(I)Z"⟩, 8), (⟨"WinterYard$Yard", "cradleFor", "(I)I"⟩, 8), (⟨"WinterYard$Yard", "hasFreeCradle", "(I)Z"⟩, 8), (⟨"WinterYard$Yard", "hasRoom", "(II)Z"⟩, 8), (⟨"WinterYard$Yard", "metresLeft", "(I)I"⟩, 8), (⟨"WinterYard$Yard", "putAtOuterEnd", "(II)V"⟩, 8), (⟨"WinterYard$Yard", "takeLift", "()V"⟩, 8), (⟨"WinterYard$Yard", "standsIn", "(II)Z"⟩, 8)]
theorem lw_r1 : ∀ q ∈ lw_privs_1, lw_okq q := List.forall_mem_cons.mpr ⟨lw_p0, List.forall_mem_cons.mpr ⟨lw_p1, List.forall_mem_cons.mpr ⟨lw_p2, List.forall_mem_cons.mpr ⟨lw_p3, List.forall_mem_cons.mpr ⟨lw_p4, List.forall_mem_cons.mpr ⟨lw_p5, List.forall_mem_cons.mpr ⟨lw_p6, List.forall_mem_cons.mpr ⟨lw_p7, List.forall_mem_cons.mpr ⟨lw_p8, List.forall_mem_cons.mpr ⟨lw_p9, List.forall_mem_cons.mpr ⟨lw_p10, List.forall_mem_cons.mpr ⟨lw_p11, List.forall_mem_cons.mpr ⟨lw_p12, List.forall_mem_cons.mpr ⟨lw_p13, List.forall_mem_cons.mpr ⟨lw_p14, List.forall_mem_cons.mpr ⟨lw_p15, fun _ h => absurd h List.not_mem_nil⟩⟩⟩⟩⟩⟩⟩⟩⟩⟩⟩⟩⟩⟩⟩⟩
theorem lw_p16 : lw_okq (⟨"WinterYard$Yard", "rackFor", "(I)I"⟩, 8) := ⟨⟨by decide +kernel, by decide +kernel⟩, List.mem_of_getElem? (i := 17) (by decide +kernel), List.mem_of_getElem? (i := 366) (by decide +kernel), List.mem_of_getElem? (i := 367) (by decide +kernel)⟩
theorem lw_p17 : lw_okq (⟨"WinterYard$Plan", "readThing", "()Z"⟩, 7) := ⟨⟨by decide +kernel, by decide +kernel⟩, List.mem_of_getElem? (i := 82) (by decide +kernel), List.mem_of_getElem? (i := 414) (by decide +kernel), List.mem_of_getElem? (i := 415) (by decide +kernel)⟩
theorem lw_p18 : lw_okq (⟨"WinterYard$Plan", "readNumber", "(II)I"⟩, 7) := ⟨⟨by decide +kernel, by decide +kernel⟩, List.mem_of_getElem? (i := 82) (by decide +kernel), List.mem_of_getElem? (i := 418) (by decide +kernel), List.mem_of_getElem? (i := 419) (by decide +kernel)⟩
theorem lw_p19 : lw_okq (⟨"WinterYard$Plan", "digit", "()I"⟩, 7) := ⟨⟨by decide +kernel, by decide +kernel⟩, List.mem_of_getElem? (i := 82) (by decide +kernel), List.mem_of_getElem? (i := 422) (by decide +kernel), List.mem_of_getElem? (i := 423) (by decide +kernel)⟩
theorem lw_p20 : lw_okq (⟨"WinterYard$Plan", "readCharacter", "(C)Z"⟩, 7) := ⟨⟨by decide +kernel, by decide +kernel⟩, List.mem_of_getElem? (i := 82) (by decide +kernel), List.mem_of_getElem? (i := 426) (by decide +kernel), List.mem_of_getElem? (i := 427) (by decide +kernel)⟩
theorem lw_p21 : lw_okq (⟨"WinterYard$Plan", "add", "(CII)Z"⟩, 7) := ⟨⟨by decide +kernel, by decide +kernel⟩, List.mem_of_getElem? (i := 82) (by decide +kernel), List.mem_of_getElem? (i := 430) (by decide +kernel), List.mem_of_getElem? (i := 431) (by decide +kernel)⟩
theorem lw_p22 : lw_okq (⟨"WinterYard$Plan", "has", "(I)Z"⟩, 7) := ⟨⟨by decide +kernel, by decide +kernel⟩, List.mem_of_getElem? (i := 82) (by decide +kernel), List.mem_of_getElem? (i := 442) (by decide +kernel), List.mem_of_getElem? (i := 443) (by decide +kernel)⟩
theorem lw_p23 : lw_okq (⟨"WinterYard", "doThing", "(CII)I"⟩, 7) := ⟨⟨by decide +kernel, by decide +kernel⟩, List.mem_of_getElem? (i := 9) (by decide +kernel), List.mem_of_getElem? (i := 454) (by decide +kernel), List.mem_of_getElem? (i := 455) (by decide +kernel)⟩
theorem lw_p24 : lw_okq (⟨"WinterYardModel", "boats", "()I"⟩, 13) := ⟨⟨by decide +kernel, by decide +kernel⟩, List.mem_of_getElem? (i := 592) (by decide +kernel), List.mem_of_getElem? (i := 646) (by decide +kernel), List.mem_of_getElem? (i := 647) (by decide +kernel)⟩
theorem lw_p25 : lw_okq (⟨"WinterYardModel", "of", "(II)I"⟩, 13) := ⟨⟨by decide +kernel, by decide +kernel⟩, List.mem_of_getElem? (i := 592) (by decide +kernel), List.mem_of_getElem? (i := 650) (by decide +kernel), List.mem_of_getElem? (i := 651) (by decide +kernel)⟩
theorem lw_p26 : lw_okq (⟨"WinterYardModel", "push", "([I)V"⟩, 13) := ⟨⟨by decide +kernel, by decide +kernel⟩, List.mem_of_getElem? (i := 592) (by decide +kernel), List.mem_of_getElem? (i := 658) (by decide +kernel), List.mem_of_getElem? (i := 659) (by decide +kernel)⟩
theorem lw_p27 : lw_okq (⟨"WinterYardModel", "put", "(III)V"⟩, 13) := ⟨⟨by decide +kernel, by decide +kernel⟩, List.mem_of_getElem? (i := 592) (by decide +kernel), List.mem_of_getElem? (i := 672) (by decide +kernel), List.mem_of_getElem? (i := 673) (by decide +kernel)⟩
theorem lw_p28 : lw_okq (⟨"WinterYardModel", "isBoat", "(I)Z"⟩, 13) := ⟨⟨by decide +kernel, by decide +kernel⟩, List.mem_of_getElem? (i := 592) (by decide +kernel), List.mem_of_getElem? (i := 680) (by decide +kernel), List.mem_of_getElem? (i := 681) (by decide +kernel)⟩
theorem lw_p29 : lw_okq (⟨"WinterYardModel", "isAshore", "(I)Z"⟩, 13) := ⟨⟨by decide +kernel, by decide +kernel⟩, List.mem_of_getElem? (i := 592) (by decide +kernel), List.mem_of_getElem? (i := 684) (by decide +kernel), List.mem_of_getElem? (i := 685) (by decide +kernel)⟩
theorem lw_p30 : lw_okq (⟨"WinterYardModel", "taken", "(I)I"⟩, 13) := ⟨⟨by decide +kernel, by decide +kernel⟩, List.mem_of_getElem? (i := 592) (by decide +kernel), List.mem_of_getElem? (i := 692) (by decide +kernel), List.mem_of_getElem? (i := 693) (by decide +kernel)⟩
theorem lw_p31 : lw_okq (⟨"WinterYardModel", "change", "(II)I"⟩, 13) := ⟨⟨by decide +kernel, by decide +kernel⟩, List.mem_of_getElem? (i := 592) (by decide +kernel), List.mem_of_getElem? (i := 696) (by decide +kernel), List.mem_of_getElem? (i := 697) (by decide +kernel)⟩
def lw_privs_2 : List (MethodName × Nat) := [(⟨"WinterYard$Yard", "rackFor", "(I)I"⟩, 8), (⟨"WinterYard$Plan", "readThing", "()Z"⟩, 7), (⟨"WinterYard$Plan", "readNumber", "(II)I"⟩, 7), (⟨"WinterYard$Plan", "digit", "()I"⟩, 7), (⟨"WinterYard$Plan", "readCharacter", "(C)Z"⟩, 7), (⟨"WinterYard$Plan", "add", "(CII)Z"⟩, 7), (⟨"WinterYard$Plan", "has", "(I)Z"⟩, 7), (⟨"WinterYard", "doThing", "(CII)I"⟩, 7), (⟨"WinterYardModel", "boats", "()I"⟩, 13), (⟨"WinterYardModel", "of", "(II)I"⟩, 13), (⟨"WinterYardModel", "push", "([I)V"⟩, 13), (⟨"WinterYardModel", "put", "(III)V"⟩, 13), (⟨"WinterYardModel", "isBoat", "(I)Z"⟩, 13), (⟨"WinterYardModel", "isAshore", "(I)Z"⟩, 13), (⟨"WinterYardModel", "taken", "(I)I"⟩, 13), (⟨"WinterYardModel", "change", "(II)I"⟩, 13)]
theorem lw_r2 : ∀ q ∈ lw_privs_2, lw_okq q := List.forall_mem_cons.mpr ⟨lw_p16, List.forall_mem_cons.mpr ⟨lw_p17, List.forall_mem_cons.mpr ⟨lw_p18, List.forall_mem_cons.mpr ⟨lw_p19, List.forall_mem_cons.mpr ⟨lw_p20, List.forall_mem_cons.mpr ⟨lw_p21, List.forall_mem_cons.mpr ⟨lw_p22, List.forall_mem_cons.mpr ⟨lw_p23, List.forall_mem_cons.mpr ⟨lw_p24, List.forall_mem_cons.mpr ⟨lw_p25, List.forall_mem_cons.mpr ⟨lw_p26, List.forall_mem_cons.mpr ⟨lw_p27, List.forall_mem_cons.mpr ⟨lw_p28, List.forall_mem_cons.mpr ⟨lw_p29, List.forall_mem_cons.mpr ⟨lw_p30, List.forall_mem_cons.mpr ⟨lw_p31, fun _ h => absurd h List.not_mem_nil⟩⟩⟩⟩⟩⟩⟩⟩⟩⟩⟩⟩⟩⟩⟩⟩
theorem lw_p32 : lw_okq (⟨"WinterYardModel", "metresTaken", "(I)I"⟩, 13) := ⟨⟨by decide +kernel, by decide +kernel⟩, List.mem_of_getElem? (i := 592) (by decide +kernel), List.mem_of_getElem? (i := 707) (by decide +kernel), List.mem_of_getElem? (i := 708) (by decide +kernel)⟩
theorem lw_p33 : lw_okq (⟨"WinterYardModel", "isIn", "(II)Z"⟩, 13) := ⟨⟨by decide +kernel, by decide +kernel⟩, List.mem_of_getElem? (i := 592) (by decide +kernel), List.mem_of_getElem? (i := 711) (by decide +kernel), List.mem_of_getElem? (i := 712) (by decide +kernel)⟩
theorem lw_p34 : lw_okq (⟨"WinterYardModel", "noLift", "(II)I"⟩, 13) := ⟨⟨by decide +kernel, by decide +kernel⟩, List.mem_of_getElem? (i := 592) (by decide +kernel), List.mem_of_getElem? (i := 723) (by decide +kernel), List.mem_of_getElem? (i := 724) (by decide +kernel)⟩
theorem lw_p35 : lw_okq (⟨"WinterYardModel", "whyNoLift", "(II)I"⟩, 13) := ⟨⟨by decide +kernel, by decide +kernel⟩, List.mem_of_getElem? (i := 592) (by decide +kernel), List.mem_of_getElem? (i := 727) (by decide +kernel), List.mem_of_getElem? (i := 728) (by decide +kernel)⟩
theorem lw_p36 : lw_okq (⟨"WinterYardModel", "tideAt", "(I)I"⟩, 13) := ⟨⟨by decide +kernel, by decide +kernel⟩, List.mem_of_getElem? (i := 592) (by decide +kernel), List.mem_of_getElem? (i := 731) (by decide +kernel), List.mem_of_getElem? (i := 732) (by decide +kernel)⟩
theorem lw_p37 : lw_okq (⟨"WinterYardModel", "cradleFor", "(I)I"⟩, 13) := ⟨⟨by decide +kernel, by decide +kernel⟩, List.mem_of_getElem? (i := 592) (by decide +kernel), List.mem_of_getElem? (i := 735) (by decide +kernel), List.mem_of_getElem? (i := 736) (by decide +kernel)⟩
theorem lw_p38 : lw_okq (⟨"WinterYardModel", "isFree", "(I)Z"⟩, 13) := ⟨⟨by decide +kernel, by decide +kernel⟩, List.mem_of_getElem? (i := 592) (by decide +kernel), List.mem_of_getElem? (i := 739) (by decide +kernel), List.mem_of_getElem? (i := 740) (by decide +kernel)⟩
theorem lw_p39 : lw_okq (⟨"WinterYardModel", "hasRoom", "(II)Z"⟩, 13) := ⟨⟨by decide +kernel, by decide +kernel⟩, List.mem_of_getElem? (i := 592) (by decide +kernel), List.mem_of_getElem? (i := 746) (by decide +kernel), List.mem_of_getElem? (i := 747) (by decide +kernel)⟩
theorem lw_p40 : lw_okq (⟨"WinterYardModel", "metresLeft", "(I)I"⟩, 13) := ⟨⟨by decide +kernel, by decide +kernel⟩, List.mem_of_getElem? (i := 592) (by decide +kernel), List.mem_of_getElem? (i := 750) (by decide +kernel), List.mem_of_getElem? (i := 751) (by decide +kernel)⟩
theorem lw_p41 : lw_okq (⟨"WinterYardModel", "liftsLeft", "()I"⟩, 13) := ⟨⟨by decide +kernel, by decide +kernel⟩, List.mem_of_getElem? (i := 592) (by decide +kernel), List.mem_of_getElem? (i := 754) (by decide +kernel), List.mem_of_getElem? (i := 755) (by decide +kernel)⟩
theorem lw_p42 : lw_okq (⟨"WinterYardModel", "doLift", "(II)I"⟩, 13) := ⟨⟨by decide +kernel, by decide +kernel⟩, List.mem_of_getElem? (i := 592) (by decide +kernel), List.mem_of_getElem? (i := 758) (by decide +kernel), List.mem_of_getElem? (i := 759) (by decide +kernel)⟩
theorem lw_p43 : lw_okq (⟨"WinterYardModel", "stand", "(II)V"⟩, 13) := ⟨⟨by decide +kernel, by decide +kernel⟩, List.mem_of_getElem? (i := 592) (by decide +kernel), List.mem_of_getElem? (i := 762) (by decide +kernel), List.mem_of_getElem? (i := 763) (by decide +kernel)⟩
theorem lw_p44 : lw_okq (⟨"WinterYardModel", "useCrane", "()V"⟩, 13) := ⟨⟨by decide +kernel, by decide +kernel⟩, List.mem_of_getElem? (i := 592) (by decide +kernel), List.mem_of_getElem? (i := 766) (by decide +kernel), List.mem_of_getElem? (i := 767) (by decide +kernel)⟩
theorem lw_p45 : lw_okq (⟨"WinterYardModel", "boatsIn", "(I)I"⟩, 13) := ⟨⟨by decide +kernel, by decide +kernel⟩, List.mem_of_getElem? (i := 592) (by decide +kernel), List.mem_of_getElem? (i := 770) (by decide +kernel), List.mem_of_getElem? (i := 771) (by decide +kernel)⟩
theorem lw_p46 : lw_okq (⟨"WinterYardModel", "noLaunch", "(I)I"⟩, 13) := ⟨⟨by decide +kernel, by decide +kernel⟩, List.mem_of_getElem? (i := 592) (by decide +kernel), List.mem_of_getElem? (i := 778) (by decide +kernel), List.mem_of_getElem? (i := 779) (by decide +kernel)⟩
theorem lw_p47 : lw_okq (⟨"WinterYardModel", "whyNoLaunch", "(I)I"⟩, 13) := ⟨⟨by decide +kernel, by decide +kernel⟩, List.mem_of_getElem? (i := 592) (by decide +kernel), List.mem_of_getElem? (i := 782) (by decide +kernel), List.mem_of_getElem? (i := 783) (by decide +kernel)⟩
def lw_privs_3 : List (MethodName × Nat) := [(⟨"WinterYardModel", "metresTaken", "(I)I"⟩, 13), (⟨"WinterYardModel", "isIn", "(II)Z"⟩, 13), (⟨"WinterYardModel", "noLift", "(II)I"⟩, 13), (⟨"WinterYardModel", "whyNoLift", "(II)I"⟩, 13), (⟨"WinterYardModel", "tideAt", "(I)I"⟩, 13), (⟨"WinterYardModel", "cradleFor", "(I)I"⟩, 13), (⟨"WinterYardModel", "isFree", "(I)Z"⟩, 13), (⟨"WinterYardModel", "hasRoom", "(II)Z"⟩, 13), (⟨"WinterYardModel", "metresLeft", "(I)I"⟩, 13), (⟨"WinterYardModel", "liftsLeft", "()I"⟩, 13), (⟨"WinterYardModel", "doLift", "(II)I"⟩, 13), (⟨"WinterYardModel", "stand", "(II)V"⟩, 13), (⟨"WinterYardModel", "useCrane", "()V"⟩, 13), (⟨"WinterYardModel", "boatsIn", "(I)I"⟩, 13), (⟨"WinterYardModel", "noLaunch", "(I)I"⟩, 13), (⟨"WinterYardModel", "whyNoLaunch", "(I)I"⟩, 13)]
theorem lw_r3 : ∀ q ∈ lw_privs_3, lw_okq q := List.forall_mem_cons.mpr ⟨lw_p32, List.forall_mem_cons.mpr ⟨lw_p33, List.forall_mem_cons.mpr ⟨lw_p34, List.forall_mem_cons.mpr ⟨lw_p35, List.forall_mem_cons.mpr ⟨lw_p36, List.forall_mem_cons.mpr ⟨lw_p37, List.forall_mem_cons.mpr ⟨lw_p38, List.forall_mem_cons.mpr ⟨lw_p39, List.forall_mem_cons.mpr ⟨lw_p40, List.forall_mem_cons.mpr ⟨lw_p41, List.forall_mem_cons.mpr ⟨lw_p42, List.forall_mem_cons.mpr ⟨lw_p43, List.forall_mem_cons.mpr ⟨lw_p44, List.forall_mem_cons.mpr ⟨lw_p45, List.forall_mem_cons.mpr ⟨lw_p46, List.forall_mem_cons.mpr ⟨lw_p47, fun _ h => absurd h List.not_mem_nil⟩⟩⟩⟩⟩⟩⟩⟩⟩⟩⟩⟩⟩⟩⟩⟩
theorem lw_p48 : lw_okq (⟨"WinterYardModel", "blockersOf", "(I)I"⟩, 13) := ⟨⟨by decide +kernel, by decide +kernel⟩, List.mem_of_getElem? (i := 592) (by decide +kernel), List.mem_of_getElem? (i := 786) (by decide +kernel), List.mem_of_getElem? (i := 787) (by decide +kernel)⟩
theorem lw_p49 : lw_okq (⟨"WinterYardModel", "placeOf", "(I)I"⟩, 13) := ⟨⟨by decide +kernel, by decide +kernel⟩, List.mem_of_getElem? (i := 592) (by decide +kernel), List.mem_of_getElem? (i := 790) (by decide +kernel), List.mem_of_getElem? (i := 791) (by decide +kernel)⟩
theorem lw_p50 : lw_okq (⟨"WinterYardModel", "doLaunch", "(I)I"⟩, 13) := ⟨⟨by decide +kernel, by decide +kernel⟩, List.mem_of_getElem? (i := 592) (by decide +kernel), List.mem_of_getElem? (i := 794) (by decide +kernel), List.mem_of_getElem? (i := 795) (by decide +kernel)⟩
theorem lw_p51 : lw_okq (⟨"WinterYardModel", "noMove", "(II)I"⟩, 13) := ⟨⟨by decide +kernel, by decide +kernel⟩, List.mem_of_getElem? (i := 592) (by decide +kernel), List.mem_of_getElem? (i := 802) (by decide +kernel), List.mem_of_getElem? (i := 803) (by decide +kernel)⟩
theorem lw_p52 : lw_okq (⟨"WinterYardModel", "doMove", "(II)I"⟩, 13) := ⟨⟨by decide +kernel, by decide +kernel⟩, List.mem_of_getElem? (i := 592) (by decide +kernel), List.mem_of_getElem? (i := 806) (by decide +kernel), List.mem_of_getElem? (i := 807) (by decide +kernel)⟩
theorem lw_p53 : lw_okq (⟨"WinterYardModel", "noMast", "(IZ)I"⟩, 13) := ⟨⟨by decide +kernel, by decide +kernel⟩, List.mem_of_getElem? (i := 592) (by decide +kernel), List.mem_of_getElem? (i := 814) (by decide +kernel), List.mem_of_getElem? (i := 815) (by decide +kernel)⟩
theorem lw_p54 : lw_okq (⟨"WinterYardModel", "rackFor", "(I)I"⟩, 13) := ⟨⟨by decide +kernel, by decide +kernel⟩, List.mem_of_getElem? (i := 592) (by decide +kernel), List.mem_of_getElem? (i := 818) (by decide +kernel), List.mem_of_getElem? (i := 819) (by decide +kernel)⟩
theorem lw_p55 : lw_okq (⟨"WinterYardModel", "mastsIn", "(I)I"⟩, 13) := ⟨⟨by decide +kernel, by decide +kernel⟩, List.mem_of_getElem? (i := 592) (by decide +kernel), List.mem_of_getElem? (i := 822) (by decide +kernel), List.mem_of_getElem? (i := 823) (by decide +kernel)⟩
theorem lw_p56 : lw_okq (⟨"WinterYardModel", "doMast", "(IZ)I"⟩, 13) := ⟨⟨by decide +kernel, by decide +kernel⟩, List.mem_of_getElem? (i := 592) (by decide +kernel), List.mem_of_getElem? (i := 826) (by decide +kernel), List.mem_of_getElem? (i := 827) (by decide +kernel)⟩
theorem lw_p57 : lw_okq (⟨"WinterYardModel", "noPass", "(I)I"⟩, 13) := ⟨⟨by decide +kernel, by decide +kernel⟩, List.mem_of_getElem? (i := 592) (by decide +kernel), List.mem_of_getElem? (i := 838) (by decide +kernel), List.mem_of_getElem? (i := 839) (by decide +kernel)⟩
theorem lw_p58 : lw_okq (⟨"WinterYardModel", "doPass", "(I)I"⟩, 13) := ⟨⟨by decide +kernel, by decide +kernel⟩, List.mem_of_getElem? (i := 592) (by decide +kernel), List.mem_of_getElem? (i := 842) (by decide +kernel), List.mem_of_getElem? (i := 843) (by decide +kernel)⟩
theorem lw_p59 : lw_okq (⟨"WinterYardModel", "findFault", "()I"⟩, 13) := ⟨⟨by decide +kernel, by decide +kernel⟩, List.mem_of_getElem? (i := 592) (by decide +kernel), List.mem_of_getElem? (i := 858) (by decide +kernel), List.mem_of_getElem? (i := 859) (by decide +kernel)⟩
theorem lw_p60 : lw_okq (⟨"WinterYardModel", "readCommand", "(I)I"⟩, 13) := ⟨⟨by decide +kernel, by decide +kernel⟩, List.mem_of_getElem? (i := 592) (by decide +kernel), List.mem_of_getElem? (i := 862) (by decide +kernel), List.mem_of_getElem? (i := 863) (by decide +kernel)⟩
theorem lw_p61 : lw_okq (⟨"WinterYardModel", "at", "(I)I"⟩, 13) := ⟨⟨by decide +kernel, by decide +kernel⟩, List.mem_of_getElem? (i := 592) (by decide +kernel), List.mem_of_getElem? (i := 866) (by decide +kernel), List.mem_of_getElem? (i := 867) (by decide +kernel)⟩
theorem lw_p62 : lw_okq (⟨"WinterYardModel", "readNumber", "(III)I"⟩, 13) := ⟨⟨by decide +kernel, by decide +kernel⟩, List.mem_of_getElem? (i := 592) (by decide +kernel), List.mem_of_getElem? (i := 870) (by decide +kernel), List.mem_of_getElem? (i := 871) (by decide +kernel)⟩
theorem lw_p63 : lw_okq (⟨"WinterYardModel", "noCommand", "()I"⟩, 13) := ⟨⟨by decide +kernel, by decide +kernel⟩, List.mem_of_getElem? (i := 592) (by decide +kernel), List.mem_of_getElem? (i := 877) (by decide +kernel), List.mem_of_getElem? (i := 878) (by decide +kernel)⟩
def lw_privs_4 : List (MethodName × Nat) := [(⟨"WinterYardModel", "blockersOf", "(I)I"⟩, 13), (⟨"WinterYardModel", "placeOf", "(I)I"⟩, 13), (⟨"WinterYardModel", "doLaunch", "(I)I"⟩, 13), (⟨"WinterYardModel", "noMove", "(II)I"⟩, 13), (⟨"WinterYardModel", "doMove", "(II)I"⟩, 13), (⟨"WinterYardModel", "noMast", "(IZ)I"⟩, 13), (⟨"WinterYardModel", "rackFor", "(I)I"⟩, 13), (⟨"WinterYardModel", "mastsIn", "(I)I"⟩, 13), (⟨"WinterYardModel", "doMast", "(IZ)I"⟩, 13), (⟨"WinterYardModel", "noPass", "(I)I"⟩, 13), (⟨"WinterYardModel", "doPass", "(I)I"⟩, 13), (⟨"WinterYardModel", "findFault", "()I"⟩, 13), (⟨"WinterYardModel", "readCommand", "(I)I"⟩, 13), (⟨"WinterYardModel", "at", "(I)I"⟩, 13), (⟨"WinterYardModel", "readNumber", "(III)I"⟩, 13), (⟨"WinterYardModel", "noCommand", "()I"⟩, 13)]
theorem lw_r4 : ∀ q ∈ lw_privs_4, lw_okq q := List.forall_mem_cons.mpr ⟨lw_p48, List.forall_mem_cons.mpr ⟨lw_p49, List.forall_mem_cons.mpr ⟨lw_p50, List.forall_mem_cons.mpr ⟨lw_p51, List.forall_mem_cons.mpr ⟨lw_p52, List.forall_mem_cons.mpr ⟨lw_p53, List.forall_mem_cons.mpr ⟨lw_p54, List.forall_mem_cons.mpr ⟨lw_p55, List.forall_mem_cons.mpr ⟨lw_p56, List.forall_mem_cons.mpr ⟨lw_p57, List.forall_mem_cons.mpr ⟨lw_p58, List.forall_mem_cons.mpr ⟨lw_p59, List.forall_mem_cons.mpr ⟨lw_p60, List.forall_mem_cons.mpr ⟨lw_p61, List.forall_mem_cons.mpr ⟨lw_p62, List.forall_mem_cons.mpr ⟨lw_p63, fun _ h => absurd h List.not_mem_nil⟩⟩⟩⟩⟩⟩⟩⟩⟩⟩⟩⟩⟩⟩⟩⟩
theorem lw_p64 : lw_okq (⟨"WinterYardModel", "doCommand", "()I"⟩, 13) := ⟨⟨by decide +kernel, by decide +kernel⟩, List.mem_of_getElem? (i := 592) (by decide +kernel), List.mem_of_getElem? (i := 881) (by decide +kernel), List.mem_of_getElem? (i := 882) (by decide +kernel)⟩
theorem lw_p65 : lw_okq (⟨"WinterYardModel", "boatAt", "(II)I"⟩, 13) := ⟨⟨by decide +kernel, by decide +kernel⟩, List.mem_of_getElem? (i := 592) (by decide +kernel), List.mem_of_getElem? (i := 897) (by decide +kernel), List.mem_of_getElem? (i := 898) (by decide +kernel)⟩
def lw_privs_5 : List (MethodName × Nat) := [(⟨"WinterYardModel", "doCommand", "()I"⟩, 13), (⟨"WinterYardModel", "boatAt", "(II)I"⟩, 13)]
theorem lw_r5 : ∀ q ∈ lw_privs_5, lw_okq q := List.forall_mem_cons.mpr ⟨lw_p64, List.forall_mem_cons.mpr ⟨lw_p65, fun _ h => absurd h List.not_mem_nil⟩⟩
def lw_privs : List (MethodName × Nat) := lw_privs_1 ++ (lw_privs_2 ++ (lw_privs_3 ++ (lw_privs_4 ++ (lw_privs_5))))
def lw_tbl : List Cond := k2_sels lw_privs ++ tables_1
theorem lw_privs_ok : ∀ q ∈ lw_privs, lw_okq q := by
  show ∀ q ∈ lw_privs_1 ++ (lw_privs_2 ++ (lw_privs_3 ++ (lw_privs_4 ++ (lw_privs_5)))), lw_okq q
  exact List.forall_mem_append.mpr ⟨lw_r1, List.forall_mem_append.mpr ⟨lw_r2, List.forall_mem_append.mpr ⟨lw_r3, List.forall_mem_append.mpr ⟨lw_r4, lw_r5⟩⟩⟩⟩
def RX0 : String := "WinterYard$History"
def TX0 : u_T := fun k => match k with
  | 0 => ("WinterYard$History", "slots", "[LWinterYard$Yard;", true)
  | 1 => ("WinterYard$History", "oldest", "I", false)
  | _ => ("WinterYard$History", "recorded", "I", false)
def tyX0 : Nat → FieldType := fun k => match k with
  | 0 => .array (.object "WinterYard$Yard")
  | 1 => .int
  | _ => .int
abbrev wsX00 : List Cond := u_ws RX0 TX0 3
theorem nmX0 : ∀ a, a < 3 → ∀ b, b < 3 → a ≠ b → (TX0 a).2.1 ≠ (TX0 b).2.1 := by decide +kernel
theorem tyX0_ok : ∀ k, k < 3 → parseFieldDescriptor (TX0 k).2.2.1 = some (tyX0 k) := by decide +kernel
abbrev cX0_init : ByteArray := prog_2_method_1_code
def yX0_init : MethodName := ⟨RX0, "<init>", "()V"⟩
abbrev cX0_states : ByteArray := prog_2_method_2_code
def yX0_states : MethodName := ⟨RX0, "states", "()I"⟩
abbrev cX0_behindLatest : ByteArray := prog_2_method_3_code
def yX0_behindLatest : MethodName := ⟨RX0, "behindLatest", "()LWinterYard$Yard;"⟩
abbrev cX0_prepare : ByteArray := prog_2_method_4_code
def yX0_prepare : MethodName := ⟨RX0, "prepare", "(LWinterYard$Yard;)V"⟩
abbrev cX0_settle : ByteArray := prog_2_method_5_code
def yX0_settle : MethodName := ⟨RX0, "settle", "(I)I"⟩
abbrev cX0_takeBack : ByteArray := prog_2_method_6_code
def yX0_takeBack : MethodName := ⟨RX0, "takeBack", "(LWinterYard$Yard;)V"⟩
abbrev cX0_stepBack : ByteArray := prog_2_method_7_code
def yX0_stepBack : MethodName := ⟨RX0, "stepBack", "(LWinterYard$Yard;)I"⟩
def RX1 : String := "WinterYard$Plan"
def TX1 : u_T := fun k => match k with
  | 0 => ("WinterYard$Plan", "text", "[C", true)
  | 1 => ("WinterYard$Plan", "length", "I", false)
  | 2 => ("WinterYard$Plan", "at", "I", false)
  | 3 => ("WinterYard$Plan", "signs", "[C", true)
  | 4 => ("WinterYard$Plan", "firsts", "[I", true)
  | 5 => ("WinterYard$Plan", "seconds", "[I", true)
  | _ => ("WinterYard$Plan", "things", "I", false)
def tyX1 : Nat → FieldType := fun k => match k with
  | 0 => .array .char
  | 1 => .int
  | 2 => .int
  | 3 => .array .char
  | 4 => .array .int
  | 5 => .array .int
  | _ => .int
abbrev wsX10 : List Cond := u_ws RX1 TX1 7
theorem nmX1 : ∀ a, a < 7 → ∀ b, b < 7 → a ≠ b → (TX1 a).2.1 ≠ (TX1 b).2.1 := by decide +kernel
theorem tyX1_ok : ∀ k, k < 7 → parseFieldDescriptor (TX1 k).2.2.1 = some (tyX1 k) := by decide +kernel
abbrev cX1_init : ByteArray := prog_3_method_1_code
def yX1_init : MethodName := ⟨RX1, "<init>", "()V"⟩
abbrev cX1_length : ByteArray := prog_3_method_2_code
def yX1_length : MethodName := ⟨RX1, "length", "()I"⟩
abbrev cX1_append : ByteArray := prog_3_method_3_code
def yX1_append : MethodName := ⟨RX1, "append", "(C)I"⟩
abbrev cX1_empty : ByteArray := prog_3_method_4_code
def yX1_empty : MethodName := ⟨RX1, "empty", "()I"⟩
abbrev cX1_things : ByteArray := prog_3_method_5_code
def yX1_things : MethodName := ⟨RX1, "things", "()I"⟩
abbrev cX1_has : ByteArray := prog_3_method_6_code
def yX1_has : MethodName := ⟨RX1, "has", "(I)Z"⟩
abbrev cX1_sign : ByteArray := prog_3_method_7_code
def yX1_sign : MethodName := ⟨RX1, "sign", "(I)C"⟩
abbrev cX1_first : ByteArray := prog_3_method_8_code
def yX1_first : MethodName := ⟨RX1, "first", "(I)I"⟩
abbrev cX1_second : ByteArray := prog_3_method_9_code
def yX1_second : MethodName := ⟨RX1, "second", "(I)I"⟩
abbrev cX1_read : ByteArray := prog_3_method_10_code
def yX1_read : MethodName := ⟨RX1, "read", "()I"⟩
abbrev cX1_readThing : ByteArray := prog_3_method_11_code
def yX1_readThing : MethodName := ⟨RX1, "readThing", "()Z"⟩
abbrev cX1_add : ByteArray := prog_3_method_12_code
def yX1_add : MethodName := ⟨RX1, "add", "(CII)Z"⟩
abbrev cX1_readCharacter : ByteArray := prog_3_method_13_code
def yX1_readCharacter : MethodName := ⟨RX1, "readCharacter", "(C)Z"⟩
abbrev cX1_readNumber : ByteArray := prog_3_method_14_code
def yX1_readNumber : MethodName := ⟨RX1, "readNumber", "(II)I"⟩
abbrev cX1_digit : ByteArray := prog_3_method_15_code
def yX1_digit : MethodName := ⟨RX1, "digit", "()I"⟩
def RX2 : String := "WinterYard$Yard"
def TX2 : u_T := fun k => match k with
  | 0 => ("WinterYard$Yard", "facts", "[I", true)
  | 1 => ("WinterYard$Yard", "cradles", "[I", true)
  | 2 => ("WinterYard$Yard", "metres", "[I", true)
  | 3 => ("WinterYard$Yard", "settings", "[I", true)
  | 4 => ("WinterYard$Yard", "day", "I", false)
  | 5 => ("WinterYard$Yard", "liftsToday", "I", false)
  | 6 => ("WinterYard$Yard", "lifts", "I", false)
  | _ => ("WinterYard$Yard", "launches", "I", false)
def tyX2 : Nat → FieldType := fun k => match k with
  | 0 => .array .int
  | 1 => .array .int
  | 2 => .array .int
  | 3 => .array .int
  | 4 => .int
  | 5 => .int
  | 6 => .int
  | _ => .int
abbrev wsX20 : List Cond := u_ws RX2 TX2 8
theorem nmX2 : ∀ a, a < 8 → ∀ b, b < 8 → a ≠ b → (TX2 a).2.1 ≠ (TX2 b).2.1 := by decide +kernel
theorem tyX2_ok : ∀ k, k < 8 → parseFieldDescriptor (TX2 k).2.2.1 = some (tyX2 k) := by decide +kernel
abbrev cX2_init : ByteArray := prog_4_method_1_code
def yX2_init : MethodName := ⟨RX2, "<init>", "()V"⟩
abbrev cX2_copyFrom : ByteArray := prog_4_method_2_code
def yX2_copyFrom : MethodName := ⟨RX2, "copyFrom", "(LWinterYard$Yard;)V"⟩
abbrev cX2_isFact : ByteArray := prog_4_method_3_code
def yX2_isFact : MethodName := ⟨RX2, "isFact", "(I)Z"⟩
abbrev cX2_isRow : ByteArray := prog_4_method_4_code
def yX2_isRow : MethodName := ⟨RX2, "isRow", "(I)Z"⟩
abbrev cX2_isKind : ByteArray := prog_4_method_5_code
def yX2_isKind : MethodName := ⟨RX2, "isKind", "(I)Z"⟩
abbrev cX2_isSetting : ByteArray := prog_4_method_6_code
def yX2_isSetting : MethodName := ⟨RX2, "isSetting", "(I)Z"⟩
abbrev cX2_knows : ByteArray := prog_4_method_7_code
def yX2_knows : MethodName := ⟨RX2, "knows", "(I)Z"⟩
abbrev cX2_hasPlaceFor : ByteArray := prog_4_method_8_code
def yX2_hasPlaceFor : MethodName := ⟨RX2, "hasPlaceFor", "(II)Z"⟩
abbrev cX2_fact : ByteArray := prog_4_method_9_code
def yX2_fact : MethodName := ⟨RX2, "fact", "(II)I"⟩
abbrev cX2_note : ByteArray := prog_4_method_10_code
def yX2_note : MethodName := ⟨RX2, "note", "(III)V"⟩
abbrev cX2_forget : ByteArray := prog_4_method_11_code
def yX2_forget : MethodName := ⟨RX2, "forget", "(I)V"⟩
abbrev cX2_boatsWith : ByteArray := prog_4_method_12_code
def yX2_boatsWith : MethodName := ⟨RX2, "boatsWith", "(II)I"⟩
abbrev cX2_addBoat : ByteArray := prog_4_method_13_code
def yX2_addBoat : MethodName := ⟨RX2, "addBoat", "(IIII)I"⟩
abbrev cX2_lowestFreeNumber : ByteArray := prog_4_method_14_code
def yX2_lowestFreeNumber : MethodName := ⟨RX2, "lowestFreeNumber", "()I"⟩
abbrev cX2_noteAfloat : ByteArray := prog_4_method_15_code
def yX2_noteAfloat : MethodName := ⟨RX2, "noteAfloat", "(I)V"⟩
abbrev cX2_removeBoat : ByteArray := prog_4_method_16_code
def yX2_removeBoat : MethodName := ⟨RX2, "removeBoat", "(I)I"⟩
abbrev cX2_boats : ByteArray := prog_4_method_17_code
def yX2_boats : MethodName := ⟨RX2, "boats", "()I"⟩
abbrev cX2_isAshore : ByteArray := prog_4_method_18_code
def yX2_isAshore : MethodName := ⟨RX2, "isAshore", "(I)Z"⟩
abbrev cX2_boatsAshore : ByteArray := prog_4_method_19_code
def yX2_boatsAshore : MethodName := ⟨RX2, "boatsAshore", "()I"⟩
abbrev cX2_cradlesOf : ByteArray := prog_4_method_20_code
def yX2_cradlesOf : MethodName := ⟨RX2, "cradlesOf", "(I)I"⟩
abbrev cX2_cradlesTaken : ByteArray := prog_4_method_21_code
def yX2_cradlesTaken : MethodName := ⟨RX2, "cradlesTaken", "(I)I"⟩
abbrev cX2_bears : ByteArray := prog_4_method_22_code
def yX2_bears : MethodName := ⟨RX2, "bears", "(I)I"⟩
abbrev cX2_changeCradles : ByteArray := prog_4_method_23_code
def yX2_changeCradles : MethodName := ⟨RX2, "changeCradles", "(II)I"⟩
abbrev cX2_hasFreeCradle : ByteArray := prog_4_method_24_code
def yX2_hasFreeCradle : MethodName := ⟨RX2, "hasFreeCradle", "(I)Z"⟩
abbrev cX2_cradleFor : ByteArray := prog_4_method_25_code
def yX2_cradleFor : MethodName := ⟨RX2, "cradleFor", "(I)I"⟩
abbrev cX2_otherKindFor : ByteArray := prog_4_method_26_code
def yX2_otherKindFor : MethodName := ⟨RX2, "otherKindFor", "(I)I"⟩
abbrev cX2_metresOf : ByteArray := prog_4_method_27_code
def yX2_metresOf : MethodName := ⟨RX2, "metresOf", "(I)I"⟩
abbrev cX2_standsIn : ByteArray := prog_4_method_28_code
def yX2_standsIn : MethodName := ⟨RX2, "standsIn", "(II)Z"⟩
abbrev cX2_metresTaken : ByteArray := prog_4_method_29_code
def yX2_metresTaken : MethodName := ⟨RX2, "metresTaken", "(I)I"⟩
abbrev cX2_metresLeft : ByteArray := prog_4_method_30_code
def yX2_metresLeft : MethodName := ⟨RX2, "metresLeft", "(I)I"⟩
abbrev cX2_hasRoom : ByteArray := prog_4_method_31_code
def yX2_hasRoom : MethodName := ⟨RX2, "hasRoom", "(II)Z"⟩
abbrev cX2_boatsIn : ByteArray := prog_4_method_32_code
def yX2_boatsIn : MethodName := ⟨RX2, "boatsIn", "(I)I"⟩
abbrev cX2_boatAt : ByteArray := prog_4_method_33_code
def yX2_boatAt : MethodName := ⟨RX2, "boatAt", "(II)I"⟩
abbrev cX2_boatsFartherOut : ByteArray := prog_4_method_34_code
def yX2_boatsFartherOut : MethodName := ⟨RX2, "boatsFartherOut", "(I)I"⟩
abbrev cX2_changeRow : ByteArray := prog_4_method_35_code
def yX2_changeRow : MethodName := ⟨RX2, "changeRow", "(II)I"⟩
abbrev cX2_tightestRow : ByteArray := prog_4_method_36_code
def yX2_tightestRow : MethodName := ⟨RX2, "tightestRow", "(I)I"⟩
abbrev cX2_putAtOuterEnd : ByteArray := prog_4_method_37_code
def yX2_putAtOuterEnd : MethodName := ⟨RX2, "putAtOuterEnd", "(II)V"⟩
abbrev cX2_setting : ByteArray := prog_4_method_38_code
def yX2_setting : MethodName := ⟨RX2, "setting", "(I)I"⟩
abbrev cX2_changeSetting : ByteArray := prog_4_method_39_code
def yX2_changeSetting : MethodName := ⟨RX2, "changeSetting", "(II)I"⟩
abbrev cX2_liftsLeft : ByteArray := prog_4_method_40_code
def yX2_liftsLeft : MethodName := ⟨RX2, "liftsLeft", "()I"⟩
abbrev cX2_liftsSoFar : ByteArray := prog_4_method_41_code
def yX2_liftsSoFar : MethodName := ⟨RX2, "liftsSoFar", "()I"⟩
abbrev cX2_launchesSoFar : ByteArray := prog_4_method_42_code
def yX2_launchesSoFar : MethodName := ⟨RX2, "launchesSoFar", "()I"⟩
abbrev cX2_takeLift : ByteArray := prog_4_method_43_code
def yX2_takeLift : MethodName := ⟨RX2, "takeLift", "()V"⟩
abbrev cX2_craneBears : ByteArray := prog_4_method_44_code
def yX2_craneBears : MethodName := ⟨RX2, "craneBears", "(I)Z"⟩
abbrev cX2_isDeepEnough : ByteArray := prog_4_method_45_code
def yX2_isDeepEnough : MethodName := ⟨RX2, "isDeepEnough", "(II)Z"⟩
abbrev cX2_whyNoLift : ByteArray := prog_4_method_46_code
def yX2_whyNoLift : MethodName := ⟨RX2, "whyNoLift", "(II)I"⟩
abbrev cX2_liftInto : ByteArray := prog_4_method_47_code
def yX2_liftInto : MethodName := ⟨RX2, "liftInto", "(II)I"⟩
abbrev cX2_whyNoLaunch : ByteArray := prog_4_method_48_code
def yX2_whyNoLaunch : MethodName := ⟨RX2, "whyNoLaunch", "(I)I"⟩
abbrev cX2_putAfloat : ByteArray := prog_4_method_49_code
def yX2_putAfloat : MethodName := ⟨RX2, "putAfloat", "(I)I"⟩
abbrev cX2_firstLaunchDay : ByteArray := prog_4_method_50_code
def yX2_firstLaunchDay : MethodName := ⟨RX2, "firstLaunchDay", "(I)I"⟩
abbrev cX2_moveTo : ByteArray := prog_4_method_51_code
def yX2_moveTo : MethodName := ⟨RX2, "moveTo", "(II)I"⟩
abbrev cX2_hasMast : ByteArray := prog_4_method_52_code
def yX2_hasMast : MethodName := ⟨RX2, "hasMast", "(I)Z"⟩
abbrev cX2_mastsIn : ByteArray := prog_4_method_53_code
def yX2_mastsIn : MethodName := ⟨RX2, "mastsIn", "(I)I"⟩
abbrev cX2_rackFor : ByteArray := prog_4_method_54_code
def yX2_rackFor : MethodName := ⟨RX2, "rackFor", "(I)I"⟩
abbrev cX2_takeMastOff : ByteArray := prog_4_method_55_code
def yX2_takeMastOff : MethodName := ⟨RX2, "takeMastOff", "(I)I"⟩
abbrev cX2_putMastUp : ByteArray := prog_4_method_56_code
def yX2_putMastUp : MethodName := ⟨RX2, "putMastUp", "(I)I"⟩
abbrev cX2_orderWork : ByteArray := prog_4_method_57_code
def yX2_orderWork : MethodName := ⟨RX2, "orderWork", "(II)I"⟩
abbrev cX2_boatsWithWork : ByteArray := prog_4_method_58_code
def yX2_boatsWithWork : MethodName := ⟨RX2, "boatsWithWork", "()I"⟩
abbrev cX2_today : ByteArray := prog_4_method_59_code
def yX2_today : MethodName := ⟨RX2, "today", "()I"⟩
abbrev cX2_tideOn : ByteArray := prog_4_method_60_code
def yX2_tideOn : MethodName := ⟨RX2, "tideOn", "(I)I"⟩
abbrev cX2_letPass : ByteArray := prog_4_method_61_code
def yX2_letPass : MethodName := ⟨RX2, "letPass", "(I)I"⟩
def RX3 : String := "WinterYard"
def TX3 : u_T := fun k => match k with
  | 0 => ("WinterYard", "yard", "LWinterYard$Yard;", true)
  | 1 => ("WinterYard", "snapshot", "LWinterYard$Yard;", true)
  | 2 => ("WinterYard", "hasSnapshot", "Z", false)
  | 3 => ("WinterYard", "history", "LWinterYard$History;", true)
  | 4 => ("WinterYard", "plan", "LWinterYard$Plan;", true)
  | 5 => ("WinterYard", "stopNumber", "I", false)
  | _ => ("WinterYard", "stopError", "I", false)
def tyX3 : Nat → FieldType := fun k => match k with
  | 0 => .object "WinterYard$Yard"
  | 1 => .object "WinterYard$Yard"
  | 2 => .boolean
  | 3 => .object "WinterYard$History"
  | 4 => .object "WinterYard$Plan"
  | 5 => .int
  | _ => .int
abbrev wsX30 : List Cond := u_ws RX3 TX3 7
theorem nmX3 : ∀ a, a < 7 → ∀ b, b < 7 → a ≠ b → (TX3 a).2.1 ≠ (TX3 b).2.1 := by decide +kernel
theorem tyX3_ok : ∀ k, k < 7 → parseFieldDescriptor (TX3 k).2.2.1 = some (tyX3 k) := by decide +kernel
abbrev cX3_init : ByteArray := prog_1_method_1_code
def yX3_init : MethodName := ⟨RX3, "<init>", "()V"⟩
abbrev cX3_come : ByteArray := prog_1_method_2_code
def yX3_come : MethodName := ⟨RX3, "come", "(IIII)I"⟩
abbrev cX3_goAway : ByteArray := prog_1_method_3_code
def yX3_goAway : MethodName := ⟨RX3, "goAway", "(I)I"⟩
abbrev cX3_setCradles : ByteArray := prog_1_method_4_code
def yX3_setCradles : MethodName := ⟨RX3, "setCradles", "(II)I"⟩
abbrev cX3_setRow : ByteArray := prog_1_method_5_code
def yX3_setRow : MethodName := ⟨RX3, "setRow", "(II)I"⟩
abbrev cX3_set : ByteArray := prog_1_method_6_code
def yX3_set : MethodName := ⟨RX3, "set", "(II)I"⟩
abbrev cX3_lift : ByteArray := prog_1_method_7_code
def yX3_lift : MethodName := ⟨RX3, "lift", "(II)I"⟩
abbrev cX3_launch : ByteArray := prog_1_method_8_code
def yX3_launch : MethodName := ⟨RX3, "launch", "(I)I"⟩
abbrev cX3_move : ByteArray := prog_1_method_9_code
def yX3_move : MethodName := ⟨RX3, "move", "(II)I"⟩
abbrev cX3_mast : ByteArray := prog_1_method_10_code
def yX3_mast : MethodName := ⟨RX3, "mast", "(IZ)I"⟩
abbrev cX3_work : ByteArray := prog_1_method_11_code
def yX3_work : MethodName := ⟨RX3, "work", "(II)I"⟩
abbrev cX3_pass : ByteArray := prog_1_method_12_code
def yX3_pass : MethodName := ⟨RX3, "pass", "(I)I"⟩
abbrev cX3_type : ByteArray := prog_1_method_13_code
def yX3_type : MethodName := ⟨RX3, "type", "(C)I"⟩
abbrev cX3_clearText : ByteArray := prog_1_method_14_code
def yX3_clearText : MethodName := ⟨RX3, "clearText", "()I"⟩
abbrev cX3_perform : ByteArray := prog_1_method_15_code
def yX3_perform : MethodName := ⟨RX3, "perform", "()I"⟩
abbrev cX3_doThing : ByteArray := prog_1_method_16_code
def yX3_doThing : MethodName := ⟨RX3, "doThing", "(CII)I"⟩
abbrev cX3_stopped : ByteArray := prog_1_method_17_code
def yX3_stopped : MethodName := ⟨RX3, "stopped", "(I)I"⟩
abbrev cX3_undo : ByteArray := prog_1_method_18_code
def yX3_undo : MethodName := ⟨RX3, "undo", "()I"⟩
abbrev cX3_keep : ByteArray := prog_1_method_19_code
def yX3_keep : MethodName := ⟨RX3, "keep", "()I"⟩
abbrev cX3_restore : ByteArray := prog_1_method_20_code
def yX3_restore : MethodName := ⟨RX3, "restore", "()I"⟩
abbrev cX3_boat : ByteArray := prog_1_method_21_code
def yX3_boat : MethodName := ⟨RX3, "boat", "(II)I"⟩
abbrev cX3_row : ByteArray := prog_1_method_22_code
def yX3_row : MethodName := ⟨RX3, "row", "(II)I"⟩
abbrev cX3_stands : ByteArray := prog_1_method_23_code
def yX3_stands : MethodName := ⟨RX3, "stands", "(II)I"⟩
abbrev cX3_cradle : ByteArray := prog_1_method_24_code
def yX3_cradle : MethodName := ⟨RX3, "cradle", "(II)I"⟩
abbrev cX3_tide : ByteArray := prog_1_method_25_code
def yX3_tide : MethodName := ⟨RX3, "tide", "(I)I"⟩
abbrev cX3_liftReason : ByteArray := prog_1_method_26_code
def yX3_liftReason : MethodName := ⟨RX3, "liftReason", "(II)I"⟩
abbrev cX3_launchReason : ByteArray := prog_1_method_27_code
def yX3_launchReason : MethodName := ⟨RX3, "launchReason", "(I)I"⟩
abbrev cX3_blockers : ByteArray := prog_1_method_28_code
def yX3_blockers : MethodName := ⟨RX3, "blockers", "(I)I"⟩
abbrev cX3_launchDay : ByteArray := prog_1_method_29_code
def yX3_launchDay : MethodName := ⟨RX3, "launchDay", "(I)I"⟩
abbrev cX3_bestRow : ByteArray := prog_1_method_30_code
def yX3_bestRow : MethodName := ⟨RX3, "bestRow", "(I)I"⟩
abbrev cX3_count : ByteArray := prog_1_method_31_code
def yX3_count : MethodName := ⟨RX3, "count", "(I)I"⟩
abbrev cX3_within : ByteArray := prog_1_method_32_code
def yX3_within : MethodName := ⟨RX3, "within", "(III)Z"⟩
def RX4 : String := "WinterYardModel"
def TX4 : u_T := fun k => match k with
  | 0 => ("WinterYardModel", "z", "[I", true)
  | 1 => ("WinterYardModel", "aside", "[I", true)
  | 2 => ("WinterYardModel", "old", "[I", true)
  | 3 => ("WinterYardModel", "states", "I", false)
  | 4 => ("WinterYardModel", "kept", "[I", true)
  | 5 => ("WinterYardModel", "isKept", "Z", false)
  | 6 => ("WinterYardModel", "text", "[I", true)
  | 7 => ("WinterYardModel", "length", "I", false)
  | 8 => ("WinterYardModel", "stopNumber", "I", false)
  | 9 => ("WinterYardModel", "stopError", "I", false)
  | 10 => ("WinterYardModel", "sign", "I", false)
  | 11 => ("WinterYardModel", "first", "I", false)
  | _ => ("WinterYardModel", "second", "I", false)
def tyX4 : Nat → FieldType := fun k => match k with
  | 0 => .array .int
  | 1 => .array .int
  | 2 => .array .int
  | 3 => .int
  | 4 => .array .int
  | 5 => .boolean
  | 6 => .array .int
  | 7 => .int
  | 8 => .int
  | 9 => .int
  | 10 => .int
  | 11 => .int
  | _ => .int
abbrev wsX40 : List Cond := u_ws RX4 TX4 13
theorem nmX4 : ∀ a, a < 13 → ∀ b, b < 13 → a ≠ b → (TX4 a).2.1 ≠ (TX4 b).2.1 := by decide +kernel
theorem tyX4_ok : ∀ k, k < 13 → parseFieldDescriptor (TX4 k).2.2.1 = some (tyX4 k) := by decide +kernel
abbrev cX4_init : ByteArray := prog_6_method_1_code
def yX4_init : MethodName := ⟨RX4, "<init>", "()V"⟩
abbrev cX4_in : ByteArray := prog_6_method_3_code
def yX4_in : MethodName := ⟨RX4, "in", "(III)Z"⟩
abbrev cX4_of : ByteArray := prog_6_method_4_code
def yX4_of : MethodName := ⟨RX4, "of", "(II)I"⟩
abbrev cX4_put : ByteArray := prog_6_method_5_code
def yX4_put : MethodName := ⟨RX4, "put", "(III)V"⟩
abbrev cX4_isBoat : ByteArray := prog_6_method_6_code
def yX4_isBoat : MethodName := ⟨RX4, "isBoat", "(I)Z"⟩
abbrev cX4_isRow : ByteArray := prog_6_method_7_code
def yX4_isRow : MethodName := ⟨RX4, "isRow", "(I)Z"⟩
abbrev cX4_isKind : ByteArray := prog_6_method_8_code
def yX4_isKind : MethodName := ⟨RX4, "isKind", "(I)Z"⟩
abbrev cX4_isAshore : ByteArray := prog_6_method_9_code
def yX4_isAshore : MethodName := ⟨RX4, "isAshore", "(I)Z"⟩
abbrev cX4_isIn : ByteArray := prog_6_method_10_code
def yX4_isIn : MethodName := ⟨RX4, "isIn", "(II)Z"⟩
abbrev cX4_tideAt : ByteArray := prog_6_method_11_code
def yX4_tideAt : MethodName := ⟨RX4, "tideAt", "(I)I"⟩
abbrev cX4_liftsLeft : ByteArray := prog_6_method_12_code
def yX4_liftsLeft : MethodName := ⟨RX4, "liftsLeft", "()I"⟩
abbrev cX4_bears : ByteArray := prog_6_method_13_code
def yX4_bears : MethodName := ⟨RX4, "bears", "(I)I"⟩
abbrev cX4_taken : ByteArray := prog_6_method_14_code
def yX4_taken : MethodName := ⟨RX4, "taken", "(I)I"⟩
abbrev cX4_isFree : ByteArray := prog_6_method_15_code
def yX4_isFree : MethodName := ⟨RX4, "isFree", "(I)Z"⟩
abbrev cX4_cradleFor : ByteArray := prog_6_method_16_code
def yX4_cradleFor : MethodName := ⟨RX4, "cradleFor", "(I)I"⟩
abbrev cX4_metresTaken : ByteArray := prog_6_method_17_code
def yX4_metresTaken : MethodName := ⟨RX4, "metresTaken", "(I)I"⟩
abbrev cX4_metresLeft : ByteArray := prog_6_method_18_code
def yX4_metresLeft : MethodName := ⟨RX4, "metresLeft", "(I)I"⟩
abbrev cX4_hasRoom : ByteArray := prog_6_method_19_code
def yX4_hasRoom : MethodName := ⟨RX4, "hasRoom", "(II)Z"⟩
abbrev cX4_boatsIn : ByteArray := prog_6_method_20_code
def yX4_boatsIn : MethodName := ⟨RX4, "boatsIn", "(I)I"⟩
abbrev cX4_placeOf : ByteArray := prog_6_method_21_code
def yX4_placeOf : MethodName := ⟨RX4, "placeOf", "(I)I"⟩
abbrev cX4_blockersOf : ByteArray := prog_6_method_22_code
def yX4_blockersOf : MethodName := ⟨RX4, "blockersOf", "(I)I"⟩
abbrev cX4_boatAt : ByteArray := prog_6_method_23_code
def yX4_boatAt : MethodName := ⟨RX4, "boatAt", "(II)I"⟩
abbrev cX4_stand : ByteArray := prog_6_method_24_code
def yX4_stand : MethodName := ⟨RX4, "stand", "(II)V"⟩
abbrev cX4_mastsIn : ByteArray := prog_6_method_25_code
def yX4_mastsIn : MethodName := ⟨RX4, "mastsIn", "(I)I"⟩
abbrev cX4_boats : ByteArray := prog_6_method_26_code
def yX4_boats : MethodName := ⟨RX4, "boats", "()I"⟩
abbrev cX4_push : ByteArray := prog_6_method_27_code
def yX4_push : MethodName := ⟨RX4, "push", "([I)V"⟩
abbrev cX4_undo : ByteArray := prog_6_method_28_code
def yX4_undo : MethodName := ⟨RX4, "undo", "()I"⟩
abbrev cX4_keep : ByteArray := prog_6_method_29_code
def yX4_keep : MethodName := ⟨RX4, "keep", "()I"⟩
abbrev cX4_restore : ByteArray := prog_6_method_30_code
def yX4_restore : MethodName := ⟨RX4, "restore", "()I"⟩
abbrev cX4_come : ByteArray := prog_6_method_31_code
def yX4_come : MethodName := ⟨RX4, "come", "(IIII)I"⟩
abbrev cX4_goAway : ByteArray := prog_6_method_32_code
def yX4_goAway : MethodName := ⟨RX4, "goAway", "(I)I"⟩
abbrev cX4_change : ByteArray := prog_6_method_33_code
def yX4_change : MethodName := ⟨RX4, "change", "(II)I"⟩
abbrev cX4_setCradles : ByteArray := prog_6_method_34_code
def yX4_setCradles : MethodName := ⟨RX4, "setCradles", "(II)I"⟩
abbrev cX4_setRow : ByteArray := prog_6_method_35_code
def yX4_setRow : MethodName := ⟨RX4, "setRow", "(II)I"⟩
abbrev cX4_set : ByteArray := prog_6_method_36_code
def yX4_set : MethodName := ⟨RX4, "set", "(II)I"⟩
abbrev cX4_whyNoLift : ByteArray := prog_6_method_37_code
def yX4_whyNoLift : MethodName := ⟨RX4, "whyNoLift", "(II)I"⟩
abbrev cX4_noLift : ByteArray := prog_6_method_38_code
def yX4_noLift : MethodName := ⟨RX4, "noLift", "(II)I"⟩
abbrev cX4_useCrane : ByteArray := prog_6_method_39_code
def yX4_useCrane : MethodName := ⟨RX4, "useCrane", "()V"⟩
abbrev cX4_doLift : ByteArray := prog_6_method_40_code
def yX4_doLift : MethodName := ⟨RX4, "doLift", "(II)I"⟩
abbrev cX4_lift : ByteArray := prog_6_method_41_code
def yX4_lift : MethodName := ⟨RX4, "lift", "(II)I"⟩
abbrev cX4_whyNoLaunch : ByteArray := prog_6_method_42_code
def yX4_whyNoLaunch : MethodName := ⟨RX4, "whyNoLaunch", "(I)I"⟩
abbrev cX4_noLaunch : ByteArray := prog_6_method_43_code
def yX4_noLaunch : MethodName := ⟨RX4, "noLaunch", "(I)I"⟩
abbrev cX4_doLaunch : ByteArray := prog_6_method_44_code
def yX4_doLaunch : MethodName := ⟨RX4, "doLaunch", "(I)I"⟩
abbrev cX4_launch : ByteArray := prog_6_method_45_code
def yX4_launch : MethodName := ⟨RX4, "launch", "(I)I"⟩
abbrev cX4_noMove : ByteArray := prog_6_method_46_code
def yX4_noMove : MethodName := ⟨RX4, "noMove", "(II)I"⟩
abbrev cX4_doMove : ByteArray := prog_6_method_47_code
def yX4_doMove : MethodName := ⟨RX4, "doMove", "(II)I"⟩
abbrev cX4_move : ByteArray := prog_6_method_48_code
def yX4_move : MethodName := ⟨RX4, "move", "(II)I"⟩
abbrev cX4_rackFor : ByteArray := prog_6_method_49_code
def yX4_rackFor : MethodName := ⟨RX4, "rackFor", "(I)I"⟩
abbrev cX4_noMast : ByteArray := prog_6_method_50_code
def yX4_noMast : MethodName := ⟨RX4, "noMast", "(IZ)I"⟩
abbrev cX4_doMast : ByteArray := prog_6_method_51_code
def yX4_doMast : MethodName := ⟨RX4, "doMast", "(IZ)I"⟩
abbrev cX4_mast : ByteArray := prog_6_method_52_code
def yX4_mast : MethodName := ⟨RX4, "mast", "(IZ)I"⟩
abbrev cX4_work : ByteArray := prog_6_method_53_code
def yX4_work : MethodName := ⟨RX4, "work", "(II)I"⟩
abbrev cX4_noPass : ByteArray := prog_6_method_54_code
def yX4_noPass : MethodName := ⟨RX4, "noPass", "(I)I"⟩
abbrev cX4_doPass : ByteArray := prog_6_method_55_code
def yX4_doPass : MethodName := ⟨RX4, "doPass", "(I)I"⟩
abbrev cX4_pass : ByteArray := prog_6_method_56_code
def yX4_pass : MethodName := ⟨RX4, "pass", "(I)I"⟩
abbrev cX4_type : ByteArray := prog_6_method_57_code
def yX4_type : MethodName := ⟨RX4, "type", "(C)I"⟩
abbrev cX4_clearText : ByteArray := prog_6_method_58_code
def yX4_clearText : MethodName := ⟨RX4, "clearText", "()I"⟩
abbrev cX4_at : ByteArray := prog_6_method_59_code
def yX4_at : MethodName := ⟨RX4, "at", "(I)I"⟩
abbrev cX4_isDigit : ByteArray := prog_6_method_60_code
def yX4_isDigit : MethodName := ⟨RX4, "isDigit", "(I)Z"⟩
abbrev cX4_readNumber : ByteArray := prog_6_method_61_code
def yX4_readNumber : MethodName := ⟨RX4, "readNumber", "(III)I"⟩
abbrev cX4_readCommand : ByteArray := prog_6_method_62_code
def yX4_readCommand : MethodName := ⟨RX4, "readCommand", "(I)I"⟩
abbrev cX4_findFault : ByteArray := prog_6_method_63_code
def yX4_findFault : MethodName := ⟨RX4, "findFault", "()I"⟩
abbrev cX4_noCommand : ByteArray := prog_6_method_64_code
def yX4_noCommand : MethodName := ⟨RX4, "noCommand", "()I"⟩
abbrev cX4_doCommand : ByteArray := prog_6_method_65_code
def yX4_doCommand : MethodName := ⟨RX4, "doCommand", "()I"⟩
abbrev cX4_perform : ByteArray := prog_6_method_66_code
def yX4_perform : MethodName := ⟨RX4, "perform", "()I"⟩
abbrev cX4_stopped : ByteArray := prog_6_method_67_code
def yX4_stopped : MethodName := ⟨RX4, "stopped", "(I)I"⟩
abbrev cX4_boat : ByteArray := prog_6_method_68_code
def yX4_boat : MethodName := ⟨RX4, "boat", "(II)I"⟩
abbrev cX4_row : ByteArray := prog_6_method_69_code
def yX4_row : MethodName := ⟨RX4, "row", "(II)I"⟩
abbrev cX4_stands : ByteArray := prog_6_method_70_code
def yX4_stands : MethodName := ⟨RX4, "stands", "(II)I"⟩
abbrev cX4_cradle : ByteArray := prog_6_method_71_code
def yX4_cradle : MethodName := ⟨RX4, "cradle", "(II)I"⟩
abbrev cX4_tide : ByteArray := prog_6_method_72_code
def yX4_tide : MethodName := ⟨RX4, "tide", "(I)I"⟩
abbrev cX4_liftReason : ByteArray := prog_6_method_73_code
def yX4_liftReason : MethodName := ⟨RX4, "liftReason", "(II)I"⟩
abbrev cX4_launchReason : ByteArray := prog_6_method_74_code
def yX4_launchReason : MethodName := ⟨RX4, "launchReason", "(I)I"⟩
abbrev cX4_blockers : ByteArray := prog_6_method_75_code
def yX4_blockers : MethodName := ⟨RX4, "blockers", "(I)I"⟩
abbrev cX4_launchDay : ByteArray := prog_6_method_76_code
def yX4_launchDay : MethodName := ⟨RX4, "launchDay", "(I)I"⟩
abbrev cX4_bestRow : ByteArray := prog_6_method_77_code
def yX4_bestRow : MethodName := ⟨RX4, "bestRow", "(I)I"⟩
abbrev cX4_count : ByteArray := prog_6_method_78_code
def yX4_count : MethodName := ⟨RX4, "count", "(I)I"⟩
def RL : String := "WinterYardLaw"
abbrev cL_law : ByteArray := code
def yL_law : MethodName := ⟨RL, "law", "([I)Z"⟩
abbrev vwCl : List vw_C := [(RX0, TX0, 3), (RX1, TX1, 7), (RX2, TX2, 8), (RX3, TX3, 7), (RX4, TX4, 13)]
