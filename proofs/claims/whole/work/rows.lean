section
-- ===== PART A: goes FIRST, ahead of the names: the tables' words, and 'selects' of the private methods out of them =====
/-- a private method of a class that the tables say can be made, by its rows of tables_1 -/
def lw_okq (q : MethodName × Nat) : Prop := (q.1.cls ≠ "java/lang/invoke/MethodHandle" ∧ q.1.cls ≠ "java/lang/invoke/VarHandle") ∧ Cond.instantiable q.1.cls q.2 ∈ tables_1 ∧ Cond.privateMethod q.1 ∈ tables_1 ∧ Cond.instanceMethod q.1 ∈ tables_1
theorem lw_p0 : lw_okq (⟨"WinterYard$Yard", "forget", "(I)V"⟩, 8) := ⟨⟨by decide +kernel, by decide +kernel⟩, List.mem_of_getElem? (i := 17) (by decide +kernel), List.mem_of_getElem? (i := 23) (by decide +kernel), List.mem_of_getElem? (i := 24) (by decide +kernel)⟩
theorem lw_p1 : lw_okq (⟨"WinterYard$Yard", "note", "(III)V"⟩, 8) := ⟨⟨by decide +kernel, by decide +kernel⟩, List.mem_of_getElem? (i := 17) (by decide +kernel), List.mem_of_getElem? (i := 27) (by decide +kernel), List.mem_of_getElem? (i := 28) (by decide +kernel)⟩
theorem lw_p2 : lw_okq (⟨"WinterYard$History", "behindLatest", "()LWinterYard$Yard;"⟩, 3) := ⟨⟨by decide +kernel, by decide +kernel⟩, List.mem_of_getElem? (i := 57) (by decide +kernel), List.mem_of_getElem? (i := 135) (by decide +kernel), List.mem_of_getElem? (i := 136) (by decide +kernel)⟩
theorem lw_p3 : lw_okq (⟨"WinterYard$Yard", "lowestFreeNumber", "()I"⟩, 8) := ⟨⟨by decide +kernel, by decide +kernel⟩, List.mem_of_getElem? (i := 17) (by decide +kernel), List.mem_of_getElem? (i := 156) (by decide +kernel), List.mem_of_getElem? (i := 157) (by decide +kernel)⟩
theorem lw_p4 : lw_okq (⟨"WinterYard$Yard", "noteAfloat", "(I)V"⟩, 8) := ⟨⟨by decide +kernel, by decide +kernel⟩, List.mem_of_getElem? (i := 17) (by decide +kernel), List.mem_of_getElem? (i := 168) (by decide +kernel), List.mem_of_getElem? (i := 169) (by decide +kernel)⟩
theorem lw_p5 : lw_okq (⟨"WinterYard$Yard", "hasMast", "(I)Z"⟩, 8) := ⟨⟨by decide +kernel, by decide +kernel⟩, List.mem_of_getElem? (i := 17) (by decide +kernel), List.mem_of_getElem? (i := 188) (by decide +kernel), List.mem_of_getElem? (i := 189) (by decide +kernel)⟩
theorem lw_p6 : lw_okq (⟨"WinterYard$Yard", "boatsWith", "(II)I"⟩, 8) := ⟨⟨by decide +kernel, by decide +kernel⟩, List.mem_of_getElem? (i := 17) (by decide +kernel), List.mem_of_getElem? (i := 196) (by decide +kernel), List.mem_of_getElem? (i := 197) (by decide +kernel)⟩
theorem lw_p7 : lw_okq (⟨"WinterYard$Yard", "isDeepEnough", "(II)Z"⟩, 8) := ⟨⟨by decide +kernel, by decide +kernel⟩, List.mem_of_getElem? (i := 17) (by decide +kernel), List.mem_of_getElem? (i := 251) (by decide +kernel), List.mem_of_getElem? (i := 252) (by decide +kernel)⟩
theorem lw_p8 : lw_okq (⟨"WinterYard$Yard", "craneBears", "(I)Z"⟩, 8) := ⟨⟨by decide +kernel, by decide +kernel⟩, List.mem_of_getElem? (i := 17) (by decide +kernel), List.mem_of_getElem? (i := 262) (by decide +kernel), List.mem_of_getElem? (i := 263) (by decide +kernel)⟩
theorem lw_p9 : lw_okq (⟨"WinterYard$Yard", "cradleFor", "(I)I"⟩, 8) := ⟨⟨by decide +kernel, by decide +kernel⟩, List.mem_of_getElem? (i := 17) (by decide +kernel), List.mem_of_getElem? (i := 266) (by decide +kernel), List.mem_of_getElem? (i := 267) (by decide +kernel)⟩
theorem lw_p10 : lw_okq (⟨"WinterYard$Yard", "hasFreeCradle", "(I)Z"⟩, 8) := ⟨⟨by decide +kernel, by decide +kernel⟩, List.mem_of_getElem? (i := 17) (by decide +kernel), List.mem_of_getElem? (i := 270) (by decide +kernel), List.mem_of_getElem? (i := 271) (by decide +kernel)⟩
theorem lw_p11 : lw_okq (⟨"WinterYard$Yard", "hasRoom", "(II)Z"⟩, 8) := ⟨⟨by decide +kernel, by decide +kernel⟩, List.mem_of_getElem? (i := 17) (by decide +kernel), List.mem_of_getElem? (i := 282) (by decide +kernel), List.mem_of_getElem? (i := 283) (by decide +kernel)⟩
theorem lw_p12 : lw_okq (⟨"WinterYard$Yard", "metresLeft", "(I)I"⟩, 8) := ⟨⟨by decide +kernel, by decide +kernel⟩, List.mem_of_getElem? (i := 17) (by decide +kernel), List.mem_of_getElem? (i := 286) (by decide +kernel), List.mem_of_getElem? (i := 287) (by decide +kernel)⟩
theorem lw_p13 : lw_okq (⟨"WinterYard$Yard", "putAtOuterEnd", "(II)V"⟩, 8) := ⟨⟨by decide +kernel, by decide +kernel⟩, List.mem_of_getElem? (i := 17) (by decide +kernel), List.mem_of_getElem? (i := 301) (by decide +kernel), List.mem_of_getElem? (i := 302) (by decide +kernel)⟩
theorem lw_p14 : lw_okq (⟨"WinterYard$Yard", "takeLift", "()V"⟩, 8) := ⟨⟨by decide +kernel, by decide +kernel⟩, List.mem_of_getElem? (i := 17) (by decide +kernel), List.mem_of_getElem? (i := 309) (by decide +kernel), List.mem_of_getElem? (i := 310) (by decide +kernel)⟩
theorem lw_p15 : lw_okq (⟨"WinterYard$Yard", "standsIn", "(II)Z"⟩, 8) := ⟨⟨by decide +kernel, by decide +kernel⟩, List.mem_of_getElem? (i := 17) (by decide +kernel), List.mem_of_getElem? (i := 337) (by decide +kernel), List.mem_of_getElem? (i := 338) (by decide +kernel)⟩
def lw_privs_1 : List (MethodName × Nat) := [(⟨"WinterYard$Yard", "forget", "(I)V"⟩, 8), (⟨"WinterYard$Yard", "note", "(III)V"⟩, 8), (⟨"WinterYard$History", "behindLatest", "()LWinterYard$Yard;"⟩, 3), (⟨"WinterYard$Yard", "lowestFreeNumber", "()I"⟩, 8), (⟨"WinterYard$Yard", "noteAfloat", "(I)V"⟩, 8), (⟨"WinterYard$Yard", "hasMast", "(I)Z"⟩, 8), (⟨"WinterYard$Yard", "boatsWith", "(II)I"⟩, 8), (⟨"WinterYard$Yard", "isDeepEnough", "(II)Z"⟩, 8), (⟨"WinterYard$Yard", "craneBears", "(I)Z"⟩, 8), (⟨"WinterYard$Yard", "cradleFor", "(I)I"⟩, 8), (⟨"WinterYard$Yard", "hasFreeCradle", "(I)Z"⟩, 8), (⟨"WinterYard$Yard", "hasRoom", "(II)Z"⟩, 8), (⟨"WinterYard$Yard", "metresLeft", "(I)I"⟩, 8), (⟨"WinterYard$Yard", "putAtOuterEnd", "(II)V"⟩, 8), (⟨"WinterYard$Yard", "takeLift", "()V"⟩, 8), (⟨"WinterYard$Yard", "standsIn", "(II)Z"⟩, 8)]
theorem lw_r1 : ∀ q ∈ lw_privs_1, lw_okq q := List.forall_mem_cons.mpr ⟨lw_p0, List.forall_mem_cons.mpr ⟨lw_p1, List.forall_mem_cons.mpr ⟨lw_p2, List.forall_mem_cons.mpr ⟨lw_p3, List.forall_mem_cons.mpr ⟨lw_p4, List.forall_mem_cons.mpr ⟨lw_p5, List.forall_mem_cons.mpr ⟨lw_p6, List.forall_mem_cons.mpr ⟨lw_p7, List.forall_mem_cons.mpr ⟨lw_p8, List.forall_mem_cons.mpr ⟨lw_p9, List.forall_mem_cons.mpr ⟨lw_p10, List.forall_mem_cons.mpr ⟨lw_p11, List.forall_mem_cons.mpr ⟨lw_p12, List.forall_mem_cons.mpr ⟨lw_p13, List.forall_mem_cons.mpr ⟨lw_p14, List.forall_mem_cons.mpr ⟨lw_p15, fun _ h => absurd h List.not_mem_nil⟩⟩⟩⟩⟩⟩⟩⟩⟩⟩⟩⟩⟩⟩⟩⟩
theorem lw_p16 : lw_okq (⟨"WinterYard$Yard", "rackFor", "(I)I"⟩, 8) := ⟨⟨by decide +kernel, by decide +kernel⟩, List.mem_of_getElem? (i := 17) (by decide +kernel), List.mem_of_getElem? (i := 353) (by decide +kernel), List.mem_of_getElem? (i := 354) (by decide +kernel)⟩
theorem lw_p17 : lw_okq (⟨"WinterYard$Plan", "readThing", "()Z"⟩, 7) := ⟨⟨by decide +kernel, by decide +kernel⟩, List.mem_of_getElem? (i := 76) (by decide +kernel), List.mem_of_getElem? (i := 401) (by decide +kernel), List.mem_of_getElem? (i := 402) (by decide +kernel)⟩
theorem lw_p18 : lw_okq (⟨"WinterYard$Plan", "readNumber", "(II)I"⟩, 7) := ⟨⟨by decide +kernel, by decide +kernel⟩, List.mem_of_getElem? (i := 76) (by decide +kernel), List.mem_of_getElem? (i := 405) (by decide +kernel), List.mem_of_getElem? (i := 406) (by decide +kernel)⟩
theorem lw_p19 : lw_okq (⟨"WinterYard$Plan", "digit", "()I"⟩, 7) := ⟨⟨by decide +kernel, by decide +kernel⟩, List.mem_of_getElem? (i := 76) (by decide +kernel), List.mem_of_getElem? (i := 409) (by decide +kernel), List.mem_of_getElem? (i := 410) (by decide +kernel)⟩
theorem lw_p20 : lw_okq (⟨"WinterYard$Plan", "readCharacter", "(C)Z"⟩, 7) := ⟨⟨by decide +kernel, by decide +kernel⟩, List.mem_of_getElem? (i := 76) (by decide +kernel), List.mem_of_getElem? (i := 413) (by decide +kernel), List.mem_of_getElem? (i := 414) (by decide +kernel)⟩
theorem lw_p21 : lw_okq (⟨"WinterYard", "doThing", "(CII)I"⟩, 7) := ⟨⟨by decide +kernel, by decide +kernel⟩, List.mem_of_getElem? (i := 9) (by decide +kernel), List.mem_of_getElem? (i := 433) (by decide +kernel), List.mem_of_getElem? (i := 434) (by decide +kernel)⟩
theorem lw_p22 : lw_okq (⟨"WinterYardModel", "boats", "()I"⟩, 13) := ⟨⟨by decide +kernel, by decide +kernel⟩, List.mem_of_getElem? (i := 576) (by decide +kernel), List.mem_of_getElem? (i := 630) (by decide +kernel), List.mem_of_getElem? (i := 631) (by decide +kernel)⟩
theorem lw_p23 : lw_okq (⟨"WinterYardModel", "of", "(II)I"⟩, 13) := ⟨⟨by decide +kernel, by decide +kernel⟩, List.mem_of_getElem? (i := 576) (by decide +kernel), List.mem_of_getElem? (i := 634) (by decide +kernel), List.mem_of_getElem? (i := 635) (by decide +kernel)⟩
theorem lw_p24 : lw_okq (⟨"WinterYardModel", "push", "([I)V"⟩, 13) := ⟨⟨by decide +kernel, by decide +kernel⟩, List.mem_of_getElem? (i := 576) (by decide +kernel), List.mem_of_getElem? (i := 642) (by decide +kernel), List.mem_of_getElem? (i := 643) (by decide +kernel)⟩
theorem lw_p25 : lw_okq (⟨"WinterYardModel", "put", "(III)V"⟩, 13) := ⟨⟨by decide +kernel, by decide +kernel⟩, List.mem_of_getElem? (i := 576) (by decide +kernel), List.mem_of_getElem? (i := 656) (by decide +kernel), List.mem_of_getElem? (i := 657) (by decide +kernel)⟩
theorem lw_p26 : lw_okq (⟨"WinterYardModel", "isBoat", "(I)Z"⟩, 13) := ⟨⟨by decide +kernel, by decide +kernel⟩, List.mem_of_getElem? (i := 576) (by decide +kernel), List.mem_of_getElem? (i := 664) (by decide +kernel), List.mem_of_getElem? (i := 665) (by decide +kernel)⟩
theorem lw_p27 : lw_okq (⟨"WinterYardModel", "isAshore", "(I)Z"⟩, 13) := ⟨⟨by decide +kernel, by decide +kernel⟩, List.mem_of_getElem? (i := 576) (by decide +kernel), List.mem_of_getElem? (i := 668) (by decide +kernel), List.mem_of_getElem? (i := 669) (by decide +kernel)⟩
theorem lw_p28 : lw_okq (⟨"WinterYardModel", "taken", "(I)I"⟩, 13) := ⟨⟨by decide +kernel, by decide +kernel⟩, List.mem_of_getElem? (i := 576) (by decide +kernel), List.mem_of_getElem? (i := 676) (by decide +kernel), List.mem_of_getElem? (i := 677) (by decide +kernel)⟩
theorem lw_p29 : lw_okq (⟨"WinterYardModel", "change", "(II)I"⟩, 13) := ⟨⟨by decide +kernel, by decide +kernel⟩, List.mem_of_getElem? (i := 576) (by decide +kernel), List.mem_of_getElem? (i := 680) (by decide +kernel), List.mem_of_getElem? (i := 681) (by decide +kernel)⟩
theorem lw_p30 : lw_okq (⟨"WinterYardModel", "metresTaken", "(I)I"⟩, 13) := ⟨⟨by decide +kernel, by decide +kernel⟩, List.mem_of_getElem? (i := 576) (by decide +kernel), List.mem_of_getElem? (i := 691) (by decide +kernel), List.mem_of_getElem? (i := 692) (by decide +kernel)⟩
theorem lw_p31 : lw_okq (⟨"WinterYardModel", "isIn", "(II)Z"⟩, 13) := ⟨⟨by decide +kernel, by decide +kernel⟩, List.mem_of_getElem? (i := 576) (by decide +kernel), List.mem_of_getElem? (i := 695) (by decide +kernel), List.mem_of_getElem? (i := 696) (by decide +kernel)⟩
def lw_privs_2 : List (MethodName × Nat) := [(⟨"WinterYard$Yard", "rackFor", "(I)I"⟩, 8), (⟨"WinterYard$Plan", "readThing", "()Z"⟩, 7), (⟨"WinterYard$Plan", "readNumber", "(II)I"⟩, 7), (⟨"WinterYard$Plan", "digit", "()I"⟩, 7), (⟨"WinterYard$Plan", "readCharacter", "(C)Z"⟩, 7), (⟨"WinterYard", "doThing", "(CII)I"⟩, 7), (⟨"WinterYardModel", "boats", "()I"⟩, 13), (⟨"WinterYardModel", "of", "(II)I"⟩, 13), (⟨"WinterYardModel", "push", "([I)V"⟩, 13), (⟨"WinterYardModel", "put", "(III)V"⟩, 13), (⟨"WinterYardModel", "isBoat", "(I)Z"⟩, 13), (⟨"WinterYardModel", "isAshore", "(I)Z"⟩, 13), (⟨"WinterYardModel", "taken", "(I)I"⟩, 13), (⟨"WinterYardModel", "change", "(II)I"⟩, 13), (⟨"WinterYardModel", "metresTaken", "(I)I"⟩, 13), (⟨"WinterYardModel", "isIn", "(II)Z"⟩, 13)]
theorem lw_r2 : ∀ q ∈ lw_privs_2, lw_okq q := List.forall_mem_cons.mpr ⟨lw_p16, List.forall_mem_cons.mpr ⟨lw_p17, List.forall_mem_cons.mpr ⟨lw_p18, List.forall_mem_cons.mpr ⟨lw_p19, List.forall_mem_cons.mpr ⟨lw_p20, List.forall_mem_cons.mpr ⟨lw_p21, List.forall_mem_cons.mpr ⟨lw_p22, List.forall_mem_cons.mpr ⟨lw_p23, List.forall_mem_cons.mpr ⟨lw_p24, List.forall_mem_cons.mpr ⟨lw_p25, List.forall_mem_cons.mpr ⟨lw_p26, List.forall_mem_cons.mpr ⟨lw_p27, List.forall_mem_cons.mpr ⟨lw_p28, List.forall_mem_cons.mpr ⟨lw_p29, List.forall_mem_cons.mpr ⟨lw_p30, List.forall_mem_cons.mpr ⟨lw_p31, fun _ h => absurd h List.not_mem_nil⟩⟩⟩⟩⟩⟩⟩⟩⟩⟩⟩⟩⟩⟩⟩⟩
theorem lw_p32 : lw_okq (⟨"WinterYardModel", "noLift", "(II)I"⟩, 13) := ⟨⟨by decide +kernel, by decide +kernel⟩, List.mem_of_getElem? (i := 576) (by decide +kernel), List.mem_of_getElem? (i := 707) (by decide +kernel), List.mem_of_getElem? (i := 708) (by decide +kernel)⟩
theorem lw_p33 : lw_okq (⟨"WinterYardModel", "whyNoLift", "(II)I"⟩, 13) := ⟨⟨by decide +kernel, by decide +kernel⟩, List.mem_of_getElem? (i := 576) (by decide +kernel), List.mem_of_getElem? (i := 711) (by decide +kernel), List.mem_of_getElem? (i := 712) (by decide +kernel)⟩
theorem lw_p34 : lw_okq (⟨"WinterYardModel", "tideAt", "(I)I"⟩, 13) := ⟨⟨by decide +kernel, by decide +kernel⟩, List.mem_of_getElem? (i := 576) (by decide +kernel), List.mem_of_getElem? (i := 715) (by decide +kernel), List.mem_of_getElem? (i := 716) (by decide +kernel)⟩
theorem lw_p35 : lw_okq (⟨"WinterYardModel", "cradleFor", "(I)I"⟩, 13) := ⟨⟨by decide +kernel, by decide +kernel⟩, List.mem_of_getElem? (i := 576) (by decide +kernel), List.mem_of_getElem? (i := 719) (by decide +kernel), List.mem_of_getElem? (i := 720) (by decide +kernel)⟩
theorem lw_p36 : lw_okq (⟨"WinterYardModel", "isFree", "(I)Z"⟩, 13) := ⟨⟨by decide +kernel, by decide +kernel⟩, List.mem_of_getElem? (i := 576) (by decide +kernel), List.mem_of_getElem? (i := 723) (by decide +kernel), List.mem_of_getElem? (i := 724) (by decide +kernel)⟩
theorem lw_p37 : lw_okq (⟨"WinterYardModel", "hasRoom", "(II)Z"⟩, 13) := ⟨⟨by decide +kernel, by decide +kernel⟩, List.mem_of_getElem? (i := 576) (by decide +kernel), List.mem_of_getElem? (i := 730) (by decide +kernel), List.mem_of_getElem? (i := 731) (by decide +kernel)⟩
theorem lw_p38 : lw_okq (⟨"WinterYardModel", "metresLeft", "(I)I"⟩, 13) := ⟨⟨by decide +kernel, by decide +kernel⟩, List.mem_of_getElem? (i := 576) (by decide +kernel), List.mem_of_getElem? (i := 734) (by decide +kernel), List.mem_of_getElem? (i := 735) (by decide +kernel)⟩
theorem lw_p39 : lw_okq (⟨"WinterYardModel", "liftsLeft", "()I"⟩, 13) := ⟨⟨by decide +kernel, by decide +kernel⟩, List.mem_of_getElem? (i := 576) (by decide +kernel), List.mem_of_getElem? (i := 738) (by decide +kernel), List.mem_of_getElem? (i := 739) (by decide +kernel)⟩
theorem lw_p40 : lw_okq (⟨"WinterYardModel", "doLift", "(II)I"⟩, 13) := ⟨⟨by decide +kernel, by decide +kernel⟩, List.mem_of_getElem? (i := 576) (by decide +kernel), List.mem_of_getElem? (i := 742) (by decide +kernel), List.mem_of_getElem? (i := 743) (by decide +kernel)⟩
theorem lw_p41 : lw_okq (⟨"WinterYardModel", "stand", "(II)V"⟩, 13) := ⟨⟨by decide +kernel, by decide +kernel⟩, List.mem_of_getElem? (i := 576) (by decide +kernel), List.mem_of_getElem? (i := 746) (by decide +kernel), List.mem_of_getElem? (i := 747) (by decide +kernel)⟩
theorem lw_p42 : lw_okq (⟨"WinterYardModel", "useCrane", "()V"⟩, 13) := ⟨⟨by decide +kernel, by decide +kernel⟩, List.mem_of_getElem? (i := 576) (by decide +kernel), List.mem_of_getElem? (i := 750) (by decide +kernel), List.mem_of_getElem? (i := 751) (by decide +kernel)⟩
theorem lw_p43 : lw_okq (⟨"WinterYardModel", "boatsIn", "(I)I"⟩, 13) := ⟨⟨by decide +kernel, by decide +kernel⟩, List.mem_of_getElem? (i := 576) (by decide +kernel), List.mem_of_getElem? (i := 754) (by decide +kernel), List.mem_of_getElem? (i := 755) (by decide +kernel)⟩
theorem lw_p44 : lw_okq (⟨"WinterYardModel", "noLaunch", "(I)I"⟩, 13) := ⟨⟨by decide +kernel, by decide +kernel⟩, List.mem_of_getElem? (i := 576) (by decide +kernel), List.mem_of_getElem? (i := 762) (by decide +kernel), List.mem_of_getElem? (i := 763) (by decide +kernel)⟩
theorem lw_p45 : lw_okq (⟨"WinterYardModel", "whyNoLaunch", "(I)I"⟩, 13) := ⟨⟨by decide +kernel, by decide +kernel⟩, List.mem_of_getElem? (i := 576) (by decide +kernel), List.mem_of_getElem? (i := 766) (by decide +kernel), List.mem_of_getElem? (i := 767) (by decide +kernel)⟩
theorem lw_p46 : lw_okq (⟨"WinterYardModel", "blockersOf", "(I)I"⟩, 13) := ⟨⟨by decide +kernel, by decide +kernel⟩, List.mem_of_getElem? (i := 576) (by decide +kernel), List.mem_of_getElem? (i := 770) (by decide +kernel), List.mem_of_getElem? (i := 771) (by decide +kernel)⟩
theorem lw_p47 : lw_okq (⟨"WinterYardModel", "placeOf", "(I)I"⟩, 13) := ⟨⟨by decide +kernel, by decide +kernel⟩, List.mem_of_getElem? (i := 576) (by decide +kernel), List.mem_of_getElem? (i := 774) (by decide +kernel), List.mem_of_getElem? (i := 775) (by decide +kernel)⟩
def lw_privs_3 : List (MethodName × Nat) := [(⟨"WinterYardModel", "noLift", "(II)I"⟩, 13), (⟨"WinterYardModel", "whyNoLift", "(II)I"⟩, 13), (⟨"WinterYardModel", "tideAt", "(I)I"⟩, 13), (⟨"WinterYardModel", "cradleFor", "(I)I"⟩, 13), (⟨"WinterYardModel", "isFree", "(I)Z"⟩, 13), (⟨"WinterYardModel", "hasRoom", "(II)Z"⟩, 13), (⟨"WinterYardModel", "metresLeft", "(I)I"⟩, 13), (⟨"WinterYardModel", "liftsLeft", "()I"⟩, 13), (⟨"WinterYardModel", "doLift", "(II)I"⟩, 13), (⟨"WinterYardModel", "stand", "(II)V"⟩, 13), (⟨"WinterYardModel", "useCrane", "()V"⟩, 13), (⟨"WinterYardModel", "boatsIn", "(I)I"⟩, 13), (⟨"WinterYardModel", "noLaunch", "(I)I"⟩, 13), (⟨"WinterYardModel", "whyNoLaunch", "(I)I"⟩, 13), (⟨"WinterYardModel", "blockersOf", "(I)I"⟩, 13), (⟨"WinterYardModel", "placeOf", "(I)I"⟩, 13)]
theorem lw_r3 : ∀ q ∈ lw_privs_3, lw_okq q := List.forall_mem_cons.mpr ⟨lw_p32, List.forall_mem_cons.mpr ⟨lw_p33, List.forall_mem_cons.mpr ⟨lw_p34, List.forall_mem_cons.mpr ⟨lw_p35, List.forall_mem_cons.mpr ⟨lw_p36, List.forall_mem_cons.mpr ⟨lw_p37, List.forall_mem_cons.mpr ⟨lw_p38, List.forall_mem_cons.mpr ⟨lw_p39, List.forall_mem_cons.mpr ⟨lw_p40, List.forall_mem_cons.mpr ⟨lw_p41, List.forall_mem_cons.mpr ⟨lw_p42, List.forall_mem_cons.mpr ⟨lw_p43, List.forall_mem_cons.mpr ⟨lw_p44, List.forall_mem_cons.mpr ⟨lw_p45, List.forall_mem_cons.mpr ⟨lw_p46, List.forall_mem_cons.mpr ⟨lw_p47, fun _ h => absurd h List.not_mem_nil⟩⟩⟩⟩⟩⟩⟩⟩⟩⟩⟩⟩⟩⟩⟩⟩
theorem lw_p48 : lw_okq (⟨"WinterYardModel", "doLaunch", "(I)I"⟩, 13) := ⟨⟨by decide +kernel, by decide +kernel⟩, List.mem_of_getElem? (i := 576) (by decide +kernel), List.mem_of_getElem? (i := 778) (by decide +kernel), List.mem_of_getElem? (i := 779) (by decide +kernel)⟩
theorem lw_p49 : lw_okq (⟨"WinterYardModel", "noMove", "(II)I"⟩, 13) := ⟨⟨by decide +kernel, by decide +kernel⟩, List.mem_of_getElem? (i := 576) (by decide +kernel), List.mem_of_getElem? (i := 786) (by decide +kernel), List.mem_of_getElem? (i := 787) (by decide +kernel)⟩
theorem lw_p50 : lw_okq (⟨"WinterYardModel", "doMove", "(II)I"⟩, 13) := ⟨⟨by decide +kernel, by decide +kernel⟩, List.mem_of_getElem? (i := 576) (by decide +kernel), List.mem_of_getElem? (i := 790) (by decide +kernel), List.mem_of_getElem? (i := 791) (by decide +kernel)⟩
theorem lw_p51 : lw_okq (⟨"WinterYardModel", "noMast", "(IZ)I"⟩, 13) := ⟨⟨by decide +kernel, by decide +kernel⟩, List.mem_of_getElem? (i := 576) (by decide +kernel), List.mem_of_getElem? (i := 798) (by decide +kernel), List.mem_of_getElem? (i := 799) (by decide +kernel)⟩
theorem lw_p52 : lw_okq (⟨"WinterYardModel", "rackFor", "(I)I"⟩, 13) := ⟨⟨by decide +kernel, by decide +kernel⟩, List.mem_of_getElem? (i := 576) (by decide +kernel), List.mem_of_getElem? (i := 802) (by decide +kernel), List.mem_of_getElem? (i := 803) (by decide +kernel)⟩
theorem lw_p53 : lw_okq (⟨"WinterYardModel", "mastsIn", "(I)I"⟩, 13) := ⟨⟨by decide +kernel, by decide +kernel⟩, List.mem_of_getElem? (i := 576) (by decide +kernel), List.mem_of_getElem? (i := 806) (by decide +kernel), List.mem_of_getElem? (i := 807) (by decide +kernel)⟩
theorem lw_p54 : lw_okq (⟨"WinterYardModel", "doMast", "(IZ)I"⟩, 13) := ⟨⟨by decide +kernel, by decide +kernel⟩, List.mem_of_getElem? (i := 576) (by decide +kernel), List.mem_of_getElem? (i := 810) (by decide +kernel), List.mem_of_getElem? (i := 811) (by decide +kernel)⟩
theorem lw_p55 : lw_okq (⟨"WinterYardModel", "noPass", "(I)I"⟩, 13) := ⟨⟨by decide +kernel, by decide +kernel⟩, List.mem_of_getElem? (i := 576) (by decide +kernel), List.mem_of_getElem? (i := 822) (by decide +kernel), List.mem_of_getElem? (i := 823) (by decide +kernel)⟩
theorem lw_p56 : lw_okq (⟨"WinterYardModel", "doPass", "(I)I"⟩, 13) := ⟨⟨by decide +kernel, by decide +kernel⟩, List.mem_of_getElem? (i := 576) (by decide +kernel), List.mem_of_getElem? (i := 826) (by decide +kernel), List.mem_of_getElem? (i := 827) (by decide +kernel)⟩
theorem lw_p57 : lw_okq (⟨"WinterYardModel", "findFault", "()I"⟩, 13) := ⟨⟨by decide +kernel, by decide +kernel⟩, List.mem_of_getElem? (i := 576) (by decide +kernel), List.mem_of_getElem? (i := 842) (by decide +kernel), List.mem_of_getElem? (i := 843) (by decide +kernel)⟩
theorem lw_p58 : lw_okq (⟨"WinterYardModel", "readCommand", "(I)I"⟩, 13) := ⟨⟨by decide +kernel, by decide +kernel⟩, List.mem_of_getElem? (i := 576) (by decide +kernel), List.mem_of_getElem? (i := 846) (by decide +kernel), List.mem_of_getElem? (i := 847) (by decide +kernel)⟩
theorem lw_p59 : lw_okq (⟨"WinterYardModel", "at", "(I)I"⟩, 13) := ⟨⟨by decide +kernel, by decide +kernel⟩, List.mem_of_getElem? (i := 576) (by decide +kernel), List.mem_of_getElem? (i := 850) (by decide +kernel), List.mem_of_getElem? (i := 851) (by decide +kernel)⟩
theorem lw_p60 : lw_okq (⟨"WinterYardModel", "readNumber", "(III)I"⟩, 13) := ⟨⟨by decide +kernel, by decide +kernel⟩, List.mem_of_getElem? (i := 576) (by decide +kernel), List.mem_of_getElem? (i := 854) (by decide +kernel), List.mem_of_getElem? (i := 855) (by decide +kernel)⟩
theorem lw_p61 : lw_okq (⟨"WinterYardModel", "noCommand", "()I"⟩, 13) := ⟨⟨by decide +kernel, by decide +kernel⟩, List.mem_of_getElem? (i := 576) (by decide +kernel), List.mem_of_getElem? (i := 861) (by decide +kernel), List.mem_of_getElem? (i := 862) (by decide +kernel)⟩
theorem lw_p62 : lw_okq (⟨"WinterYardModel", "doCommand", "()I"⟩, 13) := ⟨⟨by decide +kernel, by decide +kernel⟩, List.mem_of_getElem? (i := 576) (by decide +kernel), List.mem_of_getElem? (i := 865) (by decide +kernel), List.mem_of_getElem? (i := 866) (by decide +kernel)⟩
theorem lw_p63 : lw_okq (⟨"WinterYardModel", "boatAt", "(II)I"⟩, 13) := ⟨⟨by decide +kernel, by decide +kernel⟩, List.mem_of_getElem? (i := 576) (by decide +kernel), List.mem_of_getElem? (i := 881) (by decide +kernel), List.mem_of_getElem? (i := 882) (by decide +kernel)⟩
def lw_privs_4 : List (MethodName × Nat) := [(⟨"WinterYardModel", "doLaunch", "(I)I"⟩, 13), (⟨"WinterYardModel", "noMove", "(II)I"⟩, 13), (⟨"WinterYardModel", "doMove", "(II)I"⟩, 13), (⟨"WinterYardModel", "noMast", "(IZ)I"⟩, 13), (⟨"WinterYardModel", "rackFor", "(I)I"⟩, 13), (⟨"WinterYardModel", "mastsIn", "(I)I"⟩, 13), (⟨"WinterYardModel", "doMast", "(IZ)I"⟩, 13), (⟨"WinterYardModel", "noPass", "(I)I"⟩, 13), (⟨"WinterYardModel", "doPass", "(I)I"⟩, 13), (⟨"WinterYardModel", "findFault", "()I"⟩, 13), (⟨"WinterYardModel", "readCommand", "(I)I"⟩, 13), (⟨"WinterYardModel", "at", "(I)I"⟩, 13), (⟨"WinterYardModel", "readNumber", "(III)I"⟩, 13), (⟨"WinterYardModel", "noCommand", "()I"⟩, 13), (⟨"WinterYardModel", "doCommand", "()I"⟩, 13), (⟨"WinterYardModel", "boatAt", "(II)I"⟩, 13)]
theorem lw_r4 : ∀ q ∈ lw_privs_4, lw_okq q := List.forall_mem_cons.mpr ⟨lw_p48, List.forall_mem_cons.mpr ⟨lw_p49, List.forall_mem_cons.mpr ⟨lw_p50, List.forall_mem_cons.mpr ⟨lw_p51, List.forall_mem_cons.mpr ⟨lw_p52, List.forall_mem_cons.mpr ⟨lw_p53, List.forall_mem_cons.mpr ⟨lw_p54, List.forall_mem_cons.mpr ⟨lw_p55, List.forall_mem_cons.mpr ⟨lw_p56, List.forall_mem_cons.mpr ⟨lw_p57, List.forall_mem_cons.mpr ⟨lw_p58, List.forall_mem_cons.mpr ⟨lw_p59, List.forall_mem_cons.mpr ⟨lw_p60, List.forall_mem_cons.mpr ⟨lw_p61, List.forall_mem_cons.mpr ⟨lw_p62, List.forall_mem_cons.mpr ⟨lw_p63, fun _ h => absurd h List.not_mem_nil⟩⟩⟩⟩⟩⟩⟩⟩⟩⟩⟩⟩⟩⟩⟩⟩
def lw_privs : List (MethodName × Nat) := lw_privs_1 ++ (lw_privs_2 ++ (lw_privs_3 ++ (lw_privs_4)))
def lw_tbl : List Cond := k2_sels lw_privs ++ tables_1
theorem lw_privs_ok : ∀ q ∈ lw_privs, lw_okq q := by
  show ∀ q ∈ lw_privs_1 ++ (lw_privs_2 ++ (lw_privs_3 ++ (lw_privs_4))), lw_okq q
  exact List.forall_mem_append.mpr ⟨lw_r1, List.forall_mem_append.mpr ⟨lw_r2, List.forall_mem_append.mpr ⟨lw_r3, lw_r4⟩⟩⟩
def RX0 : String := "WinterYard$History"
def TX0 : u_T := fun k => match k with
  | 0 => ("WinterYard$History", "slots", "[LWinterYard$Yard;", true)
  | 1 => ("WinterYard$History", "oldest", "I", false)
  | _ => ("WinterYard$History", "recorded", "I", false)
def tyX0 : Nat → FieldType := fun k => match k with
  | 0 => .array (.object "WinterYard$Yard")
  | 1 => .int
  | _ => .int
abbrev wsX00 : List Cond := u_ws RX0 TX0 3
theorem nmX0 : ∀ a, a < 3 → ∀ b, b < 3 → a ≠ b → (TX0 a).2.1 ≠ (TX0 b).2.1 := by decide +kernel
theorem tyX0_ok : ∀ k, k < 3 → parseFieldDescriptor (TX0 k).2.2.1 = some (tyX0 k) := by decide +kernel
abbrev cX0_init : ByteArray := prog_2_method_1_code
def yX0_init : MethodName := ⟨RX0, "<init>", "()V"⟩
abbrev cX0_states : ByteArray := prog_2_method_2_code
def yX0_states : MethodName := ⟨RX0, "states", "()I"⟩
abbrev cX0_behindLatest : ByteArray := prog_2_method_3_code
def yX0_behindLatest : MethodName := ⟨RX0, "behindLatest", "()LWinterYard$Yard;"⟩
abbrev cX0_prepare : ByteArray := prog_2_method_4_code
def yX0_prepare : MethodName := ⟨RX0, "prepare", "(LWinterYard$Yard;)V"⟩
abbrev cX0_settle : ByteArray := prog_2_method_5_code
def yX0_settle : MethodName := ⟨RX0, "settle", "(I)I"⟩
abbrev cX0_takeBack : ByteArray := prog_2_method_6_code
def yX0_takeBack : MethodName := ⟨RX0, "takeBack", "(LWinterYard$Yard;)V"⟩
abbrev cX0_stepBack : ByteArray := prog_2_method_7_code
def yX0_stepBack : MethodName := ⟨RX0, "stepBack", "(LWinterYard$Yard;)I"⟩
def RX1 : String := "WinterYard$Plan"
def TX1 : u_T := fun k => match k with
  | 0 => ("WinterYard$Plan", "text", "[C", true)
  | 1 => ("WinterYard$Plan", "length", "I", false)
  | 2 => ("WinterYard$Plan", "at", "I", false)
  | 3 => ("WinterYard$Plan", "signs", "[C", true)
  | 4 => ("WinterYard$Plan", "firsts", "[I", true)
  | 5 => ("WinterYard$Plan", "seconds", "[I", true)
  | _ => ("WinterYard$Plan", "things", "I", false)
def tyX1 : Nat → FieldType := fun k => match k with
  | 0 => .array .char
  | 1 => .int
  | 2 => .int
  | 3 => .array .char
  | 4 => .array .int
  | 5 => .array .int
  | _ => .int
abbrev wsX10 : List Cond := u_ws RX1 TX1 7
theorem nmX1 : ∀ a, a < 7 → ∀ b, b < 7 → a ≠ b → (TX1 a).2.1 ≠ (TX1 b).2.1 := by decide +kernel
theorem tyX1_ok : ∀ k, k < 7 → parseFieldDescriptor (TX1 k).2.2.1 = some (tyX1 k) := by decide +kernel
abbrev cX1_init : ByteArray := prog_3_method_1_code
def yX1_init : MethodName := ⟨RX1, "<init>", "()V"⟩
abbrev cX1_length : ByteArray := prog_3_method_2_code
def yX1_length : MethodName := ⟨RX1, "length", "()I"⟩
abbrev cX1_append : ByteArray := prog_3_method_3_code
def yX1_append : MethodName := ⟨RX1, "append", "(C)I"⟩
abbrev cX1_empty : ByteArray := prog_3_method_4_code
def yX1_empty : MethodName := ⟨RX1, "empty", "()I"⟩
abbrev cX1_things : ByteArray := prog_3_method_5_code
def yX1_things : MethodName := ⟨RX1, "things", "()I"⟩
abbrev cX1_sign : ByteArray := prog_3_method_6_code
def yX1_sign : MethodName := ⟨RX1, "sign", "(I)C"⟩
abbrev cX1_first : ByteArray := prog_3_method_7_code
def yX1_first : MethodName := ⟨RX1, "first", "(I)I"⟩
abbrev cX1_second : ByteArray := prog_3_method_8_code
def yX1_second : MethodName := ⟨RX1, "second", "(I)I"⟩
abbrev cX1_read : ByteArray := prog_3_method_9_code
def yX1_read : MethodName := ⟨RX1, "read", "()I"⟩
abbrev cX1_readThing : ByteArray := prog_3_method_10_code
def yX1_readThing : MethodName := ⟨RX1, "readThing", "()Z"⟩
abbrev cX1_readCharacter : ByteArray := prog_3_method_11_code
def yX1_readCharacter : MethodName := ⟨RX1, "readCharacter", "(C)Z"⟩
abbrev cX1_readNumber : ByteArray := prog_3_method_12_code
def yX1_readNumber : MethodName := ⟨RX1, "readNumber", "(II)I"⟩
abbrev cX1_digit : ByteArray := prog_3_method_13_code
def yX1_digit : MethodName := ⟨RX1, "digit", "()I"⟩
def RX2 : String := "WinterYard$Yard"
def TX2 : u_T := fun k => match k with
  | 0 => ("WinterYard$Yard", "facts", "[I", true)
  | 1 => ("WinterYard$Yard", "cradles", "[I", true)
  | 2 => ("WinterYard$Yard", "metres", "[I", true)
  | 3 => ("WinterYard$Yard", "settings", "[I", true)
  | 4 => ("WinterYard$Yard", "day", "I", false)
  | 5 => ("WinterYard$Yard", "liftsToday", "I", false)
  | 6 => ("WinterYard$Yard", "lifts", "I", false)
  | _ => ("WinterYard$Yard", "launches", "I", false)
def tyX2 : Nat → FieldType := fun k => match k with
  | 0 => .array .int
  | 1 => .array .int
  | 2 => .array .int
  | 3 => .array .int
  | 4 => .int
  | 5 => .int
  | 6 => .int
  | _ => .int
abbrev wsX20 : List Cond := u_ws RX2 TX2 8
theorem nmX2 : ∀ a, a < 8 → ∀ b, b < 8 → a ≠ b → (TX2 a).2.1 ≠ (TX2 b).2.1 := by decide +kernel
theorem tyX2_ok : ∀ k, k < 8 → parseFieldDescriptor (TX2 k).2.2.1 = some (tyX2 k) := by decide +kernel
abbrev cX2_init : ByteArray := prog_4_method_1_code
def yX2_init : MethodName := ⟨RX2, "<init>", "()V"⟩
abbrev cX2_copyFrom : ByteArray := prog_4_method_2_code
def yX2_copyFrom : MethodName := ⟨RX2, "copyFrom", "(LWinterYard$Yard;)V"⟩
abbrev cX2_isFact : ByteArray := prog_4_method_3_code
def yX2_isFact : MethodName := ⟨RX2, "isFact", "(I)Z"⟩
abbrev cX2_isRow : ByteArray := prog_4_method_4_code
def yX2_isRow : MethodName := ⟨RX2, "isRow", "(I)Z"⟩
abbrev cX2_isKind : ByteArray := prog_4_method_5_code
def yX2_isKind : MethodName := ⟨RX2, "isKind", "(I)Z"⟩
abbrev cX2_knows : ByteArray := prog_4_method_6_code
def yX2_knows : MethodName := ⟨RX2, "knows", "(I)Z"⟩
abbrev cX2_fact : ByteArray := prog_4_method_7_code
def yX2_fact : MethodName := ⟨RX2, "fact", "(II)I"⟩
abbrev cX2_note : ByteArray := prog_4_method_8_code
def yX2_note : MethodName := ⟨RX2, "note", "(III)V"⟩
abbrev cX2_forget : ByteArray := prog_4_method_9_code
def yX2_forget : MethodName := ⟨RX2, "forget", "(I)V"⟩
abbrev cX2_boatsWith : ByteArray := prog_4_method_10_code
def yX2_boatsWith : MethodName := ⟨RX2, "boatsWith", "(II)I"⟩
abbrev cX2_addBoat : ByteArray := prog_4_method_11_code
def yX2_addBoat : MethodName := ⟨RX2, "addBoat", "(IIII)I"⟩
abbrev cX2_lowestFreeNumber : ByteArray := prog_4_method_12_code
def yX2_lowestFreeNumber : MethodName := ⟨RX2, "lowestFreeNumber", "()I"⟩
abbrev cX2_noteAfloat : ByteArray := prog_4_method_13_code
def yX2_noteAfloat : MethodName := ⟨RX2, "noteAfloat", "(I)V"⟩
abbrev cX2_removeBoat : ByteArray := prog_4_method_14_code
def yX2_removeBoat : MethodName := ⟨RX2, "removeBoat", "(I)I"⟩
abbrev cX2_boats : ByteArray := prog_4_method_15_code
def yX2_boats : MethodName := ⟨RX2, "boats", "()I"⟩
abbrev cX2_isAshore : ByteArray := prog_4_method_16_code
def yX2_isAshore : MethodName := ⟨RX2, "isAshore", "(I)Z"⟩
abbrev cX2_boatsAshore : ByteArray := prog_4_method_17_code
def yX2_boatsAshore : MethodName := ⟨RX2, "boatsAshore", "()I"⟩
abbrev cX2_cradlesOf : ByteArray := prog_4_method_18_code
def yX2_cradlesOf : MethodName := ⟨RX2, "cradlesOf", "(I)I"⟩
abbrev cX2_cradlesTaken : ByteArray := prog_4_method_19_code
def yX2_cradlesTaken : MethodName := ⟨RX2, "cradlesTaken", "(I)I"⟩
abbrev cX2_bears : ByteArray := prog_4_method_20_code
def yX2_bears : MethodName := ⟨RX2, "bears", "(I)I"⟩
abbrev cX2_changeCradles : ByteArray := prog_4_method_21_code
def yX2_changeCradles : MethodName := ⟨RX2, "changeCradles", "(II)I"⟩
abbrev cX2_hasFreeCradle : ByteArray := prog_4_method_22_code
def yX2_hasFreeCradle : MethodName := ⟨RX2, "hasFreeCradle", "(I)Z"⟩
abbrev cX2_cradleFor : ByteArray := prog_4_method_23_code
def yX2_cradleFor : MethodName := ⟨RX2, "cradleFor", "(I)I"⟩
abbrev cX2_otherKindFor : ByteArray := prog_4_method_24_code
def yX2_otherKindFor : MethodName := ⟨RX2, "otherKindFor", "(I)I"⟩
abbrev cX2_metresOf : ByteArray := prog_4_method_25_code
def yX2_metresOf : MethodName := ⟨RX2, "metresOf", "(I)I"⟩
abbrev cX2_standsIn : ByteArray := prog_4_method_26_code
def yX2_standsIn : MethodName := ⟨RX2, "standsIn", "(II)Z"⟩
abbrev cX2_metresTaken : ByteArray := prog_4_method_27_code
def yX2_metresTaken : MethodName := ⟨RX2, "metresTaken", "(I)I"⟩
abbrev cX2_metresLeft : ByteArray := prog_4_method_28_code
def yX2_metresLeft : MethodName := ⟨RX2, "metresLeft", "(I)I"⟩
abbrev cX2_hasRoom : ByteArray := prog_4_method_29_code
def yX2_hasRoom : MethodName := ⟨RX2, "hasRoom", "(II)Z"⟩
abbrev cX2_boatsIn : ByteArray := prog_4_method_30_code
def yX2_boatsIn : MethodName := ⟨RX2, "boatsIn", "(I)I"⟩
abbrev cX2_boatAt : ByteArray := prog_4_method_31_code
def yX2_boatAt : MethodName := ⟨RX2, "boatAt", "(II)I"⟩
abbrev cX2_boatsFartherOut : ByteArray := prog_4_method_32_code
def yX2_boatsFartherOut : MethodName := ⟨RX2, "boatsFartherOut", "(I)I"⟩
abbrev cX2_changeRow : ByteArray := prog_4_method_33_code
def yX2_changeRow : MethodName := ⟨RX2, "changeRow", "(II)I"⟩
abbrev cX2_tightestRow : ByteArray := prog_4_method_34_code
def yX2_tightestRow : MethodName := ⟨RX2, "tightestRow", "(I)I"⟩
abbrev cX2_putAtOuterEnd : ByteArray := prog_4_method_35_code
def yX2_putAtOuterEnd : MethodName := ⟨RX2, "putAtOuterEnd", "(II)V"⟩
abbrev cX2_setting : ByteArray := prog_4_method_36_code
def yX2_setting : MethodName := ⟨RX2, "setting", "(I)I"⟩
abbrev cX2_changeSetting : ByteArray := prog_4_method_37_code
def yX2_changeSetting : MethodName := ⟨RX2, "changeSetting", "(II)I"⟩
abbrev cX2_liftsLeft : ByteArray := prog_4_method_38_code
def yX2_liftsLeft : MethodName := ⟨RX2, "liftsLeft", "()I"⟩
abbrev cX2_liftsSoFar : ByteArray := prog_4_method_39_code
def yX2_liftsSoFar : MethodName := ⟨RX2, "liftsSoFar", "()I"⟩
abbrev cX2_launchesSoFar : ByteArray := prog_4_method_40_code
def yX2_launchesSoFar : MethodName := ⟨RX2, "launchesSoFar", "()I"⟩
abbrev cX2_takeLift : ByteArray := prog_4_method_41_code
def yX2_takeLift : MethodName := ⟨RX2, "takeLift", "()V"⟩
abbrev cX2_craneBears : ByteArray := prog_4_method_42_code
def yX2_craneBears : MethodName := ⟨RX2, "craneBears", "(I)Z"⟩
abbrev cX2_isDeepEnough : ByteArray := prog_4_method_43_code
def yX2_isDeepEnough : MethodName := ⟨RX2, "isDeepEnough", "(II)Z"⟩
abbrev cX2_whyNoLift : ByteArray := prog_4_method_44_code
def yX2_whyNoLift : MethodName := ⟨RX2, "whyNoLift", "(II)I"⟩
abbrev cX2_liftInto : ByteArray := prog_4_method_45_code
def yX2_liftInto : MethodName := ⟨RX2, "liftInto", "(II)I"⟩
abbrev cX2_whyNoLaunch : ByteArray := prog_4_method_46_code
def yX2_whyNoLaunch : MethodName := ⟨RX2, "whyNoLaunch", "(I)I"⟩
abbrev cX2_putAfloat : ByteArray := prog_4_method_47_code
def yX2_putAfloat : MethodName := ⟨RX2, "putAfloat", "(I)I"⟩
abbrev cX2_firstLaunchDay : ByteArray := prog_4_method_48_code
def yX2_firstLaunchDay : MethodName := ⟨RX2, "firstLaunchDay", "(I)I"⟩
abbrev cX2_moveTo : ByteArray := prog_4_method_49_code
def yX2_moveTo : MethodName := ⟨RX2, "moveTo", "(II)I"⟩
abbrev cX2_hasMast : ByteArray := prog_4_method_50_code
def yX2_hasMast : MethodName := ⟨RX2, "hasMast", "(I)Z"⟩
abbrev cX2_mastsIn : ByteArray := prog_4_method_51_code
def yX2_mastsIn : MethodName := ⟨RX2, "mastsIn", "(I)I"⟩
abbrev cX2_rackFor : ByteArray := prog_4_method_52_code
def yX2_rackFor : MethodName := ⟨RX2, "rackFor", "(I)I"⟩
abbrev cX2_takeMastOff : ByteArray := prog_4_method_53_code
def yX2_takeMastOff : MethodName := ⟨RX2, "takeMastOff", "(I)I"⟩
abbrev cX2_putMastUp : ByteArray := prog_4_method_54_code
def yX2_putMastUp : MethodName := ⟨RX2, "putMastUp", "(I)I"⟩
abbrev cX2_orderWork : ByteArray := prog_4_method_55_code
def yX2_orderWork : MethodName := ⟨RX2, "orderWork", "(II)I"⟩
abbrev cX2_boatsWithWork : ByteArray := prog_4_method_56_code
def yX2_boatsWithWork : MethodName := ⟨RX2, "boatsWithWork", "()I"⟩
abbrev cX2_today : ByteArray := prog_4_method_57_code
def yX2_today : MethodName := ⟨RX2, "today", "()I"⟩
abbrev cX2_tideOn : ByteArray := prog_4_method_58_code
def yX2_tideOn : MethodName := ⟨RX2, "tideOn", "(I)I"⟩
abbrev cX2_letPass : ByteArray := prog_4_method_59_code
def yX2_letPass : MethodName := ⟨RX2, "letPass", "(I)I"⟩
def RX3 : String := "WinterYard"
def TX3 : u_T := fun k => match k with
  | 0 => ("WinterYard", "yard", "LWinterYard$Yard;", true)
  | 1 => ("WinterYard", "snapshot", "LWinterYard$Yard;", true)
  | 2 => ("WinterYard", "hasSnapshot", "Z", false)
  | 3 => ("WinterYard", "history", "LWinterYard$History;", true)
  | 4 => ("WinterYard", "plan", "LWinterYard$Plan;", true)
  | 5 => ("WinterYard", "stopNumber", "I", false)
  | _ => ("WinterYard", "stopError", "I", false)
def tyX3 : Nat → FieldType := fun k => match k with
  | 0 => .object "WinterYard$Yard"
  | 1 => .object "WinterYard$Yard"
  | 2 => .boolean
  | 3 => .object "WinterYard$History"
  | 4 => .object "WinterYard$Plan"
  | 5 => .int
  | _ => .int
abbrev wsX30 : List Cond := u_ws RX3 TX3 7
theorem nmX3 : ∀ a, a < 7 → ∀ b, b < 7 → a ≠ b → (TX3 a).2.1 ≠ (TX3 b).2.1 := by decide +kernel
theorem tyX3_ok : ∀ k, k < 7 → parseFieldDescriptor (TX3 k).2.2.1 = some (tyX3 k) := by decide +kernel
abbrev cX3_init : ByteArray := prog_1_method_1_code
def yX3_init : MethodName := ⟨RX3, "<init>", "()V"⟩
abbrev cX3_come : ByteArray := prog_1_method_2_code
def yX3_come : MethodName := ⟨RX3, "come", "(IIII)I"⟩
abbrev cX3_goAway : ByteArray := prog_1_method_3_code
def yX3_goAway : MethodName := ⟨RX3, "goAway", "(I)I"⟩
abbrev cX3_setCradles : ByteArray := prog_1_method_4_code
def yX3_setCradles : MethodName := ⟨RX3, "setCradles", "(II)I"⟩
abbrev cX3_setRow : ByteArray := prog_1_method_5_code
def yX3_setRow : MethodName := ⟨RX3, "setRow", "(II)I"⟩
abbrev cX3_set : ByteArray := prog_1_method_6_code
def yX3_set : MethodName := ⟨RX3, "set", "(II)I"⟩
abbrev cX3_lift : ByteArray := prog_1_method_7_code
def yX3_lift : MethodName := ⟨RX3, "lift", "(II)I"⟩
abbrev cX3_launch : ByteArray := prog_1_method_8_code
def yX3_launch : MethodName := ⟨RX3, "launch", "(I)I"⟩
abbrev cX3_move : ByteArray := prog_1_method_9_code
def yX3_move : MethodName := ⟨RX3, "move", "(II)I"⟩
abbrev cX3_mast : ByteArray := prog_1_method_10_code
def yX3_mast : MethodName := ⟨RX3, "mast", "(IZ)I"⟩
abbrev cX3_work : ByteArray := prog_1_method_11_code
def yX3_work : MethodName := ⟨RX3, "work", "(II)I"⟩
abbrev cX3_pass : ByteArray := prog_1_method_12_code
def yX3_pass : MethodName := ⟨RX3, "pass", "(I)I"⟩
abbrev cX3_type : ByteArray := prog_1_method_13_code
def yX3_type : MethodName := ⟨RX3, "type", "(C)I"⟩
abbrev cX3_clearText : ByteArray := prog_1_method_14_code
def yX3_clearText : MethodName := ⟨RX3, "clearText", "()I"⟩
abbrev cX3_perform : ByteArray := prog_1_method_15_code
def yX3_perform : MethodName := ⟨RX3, "perform", "()I"⟩
abbrev cX3_doThing : ByteArray := prog_1_method_16_code
def yX3_doThing : MethodName := ⟨RX3, "doThing", "(CII)I"⟩
abbrev cX3_stopped : ByteArray := prog_1_method_17_code
def yX3_stopped : MethodName := ⟨RX3, "stopped", "(I)I"⟩
abbrev cX3_undo : ByteArray := prog_1_method_18_code
def yX3_undo : MethodName := ⟨RX3, "undo", "()I"⟩
abbrev cX3_keep : ByteArray := prog_1_method_19_code
def yX3_keep : MethodName := ⟨RX3, "keep", "()I"⟩
abbrev cX3_restore : ByteArray := prog_1_method_20_code
def yX3_restore : MethodName := ⟨RX3, "restore", "()I"⟩
abbrev cX3_boat : ByteArray := prog_1_method_21_code
def yX3_boat : MethodName := ⟨RX3, "boat", "(II)I"⟩
abbrev cX3_row : ByteArray := prog_1_method_22_code
def yX3_row : MethodName := ⟨RX3, "row", "(II)I"⟩
abbrev cX3_stands : ByteArray := prog_1_method_23_code
def yX3_stands : MethodName := ⟨RX3, "stands", "(II)I"⟩
abbrev cX3_cradle : ByteArray := prog_1_method_24_code
def yX3_cradle : MethodName := ⟨RX3, "cradle", "(II)I"⟩
abbrev cX3_tide : ByteArray := prog_1_method_25_code
def yX3_tide : MethodName := ⟨RX3, "tide", "(I)I"⟩
abbrev cX3_liftReason : ByteArray := prog_1_method_26_code
def yX3_liftReason : MethodName := ⟨RX3, "liftReason", "(II)I"⟩
abbrev cX3_launchReason : ByteArray := prog_1_method_27_code
def yX3_launchReason : MethodName := ⟨RX3, "launchReason", "(I)I"⟩
abbrev cX3_blockers : ByteArray := prog_1_method_28_code
def yX3_blockers : MethodName := ⟨RX3, "blockers", "(I)I"⟩
abbrev cX3_launchDay : ByteArray := prog_1_method_29_code
def yX3_launchDay : MethodName := ⟨RX3, "launchDay", "(I)I"⟩
abbrev cX3_bestRow : ByteArray := prog_1_method_30_code
def yX3_bestRow : MethodName := ⟨RX3, "bestRow", "(I)I"⟩
abbrev cX3_count : ByteArray := prog_1_method_31_code
def yX3_count : MethodName := ⟨RX3, "count", "(I)I"⟩
abbrev cX3_within : ByteArray := prog_1_method_32_code
def yX3_within : MethodName := ⟨RX3, "within", "(III)Z"⟩
def RX4 : String := "WinterYardModel"
def TX4 : u_T := fun k => match k with
  | 0 => ("WinterYardModel", "z", "[I", true)
  | 1 => ("WinterYardModel", "aside", "[I", true)
  | 2 => ("WinterYardModel", "old", "[I", true)
  | 3 => ("WinterYardModel", "states", "I", false)
  | 4 => ("WinterYardModel", "kept", "[I", true)
  | 5 => ("WinterYardModel", "isKept", "Z", false)
  | 6 => ("WinterYardModel", "text", "[I", true)
  | 7 => ("WinterYardModel", "length", "I", false)
  | 8 => ("WinterYardModel", "stopNumber", "I", false)
  | 9 => ("WinterYardModel", "stopError", "I", false)
  | 10 => ("WinterYardModel", "sign", "I", false)
  | 11 => ("WinterYardModel", "first", "I", false)
  | _ => ("WinterYardModel", "second", "I", false)
def tyX4 : Nat → FieldType := fun k => match k with
  | 0 => .array .int
  | 1 => .array .int
  | 2 => .array .int
  | 3 => .int
  | 4 => .array .int
  | 5 => .boolean
  | 6 => .array .int
  | 7 => .int
  | 8 => .int
  | 9 => .int
  | 10 => .int
  | 11 => .int
  | _ => .int
abbrev wsX40 : List Cond := u_ws RX4 TX4 13
theorem nmX4 : ∀ a, a < 13 → ∀ b, b < 13 → a ≠ b → (TX4 a).2.1 ≠ (TX4 b).2.1 := by decide +kernel
theorem tyX4_ok : ∀ k, k < 13 → parseFieldDescriptor (TX4 k).2.2.1 = some (tyX4 k) := by decide +kernel
abbrev cX4_init : ByteArray := prog_6_method_1_code
def yX4_init : MethodName := ⟨RX4, "<init>", "()V"⟩
abbrev cX4_in : ByteArray := prog_6_method_3_code
def yX4_in : MethodName := ⟨RX4, "in", "(III)Z"⟩
abbrev cX4_of : ByteArray := prog_6_method_4_code
def yX4_of : MethodName := ⟨RX4, "of", "(II)I"⟩
abbrev cX4_put : ByteArray := prog_6_method_5_code
def yX4_put : MethodName := ⟨RX4, "put", "(III)V"⟩
abbrev cX4_isBoat : ByteArray := prog_6_method_6_code
def yX4_isBoat : MethodName := ⟨RX4, "isBoat", "(I)Z"⟩
abbrev cX4_isRow : ByteArray := prog_6_method_7_code
def yX4_isRow : MethodName := ⟨RX4, "isRow", "(I)Z"⟩
abbrev cX4_isKind : ByteArray := prog_6_method_8_code
def yX4_isKind : MethodName := ⟨RX4, "isKind", "(I)Z"⟩
abbrev cX4_isAshore : ByteArray := prog_6_method_9_code
def yX4_isAshore : MethodName := ⟨RX4, "isAshore", "(I)Z"⟩
abbrev cX4_isIn : ByteArray := prog_6_method_10_code
def yX4_isIn : MethodName := ⟨RX4, "isIn", "(II)Z"⟩
abbrev cX4_tideAt : ByteArray := prog_6_method_11_code
def yX4_tideAt : MethodName := ⟨RX4, "tideAt", "(I)I"⟩
abbrev cX4_liftsLeft : ByteArray := prog_6_method_12_code
def yX4_liftsLeft : MethodName := ⟨RX4, "liftsLeft", "()I"⟩
abbrev cX4_bears : ByteArray := prog_6_method_13_code
def yX4_bears : MethodName := ⟨RX4, "bears", "(I)I"⟩
abbrev cX4_taken : ByteArray := prog_6_method_14_code
def yX4_taken : MethodName := ⟨RX4, "taken", "(I)I"⟩
abbrev cX4_isFree : ByteArray := prog_6_method_15_code
def yX4_isFree : MethodName := ⟨RX4, "isFree", "(I)Z"⟩
abbrev cX4_cradleFor : ByteArray := prog_6_method_16_code
def yX4_cradleFor : MethodName := ⟨RX4, "cradleFor", "(I)I"⟩
abbrev cX4_metresTaken : ByteArray := prog_6_method_17_code
def yX4_metresTaken : MethodName := ⟨RX4, "metresTaken", "(I)I"⟩
abbrev cX4_metresLeft : ByteArray := prog_6_method_18_code
def yX4_metresLeft : MethodName := ⟨RX4, "metresLeft", "(I)I"⟩
abbrev cX4_hasRoom : ByteArray := prog_6_method_19_code
def yX4_hasRoom : MethodName := ⟨RX4, "hasRoom", "(II)Z"⟩
abbrev cX4_boatsIn : ByteArray := prog_6_method_20_code
def yX4_boatsIn : MethodName := ⟨RX4, "boatsIn", "(I)I"⟩
abbrev cX4_placeOf : ByteArray := prog_6_method_21_code
def yX4_placeOf : MethodName := ⟨RX4, "placeOf", "(I)I"⟩
abbrev cX4_blockersOf : ByteArray := prog_6_method_22_code
def yX4_blockersOf : MethodName := ⟨RX4, "blockersOf", "(I)I"⟩
abbrev cX4_boatAt : ByteArray := prog_6_method_23_code
def yX4_boatAt : MethodName := ⟨RX4, "boatAt", "(II)I"⟩
abbrev cX4_stand : ByteArray := prog_6_method_24_code
def yX4_stand : MethodName := ⟨RX4, "stand", "(II)V"⟩
abbrev cX4_mastsIn : ByteArray := prog_6_method_25_code
def yX4_mastsIn : MethodName := ⟨RX4, "mastsIn", "(I)I"⟩
abbrev cX4_boats : ByteArray := prog_6_method_26_code
def yX4_boats : MethodName := ⟨RX4, "boats", "()I"⟩
abbrev cX4_push : ByteArray := prog_6_method_27_code
def yX4_push : MethodName := ⟨RX4, "push", "([I)V"⟩
abbrev cX4_undo : ByteArray := prog_6_method_28_code
def yX4_undo : MethodName := ⟨RX4, "undo", "()I"⟩
abbrev cX4_keep : ByteArray := prog_6_method_29_code
def yX4_keep : MethodName := ⟨RX4, "keep", "()I"⟩
abbrev cX4_restore : ByteArray := prog_6_method_30_code
def yX4_restore : MethodName := ⟨RX4, "restore", "()I"⟩
abbrev cX4_come : ByteArray := prog_6_method_31_code
def yX4_come : MethodName := ⟨RX4, "come", "(IIII)I"⟩
abbrev cX4_goAway : ByteArray := prog_6_method_32_code
def yX4_goAway : MethodName := ⟨RX4, "goAway", "(I)I"⟩
abbrev cX4_change : ByteArray := prog_6_method_33_code
def yX4_change : MethodName := ⟨RX4, "change", "(II)I"⟩
abbrev cX4_setCradles : ByteArray := prog_6_method_34_code
def yX4_setCradles : MethodName := ⟨RX4, "setCradles", "(II)I"⟩
abbrev cX4_setRow : ByteArray := prog_6_method_35_code
def yX4_setRow : MethodName := ⟨RX4, "setRow", "(II)I"⟩
abbrev cX4_set : ByteArray := prog_6_method_36_code
def yX4_set : MethodName := ⟨RX4, "set", "(II)I"⟩
abbrev cX4_whyNoLift : ByteArray := prog_6_method_37_code
def yX4_whyNoLift : MethodName := ⟨RX4, "whyNoLift", "(II)I"⟩
abbrev cX4_noLift : ByteArray := prog_6_method_38_code
def yX4_noLift : MethodName := ⟨RX4, "noLift", "(II)I"⟩
abbrev cX4_useCrane : ByteArray := prog_6_method_39_code
def yX4_useCrane : MethodName := ⟨RX4, "useCrane", "()V"⟩
abbrev cX4_doLift : ByteArray := prog_6_method_40_code
def yX4_doLift : MethodName := ⟨RX4, "doLift", "(II)I"⟩
abbrev cX4_lift : ByteArray := prog_6_method_41_code
def yX4_lift : MethodName := ⟨RX4, "lift", "(II)I"⟩
abbrev cX4_whyNoLaunch : ByteArray := prog_6_method_42_code
def yX4_whyNoLaunch : MethodName := ⟨RX4, "whyNoLaunch", "(I)I"⟩
abbrev cX4_noLaunch : ByteArray := prog_6_method_43_code
def yX4_noLaunch : MethodName := ⟨RX4, "noLaunch", "(I)I"⟩
abbrev cX4_doLaunch : ByteArray := prog_6_method_44_code
def yX4_doLaunch : MethodName := ⟨RX4, "doLaunch", "(I)I"⟩
abbrev cX4_launch : ByteArray := prog_6_method_45_code
def yX4_launch : MethodName := ⟨RX4, "launch", "(I)I"⟩
abbrev cX4_noMove : ByteArray := prog_6_method_46_code
def yX4_noMove : MethodName := ⟨RX4, "noMove", "(II)I"⟩
abbrev cX4_doMove : ByteArray := prog_6_method_47_code
def yX4_doMove : MethodName := ⟨RX4, "doMove", "(II)I"⟩
abbrev cX4_move : ByteArray := prog_6_method_48_code
def yX4_move : MethodName := ⟨RX4, "move", "(II)I"⟩
abbrev cX4_rackFor : ByteArray := prog_6_method_49_code
def yX4_rackFor : MethodName := ⟨RX4, "rackFor", "(I)I"⟩
abbrev cX4_noMast : ByteArray := prog_6_method_50_code
def yX4_noMast : MethodName := ⟨RX4, "noMast", "(IZ)I"⟩
abbrev cX4_doMast : ByteArray := prog_6_method_51_code
def yX4_doMast : MethodName := ⟨RX4, "doMast", "(IZ)I"⟩
abbrev cX4_mast : ByteArray := prog_6_method_52_code
def yX4_mast : MethodName := ⟨RX4, "mast", "(IZ)I"⟩
abbrev cX4_work : ByteArray := prog_6_method_53_code
def yX4_work : MethodName := ⟨RX4, "work", "(II)I"⟩
abbrev cX4_noPass : ByteArray := prog_6_method_54_code
def yX4_noPass : MethodName := ⟨RX4, "noPass", "(I)I"⟩
abbrev cX4_doPass : ByteArray := prog_6_method_55_code
def yX4_doPass : MethodName := ⟨RX4, "doPass", "(I)I"⟩
abbrev cX4_pass : ByteArray := prog_6_method_56_code
def yX4_pass : MethodName := ⟨RX4, "pass", "(I)I"⟩
abbrev cX4_type : ByteArray := prog_6_method_57_code
def yX4_type : MethodName := ⟨RX4, "type", "(C)I"⟩
abbrev cX4_clearText : ByteArray := prog_6_method_58_code
def yX4_clearText : MethodName := ⟨RX4, "clearText", "()I"⟩
abbrev cX4_at : ByteArray := prog_6_method_59_code
def yX4_at : MethodName := ⟨RX4, "at", "(I)I"⟩
abbrev cX4_isDigit : ByteArray := prog_6_method_60_code
def yX4_isDigit : MethodName := ⟨RX4, "isDigit", "(I)Z"⟩
abbrev cX4_readNumber : ByteArray := prog_6_method_61_code
def yX4_readNumber : MethodName := ⟨RX4, "readNumber", "(III)I"⟩
abbrev cX4_readCommand : ByteArray := prog_6_method_62_code
def yX4_readCommand : MethodName := ⟨RX4, "readCommand", "(I)I"⟩
abbrev cX4_findFault : ByteArray := prog_6_method_63_code
def yX4_findFault : MethodName := ⟨RX4, "findFault", "()I"⟩
abbrev cX4_noCommand : ByteArray := prog_6_method_64_code
def yX4_noCommand : MethodName := ⟨RX4, "noCommand", "()I"⟩
abbrev cX4_doCommand : ByteArray := prog_6_method_65_code
def yX4_doCommand : MethodName := ⟨RX4, "doCommand", "()I"⟩
abbrev cX4_perform : ByteArray := prog_6_method_66_code
def yX4_perform : MethodName := ⟨RX4, "perform", "()I"⟩
abbrev cX4_stopped : ByteArray := prog_6_method_67_code
def yX4_stopped : MethodName := ⟨RX4, "stopped", "(I)I"⟩
abbrev cX4_boat : ByteArray := prog_6_method_68_code
def yX4_boat : MethodName := ⟨RX4, "boat", "(II)I"⟩
abbrev cX4_row : ByteArray := prog_6_method_69_code
def yX4_row : MethodName := ⟨RX4, "row", "(II)I"⟩
abbrev cX4_stands : ByteArray := prog_6_method_70_code
def yX4_stands : MethodName := ⟨RX4, "stands", "(II)I"⟩
abbrev cX4_cradle : ByteArray := prog_6_method_71_code
def yX4_cradle : MethodName := ⟨RX4, "cradle", "(II)I"⟩
abbrev cX4_tide : ByteArray := prog_6_method_72_code
def yX4_tide : MethodName := ⟨RX4, "tide", "(I)I"⟩
abbrev cX4_liftReason : ByteArray := prog_6_method_73_code
def yX4_liftReason : MethodName := ⟨RX4, "liftReason", "(II)I"⟩
abbrev cX4_launchReason : ByteArray := prog_6_method_74_code
def yX4_launchReason : MethodName := ⟨RX4, "launchReason", "(I)I"⟩
abbrev cX4_blockers : ByteArray := prog_6_method_75_code
def yX4_blockers : MethodName := ⟨RX4, "blockers", "(I)I"⟩
abbrev cX4_launchDay : ByteArray := prog_6_method_76_code
def yX4_launchDay : MethodName := ⟨RX4, "launchDay", "(I)I"⟩
abbrev cX4_bestRow : ByteArray := prog_6_method_77_code
def yX4_bestRow : MethodName := ⟨RX4, "bestRow", "(I)I"⟩
abbrev cX4_count : ByteArray := prog_6_method_78_code
def yX4_count : MethodName := ⟨RX4, "count", "(I)I"⟩
def RL : String := "WinterYardLaw"
abbrev cL_law : ByteArray := code
def yL_law : MethodName := ⟨RL, "law", "([I)Z"⟩
abbrev vwCl : List vw_C := [(RX0, TX0, 3), (RX1, TX1, 7), (RX2, TX2, 8), (RX3, TX3, 7), (RX4, TX4, 13)]
end
section
theorem dX2_init_0 : decode cX2_init 0 = .ok (.aload_n 0, 1) := by decide +kernel
theorem dX2_init_1 : decode cX2_init 1 = .ok (.invokespecial 3, 3) := by decide +kernel
theorem dX2_init_4 : decode cX2_init 4 = .ok (.aload_n 0, 1) := by decide +kernel
theorem dX2_init_5 : decode cX2_init 5 = .ok (.sipush 220, 3) := by decide +kernel
theorem dX2_init_8 : decode cX2_init 8 = .ok (.newarray .int, 2) := by decide +kernel
theorem dX2_init_10 : decode cX2_init 10 = .ok (.putfield 11, 3) := by decide +kernel
theorem dX2_init_13 : decode cX2_init 13 = .ok (.aload_n 0, 1) := by decide +kernel
theorem dX2_init_14 : decode cX2_init 14 = .ok (.iconst 3, 1) := by decide +kernel
theorem dX2_init_15 : decode cX2_init 15 = .ok (.newarray .int, 2) := by decide +kernel
theorem dX2_init_17 : decode cX2_init 17 = .ok (.dup, 1) := by decide +kernel
theorem dX2_init_18 : decode cX2_init 18 = .ok (.iconst 0, 1) := by decide +kernel
theorem dX2_init_19 : decode cX2_init 19 = .ok (.iconst 4, 1) := by decide +kernel
theorem dX2_init_20 : decode cX2_init 20 = .ok (.iastore, 1) := by decide +kernel
theorem dX2_init_21 : decode cX2_init 21 = .ok (.dup, 1) := by decide +kernel
theorem dX2_init_22 : decode cX2_init 22 = .ok (.iconst 1, 1) := by decide +kernel
theorem dX2_init_23 : decode cX2_init 23 = .ok (.iconst 4, 1) := by decide +kernel
theorem dX2_init_24 : decode cX2_init 24 = .ok (.iastore, 1) := by decide +kernel
theorem dX2_init_25 : decode cX2_init 25 = .ok (.dup, 1) := by decide +kernel
theorem dX2_init_26 : decode cX2_init 26 = .ok (.iconst 2, 1) := by decide +kernel
theorem dX2_init_27 : decode cX2_init 27 = .ok (.iconst 4, 1) := by decide +kernel
theorem dX2_init_28 : decode cX2_init 28 = .ok (.iastore, 1) := by decide +kernel
theorem dX2_init_29 : decode cX2_init 29 = .ok (.putfield 15, 3) := by decide +kernel
theorem dX2_init_32 : decode cX2_init 32 = .ok (.aload_n 0, 1) := by decide +kernel
theorem dX2_init_33 : decode cX2_init 33 = .ok (.iconst 4, 1) := by decide +kernel
theorem dX2_init_34 : decode cX2_init 34 = .ok (.newarray .int, 2) := by decide +kernel
theorem dX2_init_36 : decode cX2_init 36 = .ok (.dup, 1) := by decide +kernel
theorem dX2_init_37 : decode cX2_init 37 = .ok (.iconst 0, 1) := by decide +kernel
theorem dX2_init_38 : decode cX2_init 38 = .ok (.bipush 40, 2) := by decide +kernel
theorem dX2_init_40 : decode cX2_init 40 = .ok (.iastore, 1) := by decide +kernel
theorem dX2_init_41 : decode cX2_init 41 = .ok (.dup, 1) := by decide +kernel
theorem dX2_init_42 : decode cX2_init 42 = .ok (.iconst 1, 1) := by decide +kernel
theorem dX2_init_43 : decode cX2_init 43 = .ok (.bipush 40, 2) := by decide +kernel
theorem dX2_init_45 : decode cX2_init 45 = .ok (.iastore, 1) := by decide +kernel
theorem dX2_init_46 : decode cX2_init 46 = .ok (.dup, 1) := by decide +kernel
theorem dX2_init_47 : decode cX2_init 47 = .ok (.iconst 2, 1) := by decide +kernel
theorem dX2_init_48 : decode cX2_init 48 = .ok (.bipush 40, 2) := by decide +kernel
theorem dX2_init_50 : decode cX2_init 50 = .ok (.iastore, 1) := by decide +kernel
theorem dX2_init_51 : decode cX2_init 51 = .ok (.dup, 1) := by decide +kernel
theorem dX2_init_52 : decode cX2_init 52 = .ok (.iconst 3, 1) := by decide +kernel
theorem dX2_init_53 : decode cX2_init 53 = .ok (.bipush 40, 2) := by decide +kernel
theorem dX2_init_55 : decode cX2_init 55 = .ok (.iastore, 1) := by decide +kernel
theorem dX2_init_56 : decode cX2_init 56 = .ok (.putfield 18, 3) := by decide +kernel
theorem dX2_init_59 : decode cX2_init 59 = .ok (.aload_n 0, 1) := by decide +kernel
theorem dX2_init_60 : decode cX2_init 60 = .ok (.iconst 3, 1) := by decide +kernel
theorem dX2_init_61 : decode cX2_init 61 = .ok (.newarray .int, 2) := by decide +kernel
theorem dX2_init_63 : decode cX2_init 63 = .ok (.dup, 1) := by decide +kernel
theorem dX2_init_64 : decode cX2_init 64 = .ok (.iconst 0, 1) := by decide +kernel
theorem dX2_init_65 : decode cX2_init 65 = .ok (.iconst 3, 1) := by decide +kernel
theorem dX2_init_66 : decode cX2_init 66 = .ok (.iastore, 1) := by decide +kernel
theorem dX2_init_67 : decode cX2_init 67 = .ok (.dup, 1) := by decide +kernel
theorem dX2_init_68 : decode cX2_init 68 = .ok (.iconst 1, 1) := by decide +kernel
theorem dX2_init_69 : decode cX2_init 69 = .ok (.iconst 4, 1) := by decide +kernel
theorem dX2_init_70 : decode cX2_init 70 = .ok (.iastore, 1) := by decide +kernel
theorem dX2_init_71 : decode cX2_init 71 = .ok (.dup, 1) := by decide +kernel
theorem dX2_init_72 : decode cX2_init 72 = .ok (.iconst 2, 1) := by decide +kernel
theorem dX2_init_73 : decode cX2_init 73 = .ok (.bipush 20, 2) := by decide +kernel
theorem dX2_init_75 : decode cX2_init 75 = .ok (.iastore, 1) := by decide +kernel
theorem dX2_init_76 : decode cX2_init 76 = .ok (.putfield 21, 3) := by decide +kernel
theorem dX2_init_79 : decode cX2_init 79 = .ok (.aload_n 0, 1) := by decide +kernel
theorem dX2_init_80 : decode cX2_init 80 = .ok (.iconst 0, 1) := by decide +kernel
theorem dX2_init_81 : decode cX2_init 81 = .ok (.putfield 24, 3) := by decide +kernel
theorem dX2_init_84 : decode cX2_init 84 = .ok (.aload_n 0, 1) := by decide +kernel
theorem dX2_init_85 : decode cX2_init 85 = .ok (.iconst 0, 1) := by decide +kernel
theorem dX2_init_86 : decode cX2_init 86 = .ok (.putfield 28, 3) := by decide +kernel
theorem dX2_init_89 : decode cX2_init 89 = .ok (.aload_n 0, 1) := by decide +kernel
theorem dX2_init_90 : decode cX2_init 90 = .ok (.iconst 0, 1) := by decide +kernel
theorem dX2_init_91 : decode cX2_init 91 = .ok (.putfield 31, 3) := by decide +kernel
theorem dX2_init_94 : decode cX2_init 94 = .ok (.aload_n 0, 1) := by decide +kernel
theorem dX2_init_95 : decode cX2_init 95 = .ok (.iconst 0, 1) := by decide +kernel
theorem dX2_init_96 : decode cX2_init 96 = .ok (.putfield 34, 3) := by decide +kernel
theorem dX2_init_99 : decode cX2_init 99 = .ok (.iconst 0, 1) := by decide +kernel
theorem dX2_init_100 : decode cX2_init 100 = .ok (.istore_n 1, 1) := by decide +kernel
theorem dX2_init_101 : decode cX2_init 101 = .ok (.iload_n 1, 1) := by decide +kernel
theorem dX2_init_102 : decode cX2_init 102 = .ok (.bipush 20, 2) := by decide +kernel
theorem dX2_init_104 : decode cX2_init 104 = .ok (.if_icmp .ge 14, 3) := by decide +kernel
theorem dX2_init_107 : decode cX2_init 107 = .ok (.aload_n 0, 1) := by decide +kernel
theorem dX2_init_108 : decode cX2_init 108 = .ok (.iload_n 1, 1) := by decide +kernel
theorem dX2_init_109 : decode cX2_init 109 = .ok (.invokevirtual 37, 3) := by decide +kernel
theorem dX2_init_112 : decode cX2_init 112 = .ok (.iinc 1 1, 3) := by decide +kernel
theorem dX2_init_115 : decode cX2_init 115 = .ok (.goto (-14), 3) := by decide +kernel
theorem dX2_init_118 : decode cX2_init 118 = .ok (.return_, 1) := by decide +kernel
theorem dX2_copyFrom_0 : decode cX2_copyFrom 0 = .ok (.aload_n 1, 1) := by decide +kernel
theorem dX2_copyFrom_1 : decode cX2_copyFrom 1 = .ok (.getfield 11, 3) := by decide +kernel
theorem dX2_copyFrom_4 : decode cX2_copyFrom 4 = .ok (.iconst 0, 1) := by decide +kernel
theorem dX2_copyFrom_5 : decode cX2_copyFrom 5 = .ok (.aload_n 0, 1) := by decide +kernel
theorem dX2_copyFrom_6 : decode cX2_copyFrom 6 = .ok (.getfield 11, 3) := by decide +kernel
theorem dX2_copyFrom_9 : decode cX2_copyFrom 9 = .ok (.iconst 0, 1) := by decide +kernel
theorem dX2_copyFrom_10 : decode cX2_copyFrom 10 = .ok (.sipush 220, 3) := by decide +kernel
theorem dX2_copyFrom_13 : decode cX2_copyFrom 13 = .ok (.invokestatic 41, 3) := by decide +kernel
theorem dX2_copyFrom_16 : decode cX2_copyFrom 16 = .ok (.aload_n 1, 1) := by decide +kernel
theorem dX2_copyFrom_17 : decode cX2_copyFrom 17 = .ok (.getfield 15, 3) := by decide +kernel
theorem dX2_copyFrom_20 : decode cX2_copyFrom 20 = .ok (.iconst 0, 1) := by decide +kernel
theorem dX2_copyFrom_21 : decode cX2_copyFrom 21 = .ok (.aload_n 0, 1) := by decide +kernel
theorem dX2_copyFrom_22 : decode cX2_copyFrom 22 = .ok (.getfield 15, 3) := by decide +kernel
theorem dX2_copyFrom_25 : decode cX2_copyFrom 25 = .ok (.iconst 0, 1) := by decide +kernel
theorem dX2_copyFrom_26 : decode cX2_copyFrom 26 = .ok (.iconst 3, 1) := by decide +kernel
theorem dX2_copyFrom_27 : decode cX2_copyFrom 27 = .ok (.invokestatic 41, 3) := by decide +kernel
theorem dX2_copyFrom_30 : decode cX2_copyFrom 30 = .ok (.aload_n 1, 1) := by decide +kernel
theorem dX2_copyFrom_31 : decode cX2_copyFrom 31 = .ok (.getfield 18, 3) := by decide +kernel
theorem dX2_copyFrom_34 : decode cX2_copyFrom 34 = .ok (.iconst 0, 1) := by decide +kernel
theorem dX2_copyFrom_35 : decode cX2_copyFrom 35 = .ok (.aload_n 0, 1) := by decide +kernel
theorem dX2_copyFrom_36 : decode cX2_copyFrom 36 = .ok (.getfield 18, 3) := by decide +kernel
theorem dX2_copyFrom_39 : decode cX2_copyFrom 39 = .ok (.iconst 0, 1) := by decide +kernel
theorem dX2_copyFrom_40 : decode cX2_copyFrom 40 = .ok (.iconst 4, 1) := by decide +kernel
theorem dX2_copyFrom_41 : decode cX2_copyFrom 41 = .ok (.invokestatic 41, 3) := by decide +kernel
theorem dX2_copyFrom_44 : decode cX2_copyFrom 44 = .ok (.aload_n 1, 1) := by decide +kernel
theorem dX2_copyFrom_45 : decode cX2_copyFrom 45 = .ok (.getfield 21, 3) := by decide +kernel
theorem dX2_copyFrom_48 : decode cX2_copyFrom 48 = .ok (.iconst 0, 1) := by decide +kernel
theorem dX2_copyFrom_49 : decode cX2_copyFrom 49 = .ok (.aload_n 0, 1) := by decide +kernel
theorem dX2_copyFrom_50 : decode cX2_copyFrom 50 = .ok (.getfield 21, 3) := by decide +kernel
theorem dX2_copyFrom_53 : decode cX2_copyFrom 53 = .ok (.iconst 0, 1) := by decide +kernel
theorem dX2_copyFrom_54 : decode cX2_copyFrom 54 = .ok (.aload_n 0, 1) := by decide +kernel
theorem dX2_copyFrom_55 : decode cX2_copyFrom 55 = .ok (.getfield 21, 3) := by decide +kernel
theorem dX2_copyFrom_58 : decode cX2_copyFrom 58 = .ok (.arraylength, 1) := by decide +kernel
theorem dX2_copyFrom_59 : decode cX2_copyFrom 59 = .ok (.invokestatic 41, 3) := by decide +kernel
theorem dX2_copyFrom_62 : decode cX2_copyFrom 62 = .ok (.aload_n 0, 1) := by decide +kernel
theorem dX2_copyFrom_63 : decode cX2_copyFrom 63 = .ok (.aload_n 1, 1) := by decide +kernel
theorem dX2_copyFrom_64 : decode cX2_copyFrom 64 = .ok (.getfield 24, 3) := by decide +kernel
theorem dX2_copyFrom_67 : decode cX2_copyFrom 67 = .ok (.putfield 24, 3) := by decide +kernel
theorem dX2_copyFrom_70 : decode cX2_copyFrom 70 = .ok (.aload_n 0, 1) := by decide +kernel
theorem dX2_copyFrom_71 : decode cX2_copyFrom 71 = .ok (.aload_n 1, 1) := by decide +kernel
theorem dX2_copyFrom_72 : decode cX2_copyFrom 72 = .ok (.getfield 28, 3) := by decide +kernel
theorem dX2_copyFrom_75 : decode cX2_copyFrom 75 = .ok (.putfield 28, 3) := by decide +kernel
theorem dX2_copyFrom_78 : decode cX2_copyFrom 78 = .ok (.aload_n 0, 1) := by decide +kernel
theorem dX2_copyFrom_79 : decode cX2_copyFrom 79 = .ok (.aload_n 1, 1) := by decide +kernel
theorem dX2_copyFrom_80 : decode cX2_copyFrom 80 = .ok (.getfield 31, 3) := by decide +kernel
theorem dX2_copyFrom_83 : decode cX2_copyFrom 83 = .ok (.putfield 31, 3) := by decide +kernel
theorem dX2_copyFrom_86 : decode cX2_copyFrom 86 = .ok (.aload_n 0, 1) := by decide +kernel
theorem dX2_copyFrom_87 : decode cX2_copyFrom 87 = .ok (.aload_n 1, 1) := by decide +kernel
theorem dX2_copyFrom_88 : decode cX2_copyFrom 88 = .ok (.getfield 34, 3) := by decide +kernel
theorem dX2_copyFrom_91 : decode cX2_copyFrom 91 = .ok (.putfield 34, 3) := by decide +kernel
theorem dX2_copyFrom_94 : decode cX2_copyFrom 94 = .ok (.return_, 1) := by decide +kernel
theorem dX2_isFact_0 : decode cX2_isFact 0 = .ok (.iload_n 0, 1) := by decide +kernel
theorem dX2_isFact_1 : decode cX2_isFact 1 = .ok (.iconst 0, 1) := by decide +kernel
theorem dX2_isFact_2 : decode cX2_isFact 2 = .ok (.bipush 10, 2) := by decide +kernel
theorem dX2_isFact_4 : decode cX2_isFact 4 = .ok (.invokestatic 47, 3) := by decide +kernel
theorem dX2_isFact_7 : decode cX2_isFact 7 = .ok (.ireturn, 1) := by decide +kernel
theorem dX2_isRow_0 : decode cX2_isRow 0 = .ok (.iload_n 0, 1) := by decide +kernel
theorem dX2_isRow_1 : decode cX2_isRow 1 = .ok (.iconst 0, 1) := by decide +kernel
theorem dX2_isRow_2 : decode cX2_isRow 2 = .ok (.iconst 3, 1) := by decide +kernel
theorem dX2_isRow_3 : decode cX2_isRow 3 = .ok (.invokestatic 47, 3) := by decide +kernel
theorem dX2_isRow_6 : decode cX2_isRow 6 = .ok (.ireturn, 1) := by decide +kernel
theorem dX2_isKind_0 : decode cX2_isKind 0 = .ok (.iload_n 0, 1) := by decide +kernel
theorem dX2_isKind_1 : decode cX2_isKind 1 = .ok (.iconst 0, 1) := by decide +kernel
theorem dX2_isKind_2 : decode cX2_isKind 2 = .ok (.iconst 2, 1) := by decide +kernel
theorem dX2_isKind_3 : decode cX2_isKind 3 = .ok (.invokestatic 47, 3) := by decide +kernel
theorem dX2_isKind_6 : decode cX2_isKind 6 = .ok (.ireturn, 1) := by decide +kernel
theorem dX2_knows_0 : decode cX2_knows 0 = .ok (.iload_n 1, 1) := by decide +kernel
theorem dX2_knows_1 : decode cX2_knows 1 = .ok (.iconst 0, 1) := by decide +kernel
theorem dX2_knows_2 : decode cX2_knows 2 = .ok (.bipush 19, 2) := by decide +kernel
theorem dX2_knows_4 : decode cX2_knows 4 = .ok (.invokestatic 47, 3) := by decide +kernel
theorem dX2_knows_7 : decode cX2_knows 7 = .ok (.ifCond .eq 18, 3) := by decide +kernel
theorem dX2_knows_10 : decode cX2_knows 10 = .ok (.aload_n 0, 1) := by decide +kernel
theorem dX2_knows_11 : decode cX2_knows 11 = .ok (.iload_n 1, 1) := by decide +kernel
theorem dX2_knows_12 : decode cX2_knows 12 = .ok (.iconst 0, 1) := by decide +kernel
theorem dX2_knows_13 : decode cX2_knows 13 = .ok (.invokevirtual 51, 3) := by decide +kernel
theorem dX2_knows_16 : decode cX2_knows 16 = .ok (.bipush (-5), 2) := by decide +kernel
theorem dX2_knows_18 : decode cX2_knows 18 = .ok (.if_icmp .eq 7, 3) := by decide +kernel
theorem dX2_knows_21 : decode cX2_knows 21 = .ok (.iconst 1, 1) := by decide +kernel
theorem dX2_knows_22 : decode cX2_knows 22 = .ok (.goto 4, 3) := by decide +kernel
theorem dX2_knows_25 : decode cX2_knows 25 = .ok (.iconst 0, 1) := by decide +kernel
theorem dX2_knows_26 : decode cX2_knows 26 = .ok (.ireturn, 1) := by decide +kernel
theorem dX2_fact_0 : decode cX2_fact 0 = .ok (.aload_n 0, 1) := by decide +kernel
theorem dX2_fact_1 : decode cX2_fact 1 = .ok (.getfield 11, 3) := by decide +kernel
theorem dX2_fact_4 : decode cX2_fact 4 = .ok (.iload_n 1, 1) := by decide +kernel
theorem dX2_fact_5 : decode cX2_fact 5 = .ok (.bipush 11, 2) := by decide +kernel
theorem dX2_fact_7 : decode cX2_fact 7 = .ok (.imul, 1) := by decide +kernel
theorem dX2_fact_8 : decode cX2_fact 8 = .ok (.iload_n 2, 1) := by decide +kernel
theorem dX2_fact_9 : decode cX2_fact 9 = .ok (.iadd, 1) := by decide +kernel
theorem dX2_fact_10 : decode cX2_fact 10 = .ok (.iaload, 1) := by decide +kernel
theorem dX2_fact_11 : decode cX2_fact 11 = .ok (.ireturn, 1) := by decide +kernel
theorem dX2_note_0 : decode cX2_note 0 = .ok (.aload_n 0, 1) := by decide +kernel
theorem dX2_note_1 : decode cX2_note 1 = .ok (.getfield 11, 3) := by decide +kernel
theorem dX2_note_4 : decode cX2_note 4 = .ok (.iload_n 1, 1) := by decide +kernel
theorem dX2_note_5 : decode cX2_note 5 = .ok (.bipush 11, 2) := by decide +kernel
theorem dX2_note_7 : decode cX2_note 7 = .ok (.imul, 1) := by decide +kernel
theorem dX2_note_8 : decode cX2_note 8 = .ok (.iload_n 2, 1) := by decide +kernel
theorem dX2_note_9 : decode cX2_note 9 = .ok (.iadd, 1) := by decide +kernel
theorem dX2_note_10 : decode cX2_note 10 = .ok (.iload_n 3, 1) := by decide +kernel
theorem dX2_note_11 : decode cX2_note 11 = .ok (.iastore, 1) := by decide +kernel
theorem dX2_note_12 : decode cX2_note 12 = .ok (.return_, 1) := by decide +kernel
theorem dX2_forget_0 : decode cX2_forget 0 = .ok (.iconst 0, 1) := by decide +kernel
theorem dX2_forget_1 : decode cX2_forget 1 = .ok (.istore_n 2, 1) := by decide +kernel
theorem dX2_forget_2 : decode cX2_forget 2 = .ok (.iload_n 2, 1) := by decide +kernel
theorem dX2_forget_3 : decode cX2_forget 3 = .ok (.bipush 11, 2) := by decide +kernel
theorem dX2_forget_5 : decode cX2_forget 5 = .ok (.if_icmp .ge 17, 3) := by decide +kernel
theorem dX2_forget_8 : decode cX2_forget 8 = .ok (.aload_n 0, 1) := by decide +kernel
theorem dX2_forget_9 : decode cX2_forget 9 = .ok (.iload_n 1, 1) := by decide +kernel
theorem dX2_forget_10 : decode cX2_forget 10 = .ok (.iload_n 2, 1) := by decide +kernel
theorem dX2_forget_11 : decode cX2_forget 11 = .ok (.bipush (-5), 2) := by decide +kernel
theorem dX2_forget_13 : decode cX2_forget 13 = .ok (.invokevirtual 55, 3) := by decide +kernel
theorem dX2_forget_16 : decode cX2_forget 16 = .ok (.iinc 2 1, 3) := by decide +kernel
theorem dX2_forget_19 : decode cX2_forget 19 = .ok (.goto (-17), 3) := by decide +kernel
theorem dX2_forget_22 : decode cX2_forget 22 = .ok (.return_, 1) := by decide +kernel
theorem dX2_boatsWith_0 : decode cX2_boatsWith 0 = .ok (.iconst 0, 1) := by decide +kernel
theorem dX2_boatsWith_1 : decode cX2_boatsWith 1 = .ok (.istore_n 3, 1) := by decide +kernel
theorem dX2_boatsWith_2 : decode cX2_boatsWith 2 = .ok (.iload_n 1, 1) := by decide +kernel
theorem dX2_boatsWith_3 : decode cX2_boatsWith 3 = .ok (.istore 4, 2) := by decide +kernel
theorem dX2_boatsWith_5 : decode cX2_boatsWith 5 = .ok (.iload 4, 2) := by decide +kernel
theorem dX2_boatsWith_7 : decode cX2_boatsWith 7 = .ok (.aload_n 0, 1) := by decide +kernel
theorem dX2_boatsWith_8 : decode cX2_boatsWith 8 = .ok (.getfield 11, 3) := by decide +kernel
theorem dX2_boatsWith_11 : decode cX2_boatsWith 11 = .ok (.arraylength, 1) := by decide +kernel
theorem dX2_boatsWith_12 : decode cX2_boatsWith 12 = .ok (.if_icmp .ge 23, 3) := by decide +kernel
theorem dX2_boatsWith_15 : decode cX2_boatsWith 15 = .ok (.aload_n 0, 1) := by decide +kernel
theorem dX2_boatsWith_16 : decode cX2_boatsWith 16 = .ok (.getfield 11, 3) := by decide +kernel
theorem dX2_boatsWith_19 : decode cX2_boatsWith 19 = .ok (.iload 4, 2) := by decide +kernel
theorem dX2_boatsWith_21 : decode cX2_boatsWith 21 = .ok (.iaload, 1) := by decide +kernel
theorem dX2_boatsWith_22 : decode cX2_boatsWith 22 = .ok (.iload_n 2, 1) := by decide +kernel
theorem dX2_boatsWith_23 : decode cX2_boatsWith 23 = .ok (.if_icmp .ne 6, 3) := by decide +kernel
theorem dX2_boatsWith_26 : decode cX2_boatsWith 26 = .ok (.iinc 3 1, 3) := by decide +kernel
theorem dX2_boatsWith_29 : decode cX2_boatsWith 29 = .ok (.iinc 4 11, 3) := by decide +kernel
theorem dX2_boatsWith_32 : decode cX2_boatsWith 32 = .ok (.goto (-27), 3) := by decide +kernel
theorem dX2_boatsWith_35 : decode cX2_boatsWith 35 = .ok (.iload_n 3, 1) := by decide +kernel
theorem dX2_boatsWith_36 : decode cX2_boatsWith 36 = .ok (.ireturn, 1) := by decide +kernel
theorem dX2_addBoat_0 : decode cX2_addBoat 0 = .ok (.iload 4, 2) := by decide +kernel
theorem dX2_addBoat_2 : decode cX2_addBoat 2 = .ok (.invokestatic 59, 3) := by decide +kernel
theorem dX2_addBoat_5 : decode cX2_addBoat 5 = .ok (.ifCond .ne 5, 3) := by decide +kernel
theorem dX2_addBoat_8 : decode cX2_addBoat 8 = .ok (.iconst (-1), 1) := by decide +kernel
theorem dX2_addBoat_9 : decode cX2_addBoat 9 = .ok (.ireturn, 1) := by decide +kernel
theorem dX2_addBoat_10 : decode cX2_addBoat 10 = .ok (.iload_n 1, 1) := by decide +kernel
theorem dX2_addBoat_11 : decode cX2_addBoat 11 = .ok (.iconst 3, 1) := by decide +kernel
theorem dX2_addBoat_12 : decode cX2_addBoat 12 = .ok (.bipush 20, 2) := by decide +kernel
theorem dX2_addBoat_14 : decode cX2_addBoat 14 = .ok (.invokestatic 47, 3) := by decide +kernel
theorem dX2_addBoat_17 : decode cX2_addBoat 17 = .ok (.ifCond .eq 23, 3) := by decide +kernel
theorem dX2_addBoat_20 : decode cX2_addBoat 20 = .ok (.iload_n 2, 1) := by decide +kernel
theorem dX2_addBoat_21 : decode cX2_addBoat 21 = .ok (.iconst 5, 1) := by decide +kernel
theorem dX2_addBoat_22 : decode cX2_addBoat 22 = .ok (.bipush 40, 2) := by decide +kernel
theorem dX2_addBoat_24 : decode cX2_addBoat 24 = .ok (.invokestatic 47, 3) := by decide +kernel
theorem dX2_addBoat_27 : decode cX2_addBoat 27 = .ok (.ifCond .eq 13, 3) := by decide +kernel
theorem dX2_addBoat_30 : decode cX2_addBoat 30 = .ok (.iload_n 3, 1) := by decide +kernel
theorem dX2_addBoat_31 : decode cX2_addBoat 31 = .ok (.iconst 1, 1) := by decide +kernel
theorem dX2_addBoat_32 : decode cX2_addBoat 32 = .ok (.bipush 30, 2) := by decide +kernel
theorem dX2_addBoat_34 : decode cX2_addBoat 34 = .ok (.invokestatic 47, 3) := by decide +kernel
theorem dX2_addBoat_37 : decode cX2_addBoat 37 = .ok (.ifCond .ne 6, 3) := by decide +kernel
theorem dX2_addBoat_40 : decode cX2_addBoat 40 = .ok (.bipush (-2), 2) := by decide +kernel
theorem dX2_addBoat_42 : decode cX2_addBoat 42 = .ok (.ireturn, 1) := by decide +kernel
theorem dX2_addBoat_43 : decode cX2_addBoat 43 = .ok (.aload_n 0, 1) := by decide +kernel
theorem dX2_addBoat_44 : decode cX2_addBoat 44 = .ok (.invokevirtual 63, 3) := by decide +kernel
theorem dX2_addBoat_47 : decode cX2_addBoat 47 = .ok (.istore 5, 2) := by decide +kernel
theorem dX2_addBoat_49 : decode cX2_addBoat 49 = .ok (.iload 5, 2) := by decide +kernel
theorem dX2_addBoat_51 : decode cX2_addBoat 51 = .ok (.bipush (-5), 2) := by decide +kernel
theorem dX2_addBoat_53 : decode cX2_addBoat 53 = .ok (.if_icmp .ne 6, 3) := by decide +kernel
theorem dX2_addBoat_56 : decode cX2_addBoat 56 = .ok (.bipush (-3), 2) := by decide +kernel
theorem dX2_addBoat_58 : decode cX2_addBoat 58 = .ok (.ireturn, 1) := by decide +kernel
theorem dX2_addBoat_59 : decode cX2_addBoat 59 = .ok (.aload_n 0, 1) := by decide +kernel
theorem dX2_addBoat_60 : decode cX2_addBoat 60 = .ok (.iload 5, 2) := by decide +kernel
theorem dX2_addBoat_62 : decode cX2_addBoat 62 = .ok (.iconst 0, 1) := by decide +kernel
theorem dX2_addBoat_63 : decode cX2_addBoat 63 = .ok (.iload_n 1, 1) := by decide +kernel
theorem dX2_addBoat_64 : decode cX2_addBoat 64 = .ok (.invokevirtual 55, 3) := by decide +kernel
theorem dX2_addBoat_67 : decode cX2_addBoat 67 = .ok (.aload_n 0, 1) := by decide +kernel
theorem dX2_addBoat_68 : decode cX2_addBoat 68 = .ok (.iload 5, 2) := by decide +kernel
theorem dX2_addBoat_70 : decode cX2_addBoat 70 = .ok (.iconst 1, 1) := by decide +kernel
theorem dX2_addBoat_71 : decode cX2_addBoat 71 = .ok (.iload_n 2, 1) := by decide +kernel
theorem dX2_addBoat_72 : decode cX2_addBoat 72 = .ok (.invokevirtual 55, 3) := by decide +kernel
theorem dX2_addBoat_75 : decode cX2_addBoat 75 = .ok (.aload_n 0, 1) := by decide +kernel
theorem dX2_addBoat_76 : decode cX2_addBoat 76 = .ok (.iload 5, 2) := by decide +kernel
theorem dX2_addBoat_78 : decode cX2_addBoat 78 = .ok (.iconst 2, 1) := by decide +kernel
theorem dX2_addBoat_79 : decode cX2_addBoat 79 = .ok (.iload_n 3, 1) := by decide +kernel
theorem dX2_addBoat_80 : decode cX2_addBoat 80 = .ok (.invokevirtual 55, 3) := by decide +kernel
theorem dX2_addBoat_83 : decode cX2_addBoat 83 = .ok (.aload_n 0, 1) := by decide +kernel
theorem dX2_addBoat_84 : decode cX2_addBoat 84 = .ok (.iload 5, 2) := by decide +kernel
theorem dX2_addBoat_86 : decode cX2_addBoat 86 = .ok (.iconst 3, 1) := by decide +kernel
theorem dX2_addBoat_87 : decode cX2_addBoat 87 = .ok (.iload 4, 2) := by decide +kernel
theorem dX2_addBoat_89 : decode cX2_addBoat 89 = .ok (.invokevirtual 55, 3) := by decide +kernel
theorem dX2_addBoat_92 : decode cX2_addBoat 92 = .ok (.aload_n 0, 1) := by decide +kernel
theorem dX2_addBoat_93 : decode cX2_addBoat 93 = .ok (.iload 5, 2) := by decide +kernel
theorem dX2_addBoat_95 : decode cX2_addBoat 95 = .ok (.bipush 7, 2) := by decide +kernel
theorem dX2_addBoat_97 : decode cX2_addBoat 97 = .ok (.bipush (-5), 2) := by decide +kernel
theorem dX2_addBoat_99 : decode cX2_addBoat 99 = .ok (.invokevirtual 55, 3) := by decide +kernel
theorem dX2_addBoat_102 : decode cX2_addBoat 102 = .ok (.aload_n 0, 1) := by decide +kernel
theorem dX2_addBoat_103 : decode cX2_addBoat 103 = .ok (.iload 5, 2) := by decide +kernel
theorem dX2_addBoat_105 : decode cX2_addBoat 105 = .ok (.bipush 8, 2) := by decide +kernel
theorem dX2_addBoat_107 : decode cX2_addBoat 107 = .ok (.iconst 0, 1) := by decide +kernel
theorem dX2_addBoat_108 : decode cX2_addBoat 108 = .ok (.invokevirtual 55, 3) := by decide +kernel
theorem dX2_addBoat_111 : decode cX2_addBoat 111 = .ok (.aload_n 0, 1) := by decide +kernel
theorem dX2_addBoat_112 : decode cX2_addBoat 112 = .ok (.iload 5, 2) := by decide +kernel
theorem dX2_addBoat_114 : decode cX2_addBoat 114 = .ok (.bipush 10, 2) := by decide +kernel
theorem dX2_addBoat_116 : decode cX2_addBoat 116 = .ok (.iconst 0, 1) := by decide +kernel
theorem dX2_addBoat_117 : decode cX2_addBoat 117 = .ok (.invokevirtual 55, 3) := by decide +kernel
theorem dX2_addBoat_120 : decode cX2_addBoat 120 = .ok (.aload_n 0, 1) := by decide +kernel
theorem dX2_addBoat_121 : decode cX2_addBoat 121 = .ok (.iload 5, 2) := by decide +kernel
theorem dX2_addBoat_123 : decode cX2_addBoat 123 = .ok (.invokevirtual 67, 3) := by decide +kernel
theorem dX2_addBoat_126 : decode cX2_addBoat 126 = .ok (.iload 5, 2) := by decide +kernel
theorem dX2_addBoat_128 : decode cX2_addBoat 128 = .ok (.ireturn, 1) := by decide +kernel
theorem dX2_lowestFreeNumber_0 : decode cX2_lowestFreeNumber 0 = .ok (.iconst 0, 1) := by decide +kernel
theorem dX2_lowestFreeNumber_1 : decode cX2_lowestFreeNumber 1 = .ok (.istore_n 1, 1) := by decide +kernel
theorem dX2_lowestFreeNumber_2 : decode cX2_lowestFreeNumber 2 = .ok (.iload_n 1, 1) := by decide +kernel
theorem dX2_lowestFreeNumber_3 : decode cX2_lowestFreeNumber 3 = .ok (.bipush 20, 2) := by decide +kernel
theorem dX2_lowestFreeNumber_5 : decode cX2_lowestFreeNumber 5 = .ok (.if_icmp .ge 19, 3) := by decide +kernel
theorem dX2_lowestFreeNumber_8 : decode cX2_lowestFreeNumber 8 = .ok (.aload_n 0, 1) := by decide +kernel
theorem dX2_lowestFreeNumber_9 : decode cX2_lowestFreeNumber 9 = .ok (.iload_n 1, 1) := by decide +kernel
theorem dX2_lowestFreeNumber_10 : decode cX2_lowestFreeNumber 10 = .ok (.invokevirtual 70, 3) := by decide +kernel
theorem dX2_lowestFreeNumber_13 : decode cX2_lowestFreeNumber 13 = .ok (.ifCond .ne 5, 3) := by decide +kernel
theorem dX2_lowestFreeNumber_16 : decode cX2_lowestFreeNumber 16 = .ok (.iload_n 1, 1) := by decide +kernel
theorem dX2_lowestFreeNumber_17 : decode cX2_lowestFreeNumber 17 = .ok (.ireturn, 1) := by decide +kernel
theorem dX2_lowestFreeNumber_18 : decode cX2_lowestFreeNumber 18 = .ok (.iinc 1 1, 3) := by decide +kernel
theorem dX2_lowestFreeNumber_21 : decode cX2_lowestFreeNumber 21 = .ok (.goto (-19), 3) := by decide +kernel
theorem dX2_lowestFreeNumber_24 : decode cX2_lowestFreeNumber 24 = .ok (.bipush (-5), 2) := by decide +kernel
theorem dX2_lowestFreeNumber_26 : decode cX2_lowestFreeNumber 26 = .ok (.ireturn, 1) := by decide +kernel
theorem dX2_noteAfloat_0 : decode cX2_noteAfloat 0 = .ok (.aload_n 0, 1) := by decide +kernel
theorem dX2_noteAfloat_1 : decode cX2_noteAfloat 1 = .ok (.iload_n 1, 1) := by decide +kernel
theorem dX2_noteAfloat_2 : decode cX2_noteAfloat 2 = .ok (.iconst 4, 1) := by decide +kernel
theorem dX2_noteAfloat_3 : decode cX2_noteAfloat 3 = .ok (.bipush (-5), 2) := by decide +kernel
theorem dX2_noteAfloat_5 : decode cX2_noteAfloat 5 = .ok (.invokevirtual 55, 3) := by decide +kernel
theorem dX2_noteAfloat_8 : decode cX2_noteAfloat 8 = .ok (.aload_n 0, 1) := by decide +kernel
theorem dX2_noteAfloat_9 : decode cX2_noteAfloat 9 = .ok (.iload_n 1, 1) := by decide +kernel
theorem dX2_noteAfloat_10 : decode cX2_noteAfloat 10 = .ok (.iconst 5, 1) := by decide +kernel
theorem dX2_noteAfloat_11 : decode cX2_noteAfloat 11 = .ok (.bipush (-5), 2) := by decide +kernel
theorem dX2_noteAfloat_13 : decode cX2_noteAfloat 13 = .ok (.invokevirtual 55, 3) := by decide +kernel
theorem dX2_noteAfloat_16 : decode cX2_noteAfloat 16 = .ok (.aload_n 0, 1) := by decide +kernel
theorem dX2_noteAfloat_17 : decode cX2_noteAfloat 17 = .ok (.iload_n 1, 1) := by decide +kernel
theorem dX2_noteAfloat_18 : decode cX2_noteAfloat 18 = .ok (.bipush 6, 2) := by decide +kernel
theorem dX2_noteAfloat_20 : decode cX2_noteAfloat 20 = .ok (.bipush (-5), 2) := by decide +kernel
theorem dX2_noteAfloat_22 : decode cX2_noteAfloat 22 = .ok (.invokevirtual 55, 3) := by decide +kernel
theorem dX2_noteAfloat_25 : decode cX2_noteAfloat 25 = .ok (.aload_n 0, 1) := by decide +kernel
theorem dX2_noteAfloat_26 : decode cX2_noteAfloat 26 = .ok (.iload_n 1, 1) := by decide +kernel
theorem dX2_noteAfloat_27 : decode cX2_noteAfloat 27 = .ok (.bipush 9, 2) := by decide +kernel
theorem dX2_noteAfloat_29 : decode cX2_noteAfloat 29 = .ok (.iconst 0, 1) := by decide +kernel
theorem dX2_noteAfloat_30 : decode cX2_noteAfloat 30 = .ok (.invokevirtual 55, 3) := by decide +kernel
theorem dX2_noteAfloat_33 : decode cX2_noteAfloat 33 = .ok (.return_, 1) := by decide +kernel
theorem dX2_removeBoat_0 : decode cX2_removeBoat 0 = .ok (.aload_n 0, 1) := by decide +kernel
theorem dX2_removeBoat_1 : decode cX2_removeBoat 1 = .ok (.iload_n 1, 1) := by decide +kernel
theorem dX2_removeBoat_2 : decode cX2_removeBoat 2 = .ok (.invokevirtual 70, 3) := by decide +kernel
theorem dX2_removeBoat_5 : decode cX2_removeBoat 5 = .ok (.ifCond .ne 5, 3) := by decide +kernel
theorem dX2_removeBoat_8 : decode cX2_removeBoat 8 = .ok (.iconst (-1), 1) := by decide +kernel
theorem dX2_removeBoat_9 : decode cX2_removeBoat 9 = .ok (.ireturn, 1) := by decide +kernel
theorem dX2_removeBoat_10 : decode cX2_removeBoat 10 = .ok (.aload_n 0, 1) := by decide +kernel
theorem dX2_removeBoat_11 : decode cX2_removeBoat 11 = .ok (.iload_n 1, 1) := by decide +kernel
theorem dX2_removeBoat_12 : decode cX2_removeBoat 12 = .ok (.invokevirtual 73, 3) := by decide +kernel
theorem dX2_removeBoat_15 : decode cX2_removeBoat 15 = .ok (.ifCond .ne 11, 3) := by decide +kernel
theorem dX2_removeBoat_18 : decode cX2_removeBoat 18 = .ok (.aload_n 0, 1) := by decide +kernel
theorem dX2_removeBoat_19 : decode cX2_removeBoat 19 = .ok (.iload_n 1, 1) := by decide +kernel
theorem dX2_removeBoat_20 : decode cX2_removeBoat 20 = .ok (.invokevirtual 76, 3) := by decide +kernel
theorem dX2_removeBoat_23 : decode cX2_removeBoat 23 = .ok (.ifCond .ne 6, 3) := by decide +kernel
theorem dX2_removeBoat_26 : decode cX2_removeBoat 26 = .ok (.bipush (-4), 2) := by decide +kernel
theorem dX2_removeBoat_28 : decode cX2_removeBoat 28 = .ok (.ireturn, 1) := by decide +kernel
theorem dX2_removeBoat_29 : decode cX2_removeBoat 29 = .ok (.aload_n 0, 1) := by decide +kernel
theorem dX2_removeBoat_30 : decode cX2_removeBoat 30 = .ok (.iload_n 1, 1) := by decide +kernel
theorem dX2_removeBoat_31 : decode cX2_removeBoat 31 = .ok (.invokevirtual 37, 3) := by decide +kernel
theorem dX2_removeBoat_34 : decode cX2_removeBoat 34 = .ok (.aload_n 0, 1) := by decide +kernel
theorem dX2_removeBoat_35 : decode cX2_removeBoat 35 = .ok (.invokevirtual 79, 3) := by decide +kernel
theorem dX2_removeBoat_38 : decode cX2_removeBoat 38 = .ok (.ireturn, 1) := by decide +kernel
theorem dX2_boats_0 : decode cX2_boats 0 = .ok (.bipush 20, 2) := by decide +kernel
theorem dX2_boats_2 : decode cX2_boats 2 = .ok (.aload_n 0, 1) := by decide +kernel
theorem dX2_boats_3 : decode cX2_boats 3 = .ok (.iconst 0, 1) := by decide +kernel
theorem dX2_boats_4 : decode cX2_boats 4 = .ok (.bipush (-5), 2) := by decide +kernel
theorem dX2_boats_6 : decode cX2_boats 6 = .ok (.invokevirtual 82, 3) := by decide +kernel
theorem dX2_boats_9 : decode cX2_boats 9 = .ok (.isub, 1) := by decide +kernel
theorem dX2_boats_10 : decode cX2_boats 10 = .ok (.ireturn, 1) := by decide +kernel
theorem dX2_isAshore_0 : decode cX2_isAshore 0 = .ok (.aload_n 0, 1) := by decide +kernel
theorem dX2_isAshore_1 : decode cX2_isAshore 1 = .ok (.iload_n 1, 1) := by decide +kernel
theorem dX2_isAshore_2 : decode cX2_isAshore 2 = .ok (.iconst 4, 1) := by decide +kernel
theorem dX2_isAshore_3 : decode cX2_isAshore 3 = .ok (.invokevirtual 51, 3) := by decide +kernel
theorem dX2_isAshore_6 : decode cX2_isAshore 6 = .ok (.bipush (-5), 2) := by decide +kernel
theorem dX2_isAshore_8 : decode cX2_isAshore 8 = .ok (.if_icmp .eq 7, 3) := by decide +kernel
theorem dX2_isAshore_11 : decode cX2_isAshore 11 = .ok (.iconst 1, 1) := by decide +kernel
theorem dX2_isAshore_12 : decode cX2_isAshore 12 = .ok (.goto 4, 3) := by decide +kernel
theorem dX2_isAshore_15 : decode cX2_isAshore 15 = .ok (.iconst 0, 1) := by decide +kernel
theorem dX2_isAshore_16 : decode cX2_isAshore 16 = .ok (.ireturn, 1) := by decide +kernel
theorem dX2_boatsAshore_0 : decode cX2_boatsAshore 0 = .ok (.bipush 20, 2) := by decide +kernel
theorem dX2_boatsAshore_2 : decode cX2_boatsAshore 2 = .ok (.aload_n 0, 1) := by decide +kernel
theorem dX2_boatsAshore_3 : decode cX2_boatsAshore 3 = .ok (.iconst 4, 1) := by decide +kernel
theorem dX2_boatsAshore_4 : decode cX2_boatsAshore 4 = .ok (.bipush (-5), 2) := by decide +kernel
theorem dX2_boatsAshore_6 : decode cX2_boatsAshore 6 = .ok (.invokevirtual 82, 3) := by decide +kernel
theorem dX2_boatsAshore_9 : decode cX2_boatsAshore 9 = .ok (.isub, 1) := by decide +kernel
theorem dX2_boatsAshore_10 : decode cX2_boatsAshore 10 = .ok (.ireturn, 1) := by decide +kernel
theorem dX2_cradlesOf_0 : decode cX2_cradlesOf 0 = .ok (.aload_n 0, 1) := by decide +kernel
theorem dX2_cradlesOf_1 : decode cX2_cradlesOf 1 = .ok (.getfield 15, 3) := by decide +kernel
theorem dX2_cradlesOf_4 : decode cX2_cradlesOf 4 = .ok (.iload_n 1, 1) := by decide +kernel
theorem dX2_cradlesOf_5 : decode cX2_cradlesOf 5 = .ok (.iaload, 1) := by decide +kernel
theorem dX2_cradlesOf_6 : decode cX2_cradlesOf 6 = .ok (.ireturn, 1) := by decide +kernel
theorem dX2_cradlesTaken_0 : decode cX2_cradlesTaken 0 = .ok (.aload_n 0, 1) := by decide +kernel
theorem dX2_cradlesTaken_1 : decode cX2_cradlesTaken 1 = .ok (.bipush 6, 2) := by decide +kernel
theorem dX2_cradlesTaken_3 : decode cX2_cradlesTaken 3 = .ok (.iload_n 1, 1) := by decide +kernel
theorem dX2_cradlesTaken_4 : decode cX2_cradlesTaken 4 = .ok (.invokevirtual 82, 3) := by decide +kernel
theorem dX2_cradlesTaken_7 : decode cX2_cradlesTaken 7 = .ok (.ireturn, 1) := by decide +kernel
theorem dX2_bears_0 : decode cX2_bears 0 = .ok (.getstatic 85, 3) := by decide +kernel
theorem dX2_bears_3 : decode cX2_bears 3 = .ok (.iload_n 0, 1) := by decide +kernel
theorem dX2_bears_4 : decode cX2_bears 4 = .ok (.iaload, 1) := by decide +kernel
theorem dX2_bears_5 : decode cX2_bears 5 = .ok (.ireturn, 1) := by decide +kernel
theorem dX2_changeCradles_0 : decode cX2_changeCradles 0 = .ok (.iload_n 1, 1) := by decide +kernel
theorem dX2_changeCradles_1 : decode cX2_changeCradles 1 = .ok (.invokestatic 59, 3) := by decide +kernel
theorem dX2_changeCradles_4 : decode cX2_changeCradles 4 = .ok (.ifCond .ne 5, 3) := by decide +kernel
theorem dX2_changeCradles_7 : decode cX2_changeCradles 7 = .ok (.iconst (-1), 1) := by decide +kernel
theorem dX2_changeCradles_8 : decode cX2_changeCradles 8 = .ok (.ireturn, 1) := by decide +kernel
theorem dX2_changeCradles_9 : decode cX2_changeCradles 9 = .ok (.iload_n 2, 1) := by decide +kernel
theorem dX2_changeCradles_10 : decode cX2_changeCradles 10 = .ok (.iconst 0, 1) := by decide +kernel
theorem dX2_changeCradles_11 : decode cX2_changeCradles 11 = .ok (.bipush 9, 2) := by decide +kernel
theorem dX2_changeCradles_13 : decode cX2_changeCradles 13 = .ok (.invokestatic 47, 3) := by decide +kernel
theorem dX2_changeCradles_16 : decode cX2_changeCradles 16 = .ok (.ifCond .ne 6, 3) := by decide +kernel
theorem dX2_changeCradles_19 : decode cX2_changeCradles 19 = .ok (.bipush (-2), 2) := by decide +kernel
theorem dX2_changeCradles_21 : decode cX2_changeCradles 21 = .ok (.ireturn, 1) := by decide +kernel
theorem dX2_changeCradles_22 : decode cX2_changeCradles 22 = .ok (.aload_n 0, 1) := by decide +kernel
theorem dX2_changeCradles_23 : decode cX2_changeCradles 23 = .ok (.iload_n 1, 1) := by decide +kernel
theorem dX2_changeCradles_24 : decode cX2_changeCradles 24 = .ok (.invokevirtual 88, 3) := by decide +kernel
theorem dX2_changeCradles_27 : decode cX2_changeCradles 27 = .ok (.iload_n 2, 1) := by decide +kernel
theorem dX2_changeCradles_28 : decode cX2_changeCradles 28 = .ok (.if_icmp .le 6, 3) := by decide +kernel
theorem dX2_changeCradles_31 : decode cX2_changeCradles 31 = .ok (.bipush (-4), 2) := by decide +kernel
theorem dX2_changeCradles_33 : decode cX2_changeCradles 33 = .ok (.ireturn, 1) := by decide +kernel
theorem dX2_changeCradles_34 : decode cX2_changeCradles 34 = .ok (.aload_n 0, 1) := by decide +kernel
theorem dX2_changeCradles_35 : decode cX2_changeCradles 35 = .ok (.getfield 15, 3) := by decide +kernel
theorem dX2_changeCradles_38 : decode cX2_changeCradles 38 = .ok (.iload_n 1, 1) := by decide +kernel
theorem dX2_changeCradles_39 : decode cX2_changeCradles 39 = .ok (.iaload, 1) := by decide +kernel
theorem dX2_changeCradles_40 : decode cX2_changeCradles 40 = .ok (.istore_n 3, 1) := by decide +kernel
theorem dX2_changeCradles_41 : decode cX2_changeCradles 41 = .ok (.iload_n 3, 1) := by decide +kernel
theorem dX2_changeCradles_42 : decode cX2_changeCradles 42 = .ok (.iload_n 2, 1) := by decide +kernel
theorem dX2_changeCradles_43 : decode cX2_changeCradles 43 = .ok (.if_icmp .ne 6, 3) := by decide +kernel
theorem dX2_changeCradles_46 : decode cX2_changeCradles 46 = .ok (.bipush (-5), 2) := by decide +kernel
theorem dX2_changeCradles_48 : decode cX2_changeCradles 48 = .ok (.ireturn, 1) := by decide +kernel
theorem dX2_changeCradles_49 : decode cX2_changeCradles 49 = .ok (.aload_n 0, 1) := by decide +kernel
theorem dX2_changeCradles_50 : decode cX2_changeCradles 50 = .ok (.getfield 15, 3) := by decide +kernel
theorem dX2_changeCradles_53 : decode cX2_changeCradles 53 = .ok (.iload_n 1, 1) := by decide +kernel
theorem dX2_changeCradles_54 : decode cX2_changeCradles 54 = .ok (.iload_n 2, 1) := by decide +kernel
theorem dX2_changeCradles_55 : decode cX2_changeCradles 55 = .ok (.iastore, 1) := by decide +kernel
theorem dX2_changeCradles_56 : decode cX2_changeCradles 56 = .ok (.iload_n 3, 1) := by decide +kernel
theorem dX2_changeCradles_57 : decode cX2_changeCradles 57 = .ok (.ireturn, 1) := by decide +kernel
theorem dX2_hasFreeCradle_0 : decode cX2_hasFreeCradle 0 = .ok (.aload_n 0, 1) := by decide +kernel
theorem dX2_hasFreeCradle_1 : decode cX2_hasFreeCradle 1 = .ok (.bipush 6, 2) := by decide +kernel
theorem dX2_hasFreeCradle_3 : decode cX2_hasFreeCradle 3 = .ok (.iload_n 1, 1) := by decide +kernel
theorem dX2_hasFreeCradle_4 : decode cX2_hasFreeCradle 4 = .ok (.invokevirtual 82, 3) := by decide +kernel
theorem dX2_hasFreeCradle_7 : decode cX2_hasFreeCradle 7 = .ok (.aload_n 0, 1) := by decide +kernel
theorem dX2_hasFreeCradle_8 : decode cX2_hasFreeCradle 8 = .ok (.getfield 15, 3) := by decide +kernel
theorem dX2_hasFreeCradle_11 : decode cX2_hasFreeCradle 11 = .ok (.iload_n 1, 1) := by decide +kernel
theorem dX2_hasFreeCradle_12 : decode cX2_hasFreeCradle 12 = .ok (.iaload, 1) := by decide +kernel
theorem dX2_hasFreeCradle_13 : decode cX2_hasFreeCradle 13 = .ok (.if_icmp .ge 7, 3) := by decide +kernel
theorem dX2_hasFreeCradle_16 : decode cX2_hasFreeCradle 16 = .ok (.iconst 1, 1) := by decide +kernel
theorem dX2_hasFreeCradle_17 : decode cX2_hasFreeCradle 17 = .ok (.goto 4, 3) := by decide +kernel
theorem dX2_hasFreeCradle_20 : decode cX2_hasFreeCradle 20 = .ok (.iconst 0, 1) := by decide +kernel
theorem dX2_hasFreeCradle_21 : decode cX2_hasFreeCradle 21 = .ok (.ireturn, 1) := by decide +kernel
theorem dX2_cradleFor_0 : decode cX2_cradleFor 0 = .ok (.aload_n 0, 1) := by decide +kernel
theorem dX2_cradleFor_1 : decode cX2_cradleFor 1 = .ok (.iload_n 1, 1) := by decide +kernel
theorem dX2_cradleFor_2 : decode cX2_cradleFor 2 = .ok (.iconst 3, 1) := by decide +kernel
theorem dX2_cradleFor_3 : decode cX2_cradleFor 3 = .ok (.invokevirtual 51, 3) := by decide +kernel
theorem dX2_cradleFor_6 : decode cX2_cradleFor 6 = .ok (.istore_n 2, 1) := by decide +kernel
theorem dX2_cradleFor_7 : decode cX2_cradleFor 7 = .ok (.aload_n 0, 1) := by decide +kernel
theorem dX2_cradleFor_8 : decode cX2_cradleFor 8 = .ok (.iload_n 1, 1) := by decide +kernel
theorem dX2_cradleFor_9 : decode cX2_cradleFor 9 = .ok (.iconst 2, 1) := by decide +kernel
theorem dX2_cradleFor_10 : decode cX2_cradleFor 10 = .ok (.invokevirtual 51, 3) := by decide +kernel
theorem dX2_cradleFor_13 : decode cX2_cradleFor 13 = .ok (.istore_n 3, 1) := by decide +kernel
theorem dX2_cradleFor_14 : decode cX2_cradleFor 14 = .ok (.aload_n 0, 1) := by decide +kernel
theorem dX2_cradleFor_15 : decode cX2_cradleFor 15 = .ok (.iload_n 2, 1) := by decide +kernel
theorem dX2_cradleFor_16 : decode cX2_cradleFor 16 = .ok (.invokevirtual 92, 3) := by decide +kernel
theorem dX2_cradleFor_19 : decode cX2_cradleFor 19 = .ok (.ifCond .eq 13, 3) := by decide +kernel
theorem dX2_cradleFor_22 : decode cX2_cradleFor 22 = .ok (.iload_n 3, 1) := by decide +kernel
theorem dX2_cradleFor_23 : decode cX2_cradleFor 23 = .ok (.iload_n 2, 1) := by decide +kernel
theorem dX2_cradleFor_24 : decode cX2_cradleFor 24 = .ok (.invokestatic 95, 3) := by decide +kernel
theorem dX2_cradleFor_27 : decode cX2_cradleFor 27 = .ok (.if_icmp .gt 5, 3) := by decide +kernel
theorem dX2_cradleFor_30 : decode cX2_cradleFor 30 = .ok (.iload_n 2, 1) := by decide +kernel
theorem dX2_cradleFor_31 : decode cX2_cradleFor 31 = .ok (.ireturn, 1) := by decide +kernel
theorem dX2_cradleFor_32 : decode cX2_cradleFor 32 = .ok (.iload_n 2, 1) := by decide +kernel
theorem dX2_cradleFor_33 : decode cX2_cradleFor 33 = .ok (.invokestatic 98, 3) := by decide +kernel
theorem dX2_cradleFor_36 : decode cX2_cradleFor 36 = .ok (.istore 4, 2) := by decide +kernel
theorem dX2_cradleFor_38 : decode cX2_cradleFor 38 = .ok (.iload 4, 2) := by decide +kernel
theorem dX2_cradleFor_40 : decode cX2_cradleFor 40 = .ok (.bipush (-5), 2) := by decide +kernel
theorem dX2_cradleFor_42 : decode cX2_cradleFor 42 = .ok (.if_icmp .eq 26, 3) := by decide +kernel
theorem dX2_cradleFor_45 : decode cX2_cradleFor 45 = .ok (.aload_n 0, 1) := by decide +kernel
theorem dX2_cradleFor_46 : decode cX2_cradleFor 46 = .ok (.iload 4, 2) := by decide +kernel
theorem dX2_cradleFor_48 : decode cX2_cradleFor 48 = .ok (.invokevirtual 92, 3) := by decide +kernel
theorem dX2_cradleFor_51 : decode cX2_cradleFor 51 = .ok (.ifCond .eq 17, 3) := by decide +kernel
theorem dX2_cradleFor_54 : decode cX2_cradleFor 54 = .ok (.iconst 2, 1) := by decide +kernel
theorem dX2_cradleFor_55 : decode cX2_cradleFor 55 = .ok (.iload_n 3, 1) := by decide +kernel
theorem dX2_cradleFor_56 : decode cX2_cradleFor 56 = .ok (.imul, 1) := by decide +kernel
theorem dX2_cradleFor_57 : decode cX2_cradleFor 57 = .ok (.iload 4, 2) := by decide +kernel
theorem dX2_cradleFor_59 : decode cX2_cradleFor 59 = .ok (.invokestatic 95, 3) := by decide +kernel
theorem dX2_cradleFor_62 : decode cX2_cradleFor 62 = .ok (.if_icmp .gt 6, 3) := by decide +kernel
theorem dX2_cradleFor_65 : decode cX2_cradleFor 65 = .ok (.iload 4, 2) := by decide +kernel
theorem dX2_cradleFor_67 : decode cX2_cradleFor 67 = .ok (.ireturn, 1) := by decide +kernel
theorem dX2_cradleFor_68 : decode cX2_cradleFor 68 = .ok (.bipush (-5), 2) := by decide +kernel
theorem dX2_cradleFor_70 : decode cX2_cradleFor 70 = .ok (.ireturn, 1) := by decide +kernel
theorem dX2_otherKindFor_0 : decode cX2_otherKindFor 0 = .ok (.iload_n 0, 1) := by decide +kernel
theorem dX2_otherKindFor_1 : decode cX2_otherKindFor 1 = .ok (.ifCond .ne 5, 3) := by decide +kernel
theorem dX2_otherKindFor_4 : decode cX2_otherKindFor 4 = .ok (.iconst 2, 1) := by decide +kernel
theorem dX2_otherKindFor_5 : decode cX2_otherKindFor 5 = .ok (.ireturn, 1) := by decide +kernel
theorem dX2_otherKindFor_6 : decode cX2_otherKindFor 6 = .ok (.iload_n 0, 1) := by decide +kernel
theorem dX2_otherKindFor_7 : decode cX2_otherKindFor 7 = .ok (.iconst 2, 1) := by decide +kernel
theorem dX2_otherKindFor_8 : decode cX2_otherKindFor 8 = .ok (.if_icmp .ne 7, 3) := by decide +kernel
theorem dX2_otherKindFor_11 : decode cX2_otherKindFor 11 = .ok (.iconst 0, 1) := by decide +kernel
theorem dX2_otherKindFor_12 : decode cX2_otherKindFor 12 = .ok (.goto 5, 3) := by decide +kernel
theorem dX2_otherKindFor_15 : decode cX2_otherKindFor 15 = .ok (.bipush (-5), 2) := by decide +kernel
theorem dX2_otherKindFor_17 : decode cX2_otherKindFor 17 = .ok (.ireturn, 1) := by decide +kernel
theorem dX2_metresOf_0 : decode cX2_metresOf 0 = .ok (.aload_n 0, 1) := by decide +kernel
theorem dX2_metresOf_1 : decode cX2_metresOf 1 = .ok (.getfield 18, 3) := by decide +kernel
theorem dX2_metresOf_4 : decode cX2_metresOf 4 = .ok (.iload_n 1, 1) := by decide +kernel
theorem dX2_metresOf_5 : decode cX2_metresOf 5 = .ok (.iaload, 1) := by decide +kernel
theorem dX2_metresOf_6 : decode cX2_metresOf 6 = .ok (.ireturn, 1) := by decide +kernel
theorem dX2_standsIn_0 : decode cX2_standsIn 0 = .ok (.aload_n 0, 1) := by decide +kernel
theorem dX2_standsIn_1 : decode cX2_standsIn 1 = .ok (.iload_n 1, 1) := by decide +kernel
theorem dX2_standsIn_2 : decode cX2_standsIn 2 = .ok (.iconst 4, 1) := by decide +kernel
theorem dX2_standsIn_3 : decode cX2_standsIn 3 = .ok (.invokevirtual 51, 3) := by decide +kernel
theorem dX2_standsIn_6 : decode cX2_standsIn 6 = .ok (.iload_n 2, 1) := by decide +kernel
theorem dX2_standsIn_7 : decode cX2_standsIn 7 = .ok (.if_icmp .ne 7, 3) := by decide +kernel
theorem dX2_standsIn_10 : decode cX2_standsIn 10 = .ok (.iconst 1, 1) := by decide +kernel
theorem dX2_standsIn_11 : decode cX2_standsIn 11 = .ok (.goto 4, 3) := by decide +kernel
theorem dX2_standsIn_14 : decode cX2_standsIn 14 = .ok (.iconst 0, 1) := by decide +kernel
theorem dX2_standsIn_15 : decode cX2_standsIn 15 = .ok (.ireturn, 1) := by decide +kernel
theorem dX2_metresTaken_0 : decode cX2_metresTaken 0 = .ok (.iconst 0, 1) := by decide +kernel
theorem dX2_metresTaken_1 : decode cX2_metresTaken 1 = .ok (.istore_n 2, 1) := by decide +kernel
theorem dX2_metresTaken_2 : decode cX2_metresTaken 2 = .ok (.iconst 0, 1) := by decide +kernel
theorem dX2_metresTaken_3 : decode cX2_metresTaken 3 = .ok (.istore_n 3, 1) := by decide +kernel
theorem dX2_metresTaken_4 : decode cX2_metresTaken 4 = .ok (.iload_n 3, 1) := by decide +kernel
theorem dX2_metresTaken_5 : decode cX2_metresTaken 5 = .ok (.bipush 11, 2) := by decide +kernel
theorem dX2_metresTaken_7 : decode cX2_metresTaken 7 = .ok (.iadd, 1) := by decide +kernel
theorem dX2_metresTaken_8 : decode cX2_metresTaken 8 = .ok (.aload_n 0, 1) := by decide +kernel
theorem dX2_metresTaken_9 : decode cX2_metresTaken 9 = .ok (.getfield 11, 3) := by decide +kernel
theorem dX2_metresTaken_12 : decode cX2_metresTaken 12 = .ok (.arraylength, 1) := by decide +kernel
theorem dX2_metresTaken_13 : decode cX2_metresTaken 13 = .ok (.if_icmp .gt 34, 3) := by decide +kernel
theorem dX2_metresTaken_16 : decode cX2_metresTaken 16 = .ok (.aload_n 0, 1) := by decide +kernel
theorem dX2_metresTaken_17 : decode cX2_metresTaken 17 = .ok (.getfield 11, 3) := by decide +kernel
theorem dX2_metresTaken_20 : decode cX2_metresTaken 20 = .ok (.iload_n 3, 1) := by decide +kernel
theorem dX2_metresTaken_21 : decode cX2_metresTaken 21 = .ok (.iconst 4, 1) := by decide +kernel
theorem dX2_metresTaken_22 : decode cX2_metresTaken 22 = .ok (.iadd, 1) := by decide +kernel
theorem dX2_metresTaken_23 : decode cX2_metresTaken 23 = .ok (.iaload, 1) := by decide +kernel
theorem dX2_metresTaken_24 : decode cX2_metresTaken 24 = .ok (.iload_n 1, 1) := by decide +kernel
theorem dX2_metresTaken_25 : decode cX2_metresTaken 25 = .ok (.if_icmp .ne 16, 3) := by decide +kernel
theorem dX2_metresTaken_28 : decode cX2_metresTaken 28 = .ok (.iload_n 2, 1) := by decide +kernel
theorem dX2_metresTaken_29 : decode cX2_metresTaken 29 = .ok (.aload_n 0, 1) := by decide +kernel
theorem dX2_metresTaken_30 : decode cX2_metresTaken 30 = .ok (.getfield 11, 3) := by decide +kernel
theorem dX2_metresTaken_33 : decode cX2_metresTaken 33 = .ok (.iload_n 3, 1) := by decide +kernel
theorem dX2_metresTaken_34 : decode cX2_metresTaken 34 = .ok (.iconst 0, 1) := by decide +kernel
theorem dX2_metresTaken_35 : decode cX2_metresTaken 35 = .ok (.iadd, 1) := by decide +kernel
theorem dX2_metresTaken_36 : decode cX2_metresTaken 36 = .ok (.iaload, 1) := by decide +kernel
theorem dX2_metresTaken_37 : decode cX2_metresTaken 37 = .ok (.iconst 1, 1) := by decide +kernel
theorem dX2_metresTaken_38 : decode cX2_metresTaken 38 = .ok (.iadd, 1) := by decide +kernel
theorem dX2_metresTaken_39 : decode cX2_metresTaken 39 = .ok (.iadd, 1) := by decide +kernel
theorem dX2_metresTaken_40 : decode cX2_metresTaken 40 = .ok (.istore_n 2, 1) := by decide +kernel
theorem dX2_metresTaken_41 : decode cX2_metresTaken 41 = .ok (.iinc 3 11, 3) := by decide +kernel
theorem dX2_metresTaken_44 : decode cX2_metresTaken 44 = .ok (.goto (-40), 3) := by decide +kernel
theorem dX2_metresTaken_47 : decode cX2_metresTaken 47 = .ok (.iload_n 2, 1) := by decide +kernel
theorem dX2_metresTaken_48 : decode cX2_metresTaken 48 = .ok (.ireturn, 1) := by decide +kernel
theorem dX2_metresLeft_0 : decode cX2_metresLeft 0 = .ok (.aload_n 0, 1) := by decide +kernel
theorem dX2_metresLeft_1 : decode cX2_metresLeft 1 = .ok (.iload_n 1, 1) := by decide +kernel
theorem dX2_metresLeft_2 : decode cX2_metresLeft 2 = .ok (.invokevirtual 101, 3) := by decide +kernel
theorem dX2_metresLeft_5 : decode cX2_metresLeft 5 = .ok (.aload_n 0, 1) := by decide +kernel
theorem dX2_metresLeft_6 : decode cX2_metresLeft 6 = .ok (.iload_n 1, 1) := by decide +kernel
theorem dX2_metresLeft_7 : decode cX2_metresLeft 7 = .ok (.invokevirtual 104, 3) := by decide +kernel
theorem dX2_metresLeft_10 : decode cX2_metresLeft 10 = .ok (.isub, 1) := by decide +kernel
theorem dX2_metresLeft_11 : decode cX2_metresLeft 11 = .ok (.ireturn, 1) := by decide +kernel
theorem dX2_hasRoom_0 : decode cX2_hasRoom 0 = .ok (.aload_n 0, 1) := by decide +kernel
theorem dX2_hasRoom_1 : decode cX2_hasRoom 1 = .ok (.iload_n 2, 1) := by decide +kernel
theorem dX2_hasRoom_2 : decode cX2_hasRoom 2 = .ok (.iconst 0, 1) := by decide +kernel
theorem dX2_hasRoom_3 : decode cX2_hasRoom 3 = .ok (.invokevirtual 51, 3) := by decide +kernel
theorem dX2_hasRoom_6 : decode cX2_hasRoom 6 = .ok (.iconst 1, 1) := by decide +kernel
theorem dX2_hasRoom_7 : decode cX2_hasRoom 7 = .ok (.iadd, 1) := by decide +kernel
theorem dX2_hasRoom_8 : decode cX2_hasRoom 8 = .ok (.aload_n 0, 1) := by decide +kernel
theorem dX2_hasRoom_9 : decode cX2_hasRoom 9 = .ok (.iload_n 1, 1) := by decide +kernel
theorem dX2_hasRoom_10 : decode cX2_hasRoom 10 = .ok (.invokevirtual 107, 3) := by decide +kernel
theorem dX2_hasRoom_13 : decode cX2_hasRoom 13 = .ok (.if_icmp .gt 7, 3) := by decide +kernel
theorem dX2_hasRoom_16 : decode cX2_hasRoom 16 = .ok (.iconst 1, 1) := by decide +kernel
theorem dX2_hasRoom_17 : decode cX2_hasRoom 17 = .ok (.goto 4, 3) := by decide +kernel
theorem dX2_hasRoom_20 : decode cX2_hasRoom 20 = .ok (.iconst 0, 1) := by decide +kernel
theorem dX2_hasRoom_21 : decode cX2_hasRoom 21 = .ok (.ireturn, 1) := by decide +kernel
theorem dX2_boatsIn_0 : decode cX2_boatsIn 0 = .ok (.aload_n 0, 1) := by decide +kernel
theorem dX2_boatsIn_1 : decode cX2_boatsIn 1 = .ok (.iconst 4, 1) := by decide +kernel
theorem dX2_boatsIn_2 : decode cX2_boatsIn 2 = .ok (.iload_n 1, 1) := by decide +kernel
theorem dX2_boatsIn_3 : decode cX2_boatsIn 3 = .ok (.invokevirtual 82, 3) := by decide +kernel
theorem dX2_boatsIn_6 : decode cX2_boatsIn 6 = .ok (.ireturn, 1) := by decide +kernel
theorem dX2_boatAt_0 : decode cX2_boatAt 0 = .ok (.iconst 0, 1) := by decide +kernel
theorem dX2_boatAt_1 : decode cX2_boatAt 1 = .ok (.istore_n 3, 1) := by decide +kernel
theorem dX2_boatAt_2 : decode cX2_boatAt 2 = .ok (.iload_n 3, 1) := by decide +kernel
theorem dX2_boatAt_3 : decode cX2_boatAt 3 = .ok (.bipush 20, 2) := by decide +kernel
theorem dX2_boatAt_5 : decode cX2_boatAt 5 = .ok (.if_icmp .ge 30, 3) := by decide +kernel
theorem dX2_boatAt_8 : decode cX2_boatAt 8 = .ok (.aload_n 0, 1) := by decide +kernel
theorem dX2_boatAt_9 : decode cX2_boatAt 9 = .ok (.iload_n 3, 1) := by decide +kernel
theorem dX2_boatAt_10 : decode cX2_boatAt 10 = .ok (.iload_n 1, 1) := by decide +kernel
theorem dX2_boatAt_11 : decode cX2_boatAt 11 = .ok (.invokevirtual 110, 3) := by decide +kernel
theorem dX2_boatAt_14 : decode cX2_boatAt 14 = .ok (.ifCond .eq 15, 3) := by decide +kernel
theorem dX2_boatAt_17 : decode cX2_boatAt 17 = .ok (.aload_n 0, 1) := by decide +kernel
theorem dX2_boatAt_18 : decode cX2_boatAt 18 = .ok (.iload_n 3, 1) := by decide +kernel
theorem dX2_boatAt_19 : decode cX2_boatAt 19 = .ok (.iconst 5, 1) := by decide +kernel
theorem dX2_boatAt_20 : decode cX2_boatAt 20 = .ok (.invokevirtual 51, 3) := by decide +kernel
theorem dX2_boatAt_23 : decode cX2_boatAt 23 = .ok (.iload_n 2, 1) := by decide +kernel
theorem dX2_boatAt_24 : decode cX2_boatAt 24 = .ok (.if_icmp .ne 5, 3) := by decide +kernel
theorem dX2_boatAt_27 : decode cX2_boatAt 27 = .ok (.iload_n 3, 1) := by decide +kernel
theorem dX2_boatAt_28 : decode cX2_boatAt 28 = .ok (.ireturn, 1) := by decide +kernel
theorem dX2_boatAt_29 : decode cX2_boatAt 29 = .ok (.iinc 3 1, 3) := by decide +kernel
theorem dX2_boatAt_32 : decode cX2_boatAt 32 = .ok (.goto (-30), 3) := by decide +kernel
theorem dX2_boatAt_35 : decode cX2_boatAt 35 = .ok (.bipush (-5), 2) := by decide +kernel
theorem dX2_boatAt_37 : decode cX2_boatAt 37 = .ok (.ireturn, 1) := by decide +kernel
theorem dX2_boatsFartherOut_0 : decode cX2_boatsFartherOut 0 = .ok (.aload_n 0, 1) := by decide +kernel
theorem dX2_boatsFartherOut_1 : decode cX2_boatsFartherOut 1 = .ok (.aload_n 0, 1) := by decide +kernel
theorem dX2_boatsFartherOut_2 : decode cX2_boatsFartherOut 2 = .ok (.iload_n 1, 1) := by decide +kernel
theorem dX2_boatsFartherOut_3 : decode cX2_boatsFartherOut 3 = .ok (.iconst 4, 1) := by decide +kernel
theorem dX2_boatsFartherOut_4 : decode cX2_boatsFartherOut 4 = .ok (.invokevirtual 51, 3) := by decide +kernel
theorem dX2_boatsFartherOut_7 : decode cX2_boatsFartherOut 7 = .ok (.invokevirtual 114, 3) := by decide +kernel
theorem dX2_boatsFartherOut_10 : decode cX2_boatsFartherOut 10 = .ok (.iconst 1, 1) := by decide +kernel
theorem dX2_boatsFartherOut_11 : decode cX2_boatsFartherOut 11 = .ok (.isub, 1) := by decide +kernel
theorem dX2_boatsFartherOut_12 : decode cX2_boatsFartherOut 12 = .ok (.aload_n 0, 1) := by decide +kernel
theorem dX2_boatsFartherOut_13 : decode cX2_boatsFartherOut 13 = .ok (.iload_n 1, 1) := by decide +kernel
theorem dX2_boatsFartherOut_14 : decode cX2_boatsFartherOut 14 = .ok (.iconst 5, 1) := by decide +kernel
theorem dX2_boatsFartherOut_15 : decode cX2_boatsFartherOut 15 = .ok (.invokevirtual 51, 3) := by decide +kernel
theorem dX2_boatsFartherOut_18 : decode cX2_boatsFartherOut 18 = .ok (.isub, 1) := by decide +kernel
theorem dX2_boatsFartherOut_19 : decode cX2_boatsFartherOut 19 = .ok (.ireturn, 1) := by decide +kernel
theorem dX2_changeRow_0 : decode cX2_changeRow 0 = .ok (.iload_n 1, 1) := by decide +kernel
theorem dX2_changeRow_1 : decode cX2_changeRow 1 = .ok (.invokestatic 117, 3) := by decide +kernel
theorem dX2_changeRow_4 : decode cX2_changeRow 4 = .ok (.ifCond .ne 5, 3) := by decide +kernel
theorem dX2_changeRow_7 : decode cX2_changeRow 7 = .ok (.iconst (-1), 1) := by decide +kernel
theorem dX2_changeRow_8 : decode cX2_changeRow 8 = .ok (.ireturn, 1) := by decide +kernel
theorem dX2_changeRow_9 : decode cX2_changeRow 9 = .ok (.iload_n 2, 1) := by decide +kernel
theorem dX2_changeRow_10 : decode cX2_changeRow 10 = .ok (.bipush 10, 2) := by decide +kernel
theorem dX2_changeRow_12 : decode cX2_changeRow 12 = .ok (.bipush 60, 2) := by decide +kernel
theorem dX2_changeRow_14 : decode cX2_changeRow 14 = .ok (.invokestatic 47, 3) := by decide +kernel
theorem dX2_changeRow_17 : decode cX2_changeRow 17 = .ok (.ifCond .ne 6, 3) := by decide +kernel
theorem dX2_changeRow_20 : decode cX2_changeRow 20 = .ok (.bipush (-2), 2) := by decide +kernel
theorem dX2_changeRow_22 : decode cX2_changeRow 22 = .ok (.ireturn, 1) := by decide +kernel
theorem dX2_changeRow_23 : decode cX2_changeRow 23 = .ok (.aload_n 0, 1) := by decide +kernel
theorem dX2_changeRow_24 : decode cX2_changeRow 24 = .ok (.iload_n 1, 1) := by decide +kernel
theorem dX2_changeRow_25 : decode cX2_changeRow 25 = .ok (.invokevirtual 104, 3) := by decide +kernel
theorem dX2_changeRow_28 : decode cX2_changeRow 28 = .ok (.iload_n 2, 1) := by decide +kernel
theorem dX2_changeRow_29 : decode cX2_changeRow 29 = .ok (.if_icmp .le 6, 3) := by decide +kernel
theorem dX2_changeRow_32 : decode cX2_changeRow 32 = .ok (.bipush (-4), 2) := by decide +kernel
theorem dX2_changeRow_34 : decode cX2_changeRow 34 = .ok (.ireturn, 1) := by decide +kernel
theorem dX2_changeRow_35 : decode cX2_changeRow 35 = .ok (.aload_n 0, 1) := by decide +kernel
theorem dX2_changeRow_36 : decode cX2_changeRow 36 = .ok (.getfield 18, 3) := by decide +kernel
theorem dX2_changeRow_39 : decode cX2_changeRow 39 = .ok (.iload_n 1, 1) := by decide +kernel
theorem dX2_changeRow_40 : decode cX2_changeRow 40 = .ok (.iaload, 1) := by decide +kernel
theorem dX2_changeRow_41 : decode cX2_changeRow 41 = .ok (.istore_n 3, 1) := by decide +kernel
theorem dX2_changeRow_42 : decode cX2_changeRow 42 = .ok (.iload_n 3, 1) := by decide +kernel
theorem dX2_changeRow_43 : decode cX2_changeRow 43 = .ok (.iload_n 2, 1) := by decide +kernel
theorem dX2_changeRow_44 : decode cX2_changeRow 44 = .ok (.if_icmp .ne 6, 3) := by decide +kernel
theorem dX2_changeRow_47 : decode cX2_changeRow 47 = .ok (.bipush (-5), 2) := by decide +kernel
theorem dX2_changeRow_49 : decode cX2_changeRow 49 = .ok (.ireturn, 1) := by decide +kernel
theorem dX2_changeRow_50 : decode cX2_changeRow 50 = .ok (.aload_n 0, 1) := by decide +kernel
theorem dX2_changeRow_51 : decode cX2_changeRow 51 = .ok (.getfield 18, 3) := by decide +kernel
theorem dX2_changeRow_54 : decode cX2_changeRow 54 = .ok (.iload_n 1, 1) := by decide +kernel
theorem dX2_changeRow_55 : decode cX2_changeRow 55 = .ok (.iload_n 2, 1) := by decide +kernel
theorem dX2_changeRow_56 : decode cX2_changeRow 56 = .ok (.iastore, 1) := by decide +kernel
theorem dX2_changeRow_57 : decode cX2_changeRow 57 = .ok (.iload_n 3, 1) := by decide +kernel
theorem dX2_changeRow_58 : decode cX2_changeRow 58 = .ok (.ireturn, 1) := by decide +kernel
theorem dX2_tightestRow_0 : decode cX2_tightestRow 0 = .ok (.bipush (-5), 2) := by decide +kernel
theorem dX2_tightestRow_2 : decode cX2_tightestRow 2 = .ok (.istore_n 2, 1) := by decide +kernel
theorem dX2_tightestRow_3 : decode cX2_tightestRow 3 = .ok (.iconst 0, 1) := by decide +kernel
theorem dX2_tightestRow_4 : decode cX2_tightestRow 4 = .ok (.istore_n 3, 1) := by decide +kernel
theorem dX2_tightestRow_5 : decode cX2_tightestRow 5 = .ok (.iload_n 3, 1) := by decide +kernel
theorem dX2_tightestRow_6 : decode cX2_tightestRow 6 = .ok (.iconst 4, 1) := by decide +kernel
theorem dX2_tightestRow_7 : decode cX2_tightestRow 7 = .ok (.if_icmp .ge 60, 3) := by decide +kernel
theorem dX2_tightestRow_10 : decode cX2_tightestRow 10 = .ok (.aload_n 0, 1) := by decide +kernel
theorem dX2_tightestRow_11 : decode cX2_tightestRow 11 = .ok (.iload_n 1, 1) := by decide +kernel
theorem dX2_tightestRow_12 : decode cX2_tightestRow 12 = .ok (.iload_n 3, 1) := by decide +kernel
theorem dX2_tightestRow_13 : decode cX2_tightestRow 13 = .ok (.invokevirtual 110, 3) := by decide +kernel
theorem dX2_tightestRow_16 : decode cX2_tightestRow 16 = .ok (.ifCond .ne 16, 3) := by decide +kernel
theorem dX2_tightestRow_19 : decode cX2_tightestRow 19 = .ok (.aload_n 0, 1) := by decide +kernel
theorem dX2_tightestRow_20 : decode cX2_tightestRow 20 = .ok (.iload_n 3, 1) := by decide +kernel
theorem dX2_tightestRow_21 : decode cX2_tightestRow 21 = .ok (.iload_n 1, 1) := by decide +kernel
theorem dX2_tightestRow_22 : decode cX2_tightestRow 22 = .ok (.invokevirtual 120, 3) := by decide +kernel
theorem dX2_tightestRow_25 : decode cX2_tightestRow 25 = .ok (.ifCond .eq 7, 3) := by decide +kernel
theorem dX2_tightestRow_28 : decode cX2_tightestRow 28 = .ok (.iconst 1, 1) := by decide +kernel
theorem dX2_tightestRow_29 : decode cX2_tightestRow 29 = .ok (.goto 4, 3) := by decide +kernel
theorem dX2_tightestRow_32 : decode cX2_tightestRow 32 = .ok (.iconst 0, 1) := by decide +kernel
theorem dX2_tightestRow_33 : decode cX2_tightestRow 33 = .ok (.istore 4, 2) := by decide +kernel
theorem dX2_tightestRow_35 : decode cX2_tightestRow 35 = .ok (.iload 4, 2) := by decide +kernel
theorem dX2_tightestRow_37 : decode cX2_tightestRow 37 = .ok (.ifCond .eq 24, 3) := by decide +kernel
theorem dX2_tightestRow_40 : decode cX2_tightestRow 40 = .ok (.iload_n 2, 1) := by decide +kernel
theorem dX2_tightestRow_41 : decode cX2_tightestRow 41 = .ok (.bipush (-5), 2) := by decide +kernel
theorem dX2_tightestRow_43 : decode cX2_tightestRow 43 = .ok (.if_icmp .eq 16, 3) := by decide +kernel
theorem dX2_tightestRow_46 : decode cX2_tightestRow 46 = .ok (.aload_n 0, 1) := by decide +kernel
theorem dX2_tightestRow_47 : decode cX2_tightestRow 47 = .ok (.iload_n 3, 1) := by decide +kernel
theorem dX2_tightestRow_48 : decode cX2_tightestRow 48 = .ok (.invokevirtual 107, 3) := by decide +kernel
theorem dX2_tightestRow_51 : decode cX2_tightestRow 51 = .ok (.aload_n 0, 1) := by decide +kernel
theorem dX2_tightestRow_52 : decode cX2_tightestRow 52 = .ok (.iload_n 2, 1) := by decide +kernel
theorem dX2_tightestRow_53 : decode cX2_tightestRow 53 = .ok (.invokevirtual 107, 3) := by decide +kernel
theorem dX2_tightestRow_56 : decode cX2_tightestRow 56 = .ok (.if_icmp .ge 5, 3) := by decide +kernel
theorem dX2_tightestRow_59 : decode cX2_tightestRow 59 = .ok (.iload_n 3, 1) := by decide +kernel
theorem dX2_tightestRow_60 : decode cX2_tightestRow 60 = .ok (.istore_n 2, 1) := by decide +kernel
theorem dX2_tightestRow_61 : decode cX2_tightestRow 61 = .ok (.iinc 3 1, 3) := by decide +kernel
theorem dX2_tightestRow_64 : decode cX2_tightestRow 64 = .ok (.goto (-59), 3) := by decide +kernel
theorem dX2_tightestRow_67 : decode cX2_tightestRow 67 = .ok (.iload_n 2, 1) := by decide +kernel
theorem dX2_tightestRow_68 : decode cX2_tightestRow 68 = .ok (.ireturn, 1) := by decide +kernel
theorem dX2_putAtOuterEnd_0 : decode cX2_putAtOuterEnd 0 = .ok (.aload_n 0, 1) := by decide +kernel
theorem dX2_putAtOuterEnd_1 : decode cX2_putAtOuterEnd 1 = .ok (.iload_n 1, 1) := by decide +kernel
theorem dX2_putAtOuterEnd_2 : decode cX2_putAtOuterEnd 2 = .ok (.iconst 5, 1) := by decide +kernel
theorem dX2_putAtOuterEnd_3 : decode cX2_putAtOuterEnd 3 = .ok (.aload_n 0, 1) := by decide +kernel
theorem dX2_putAtOuterEnd_4 : decode cX2_putAtOuterEnd 4 = .ok (.iload_n 2, 1) := by decide +kernel
theorem dX2_putAtOuterEnd_5 : decode cX2_putAtOuterEnd 5 = .ok (.invokevirtual 114, 3) := by decide +kernel
theorem dX2_putAtOuterEnd_8 : decode cX2_putAtOuterEnd 8 = .ok (.invokevirtual 55, 3) := by decide +kernel
theorem dX2_putAtOuterEnd_11 : decode cX2_putAtOuterEnd 11 = .ok (.aload_n 0, 1) := by decide +kernel
theorem dX2_putAtOuterEnd_12 : decode cX2_putAtOuterEnd 12 = .ok (.iload_n 1, 1) := by decide +kernel
theorem dX2_putAtOuterEnd_13 : decode cX2_putAtOuterEnd 13 = .ok (.iconst 4, 1) := by decide +kernel
theorem dX2_putAtOuterEnd_14 : decode cX2_putAtOuterEnd 14 = .ok (.iload_n 2, 1) := by decide +kernel
theorem dX2_putAtOuterEnd_15 : decode cX2_putAtOuterEnd 15 = .ok (.invokevirtual 55, 3) := by decide +kernel
theorem dX2_putAtOuterEnd_18 : decode cX2_putAtOuterEnd 18 = .ok (.return_, 1) := by decide +kernel
theorem dX2_setting_0 : decode cX2_setting 0 = .ok (.aload_n 0, 1) := by decide +kernel
theorem dX2_setting_1 : decode cX2_setting 1 = .ok (.getfield 21, 3) := by decide +kernel
theorem dX2_setting_4 : decode cX2_setting 4 = .ok (.iload_n 1, 1) := by decide +kernel
theorem dX2_setting_5 : decode cX2_setting 5 = .ok (.iaload, 1) := by decide +kernel
theorem dX2_setting_6 : decode cX2_setting 6 = .ok (.ireturn, 1) := by decide +kernel
theorem dX2_changeSetting_0 : decode cX2_changeSetting 0 = .ok (.iload_n 1, 1) := by decide +kernel
theorem dX2_changeSetting_1 : decode cX2_changeSetting 1 = .ok (.iconst 0, 1) := by decide +kernel
theorem dX2_changeSetting_2 : decode cX2_changeSetting 2 = .ok (.aload_n 0, 1) := by decide +kernel
theorem dX2_changeSetting_3 : decode cX2_changeSetting 3 = .ok (.getfield 21, 3) := by decide +kernel
theorem dX2_changeSetting_6 : decode cX2_changeSetting 6 = .ok (.arraylength, 1) := by decide +kernel
theorem dX2_changeSetting_7 : decode cX2_changeSetting 7 = .ok (.iconst 1, 1) := by decide +kernel
theorem dX2_changeSetting_8 : decode cX2_changeSetting 8 = .ok (.isub, 1) := by decide +kernel
theorem dX2_changeSetting_9 : decode cX2_changeSetting 9 = .ok (.invokestatic 47, 3) := by decide +kernel
theorem dX2_changeSetting_12 : decode cX2_changeSetting 12 = .ok (.ifCond .ne 5, 3) := by decide +kernel
theorem dX2_changeSetting_15 : decode cX2_changeSetting 15 = .ok (.iconst (-1), 1) := by decide +kernel
theorem dX2_changeSetting_16 : decode cX2_changeSetting 16 = .ok (.ireturn, 1) := by decide +kernel
theorem dX2_changeSetting_17 : decode cX2_changeSetting 17 = .ok (.iload_n 2, 1) := by decide +kernel
theorem dX2_changeSetting_18 : decode cX2_changeSetting 18 = .ok (.getstatic 123, 3) := by decide +kernel
theorem dX2_changeSetting_21 : decode cX2_changeSetting 21 = .ok (.iload_n 1, 1) := by decide +kernel
theorem dX2_changeSetting_22 : decode cX2_changeSetting 22 = .ok (.iaload, 1) := by decide +kernel
theorem dX2_changeSetting_23 : decode cX2_changeSetting 23 = .ok (.getstatic 126, 3) := by decide +kernel
theorem dX2_changeSetting_26 : decode cX2_changeSetting 26 = .ok (.iload_n 1, 1) := by decide +kernel
theorem dX2_changeSetting_27 : decode cX2_changeSetting 27 = .ok (.iaload, 1) := by decide +kernel
theorem dX2_changeSetting_28 : decode cX2_changeSetting 28 = .ok (.invokestatic 47, 3) := by decide +kernel
theorem dX2_changeSetting_31 : decode cX2_changeSetting 31 = .ok (.ifCond .ne 6, 3) := by decide +kernel
theorem dX2_changeSetting_34 : decode cX2_changeSetting 34 = .ok (.bipush (-2), 2) := by decide +kernel
theorem dX2_changeSetting_36 : decode cX2_changeSetting 36 = .ok (.ireturn, 1) := by decide +kernel
theorem dX2_changeSetting_37 : decode cX2_changeSetting 37 = .ok (.aload_n 0, 1) := by decide +kernel
theorem dX2_changeSetting_38 : decode cX2_changeSetting 38 = .ok (.getfield 21, 3) := by decide +kernel
theorem dX2_changeSetting_41 : decode cX2_changeSetting 41 = .ok (.iload_n 1, 1) := by decide +kernel
theorem dX2_changeSetting_42 : decode cX2_changeSetting 42 = .ok (.iaload, 1) := by decide +kernel
theorem dX2_changeSetting_43 : decode cX2_changeSetting 43 = .ok (.istore_n 3, 1) := by decide +kernel
theorem dX2_changeSetting_44 : decode cX2_changeSetting 44 = .ok (.iload_n 3, 1) := by decide +kernel
theorem dX2_changeSetting_45 : decode cX2_changeSetting 45 = .ok (.iload_n 2, 1) := by decide +kernel
theorem dX2_changeSetting_46 : decode cX2_changeSetting 46 = .ok (.if_icmp .ne 6, 3) := by decide +kernel
theorem dX2_changeSetting_49 : decode cX2_changeSetting 49 = .ok (.bipush (-5), 2) := by decide +kernel
theorem dX2_changeSetting_51 : decode cX2_changeSetting 51 = .ok (.ireturn, 1) := by decide +kernel
theorem dX2_changeSetting_52 : decode cX2_changeSetting 52 = .ok (.aload_n 0, 1) := by decide +kernel
theorem dX2_changeSetting_53 : decode cX2_changeSetting 53 = .ok (.getfield 21, 3) := by decide +kernel
theorem dX2_changeSetting_56 : decode cX2_changeSetting 56 = .ok (.iload_n 1, 1) := by decide +kernel
theorem dX2_changeSetting_57 : decode cX2_changeSetting 57 = .ok (.iload_n 2, 1) := by decide +kernel
theorem dX2_changeSetting_58 : decode cX2_changeSetting 58 = .ok (.iastore, 1) := by decide +kernel
theorem dX2_changeSetting_59 : decode cX2_changeSetting 59 = .ok (.iload_n 3, 1) := by decide +kernel
theorem dX2_changeSetting_60 : decode cX2_changeSetting 60 = .ok (.ireturn, 1) := by decide +kernel
theorem dX2_liftsLeft_0 : decode cX2_liftsLeft 0 = .ok (.iconst 0, 1) := by decide +kernel
theorem dX2_liftsLeft_1 : decode cX2_liftsLeft 1 = .ok (.aload_n 0, 1) := by decide +kernel
theorem dX2_liftsLeft_2 : decode cX2_liftsLeft 2 = .ok (.getfield 21, 3) := by decide +kernel
theorem dX2_liftsLeft_5 : decode cX2_liftsLeft 5 = .ok (.iconst 1, 1) := by decide +kernel
theorem dX2_liftsLeft_6 : decode cX2_liftsLeft 6 = .ok (.iaload, 1) := by decide +kernel
theorem dX2_liftsLeft_7 : decode cX2_liftsLeft 7 = .ok (.aload_n 0, 1) := by decide +kernel
theorem dX2_liftsLeft_8 : decode cX2_liftsLeft 8 = .ok (.getfield 28, 3) := by decide +kernel
theorem dX2_liftsLeft_11 : decode cX2_liftsLeft 11 = .ok (.isub, 1) := by decide +kernel
theorem dX2_liftsLeft_12 : decode cX2_liftsLeft 12 = .ok (.invokestatic 129, 3) := by decide +kernel
theorem dX2_liftsLeft_15 : decode cX2_liftsLeft 15 = .ok (.ireturn, 1) := by decide +kernel
theorem dX2_liftsSoFar_0 : decode cX2_liftsSoFar 0 = .ok (.aload_n 0, 1) := by decide +kernel
theorem dX2_liftsSoFar_1 : decode cX2_liftsSoFar 1 = .ok (.getfield 31, 3) := by decide +kernel
theorem dX2_liftsSoFar_4 : decode cX2_liftsSoFar 4 = .ok (.ireturn, 1) := by decide +kernel
theorem dX2_launchesSoFar_0 : decode cX2_launchesSoFar 0 = .ok (.aload_n 0, 1) := by decide +kernel
theorem dX2_launchesSoFar_1 : decode cX2_launchesSoFar 1 = .ok (.getfield 34, 3) := by decide +kernel
theorem dX2_launchesSoFar_4 : decode cX2_launchesSoFar 4 = .ok (.ireturn, 1) := by decide +kernel
theorem dX2_takeLift_0 : decode cX2_takeLift 0 = .ok (.aload_n 0, 1) := by decide +kernel
theorem dX2_takeLift_1 : decode cX2_takeLift 1 = .ok (.dup, 1) := by decide +kernel
theorem dX2_takeLift_2 : decode cX2_takeLift 2 = .ok (.getfield 28, 3) := by decide +kernel
theorem dX2_takeLift_5 : decode cX2_takeLift 5 = .ok (.iconst 1, 1) := by decide +kernel
theorem dX2_takeLift_6 : decode cX2_takeLift 6 = .ok (.iadd, 1) := by decide +kernel
theorem dX2_takeLift_7 : decode cX2_takeLift 7 = .ok (.putfield 28, 3) := by decide +kernel
theorem dX2_takeLift_10 : decode cX2_takeLift 10 = .ok (.aload_n 0, 1) := by decide +kernel
theorem dX2_takeLift_11 : decode cX2_takeLift 11 = .ok (.dup, 1) := by decide +kernel
theorem dX2_takeLift_12 : decode cX2_takeLift 12 = .ok (.getfield 31, 3) := by decide +kernel
theorem dX2_takeLift_15 : decode cX2_takeLift 15 = .ok (.iconst 1, 1) := by decide +kernel
theorem dX2_takeLift_16 : decode cX2_takeLift 16 = .ok (.iadd, 1) := by decide +kernel
theorem dX2_takeLift_17 : decode cX2_takeLift 17 = .ok (.putfield 31, 3) := by decide +kernel
theorem dX2_takeLift_20 : decode cX2_takeLift 20 = .ok (.return_, 1) := by decide +kernel
theorem dX2_craneBears_0 : decode cX2_craneBears 0 = .ok (.aload_n 0, 1) := by decide +kernel
theorem dX2_craneBears_1 : decode cX2_craneBears 1 = .ok (.iload_n 1, 1) := by decide +kernel
theorem dX2_craneBears_2 : decode cX2_craneBears 2 = .ok (.iconst 2, 1) := by decide +kernel
theorem dX2_craneBears_3 : decode cX2_craneBears 3 = .ok (.invokevirtual 51, 3) := by decide +kernel
theorem dX2_craneBears_6 : decode cX2_craneBears 6 = .ok (.aload_n 0, 1) := by decide +kernel
theorem dX2_craneBears_7 : decode cX2_craneBears 7 = .ok (.getfield 21, 3) := by decide +kernel
theorem dX2_craneBears_10 : decode cX2_craneBears 10 = .ok (.iconst 2, 1) := by decide +kernel
theorem dX2_craneBears_11 : decode cX2_craneBears 11 = .ok (.iaload, 1) := by decide +kernel
theorem dX2_craneBears_12 : decode cX2_craneBears 12 = .ok (.if_icmp .gt 7, 3) := by decide +kernel
theorem dX2_craneBears_15 : decode cX2_craneBears 15 = .ok (.iconst 1, 1) := by decide +kernel
theorem dX2_craneBears_16 : decode cX2_craneBears 16 = .ok (.goto 4, 3) := by decide +kernel
theorem dX2_craneBears_19 : decode cX2_craneBears 19 = .ok (.iconst 0, 1) := by decide +kernel
theorem dX2_craneBears_20 : decode cX2_craneBears 20 = .ok (.ireturn, 1) := by decide +kernel
theorem dX2_isDeepEnough_0 : decode cX2_isDeepEnough 0 = .ok (.aload_n 0, 1) := by decide +kernel
theorem dX2_isDeepEnough_1 : decode cX2_isDeepEnough 1 = .ok (.iload_n 1, 1) := by decide +kernel
theorem dX2_isDeepEnough_2 : decode cX2_isDeepEnough 2 = .ok (.iconst 1, 1) := by decide +kernel
theorem dX2_isDeepEnough_3 : decode cX2_isDeepEnough 3 = .ok (.invokevirtual 51, 3) := by decide +kernel
theorem dX2_isDeepEnough_6 : decode cX2_isDeepEnough 6 = .ok (.aload_n 0, 1) := by decide +kernel
theorem dX2_isDeepEnough_7 : decode cX2_isDeepEnough 7 = .ok (.iload_n 2, 1) := by decide +kernel
theorem dX2_isDeepEnough_8 : decode cX2_isDeepEnough 8 = .ok (.invokevirtual 134, 3) := by decide +kernel
theorem dX2_isDeepEnough_11 : decode cX2_isDeepEnough 11 = .ok (.if_icmp .gt 7, 3) := by decide +kernel
theorem dX2_isDeepEnough_14 : decode cX2_isDeepEnough 14 = .ok (.iconst 1, 1) := by decide +kernel
theorem dX2_isDeepEnough_15 : decode cX2_isDeepEnough 15 = .ok (.goto 4, 3) := by decide +kernel
theorem dX2_isDeepEnough_18 : decode cX2_isDeepEnough 18 = .ok (.iconst 0, 1) := by decide +kernel
theorem dX2_isDeepEnough_19 : decode cX2_isDeepEnough 19 = .ok (.ireturn, 1) := by decide +kernel
theorem dX2_whyNoLift_0 : decode cX2_whyNoLift 0 = .ok (.aload_n 0, 1) := by decide +kernel
theorem dX2_whyNoLift_1 : decode cX2_whyNoLift 1 = .ok (.iload_n 1, 1) := by decide +kernel
theorem dX2_whyNoLift_2 : decode cX2_whyNoLift 2 = .ok (.invokevirtual 73, 3) := by decide +kernel
theorem dX2_whyNoLift_5 : decode cX2_whyNoLift 5 = .ok (.ifCond .eq 5, 3) := by decide +kernel
theorem dX2_whyNoLift_8 : decode cX2_whyNoLift 8 = .ok (.iconst 1, 1) := by decide +kernel
theorem dX2_whyNoLift_9 : decode cX2_whyNoLift 9 = .ok (.ireturn, 1) := by decide +kernel
theorem dX2_whyNoLift_10 : decode cX2_whyNoLift 10 = .ok (.aload_n 0, 1) := by decide +kernel
theorem dX2_whyNoLift_11 : decode cX2_whyNoLift 11 = .ok (.iload_n 1, 1) := by decide +kernel
theorem dX2_whyNoLift_12 : decode cX2_whyNoLift 12 = .ok (.aload_n 0, 1) := by decide +kernel
theorem dX2_whyNoLift_13 : decode cX2_whyNoLift 13 = .ok (.getfield 24, 3) := by decide +kernel
theorem dX2_whyNoLift_16 : decode cX2_whyNoLift 16 = .ok (.invokevirtual 137, 3) := by decide +kernel
theorem dX2_whyNoLift_19 : decode cX2_whyNoLift 19 = .ok (.ifCond .ne 5, 3) := by decide +kernel
theorem dX2_whyNoLift_22 : decode cX2_whyNoLift 22 = .ok (.iconst 2, 1) := by decide +kernel
theorem dX2_whyNoLift_23 : decode cX2_whyNoLift 23 = .ok (.ireturn, 1) := by decide +kernel
theorem dX2_whyNoLift_24 : decode cX2_whyNoLift 24 = .ok (.aload_n 0, 1) := by decide +kernel
theorem dX2_whyNoLift_25 : decode cX2_whyNoLift 25 = .ok (.iload_n 1, 1) := by decide +kernel
theorem dX2_whyNoLift_26 : decode cX2_whyNoLift 26 = .ok (.invokevirtual 140, 3) := by decide +kernel
theorem dX2_whyNoLift_29 : decode cX2_whyNoLift 29 = .ok (.ifCond .ne 5, 3) := by decide +kernel
theorem dX2_whyNoLift_32 : decode cX2_whyNoLift 32 = .ok (.iconst 3, 1) := by decide +kernel
theorem dX2_whyNoLift_33 : decode cX2_whyNoLift 33 = .ok (.ireturn, 1) := by decide +kernel
theorem dX2_whyNoLift_34 : decode cX2_whyNoLift 34 = .ok (.aload_n 0, 1) := by decide +kernel
theorem dX2_whyNoLift_35 : decode cX2_whyNoLift 35 = .ok (.iload_n 1, 1) := by decide +kernel
theorem dX2_whyNoLift_36 : decode cX2_whyNoLift 36 = .ok (.invokevirtual 143, 3) := by decide +kernel
theorem dX2_whyNoLift_39 : decode cX2_whyNoLift 39 = .ok (.bipush (-5), 2) := by decide +kernel
theorem dX2_whyNoLift_41 : decode cX2_whyNoLift 41 = .ok (.if_icmp .ne 5, 3) := by decide +kernel
theorem dX2_whyNoLift_44 : decode cX2_whyNoLift 44 = .ok (.iconst 4, 1) := by decide +kernel
theorem dX2_whyNoLift_45 : decode cX2_whyNoLift 45 = .ok (.ireturn, 1) := by decide +kernel
theorem dX2_whyNoLift_46 : decode cX2_whyNoLift 46 = .ok (.aload_n 0, 1) := by decide +kernel
theorem dX2_whyNoLift_47 : decode cX2_whyNoLift 47 = .ok (.iload_n 2, 1) := by decide +kernel
theorem dX2_whyNoLift_48 : decode cX2_whyNoLift 48 = .ok (.iload_n 1, 1) := by decide +kernel
theorem dX2_whyNoLift_49 : decode cX2_whyNoLift 49 = .ok (.invokevirtual 120, 3) := by decide +kernel
theorem dX2_whyNoLift_52 : decode cX2_whyNoLift 52 = .ok (.ifCond .ne 5, 3) := by decide +kernel
theorem dX2_whyNoLift_55 : decode cX2_whyNoLift 55 = .ok (.iconst 5, 1) := by decide +kernel
theorem dX2_whyNoLift_56 : decode cX2_whyNoLift 56 = .ok (.ireturn, 1) := by decide +kernel
theorem dX2_whyNoLift_57 : decode cX2_whyNoLift 57 = .ok (.aload_n 0, 1) := by decide +kernel
theorem dX2_whyNoLift_58 : decode cX2_whyNoLift 58 = .ok (.iload_n 1, 1) := by decide +kernel
theorem dX2_whyNoLift_59 : decode cX2_whyNoLift 59 = .ok (.invokevirtual 76, 3) := by decide +kernel
theorem dX2_whyNoLift_62 : decode cX2_whyNoLift 62 = .ok (.ifCond .eq 17, 3) := by decide +kernel
theorem dX2_whyNoLift_65 : decode cX2_whyNoLift 65 = .ok (.aload_n 0, 1) := by decide +kernel
theorem dX2_whyNoLift_66 : decode cX2_whyNoLift 66 = .ok (.iload_n 1, 1) := by decide +kernel
theorem dX2_whyNoLift_67 : decode cX2_whyNoLift 67 = .ok (.iconst 0, 1) := by decide +kernel
theorem dX2_whyNoLift_68 : decode cX2_whyNoLift 68 = .ok (.invokevirtual 51, 3) := by decide +kernel
theorem dX2_whyNoLift_71 : decode cX2_whyNoLift 71 = .ok (.bipush 10, 2) := by decide +kernel
theorem dX2_whyNoLift_73 : decode cX2_whyNoLift 73 = .ok (.if_icmp .lt 6, 3) := by decide +kernel
theorem dX2_whyNoLift_76 : decode cX2_whyNoLift 76 = .ok (.bipush 6, 2) := by decide +kernel
theorem dX2_whyNoLift_78 : decode cX2_whyNoLift 78 = .ok (.ireturn, 1) := by decide +kernel
theorem dX2_whyNoLift_79 : decode cX2_whyNoLift 79 = .ok (.aload_n 0, 1) := by decide +kernel
theorem dX2_whyNoLift_80 : decode cX2_whyNoLift 80 = .ok (.invokevirtual 146, 3) := by decide +kernel
theorem dX2_whyNoLift_83 : decode cX2_whyNoLift 83 = .ok (.ifCond .le 7, 3) := by decide +kernel
theorem dX2_whyNoLift_86 : decode cX2_whyNoLift 86 = .ok (.iconst 0, 1) := by decide +kernel
theorem dX2_whyNoLift_87 : decode cX2_whyNoLift 87 = .ok (.goto 5, 3) := by decide +kernel
theorem dX2_whyNoLift_90 : decode cX2_whyNoLift 90 = .ok (.bipush 7, 2) := by decide +kernel
theorem dX2_whyNoLift_92 : decode cX2_whyNoLift 92 = .ok (.ireturn, 1) := by decide +kernel
theorem dX2_liftInto_0 : decode cX2_liftInto 0 = .ok (.aload_n 0, 1) := by decide +kernel
theorem dX2_liftInto_1 : decode cX2_liftInto 1 = .ok (.iload_n 1, 1) := by decide +kernel
theorem dX2_liftInto_2 : decode cX2_liftInto 2 = .ok (.invokevirtual 70, 3) := by decide +kernel
theorem dX2_liftInto_5 : decode cX2_liftInto 5 = .ok (.ifCond .eq 10, 3) := by decide +kernel
theorem dX2_liftInto_8 : decode cX2_liftInto 8 = .ok (.iload_n 2, 1) := by decide +kernel
theorem dX2_liftInto_9 : decode cX2_liftInto 9 = .ok (.invokestatic 117, 3) := by decide +kernel
theorem dX2_liftInto_12 : decode cX2_liftInto 12 = .ok (.ifCond .ne 5, 3) := by decide +kernel
theorem dX2_liftInto_15 : decode cX2_liftInto 15 = .ok (.iconst (-1), 1) := by decide +kernel
theorem dX2_liftInto_16 : decode cX2_liftInto 16 = .ok (.ireturn, 1) := by decide +kernel
theorem dX2_liftInto_17 : decode cX2_liftInto 17 = .ok (.aload_n 0, 1) := by decide +kernel
theorem dX2_liftInto_18 : decode cX2_liftInto 18 = .ok (.iload_n 1, 1) := by decide +kernel
theorem dX2_liftInto_19 : decode cX2_liftInto 19 = .ok (.iload_n 2, 1) := by decide +kernel
theorem dX2_liftInto_20 : decode cX2_liftInto 20 = .ok (.invokevirtual 149, 3) := by decide +kernel
theorem dX2_liftInto_23 : decode cX2_liftInto 23 = .ok (.istore_n 3, 1) := by decide +kernel
theorem dX2_liftInto_24 : decode cX2_liftInto 24 = .ok (.iload_n 3, 1) := by decide +kernel
theorem dX2_liftInto_25 : decode cX2_liftInto 25 = .ok (.ifCond .eq 8, 3) := by decide +kernel
theorem dX2_liftInto_28 : decode cX2_liftInto 28 = .ok (.bipush (-10), 2) := by decide +kernel
theorem dX2_liftInto_30 : decode cX2_liftInto 30 = .ok (.iload_n 3, 1) := by decide +kernel
theorem dX2_liftInto_31 : decode cX2_liftInto 31 = .ok (.isub, 1) := by decide +kernel
theorem dX2_liftInto_32 : decode cX2_liftInto 32 = .ok (.ireturn, 1) := by decide +kernel
theorem dX2_liftInto_33 : decode cX2_liftInto 33 = .ok (.aload_n 0, 1) := by decide +kernel
theorem dX2_liftInto_34 : decode cX2_liftInto 34 = .ok (.iload_n 1, 1) := by decide +kernel
theorem dX2_liftInto_35 : decode cX2_liftInto 35 = .ok (.bipush 6, 2) := by decide +kernel
theorem dX2_liftInto_37 : decode cX2_liftInto 37 = .ok (.aload_n 0, 1) := by decide +kernel
theorem dX2_liftInto_38 : decode cX2_liftInto 38 = .ok (.iload_n 1, 1) := by decide +kernel
theorem dX2_liftInto_39 : decode cX2_liftInto 39 = .ok (.invokevirtual 143, 3) := by decide +kernel
theorem dX2_liftInto_42 : decode cX2_liftInto 42 = .ok (.invokevirtual 55, 3) := by decide +kernel
theorem dX2_liftInto_45 : decode cX2_liftInto 45 = .ok (.aload_n 0, 1) := by decide +kernel
theorem dX2_liftInto_46 : decode cX2_liftInto 46 = .ok (.iload_n 1, 1) := by decide +kernel
theorem dX2_liftInto_47 : decode cX2_liftInto 47 = .ok (.iload_n 2, 1) := by decide +kernel
theorem dX2_liftInto_48 : decode cX2_liftInto 48 = .ok (.invokevirtual 152, 3) := by decide +kernel
theorem dX2_liftInto_51 : decode cX2_liftInto 51 = .ok (.aload_n 0, 1) := by decide +kernel
theorem dX2_liftInto_52 : decode cX2_liftInto 52 = .ok (.iload_n 1, 1) := by decide +kernel
theorem dX2_liftInto_53 : decode cX2_liftInto 53 = .ok (.bipush 10, 2) := by decide +kernel
theorem dX2_liftInto_55 : decode cX2_liftInto 55 = .ok (.aload_n 0, 1) := by decide +kernel
theorem dX2_liftInto_56 : decode cX2_liftInto 56 = .ok (.iload_n 1, 1) := by decide +kernel
theorem dX2_liftInto_57 : decode cX2_liftInto 57 = .ok (.bipush 10, 2) := by decide +kernel
theorem dX2_liftInto_59 : decode cX2_liftInto 59 = .ok (.invokevirtual 51, 3) := by decide +kernel
theorem dX2_liftInto_62 : decode cX2_liftInto 62 = .ok (.iconst 1, 1) := by decide +kernel
theorem dX2_liftInto_63 : decode cX2_liftInto 63 = .ok (.iadd, 1) := by decide +kernel
theorem dX2_liftInto_64 : decode cX2_liftInto 64 = .ok (.invokevirtual 55, 3) := by decide +kernel
theorem dX2_liftInto_67 : decode cX2_liftInto 67 = .ok (.aload_n 0, 1) := by decide +kernel
theorem dX2_liftInto_68 : decode cX2_liftInto 68 = .ok (.invokevirtual 156, 3) := by decide +kernel
theorem dX2_liftInto_71 : decode cX2_liftInto 71 = .ok (.aload_n 0, 1) := by decide +kernel
theorem dX2_liftInto_72 : decode cX2_liftInto 72 = .ok (.iload_n 2, 1) := by decide +kernel
theorem dX2_liftInto_73 : decode cX2_liftInto 73 = .ok (.invokevirtual 114, 3) := by decide +kernel
theorem dX2_liftInto_76 : decode cX2_liftInto 76 = .ok (.ireturn, 1) := by decide +kernel
theorem dX2_whyNoLaunch_0 : decode cX2_whyNoLaunch 0 = .ok (.aload_n 0, 1) := by decide +kernel
theorem dX2_whyNoLaunch_1 : decode cX2_whyNoLaunch 1 = .ok (.iload_n 1, 1) := by decide +kernel
theorem dX2_whyNoLaunch_2 : decode cX2_whyNoLaunch 2 = .ok (.invokevirtual 73, 3) := by decide +kernel
theorem dX2_whyNoLaunch_5 : decode cX2_whyNoLaunch 5 = .ok (.ifCond .ne 5, 3) := by decide +kernel
theorem dX2_whyNoLaunch_8 : decode cX2_whyNoLaunch 8 = .ok (.iconst 1, 1) := by decide +kernel
theorem dX2_whyNoLaunch_9 : decode cX2_whyNoLaunch 9 = .ok (.ireturn, 1) := by decide +kernel
theorem dX2_whyNoLaunch_10 : decode cX2_whyNoLaunch 10 = .ok (.aload_n 0, 1) := by decide +kernel
theorem dX2_whyNoLaunch_11 : decode cX2_whyNoLaunch 11 = .ok (.iload_n 1, 1) := by decide +kernel
theorem dX2_whyNoLaunch_12 : decode cX2_whyNoLaunch 12 = .ok (.bipush 8, 2) := by decide +kernel
theorem dX2_whyNoLaunch_14 : decode cX2_whyNoLaunch 14 = .ok (.invokevirtual 51, 3) := by decide +kernel
theorem dX2_whyNoLaunch_17 : decode cX2_whyNoLaunch 17 = .ok (.ifCond .le 5, 3) := by decide +kernel
theorem dX2_whyNoLaunch_20 : decode cX2_whyNoLaunch 20 = .ok (.iconst 2, 1) := by decide +kernel
theorem dX2_whyNoLaunch_21 : decode cX2_whyNoLaunch 21 = .ok (.ireturn, 1) := by decide +kernel
theorem dX2_whyNoLaunch_22 : decode cX2_whyNoLaunch 22 = .ok (.aload_n 0, 1) := by decide +kernel
theorem dX2_whyNoLaunch_23 : decode cX2_whyNoLaunch 23 = .ok (.iload_n 1, 1) := by decide +kernel
theorem dX2_whyNoLaunch_24 : decode cX2_whyNoLaunch 24 = .ok (.invokevirtual 159, 3) := by decide +kernel
theorem dX2_whyNoLaunch_27 : decode cX2_whyNoLaunch 27 = .ok (.ifCond .le 5, 3) := by decide +kernel
theorem dX2_whyNoLaunch_30 : decode cX2_whyNoLaunch 30 = .ok (.iconst 3, 1) := by decide +kernel
theorem dX2_whyNoLaunch_31 : decode cX2_whyNoLaunch 31 = .ok (.ireturn, 1) := by decide +kernel
theorem dX2_whyNoLaunch_32 : decode cX2_whyNoLaunch 32 = .ok (.aload_n 0, 1) := by decide +kernel
theorem dX2_whyNoLaunch_33 : decode cX2_whyNoLaunch 33 = .ok (.iload_n 1, 1) := by decide +kernel
theorem dX2_whyNoLaunch_34 : decode cX2_whyNoLaunch 34 = .ok (.aload_n 0, 1) := by decide +kernel
theorem dX2_whyNoLaunch_35 : decode cX2_whyNoLaunch 35 = .ok (.getfield 24, 3) := by decide +kernel
theorem dX2_whyNoLaunch_38 : decode cX2_whyNoLaunch 38 = .ok (.invokevirtual 137, 3) := by decide +kernel
theorem dX2_whyNoLaunch_41 : decode cX2_whyNoLaunch 41 = .ok (.ifCond .ne 5, 3) := by decide +kernel
theorem dX2_whyNoLaunch_44 : decode cX2_whyNoLaunch 44 = .ok (.iconst 4, 1) := by decide +kernel
theorem dX2_whyNoLaunch_45 : decode cX2_whyNoLaunch 45 = .ok (.ireturn, 1) := by decide +kernel
theorem dX2_whyNoLaunch_46 : decode cX2_whyNoLaunch 46 = .ok (.aload_n 0, 1) := by decide +kernel
theorem dX2_whyNoLaunch_47 : decode cX2_whyNoLaunch 47 = .ok (.iload_n 1, 1) := by decide +kernel
theorem dX2_whyNoLaunch_48 : decode cX2_whyNoLaunch 48 = .ok (.invokevirtual 140, 3) := by decide +kernel
theorem dX2_whyNoLaunch_51 : decode cX2_whyNoLaunch 51 = .ok (.ifCond .ne 5, 3) := by decide +kernel
theorem dX2_whyNoLaunch_54 : decode cX2_whyNoLaunch 54 = .ok (.iconst 5, 1) := by decide +kernel
theorem dX2_whyNoLaunch_55 : decode cX2_whyNoLaunch 55 = .ok (.ireturn, 1) := by decide +kernel
theorem dX2_whyNoLaunch_56 : decode cX2_whyNoLaunch 56 = .ok (.aload_n 0, 1) := by decide +kernel
theorem dX2_whyNoLaunch_57 : decode cX2_whyNoLaunch 57 = .ok (.invokevirtual 146, 3) := by decide +kernel
theorem dX2_whyNoLaunch_60 : decode cX2_whyNoLaunch 60 = .ok (.ifCond .le 7, 3) := by decide +kernel
theorem dX2_whyNoLaunch_63 : decode cX2_whyNoLaunch 63 = .ok (.iconst 0, 1) := by decide +kernel
theorem dX2_whyNoLaunch_64 : decode cX2_whyNoLaunch 64 = .ok (.goto 5, 3) := by decide +kernel
theorem dX2_whyNoLaunch_67 : decode cX2_whyNoLaunch 67 = .ok (.bipush 6, 2) := by decide +kernel
theorem dX2_whyNoLaunch_69 : decode cX2_whyNoLaunch 69 = .ok (.ireturn, 1) := by decide +kernel
theorem dX2_putAfloat_0 : decode cX2_putAfloat 0 = .ok (.aload_n 0, 1) := by decide +kernel
theorem dX2_putAfloat_1 : decode cX2_putAfloat 1 = .ok (.iload_n 1, 1) := by decide +kernel
theorem dX2_putAfloat_2 : decode cX2_putAfloat 2 = .ok (.invokevirtual 70, 3) := by decide +kernel
theorem dX2_putAfloat_5 : decode cX2_putAfloat 5 = .ok (.ifCond .ne 5, 3) := by decide +kernel
theorem dX2_putAfloat_8 : decode cX2_putAfloat 8 = .ok (.iconst (-1), 1) := by decide +kernel
theorem dX2_putAfloat_9 : decode cX2_putAfloat 9 = .ok (.ireturn, 1) := by decide +kernel
theorem dX2_putAfloat_10 : decode cX2_putAfloat 10 = .ok (.aload_n 0, 1) := by decide +kernel
theorem dX2_putAfloat_11 : decode cX2_putAfloat 11 = .ok (.iload_n 1, 1) := by decide +kernel
theorem dX2_putAfloat_12 : decode cX2_putAfloat 12 = .ok (.invokevirtual 162, 3) := by decide +kernel
theorem dX2_putAfloat_15 : decode cX2_putAfloat 15 = .ok (.istore_n 2, 1) := by decide +kernel
theorem dX2_putAfloat_16 : decode cX2_putAfloat 16 = .ok (.iload_n 2, 1) := by decide +kernel
theorem dX2_putAfloat_17 : decode cX2_putAfloat 17 = .ok (.ifCond .eq 8, 3) := by decide +kernel
theorem dX2_putAfloat_20 : decode cX2_putAfloat 20 = .ok (.bipush (-10), 2) := by decide +kernel
theorem dX2_putAfloat_22 : decode cX2_putAfloat 22 = .ok (.iload_n 2, 1) := by decide +kernel
theorem dX2_putAfloat_23 : decode cX2_putAfloat 23 = .ok (.isub, 1) := by decide +kernel
theorem dX2_putAfloat_24 : decode cX2_putAfloat 24 = .ok (.ireturn, 1) := by decide +kernel
theorem dX2_putAfloat_25 : decode cX2_putAfloat 25 = .ok (.aload_n 0, 1) := by decide +kernel
theorem dX2_putAfloat_26 : decode cX2_putAfloat 26 = .ok (.iload_n 1, 1) := by decide +kernel
theorem dX2_putAfloat_27 : decode cX2_putAfloat 27 = .ok (.bipush 9, 2) := by decide +kernel
theorem dX2_putAfloat_29 : decode cX2_putAfloat 29 = .ok (.invokevirtual 51, 3) := by decide +kernel
theorem dX2_putAfloat_32 : decode cX2_putAfloat 32 = .ok (.istore_n 3, 1) := by decide +kernel
theorem dX2_putAfloat_33 : decode cX2_putAfloat 33 = .ok (.aload_n 0, 1) := by decide +kernel
theorem dX2_putAfloat_34 : decode cX2_putAfloat 34 = .ok (.iload_n 1, 1) := by decide +kernel
theorem dX2_putAfloat_35 : decode cX2_putAfloat 35 = .ok (.invokevirtual 67, 3) := by decide +kernel
theorem dX2_putAfloat_38 : decode cX2_putAfloat 38 = .ok (.aload_n 0, 1) := by decide +kernel
theorem dX2_putAfloat_39 : decode cX2_putAfloat 39 = .ok (.invokevirtual 156, 3) := by decide +kernel
theorem dX2_putAfloat_42 : decode cX2_putAfloat 42 = .ok (.aload_n 0, 1) := by decide +kernel
theorem dX2_putAfloat_43 : decode cX2_putAfloat 43 = .ok (.dup, 1) := by decide +kernel
theorem dX2_putAfloat_44 : decode cX2_putAfloat 44 = .ok (.getfield 34, 3) := by decide +kernel
theorem dX2_putAfloat_47 : decode cX2_putAfloat 47 = .ok (.iconst 1, 1) := by decide +kernel
theorem dX2_putAfloat_48 : decode cX2_putAfloat 48 = .ok (.iadd, 1) := by decide +kernel
theorem dX2_putAfloat_49 : decode cX2_putAfloat 49 = .ok (.putfield 34, 3) := by decide +kernel
theorem dX2_putAfloat_52 : decode cX2_putAfloat 52 = .ok (.iload_n 3, 1) := by decide +kernel
theorem dX2_putAfloat_53 : decode cX2_putAfloat 53 = .ok (.ireturn, 1) := by decide +kernel
theorem dX2_firstLaunchDay_0 : decode cX2_firstLaunchDay 0 = .ok (.aload_n 0, 1) := by decide +kernel
theorem dX2_firstLaunchDay_1 : decode cX2_firstLaunchDay 1 = .ok (.iload_n 1, 1) := by decide +kernel
theorem dX2_firstLaunchDay_2 : decode cX2_firstLaunchDay 2 = .ok (.invokevirtual 140, 3) := by decide +kernel
theorem dX2_firstLaunchDay_5 : decode cX2_firstLaunchDay 5 = .ok (.ifCond .ne 6, 3) := by decide +kernel
theorem dX2_firstLaunchDay_8 : decode cX2_firstLaunchDay 8 = .ok (.bipush (-5), 2) := by decide +kernel
theorem dX2_firstLaunchDay_10 : decode cX2_firstLaunchDay 10 = .ok (.ireturn, 1) := by decide +kernel
theorem dX2_firstLaunchDay_11 : decode cX2_firstLaunchDay 11 = .ok (.aload_n 0, 1) := by decide +kernel
theorem dX2_firstLaunchDay_12 : decode cX2_firstLaunchDay 12 = .ok (.iload_n 1, 1) := by decide +kernel
theorem dX2_firstLaunchDay_13 : decode cX2_firstLaunchDay 13 = .ok (.bipush 8, 2) := by decide +kernel
theorem dX2_firstLaunchDay_15 : decode cX2_firstLaunchDay 15 = .ok (.invokevirtual 51, 3) := by decide +kernel
theorem dX2_firstLaunchDay_18 : decode cX2_firstLaunchDay 18 = .ok (.istore_n 2, 1) := by decide +kernel
theorem dX2_firstLaunchDay_19 : decode cX2_firstLaunchDay 19 = .ok (.iload_n 2, 1) := by decide +kernel
theorem dX2_firstLaunchDay_20 : decode cX2_firstLaunchDay 20 = .ok (.sipush 200, 3) := by decide +kernel
theorem dX2_firstLaunchDay_23 : decode cX2_firstLaunchDay 23 = .ok (.if_icmp .gt 51, 3) := by decide +kernel
theorem dX2_firstLaunchDay_26 : decode cX2_firstLaunchDay 26 = .ok (.iload_n 2, 1) := by decide +kernel
theorem dX2_firstLaunchDay_27 : decode cX2_firstLaunchDay 27 = .ok (.ifCond .gt 10, 3) := by decide +kernel
theorem dX2_firstLaunchDay_30 : decode cX2_firstLaunchDay 30 = .ok (.aload_n 0, 1) := by decide +kernel
theorem dX2_firstLaunchDay_31 : decode cX2_firstLaunchDay 31 = .ok (.invokevirtual 146, 3) := by decide +kernel
theorem dX2_firstLaunchDay_34 : decode cX2_firstLaunchDay 34 = .ok (.ifCond .le 7, 3) := by decide +kernel
theorem dX2_firstLaunchDay_37 : decode cX2_firstLaunchDay 37 = .ok (.iconst 1, 1) := by decide +kernel
theorem dX2_firstLaunchDay_38 : decode cX2_firstLaunchDay 38 = .ok (.goto 4, 3) := by decide +kernel
theorem dX2_firstLaunchDay_41 : decode cX2_firstLaunchDay 41 = .ok (.iconst 0, 1) := by decide +kernel
theorem dX2_firstLaunchDay_42 : decode cX2_firstLaunchDay 42 = .ok (.istore_n 3, 1) := by decide +kernel
theorem dX2_firstLaunchDay_43 : decode cX2_firstLaunchDay 43 = .ok (.iload_n 3, 1) := by decide +kernel
theorem dX2_firstLaunchDay_44 : decode cX2_firstLaunchDay 44 = .ok (.ifCond .eq 24, 3) := by decide +kernel
theorem dX2_firstLaunchDay_47 : decode cX2_firstLaunchDay 47 = .ok (.aload_n 0, 1) := by decide +kernel
theorem dX2_firstLaunchDay_48 : decode cX2_firstLaunchDay 48 = .ok (.iload_n 1, 1) := by decide +kernel
theorem dX2_firstLaunchDay_49 : decode cX2_firstLaunchDay 49 = .ok (.aload_n 0, 1) := by decide +kernel
theorem dX2_firstLaunchDay_50 : decode cX2_firstLaunchDay 50 = .ok (.getfield 24, 3) := by decide +kernel
theorem dX2_firstLaunchDay_53 : decode cX2_firstLaunchDay 53 = .ok (.iload_n 2, 1) := by decide +kernel
theorem dX2_firstLaunchDay_54 : decode cX2_firstLaunchDay 54 = .ok (.iadd, 1) := by decide +kernel
theorem dX2_firstLaunchDay_55 : decode cX2_firstLaunchDay 55 = .ok (.invokevirtual 137, 3) := by decide +kernel
theorem dX2_firstLaunchDay_58 : decode cX2_firstLaunchDay 58 = .ok (.ifCond .eq 10, 3) := by decide +kernel
theorem dX2_firstLaunchDay_61 : decode cX2_firstLaunchDay 61 = .ok (.aload_n 0, 1) := by decide +kernel
theorem dX2_firstLaunchDay_62 : decode cX2_firstLaunchDay 62 = .ok (.getfield 24, 3) := by decide +kernel
theorem dX2_firstLaunchDay_65 : decode cX2_firstLaunchDay 65 = .ok (.iload_n 2, 1) := by decide +kernel
theorem dX2_firstLaunchDay_66 : decode cX2_firstLaunchDay 66 = .ok (.iadd, 1) := by decide +kernel
theorem dX2_firstLaunchDay_67 : decode cX2_firstLaunchDay 67 = .ok (.ireturn, 1) := by decide +kernel
theorem dX2_firstLaunchDay_68 : decode cX2_firstLaunchDay 68 = .ok (.iinc 2 1, 3) := by decide +kernel
theorem dX2_firstLaunchDay_71 : decode cX2_firstLaunchDay 71 = .ok (.goto (-52), 3) := by decide +kernel
theorem dX2_firstLaunchDay_74 : decode cX2_firstLaunchDay 74 = .ok (.bipush (-5), 2) := by decide +kernel
theorem dX2_firstLaunchDay_76 : decode cX2_firstLaunchDay 76 = .ok (.ireturn, 1) := by decide +kernel
theorem dX2_moveTo_0 : decode cX2_moveTo 0 = .ok (.aload_n 0, 1) := by decide +kernel
theorem dX2_moveTo_1 : decode cX2_moveTo 1 = .ok (.iload_n 1, 1) := by decide +kernel
theorem dX2_moveTo_2 : decode cX2_moveTo 2 = .ok (.invokevirtual 70, 3) := by decide +kernel
theorem dX2_moveTo_5 : decode cX2_moveTo 5 = .ok (.ifCond .eq 10, 3) := by decide +kernel
theorem dX2_moveTo_8 : decode cX2_moveTo 8 = .ok (.iload_n 2, 1) := by decide +kernel
theorem dX2_moveTo_9 : decode cX2_moveTo 9 = .ok (.invokestatic 117, 3) := by decide +kernel
theorem dX2_moveTo_12 : decode cX2_moveTo 12 = .ok (.ifCond .ne 5, 3) := by decide +kernel
theorem dX2_moveTo_15 : decode cX2_moveTo 15 = .ok (.iconst (-1), 1) := by decide +kernel
theorem dX2_moveTo_16 : decode cX2_moveTo 16 = .ok (.ireturn, 1) := by decide +kernel
theorem dX2_moveTo_17 : decode cX2_moveTo 17 = .ok (.aload_n 0, 1) := by decide +kernel
theorem dX2_moveTo_18 : decode cX2_moveTo 18 = .ok (.iload_n 1, 1) := by decide +kernel
theorem dX2_moveTo_19 : decode cX2_moveTo 19 = .ok (.invokevirtual 73, 3) := by decide +kernel
theorem dX2_moveTo_22 : decode cX2_moveTo 22 = .ok (.ifCond .eq 20, 3) := by decide +kernel
theorem dX2_moveTo_25 : decode cX2_moveTo 25 = .ok (.aload_n 0, 1) := by decide +kernel
theorem dX2_moveTo_26 : decode cX2_moveTo 26 = .ok (.iload_n 1, 1) := by decide +kernel
theorem dX2_moveTo_27 : decode cX2_moveTo 27 = .ok (.invokevirtual 159, 3) := by decide +kernel
theorem dX2_moveTo_30 : decode cX2_moveTo 30 = .ok (.ifCond .gt 12, 3) := by decide +kernel
theorem dX2_moveTo_33 : decode cX2_moveTo 33 = .ok (.aload_n 0, 1) := by decide +kernel
theorem dX2_moveTo_34 : decode cX2_moveTo 34 = .ok (.iload_n 1, 1) := by decide +kernel
theorem dX2_moveTo_35 : decode cX2_moveTo 35 = .ok (.iload_n 2, 1) := by decide +kernel
theorem dX2_moveTo_36 : decode cX2_moveTo 36 = .ok (.invokevirtual 110, 3) := by decide +kernel
theorem dX2_moveTo_39 : decode cX2_moveTo 39 = .ok (.ifCond .eq 6, 3) := by decide +kernel
theorem dX2_moveTo_42 : decode cX2_moveTo 42 = .ok (.bipush (-4), 2) := by decide +kernel
theorem dX2_moveTo_44 : decode cX2_moveTo 44 = .ok (.ireturn, 1) := by decide +kernel
theorem dX2_moveTo_45 : decode cX2_moveTo 45 = .ok (.aload_n 0, 1) := by decide +kernel
theorem dX2_moveTo_46 : decode cX2_moveTo 46 = .ok (.iload_n 2, 1) := by decide +kernel
theorem dX2_moveTo_47 : decode cX2_moveTo 47 = .ok (.iload_n 1, 1) := by decide +kernel
theorem dX2_moveTo_48 : decode cX2_moveTo 48 = .ok (.invokevirtual 120, 3) := by decide +kernel
theorem dX2_moveTo_51 : decode cX2_moveTo 51 = .ok (.ifCond .eq 10, 3) := by decide +kernel
theorem dX2_moveTo_54 : decode cX2_moveTo 54 = .ok (.aload_n 0, 1) := by decide +kernel
theorem dX2_moveTo_55 : decode cX2_moveTo 55 = .ok (.invokevirtual 146, 3) := by decide +kernel
theorem dX2_moveTo_58 : decode cX2_moveTo 58 = .ok (.ifCond .ne 6, 3) := by decide +kernel
theorem dX2_moveTo_61 : decode cX2_moveTo 61 = .ok (.bipush (-3), 2) := by decide +kernel
theorem dX2_moveTo_63 : decode cX2_moveTo 63 = .ok (.ireturn, 1) := by decide +kernel
theorem dX2_moveTo_64 : decode cX2_moveTo 64 = .ok (.aload_n 0, 1) := by decide +kernel
theorem dX2_moveTo_65 : decode cX2_moveTo 65 = .ok (.iload_n 1, 1) := by decide +kernel
theorem dX2_moveTo_66 : decode cX2_moveTo 66 = .ok (.iload_n 2, 1) := by decide +kernel
theorem dX2_moveTo_67 : decode cX2_moveTo 67 = .ok (.invokevirtual 152, 3) := by decide +kernel
theorem dX2_moveTo_70 : decode cX2_moveTo 70 = .ok (.aload_n 0, 1) := by decide +kernel
theorem dX2_moveTo_71 : decode cX2_moveTo 71 = .ok (.invokevirtual 156, 3) := by decide +kernel
theorem dX2_moveTo_74 : decode cX2_moveTo 74 = .ok (.aload_n 0, 1) := by decide +kernel
theorem dX2_moveTo_75 : decode cX2_moveTo 75 = .ok (.iload_n 2, 1) := by decide +kernel
theorem dX2_moveTo_76 : decode cX2_moveTo 76 = .ok (.invokevirtual 114, 3) := by decide +kernel
theorem dX2_moveTo_79 : decode cX2_moveTo 79 = .ok (.ireturn, 1) := by decide +kernel
theorem dX2_hasMast_0 : decode cX2_hasMast 0 = .ok (.aload_n 0, 1) := by decide +kernel
theorem dX2_hasMast_1 : decode cX2_hasMast 1 = .ok (.iload_n 1, 1) := by decide +kernel
theorem dX2_hasMast_2 : decode cX2_hasMast 2 = .ok (.bipush 7, 2) := by decide +kernel
theorem dX2_hasMast_4 : decode cX2_hasMast 4 = .ok (.invokevirtual 51, 3) := by decide +kernel
theorem dX2_hasMast_7 : decode cX2_hasMast 7 = .ok (.bipush (-5), 2) := by decide +kernel
theorem dX2_hasMast_9 : decode cX2_hasMast 9 = .ok (.if_icmp .ne 7, 3) := by decide +kernel
theorem dX2_hasMast_12 : decode cX2_hasMast 12 = .ok (.iconst 1, 1) := by decide +kernel
theorem dX2_hasMast_13 : decode cX2_hasMast 13 = .ok (.goto 4, 3) := by decide +kernel
theorem dX2_hasMast_16 : decode cX2_hasMast 16 = .ok (.iconst 0, 1) := by decide +kernel
theorem dX2_hasMast_17 : decode cX2_hasMast 17 = .ok (.ireturn, 1) := by decide +kernel
theorem dX2_mastsIn_0 : decode cX2_mastsIn 0 = .ok (.aload_n 0, 1) := by decide +kernel
theorem dX2_mastsIn_1 : decode cX2_mastsIn 1 = .ok (.bipush 7, 2) := by decide +kernel
theorem dX2_mastsIn_3 : decode cX2_mastsIn 3 = .ok (.iload_n 1, 1) := by decide +kernel
theorem dX2_mastsIn_4 : decode cX2_mastsIn 4 = .ok (.invokevirtual 82, 3) := by decide +kernel
theorem dX2_mastsIn_7 : decode cX2_mastsIn 7 = .ok (.ireturn, 1) := by decide +kernel
theorem dX2_rackFor_0 : decode cX2_rackFor 0 = .ok (.aload_n 0, 1) := by decide +kernel
theorem dX2_rackFor_1 : decode cX2_rackFor 1 = .ok (.iload_n 1, 1) := by decide +kernel
theorem dX2_rackFor_2 : decode cX2_rackFor 2 = .ok (.iconst 0, 1) := by decide +kernel
theorem dX2_rackFor_3 : decode cX2_rackFor 3 = .ok (.invokevirtual 51, 3) := by decide +kernel
theorem dX2_rackFor_6 : decode cX2_rackFor 6 = .ok (.bipush 12, 2) := by decide +kernel
theorem dX2_rackFor_8 : decode cX2_rackFor 8 = .ok (.if_icmp .gt 7, 3) := by decide +kernel
theorem dX2_rackFor_11 : decode cX2_rackFor 11 = .ok (.iconst 1, 1) := by decide +kernel
theorem dX2_rackFor_12 : decode cX2_rackFor 12 = .ok (.goto 4, 3) := by decide +kernel
theorem dX2_rackFor_15 : decode cX2_rackFor 15 = .ok (.iconst 0, 1) := by decide +kernel
theorem dX2_rackFor_16 : decode cX2_rackFor 16 = .ok (.istore_n 2, 1) := by decide +kernel
theorem dX2_rackFor_17 : decode cX2_rackFor 17 = .ok (.iload_n 2, 1) := by decide +kernel
theorem dX2_rackFor_18 : decode cX2_rackFor 18 = .ok (.ifCond .eq 15, 3) := by decide +kernel
theorem dX2_rackFor_21 : decode cX2_rackFor 21 = .ok (.aload_n 0, 1) := by decide +kernel
theorem dX2_rackFor_22 : decode cX2_rackFor 22 = .ok (.iconst 0, 1) := by decide +kernel
theorem dX2_rackFor_23 : decode cX2_rackFor 23 = .ok (.invokevirtual 165, 3) := by decide +kernel
theorem dX2_rackFor_26 : decode cX2_rackFor 26 = .ok (.bipush 6, 2) := by decide +kernel
theorem dX2_rackFor_28 : decode cX2_rackFor 28 = .ok (.if_icmp .ge 5, 3) := by decide +kernel
theorem dX2_rackFor_31 : decode cX2_rackFor 31 = .ok (.iconst 0, 1) := by decide +kernel
theorem dX2_rackFor_32 : decode cX2_rackFor 32 = .ok (.ireturn, 1) := by decide +kernel
theorem dX2_rackFor_33 : decode cX2_rackFor 33 = .ok (.aload_n 0, 1) := by decide +kernel
theorem dX2_rackFor_34 : decode cX2_rackFor 34 = .ok (.iconst 1, 1) := by decide +kernel
theorem dX2_rackFor_35 : decode cX2_rackFor 35 = .ok (.invokevirtual 165, 3) := by decide +kernel
theorem dX2_rackFor_38 : decode cX2_rackFor 38 = .ok (.bipush 6, 2) := by decide +kernel
theorem dX2_rackFor_40 : decode cX2_rackFor 40 = .ok (.if_icmp .ge 7, 3) := by decide +kernel
theorem dX2_rackFor_43 : decode cX2_rackFor 43 = .ok (.iconst 1, 1) := by decide +kernel
theorem dX2_rackFor_44 : decode cX2_rackFor 44 = .ok (.goto 5, 3) := by decide +kernel
theorem dX2_rackFor_47 : decode cX2_rackFor 47 = .ok (.bipush (-5), 2) := by decide +kernel
theorem dX2_rackFor_49 : decode cX2_rackFor 49 = .ok (.ireturn, 1) := by decide +kernel
theorem dX2_takeMastOff_0 : decode cX2_takeMastOff 0 = .ok (.aload_n 0, 1) := by decide +kernel
theorem dX2_takeMastOff_1 : decode cX2_takeMastOff 1 = .ok (.iload_n 1, 1) := by decide +kernel
theorem dX2_takeMastOff_2 : decode cX2_takeMastOff 2 = .ok (.invokevirtual 70, 3) := by decide +kernel
theorem dX2_takeMastOff_5 : decode cX2_takeMastOff 5 = .ok (.ifCond .ne 5, 3) := by decide +kernel
theorem dX2_takeMastOff_8 : decode cX2_takeMastOff 8 = .ok (.iconst (-1), 1) := by decide +kernel
theorem dX2_takeMastOff_9 : decode cX2_takeMastOff 9 = .ok (.ireturn, 1) := by decide +kernel
theorem dX2_takeMastOff_10 : decode cX2_takeMastOff 10 = .ok (.aload_n 0, 1) := by decide +kernel
theorem dX2_takeMastOff_11 : decode cX2_takeMastOff 11 = .ok (.iload_n 1, 1) := by decide +kernel
theorem dX2_takeMastOff_12 : decode cX2_takeMastOff 12 = .ok (.invokevirtual 73, 3) := by decide +kernel
theorem dX2_takeMastOff_15 : decode cX2_takeMastOff 15 = .ok (.ifCond .eq 6, 3) := by decide +kernel
theorem dX2_takeMastOff_18 : decode cX2_takeMastOff 18 = .ok (.bipush (-4), 2) := by decide +kernel
theorem dX2_takeMastOff_20 : decode cX2_takeMastOff 20 = .ok (.ireturn, 1) := by decide +kernel
theorem dX2_takeMastOff_21 : decode cX2_takeMastOff 21 = .ok (.aload_n 0, 1) := by decide +kernel
theorem dX2_takeMastOff_22 : decode cX2_takeMastOff 22 = .ok (.iload_n 1, 1) := by decide +kernel
theorem dX2_takeMastOff_23 : decode cX2_takeMastOff 23 = .ok (.invokevirtual 76, 3) := by decide +kernel
theorem dX2_takeMastOff_26 : decode cX2_takeMastOff 26 = .ok (.ifCond .ne 6, 3) := by decide +kernel
theorem dX2_takeMastOff_29 : decode cX2_takeMastOff 29 = .ok (.bipush (-5), 2) := by decide +kernel
theorem dX2_takeMastOff_31 : decode cX2_takeMastOff 31 = .ok (.ireturn, 1) := by decide +kernel
theorem dX2_takeMastOff_32 : decode cX2_takeMastOff 32 = .ok (.aload_n 0, 1) := by decide +kernel
theorem dX2_takeMastOff_33 : decode cX2_takeMastOff 33 = .ok (.iload_n 1, 1) := by decide +kernel
theorem dX2_takeMastOff_34 : decode cX2_takeMastOff 34 = .ok (.invokevirtual 168, 3) := by decide +kernel
theorem dX2_takeMastOff_37 : decode cX2_takeMastOff 37 = .ok (.istore_n 2, 1) := by decide +kernel
theorem dX2_takeMastOff_38 : decode cX2_takeMastOff 38 = .ok (.iload_n 2, 1) := by decide +kernel
theorem dX2_takeMastOff_39 : decode cX2_takeMastOff 39 = .ok (.bipush (-5), 2) := by decide +kernel
theorem dX2_takeMastOff_41 : decode cX2_takeMastOff 41 = .ok (.if_icmp .ne 6, 3) := by decide +kernel
theorem dX2_takeMastOff_44 : decode cX2_takeMastOff 44 = .ok (.bipush (-3), 2) := by decide +kernel
theorem dX2_takeMastOff_46 : decode cX2_takeMastOff 46 = .ok (.ireturn, 1) := by decide +kernel
theorem dX2_takeMastOff_47 : decode cX2_takeMastOff 47 = .ok (.aload_n 0, 1) := by decide +kernel
theorem dX2_takeMastOff_48 : decode cX2_takeMastOff 48 = .ok (.iload_n 1, 1) := by decide +kernel
theorem dX2_takeMastOff_49 : decode cX2_takeMastOff 49 = .ok (.bipush 7, 2) := by decide +kernel
theorem dX2_takeMastOff_51 : decode cX2_takeMastOff 51 = .ok (.iload_n 2, 1) := by decide +kernel
theorem dX2_takeMastOff_52 : decode cX2_takeMastOff 52 = .ok (.invokevirtual 55, 3) := by decide +kernel
theorem dX2_takeMastOff_55 : decode cX2_takeMastOff 55 = .ok (.iload_n 2, 1) := by decide +kernel
theorem dX2_takeMastOff_56 : decode cX2_takeMastOff 56 = .ok (.ireturn, 1) := by decide +kernel
theorem dX2_putMastUp_0 : decode cX2_putMastUp 0 = .ok (.aload_n 0, 1) := by decide +kernel
theorem dX2_putMastUp_1 : decode cX2_putMastUp 1 = .ok (.iload_n 1, 1) := by decide +kernel
theorem dX2_putMastUp_2 : decode cX2_putMastUp 2 = .ok (.invokevirtual 70, 3) := by decide +kernel
theorem dX2_putMastUp_5 : decode cX2_putMastUp 5 = .ok (.ifCond .ne 5, 3) := by decide +kernel
theorem dX2_putMastUp_8 : decode cX2_putMastUp 8 = .ok (.iconst (-1), 1) := by decide +kernel
theorem dX2_putMastUp_9 : decode cX2_putMastUp 9 = .ok (.ireturn, 1) := by decide +kernel
theorem dX2_putMastUp_10 : decode cX2_putMastUp 10 = .ok (.aload_n 0, 1) := by decide +kernel
theorem dX2_putMastUp_11 : decode cX2_putMastUp 11 = .ok (.iload_n 1, 1) := by decide +kernel
theorem dX2_putMastUp_12 : decode cX2_putMastUp 12 = .ok (.invokevirtual 73, 3) := by decide +kernel
theorem dX2_putMastUp_15 : decode cX2_putMastUp 15 = .ok (.ifCond .eq 6, 3) := by decide +kernel
theorem dX2_putMastUp_18 : decode cX2_putMastUp 18 = .ok (.bipush (-4), 2) := by decide +kernel
theorem dX2_putMastUp_20 : decode cX2_putMastUp 20 = .ok (.ireturn, 1) := by decide +kernel
theorem dX2_putMastUp_21 : decode cX2_putMastUp 21 = .ok (.aload_n 0, 1) := by decide +kernel
theorem dX2_putMastUp_22 : decode cX2_putMastUp 22 = .ok (.iload_n 1, 1) := by decide +kernel
theorem dX2_putMastUp_23 : decode cX2_putMastUp 23 = .ok (.bipush 7, 2) := by decide +kernel
theorem dX2_putMastUp_25 : decode cX2_putMastUp 25 = .ok (.invokevirtual 51, 3) := by decide +kernel
theorem dX2_putMastUp_28 : decode cX2_putMastUp 28 = .ok (.istore_n 2, 1) := by decide +kernel
theorem dX2_putMastUp_29 : decode cX2_putMastUp 29 = .ok (.aload_n 0, 1) := by decide +kernel
theorem dX2_putMastUp_30 : decode cX2_putMastUp 30 = .ok (.iload_n 1, 1) := by decide +kernel
theorem dX2_putMastUp_31 : decode cX2_putMastUp 31 = .ok (.bipush 7, 2) := by decide +kernel
theorem dX2_putMastUp_33 : decode cX2_putMastUp 33 = .ok (.bipush (-5), 2) := by decide +kernel
theorem dX2_putMastUp_35 : decode cX2_putMastUp 35 = .ok (.invokevirtual 55, 3) := by decide +kernel
theorem dX2_putMastUp_38 : decode cX2_putMastUp 38 = .ok (.iload_n 2, 1) := by decide +kernel
theorem dX2_putMastUp_39 : decode cX2_putMastUp 39 = .ok (.ireturn, 1) := by decide +kernel
theorem dX2_orderWork_0 : decode cX2_orderWork 0 = .ok (.aload_n 0, 1) := by decide +kernel
theorem dX2_orderWork_1 : decode cX2_orderWork 1 = .ok (.iload_n 1, 1) := by decide +kernel
theorem dX2_orderWork_2 : decode cX2_orderWork 2 = .ok (.invokevirtual 70, 3) := by decide +kernel
theorem dX2_orderWork_5 : decode cX2_orderWork 5 = .ok (.ifCond .ne 5, 3) := by decide +kernel
theorem dX2_orderWork_8 : decode cX2_orderWork 8 = .ok (.iconst (-1), 1) := by decide +kernel
theorem dX2_orderWork_9 : decode cX2_orderWork 9 = .ok (.ireturn, 1) := by decide +kernel
theorem dX2_orderWork_10 : decode cX2_orderWork 10 = .ok (.iload_n 2, 1) := by decide +kernel
theorem dX2_orderWork_11 : decode cX2_orderWork 11 = .ok (.iconst 1, 1) := by decide +kernel
theorem dX2_orderWork_12 : decode cX2_orderWork 12 = .ok (.bipush 99, 2) := by decide +kernel
theorem dX2_orderWork_14 : decode cX2_orderWork 14 = .ok (.invokestatic 47, 3) := by decide +kernel
theorem dX2_orderWork_17 : decode cX2_orderWork 17 = .ok (.ifCond .ne 6, 3) := by decide +kernel
theorem dX2_orderWork_20 : decode cX2_orderWork 20 = .ok (.bipush (-2), 2) := by decide +kernel
theorem dX2_orderWork_22 : decode cX2_orderWork 22 = .ok (.ireturn, 1) := by decide +kernel
theorem dX2_orderWork_23 : decode cX2_orderWork 23 = .ok (.aload_n 0, 1) := by decide +kernel
theorem dX2_orderWork_24 : decode cX2_orderWork 24 = .ok (.iload_n 1, 1) := by decide +kernel
theorem dX2_orderWork_25 : decode cX2_orderWork 25 = .ok (.bipush 8, 2) := by decide +kernel
theorem dX2_orderWork_27 : decode cX2_orderWork 27 = .ok (.invokevirtual 51, 3) := by decide +kernel
theorem dX2_orderWork_30 : decode cX2_orderWork 30 = .ok (.iload_n 2, 1) := by decide +kernel
theorem dX2_orderWork_31 : decode cX2_orderWork 31 = .ok (.iadd, 1) := by decide +kernel
theorem dX2_orderWork_32 : decode cX2_orderWork 32 = .ok (.istore_n 3, 1) := by decide +kernel
theorem dX2_orderWork_33 : decode cX2_orderWork 33 = .ok (.iload_n 3, 1) := by decide +kernel
theorem dX2_orderWork_34 : decode cX2_orderWork 34 = .ok (.bipush 99, 2) := by decide +kernel
theorem dX2_orderWork_36 : decode cX2_orderWork 36 = .ok (.if_icmp .le 6, 3) := by decide +kernel
theorem dX2_orderWork_39 : decode cX2_orderWork 39 = .ok (.bipush (-3), 2) := by decide +kernel
theorem dX2_orderWork_41 : decode cX2_orderWork 41 = .ok (.ireturn, 1) := by decide +kernel
theorem dX2_orderWork_42 : decode cX2_orderWork 42 = .ok (.aload_n 0, 1) := by decide +kernel
theorem dX2_orderWork_43 : decode cX2_orderWork 43 = .ok (.iload_n 1, 1) := by decide +kernel
theorem dX2_orderWork_44 : decode cX2_orderWork 44 = .ok (.bipush 8, 2) := by decide +kernel
theorem dX2_orderWork_46 : decode cX2_orderWork 46 = .ok (.iload_n 3, 1) := by decide +kernel
theorem dX2_orderWork_47 : decode cX2_orderWork 47 = .ok (.invokevirtual 55, 3) := by decide +kernel
theorem dX2_orderWork_50 : decode cX2_orderWork 50 = .ok (.iload_n 3, 1) := by decide +kernel
theorem dX2_orderWork_51 : decode cX2_orderWork 51 = .ok (.ireturn, 1) := by decide +kernel
theorem dX2_boatsWithWork_0 : decode cX2_boatsWithWork 0 = .ok (.iconst 0, 1) := by decide +kernel
theorem dX2_boatsWithWork_1 : decode cX2_boatsWithWork 1 = .ok (.istore_n 1, 1) := by decide +kernel
theorem dX2_boatsWithWork_2 : decode cX2_boatsWithWork 2 = .ok (.iconst 0, 1) := by decide +kernel
theorem dX2_boatsWithWork_3 : decode cX2_boatsWithWork 3 = .ok (.istore_n 2, 1) := by decide +kernel
theorem dX2_boatsWithWork_4 : decode cX2_boatsWithWork 4 = .ok (.iload_n 2, 1) := by decide +kernel
theorem dX2_boatsWithWork_5 : decode cX2_boatsWithWork 5 = .ok (.bipush 20, 2) := by decide +kernel
theorem dX2_boatsWithWork_7 : decode cX2_boatsWithWork 7 = .ok (.if_icmp .ge 22, 3) := by decide +kernel
theorem dX2_boatsWithWork_10 : decode cX2_boatsWithWork 10 = .ok (.aload_n 0, 1) := by decide +kernel
theorem dX2_boatsWithWork_11 : decode cX2_boatsWithWork 11 = .ok (.iload_n 2, 1) := by decide +kernel
theorem dX2_boatsWithWork_12 : decode cX2_boatsWithWork 12 = .ok (.bipush 8, 2) := by decide +kernel
theorem dX2_boatsWithWork_14 : decode cX2_boatsWithWork 14 = .ok (.invokevirtual 51, 3) := by decide +kernel
theorem dX2_boatsWithWork_17 : decode cX2_boatsWithWork 17 = .ok (.ifCond .le 6, 3) := by decide +kernel
theorem dX2_boatsWithWork_20 : decode cX2_boatsWithWork 20 = .ok (.iinc 1 1, 3) := by decide +kernel
theorem dX2_boatsWithWork_23 : decode cX2_boatsWithWork 23 = .ok (.iinc 2 1, 3) := by decide +kernel
theorem dX2_boatsWithWork_26 : decode cX2_boatsWithWork 26 = .ok (.goto (-22), 3) := by decide +kernel
theorem dX2_boatsWithWork_29 : decode cX2_boatsWithWork 29 = .ok (.iload_n 1, 1) := by decide +kernel
theorem dX2_boatsWithWork_30 : decode cX2_boatsWithWork 30 = .ok (.ireturn, 1) := by decide +kernel
theorem dX2_today_0 : decode cX2_today 0 = .ok (.aload_n 0, 1) := by decide +kernel
theorem dX2_today_1 : decode cX2_today 1 = .ok (.getfield 24, 3) := by decide +kernel
theorem dX2_today_4 : decode cX2_today 4 = .ok (.ireturn, 1) := by decide +kernel
theorem dX2_tideOn_0 : decode cX2_tideOn 0 = .ok (.bipush 30, 2) := by decide +kernel
theorem dX2_tideOn_2 : decode cX2_tideOn 2 = .ok (.aload_n 0, 1) := by decide +kernel
theorem dX2_tideOn_3 : decode cX2_tideOn 3 = .ok (.getfield 21, 3) := by decide +kernel
theorem dX2_tideOn_6 : decode cX2_tideOn 6 = .ok (.iconst 0, 1) := by decide +kernel
theorem dX2_tideOn_7 : decode cX2_tideOn 7 = .ok (.iaload, 1) := by decide +kernel
theorem dX2_tideOn_8 : decode cX2_tideOn 8 = .ok (.iload_n 1, 1) := by decide +kernel
theorem dX2_tideOn_9 : decode cX2_tideOn 9 = .ok (.bipush 14, 2) := by decide +kernel
theorem dX2_tideOn_11 : decode cX2_tideOn 11 = .ok (.irem, 1) := by decide +kernel
theorem dX2_tideOn_12 : decode cX2_tideOn 12 = .ok (.bipush 7, 2) := by decide +kernel
theorem dX2_tideOn_14 : decode cX2_tideOn 14 = .ok (.isub, 1) := by decide +kernel
theorem dX2_tideOn_15 : decode cX2_tideOn 15 = .ok (.invokestatic 171, 3) := by decide +kernel
theorem dX2_tideOn_18 : decode cX2_tideOn 18 = .ok (.imul, 1) := by decide +kernel
theorem dX2_tideOn_19 : decode cX2_tideOn 19 = .ok (.iadd, 1) := by decide +kernel
theorem dX2_tideOn_20 : decode cX2_tideOn 20 = .ok (.ireturn, 1) := by decide +kernel
theorem dX2_letPass_0 : decode cX2_letPass 0 = .ok (.iload_n 1, 1) := by decide +kernel
theorem dX2_letPass_1 : decode cX2_letPass 1 = .ok (.iconst 1, 1) := by decide +kernel
theorem dX2_letPass_2 : decode cX2_letPass 2 = .ok (.bipush 99, 2) := by decide +kernel
theorem dX2_letPass_4 : decode cX2_letPass 4 = .ok (.invokestatic 47, 3) := by decide +kernel
theorem dX2_letPass_7 : decode cX2_letPass 7 = .ok (.ifCond .ne 6, 3) := by decide +kernel
theorem dX2_letPass_10 : decode cX2_letPass 10 = .ok (.bipush (-2), 2) := by decide +kernel
theorem dX2_letPass_12 : decode cX2_letPass 12 = .ok (.ireturn, 1) := by decide +kernel
theorem dX2_letPass_13 : decode cX2_letPass 13 = .ok (.aload_n 0, 1) := by decide +kernel
theorem dX2_letPass_14 : decode cX2_letPass 14 = .ok (.getfield 24, 3) := by decide +kernel
theorem dX2_letPass_17 : decode cX2_letPass 17 = .ok (.iload_n 1, 1) := by decide +kernel
theorem dX2_letPass_18 : decode cX2_letPass 18 = .ok (.iadd, 1) := by decide +kernel
theorem dX2_letPass_19 : decode cX2_letPass 19 = .ok (.sipush 9999, 3) := by decide +kernel
theorem dX2_letPass_22 : decode cX2_letPass 22 = .ok (.if_icmp .le 6, 3) := by decide +kernel
theorem dX2_letPass_25 : decode cX2_letPass 25 = .ok (.bipush (-3), 2) := by decide +kernel
theorem dX2_letPass_27 : decode cX2_letPass 27 = .ok (.ireturn, 1) := by decide +kernel
theorem dX2_letPass_28 : decode cX2_letPass 28 = .ok (.aload_n 0, 1) := by decide +kernel
theorem dX2_letPass_29 : decode cX2_letPass 29 = .ok (.dup, 1) := by decide +kernel
theorem dX2_letPass_30 : decode cX2_letPass 30 = .ok (.getfield 24, 3) := by decide +kernel
theorem dX2_letPass_33 : decode cX2_letPass 33 = .ok (.iload_n 1, 1) := by decide +kernel
theorem dX2_letPass_34 : decode cX2_letPass 34 = .ok (.iadd, 1) := by decide +kernel
theorem dX2_letPass_35 : decode cX2_letPass 35 = .ok (.putfield 24, 3) := by decide +kernel
theorem dX2_letPass_38 : decode cX2_letPass 38 = .ok (.aload_n 0, 1) := by decide +kernel
theorem dX2_letPass_39 : decode cX2_letPass 39 = .ok (.iconst 0, 1) := by decide +kernel
theorem dX2_letPass_40 : decode cX2_letPass 40 = .ok (.putfield 28, 3) := by decide +kernel
theorem dX2_letPass_43 : decode cX2_letPass 43 = .ok (.iconst 0, 1) := by decide +kernel
theorem dX2_letPass_44 : decode cX2_letPass 44 = .ok (.istore_n 2, 1) := by decide +kernel
theorem dX2_letPass_45 : decode cX2_letPass 45 = .ok (.iload_n 2, 1) := by decide +kernel
theorem dX2_letPass_46 : decode cX2_letPass 46 = .ok (.bipush 20, 2) := by decide +kernel
theorem dX2_letPass_48 : decode cX2_letPass 48 = .ok (.if_icmp .ge 53, 3) := by decide +kernel
theorem dX2_letPass_51 : decode cX2_letPass 51 = .ok (.aload_n 0, 1) := by decide +kernel
theorem dX2_letPass_52 : decode cX2_letPass 52 = .ok (.iload_n 2, 1) := by decide +kernel
theorem dX2_letPass_53 : decode cX2_letPass 53 = .ok (.invokevirtual 73, 3) := by decide +kernel
theorem dX2_letPass_56 : decode cX2_letPass 56 = .ok (.ifCond .eq 39, 3) := by decide +kernel
theorem dX2_letPass_59 : decode cX2_letPass 59 = .ok (.aload_n 0, 1) := by decide +kernel
theorem dX2_letPass_60 : decode cX2_letPass 60 = .ok (.iload_n 2, 1) := by decide +kernel
theorem dX2_letPass_61 : decode cX2_letPass 61 = .ok (.bipush 9, 2) := by decide +kernel
theorem dX2_letPass_63 : decode cX2_letPass 63 = .ok (.aload_n 0, 1) := by decide +kernel
theorem dX2_letPass_64 : decode cX2_letPass 64 = .ok (.iload_n 2, 1) := by decide +kernel
theorem dX2_letPass_65 : decode cX2_letPass 65 = .ok (.bipush 9, 2) := by decide +kernel
theorem dX2_letPass_67 : decode cX2_letPass 67 = .ok (.invokevirtual 51, 3) := by decide +kernel
theorem dX2_letPass_70 : decode cX2_letPass 70 = .ok (.iload_n 1, 1) := by decide +kernel
theorem dX2_letPass_71 : decode cX2_letPass 71 = .ok (.iadd, 1) := by decide +kernel
theorem dX2_letPass_72 : decode cX2_letPass 72 = .ok (.invokevirtual 55, 3) := by decide +kernel
theorem dX2_letPass_75 : decode cX2_letPass 75 = .ok (.aload_n 0, 1) := by decide +kernel
theorem dX2_letPass_76 : decode cX2_letPass 76 = .ok (.iload_n 2, 1) := by decide +kernel
theorem dX2_letPass_77 : decode cX2_letPass 77 = .ok (.bipush 8, 2) := by decide +kernel
theorem dX2_letPass_79 : decode cX2_letPass 79 = .ok (.iconst 0, 1) := by decide +kernel
theorem dX2_letPass_80 : decode cX2_letPass 80 = .ok (.aload_n 0, 1) := by decide +kernel
theorem dX2_letPass_81 : decode cX2_letPass 81 = .ok (.iload_n 2, 1) := by decide +kernel
theorem dX2_letPass_82 : decode cX2_letPass 82 = .ok (.bipush 8, 2) := by decide +kernel
theorem dX2_letPass_84 : decode cX2_letPass 84 = .ok (.invokevirtual 51, 3) := by decide +kernel
theorem dX2_letPass_87 : decode cX2_letPass 87 = .ok (.iload_n 1, 1) := by decide +kernel
theorem dX2_letPass_88 : decode cX2_letPass 88 = .ok (.isub, 1) := by decide +kernel
theorem dX2_letPass_89 : decode cX2_letPass 89 = .ok (.invokestatic 129, 3) := by decide +kernel
theorem dX2_letPass_92 : decode cX2_letPass 92 = .ok (.invokevirtual 55, 3) := by decide +kernel
theorem dX2_letPass_95 : decode cX2_letPass 95 = .ok (.iinc 2 1, 3) := by decide +kernel
theorem dX2_letPass_98 : decode cX2_letPass 98 = .ok (.goto (-53), 3) := by decide +kernel
theorem dX2_letPass_101 : decode cX2_letPass 101 = .ok (.aload_n 0, 1) := by decide +kernel
theorem dX2_letPass_102 : decode cX2_letPass 102 = .ok (.aload_n 0, 1) := by decide +kernel
theorem dX2_letPass_103 : decode cX2_letPass 103 = .ok (.getfield 24, 3) := by decide +kernel
theorem dX2_letPass_106 : decode cX2_letPass 106 = .ok (.invokevirtual 134, 3) := by decide +kernel
theorem dX2_letPass_109 : decode cX2_letPass 109 = .ok (.ireturn, 1) := by decide +kernel
end
section
theorem dX0_init_0 : decode cX0_init 0 = .ok (.aload_n 0, 1) := by decide +kernel
theorem dX0_init_1 : decode cX0_init 1 = .ok (.invokespecial 5, 3) := by decide +kernel
theorem dX0_init_4 : decode cX0_init 4 = .ok (.aload_n 0, 1) := by decide +kernel
theorem dX0_init_5 : decode cX0_init 5 = .ok (.iconst 5, 1) := by decide +kernel
theorem dX0_init_6 : decode cX0_init 6 = .ok (.anewarray 11, 3) := by decide +kernel
theorem dX0_init_9 : decode cX0_init 9 = .ok (.putfield 13, 3) := by decide +kernel
theorem dX0_init_12 : decode cX0_init 12 = .ok (.aload_n 0, 1) := by decide +kernel
theorem dX0_init_13 : decode cX0_init 13 = .ok (.iconst 0, 1) := by decide +kernel
theorem dX0_init_14 : decode cX0_init 14 = .ok (.putfield 17, 3) := by decide +kernel
theorem dX0_init_17 : decode cX0_init 17 = .ok (.aload_n 0, 1) := by decide +kernel
theorem dX0_init_18 : decode cX0_init 18 = .ok (.iconst 0, 1) := by decide +kernel
theorem dX0_init_19 : decode cX0_init 19 = .ok (.putfield 21, 3) := by decide +kernel
theorem dX0_init_22 : decode cX0_init 22 = .ok (.iconst 0, 1) := by decide +kernel
theorem dX0_init_23 : decode cX0_init 23 = .ok (.istore_n 1, 1) := by decide +kernel
theorem dX0_init_24 : decode cX0_init 24 = .ok (.iload_n 1, 1) := by decide +kernel
theorem dX0_init_25 : decode cX0_init 25 = .ok (.iconst 5, 1) := by decide +kernel
theorem dX0_init_26 : decode cX0_init 26 = .ok (.if_icmp .ge 22, 3) := by decide +kernel
theorem dX0_init_29 : decode cX0_init 29 = .ok (.aload_n 0, 1) := by decide +kernel
theorem dX0_init_30 : decode cX0_init 30 = .ok (.getfield 13, 3) := by decide +kernel
theorem dX0_init_33 : decode cX0_init 33 = .ok (.iload_n 1, 1) := by decide +kernel
theorem dX0_init_34 : decode cX0_init 34 = .ok (.new 11, 3) := by decide +kernel
theorem dX0_init_37 : decode cX0_init 37 = .ok (.dup, 1) := by decide +kernel
theorem dX0_init_38 : decode cX0_init 38 = .ok (.invokespecial 24, 3) := by decide +kernel
theorem dX0_init_41 : decode cX0_init 41 = .ok (.aastore, 1) := by decide +kernel
theorem dX0_init_42 : decode cX0_init 42 = .ok (.iinc 1 1, 3) := by decide +kernel
theorem dX0_init_45 : decode cX0_init 45 = .ok (.goto (-21), 3) := by decide +kernel
theorem dX0_init_48 : decode cX0_init 48 = .ok (.return_, 1) := by decide +kernel
theorem dX0_states_0 : decode cX0_states 0 = .ok (.aload_n 0, 1) := by decide +kernel
theorem dX0_states_1 : decode cX0_states 1 = .ok (.getfield 21, 3) := by decide +kernel
theorem dX0_states_4 : decode cX0_states 4 = .ok (.ireturn, 1) := by decide +kernel
theorem dX0_behindLatest_0 : decode cX0_behindLatest 0 = .ok (.aload_n 0, 1) := by decide +kernel
theorem dX0_behindLatest_1 : decode cX0_behindLatest 1 = .ok (.getfield 13, 3) := by decide +kernel
theorem dX0_behindLatest_4 : decode cX0_behindLatest 4 = .ok (.aload_n 0, 1) := by decide +kernel
theorem dX0_behindLatest_5 : decode cX0_behindLatest 5 = .ok (.getfield 17, 3) := by decide +kernel
theorem dX0_behindLatest_8 : decode cX0_behindLatest 8 = .ok (.aload_n 0, 1) := by decide +kernel
theorem dX0_behindLatest_9 : decode cX0_behindLatest 9 = .ok (.getfield 21, 3) := by decide +kernel
theorem dX0_behindLatest_12 : decode cX0_behindLatest 12 = .ok (.iadd, 1) := by decide +kernel
theorem dX0_behindLatest_13 : decode cX0_behindLatest 13 = .ok (.iconst 5, 1) := by decide +kernel
theorem dX0_behindLatest_14 : decode cX0_behindLatest 14 = .ok (.irem, 1) := by decide +kernel
theorem dX0_behindLatest_15 : decode cX0_behindLatest 15 = .ok (.aaload, 1) := by decide +kernel
theorem dX0_behindLatest_16 : decode cX0_behindLatest 16 = .ok (.areturn, 1) := by decide +kernel
theorem dX0_prepare_0 : decode cX0_prepare 0 = .ok (.aload_n 0, 1) := by decide +kernel
theorem dX0_prepare_1 : decode cX0_prepare 1 = .ok (.invokevirtual 25, 3) := by decide +kernel
theorem dX0_prepare_4 : decode cX0_prepare 4 = .ok (.aload_n 1, 1) := by decide +kernel
theorem dX0_prepare_5 : decode cX0_prepare 5 = .ok (.invokevirtual 29, 3) := by decide +kernel
theorem dX0_prepare_8 : decode cX0_prepare 8 = .ok (.return_, 1) := by decide +kernel
theorem dX0_settle_0 : decode cX0_settle 0 = .ok (.iload_n 1, 1) := by decide +kernel
theorem dX0_settle_1 : decode cX0_settle 1 = .ok (.ifCond .lt 36, 3) := by decide +kernel
theorem dX0_settle_4 : decode cX0_settle 4 = .ok (.aload_n 0, 1) := by decide +kernel
theorem dX0_settle_5 : decode cX0_settle 5 = .ok (.getfield 21, 3) := by decide +kernel
theorem dX0_settle_8 : decode cX0_settle 8 = .ok (.iconst 4, 1) := by decide +kernel
theorem dX0_settle_9 : decode cX0_settle 9 = .ok (.if_icmp .ge 16, 3) := by decide +kernel
theorem dX0_settle_12 : decode cX0_settle 12 = .ok (.aload_n 0, 1) := by decide +kernel
theorem dX0_settle_13 : decode cX0_settle 13 = .ok (.dup, 1) := by decide +kernel
theorem dX0_settle_14 : decode cX0_settle 14 = .ok (.getfield 21, 3) := by decide +kernel
theorem dX0_settle_17 : decode cX0_settle 17 = .ok (.iconst 1, 1) := by decide +kernel
theorem dX0_settle_18 : decode cX0_settle 18 = .ok (.iadd, 1) := by decide +kernel
theorem dX0_settle_19 : decode cX0_settle 19 = .ok (.putfield 21, 3) := by decide +kernel
theorem dX0_settle_22 : decode cX0_settle 22 = .ok (.goto 15, 3) := by decide +kernel
theorem dX0_settle_25 : decode cX0_settle 25 = .ok (.aload_n 0, 1) := by decide +kernel
theorem dX0_settle_26 : decode cX0_settle 26 = .ok (.aload_n 0, 1) := by decide +kernel
theorem dX0_settle_27 : decode cX0_settle 27 = .ok (.getfield 17, 3) := by decide +kernel
theorem dX0_settle_30 : decode cX0_settle 30 = .ok (.iconst 1, 1) := by decide +kernel
theorem dX0_settle_31 : decode cX0_settle 31 = .ok (.iadd, 1) := by decide +kernel
theorem dX0_settle_32 : decode cX0_settle 32 = .ok (.iconst 5, 1) := by decide +kernel
theorem dX0_settle_33 : decode cX0_settle 33 = .ok (.irem, 1) := by decide +kernel
theorem dX0_settle_34 : decode cX0_settle 34 = .ok (.putfield 17, 3) := by decide +kernel
theorem dX0_settle_37 : decode cX0_settle 37 = .ok (.iload_n 1, 1) := by decide +kernel
theorem dX0_settle_38 : decode cX0_settle 38 = .ok (.ireturn, 1) := by decide +kernel
theorem dX0_takeBack_0 : decode cX0_takeBack 0 = .ok (.aload_n 1, 1) := by decide +kernel
theorem dX0_takeBack_1 : decode cX0_takeBack 1 = .ok (.aload_n 0, 1) := by decide +kernel
theorem dX0_takeBack_2 : decode cX0_takeBack 2 = .ok (.invokevirtual 25, 3) := by decide +kernel
theorem dX0_takeBack_5 : decode cX0_takeBack 5 = .ok (.invokevirtual 29, 3) := by decide +kernel
theorem dX0_takeBack_8 : decode cX0_takeBack 8 = .ok (.return_, 1) := by decide +kernel
theorem dX0_stepBack_0 : decode cX0_stepBack 0 = .ok (.aload_n 0, 1) := by decide +kernel
theorem dX0_stepBack_1 : decode cX0_stepBack 1 = .ok (.getfield 21, 3) := by decide +kernel
theorem dX0_stepBack_4 : decode cX0_stepBack 4 = .ok (.ifCond .ne 6, 3) := by decide +kernel
theorem dX0_stepBack_7 : decode cX0_stepBack 7 = .ok (.bipush (-5), 2) := by decide +kernel
theorem dX0_stepBack_9 : decode cX0_stepBack 9 = .ok (.ireturn, 1) := by decide +kernel
theorem dX0_stepBack_10 : decode cX0_stepBack 10 = .ok (.aload_n 0, 1) := by decide +kernel
theorem dX0_stepBack_11 : decode cX0_stepBack 11 = .ok (.dup, 1) := by decide +kernel
theorem dX0_stepBack_12 : decode cX0_stepBack 12 = .ok (.getfield 21, 3) := by decide +kernel
theorem dX0_stepBack_15 : decode cX0_stepBack 15 = .ok (.iconst 1, 1) := by decide +kernel
theorem dX0_stepBack_16 : decode cX0_stepBack 16 = .ok (.isub, 1) := by decide +kernel
theorem dX0_stepBack_17 : decode cX0_stepBack 17 = .ok (.putfield 21, 3) := by decide +kernel
theorem dX0_stepBack_20 : decode cX0_stepBack 20 = .ok (.aload_n 0, 1) := by decide +kernel
theorem dX0_stepBack_21 : decode cX0_stepBack 21 = .ok (.aload_n 1, 1) := by decide +kernel
theorem dX0_stepBack_22 : decode cX0_stepBack 22 = .ok (.invokevirtual 33, 3) := by decide +kernel
theorem dX0_stepBack_25 : decode cX0_stepBack 25 = .ok (.aload_n 0, 1) := by decide +kernel
theorem dX0_stepBack_26 : decode cX0_stepBack 26 = .ok (.getfield 21, 3) := by decide +kernel
theorem dX0_stepBack_29 : decode cX0_stepBack 29 = .ok (.ireturn, 1) := by decide +kernel
theorem dX1_init_0 : decode cX1_init 0 = .ok (.aload_n 0, 1) := by decide +kernel
theorem dX1_init_1 : decode cX1_init 1 = .ok (.invokespecial 5, 3) := by decide +kernel
theorem dX1_init_4 : decode cX1_init 4 = .ok (.aload_n 0, 1) := by decide +kernel
theorem dX1_init_5 : decode cX1_init 5 = .ok (.bipush 60, 2) := by decide +kernel
theorem dX1_init_7 : decode cX1_init 7 = .ok (.newarray .char, 2) := by decide +kernel
theorem dX1_init_9 : decode cX1_init 9 = .ok (.putfield 11, 3) := by decide +kernel
theorem dX1_init_12 : decode cX1_init 12 = .ok (.aload_n 0, 1) := by decide +kernel
theorem dX1_init_13 : decode cX1_init 13 = .ok (.iconst 0, 1) := by decide +kernel
theorem dX1_init_14 : decode cX1_init 14 = .ok (.putfield 15, 3) := by decide +kernel
theorem dX1_init_17 : decode cX1_init 17 = .ok (.aload_n 0, 1) := by decide +kernel
theorem dX1_init_18 : decode cX1_init 18 = .ok (.iconst 0, 1) := by decide +kernel
theorem dX1_init_19 : decode cX1_init 19 = .ok (.putfield 19, 3) := by decide +kernel
theorem dX1_init_22 : decode cX1_init 22 = .ok (.aload_n 0, 1) := by decide +kernel
theorem dX1_init_23 : decode cX1_init 23 = .ok (.bipush 20, 2) := by decide +kernel
theorem dX1_init_25 : decode cX1_init 25 = .ok (.newarray .char, 2) := by decide +kernel
theorem dX1_init_27 : decode cX1_init 27 = .ok (.putfield 22, 3) := by decide +kernel
theorem dX1_init_30 : decode cX1_init 30 = .ok (.aload_n 0, 1) := by decide +kernel
theorem dX1_init_31 : decode cX1_init 31 = .ok (.bipush 20, 2) := by decide +kernel
theorem dX1_init_33 : decode cX1_init 33 = .ok (.newarray .int, 2) := by decide +kernel
theorem dX1_init_35 : decode cX1_init 35 = .ok (.putfield 25, 3) := by decide +kernel
theorem dX1_init_38 : decode cX1_init 38 = .ok (.aload_n 0, 1) := by decide +kernel
theorem dX1_init_39 : decode cX1_init 39 = .ok (.bipush 20, 2) := by decide +kernel
theorem dX1_init_41 : decode cX1_init 41 = .ok (.newarray .int, 2) := by decide +kernel
theorem dX1_init_43 : decode cX1_init 43 = .ok (.putfield 29, 3) := by decide +kernel
theorem dX1_init_46 : decode cX1_init 46 = .ok (.aload_n 0, 1) := by decide +kernel
theorem dX1_init_47 : decode cX1_init 47 = .ok (.iconst 0, 1) := by decide +kernel
theorem dX1_init_48 : decode cX1_init 48 = .ok (.putfield 32, 3) := by decide +kernel
theorem dX1_init_51 : decode cX1_init 51 = .ok (.return_, 1) := by decide +kernel
theorem dX1_length_0 : decode cX1_length 0 = .ok (.aload_n 0, 1) := by decide +kernel
theorem dX1_length_1 : decode cX1_length 1 = .ok (.getfield 15, 3) := by decide +kernel
theorem dX1_length_4 : decode cX1_length 4 = .ok (.ireturn, 1) := by decide +kernel
theorem dX1_append_0 : decode cX1_append 0 = .ok (.aload_n 0, 1) := by decide +kernel
theorem dX1_append_1 : decode cX1_append 1 = .ok (.getfield 15, 3) := by decide +kernel
theorem dX1_append_4 : decode cX1_append 4 = .ok (.bipush 60, 2) := by decide +kernel
theorem dX1_append_6 : decode cX1_append 6 = .ok (.if_icmp .lt 6, 3) := by decide +kernel
theorem dX1_append_9 : decode cX1_append 9 = .ok (.bipush (-3), 2) := by decide +kernel
theorem dX1_append_11 : decode cX1_append 11 = .ok (.ireturn, 1) := by decide +kernel
theorem dX1_append_12 : decode cX1_append 12 = .ok (.aload_n 0, 1) := by decide +kernel
theorem dX1_append_13 : decode cX1_append 13 = .ok (.getfield 11, 3) := by decide +kernel
theorem dX1_append_16 : decode cX1_append 16 = .ok (.aload_n 0, 1) := by decide +kernel
theorem dX1_append_17 : decode cX1_append 17 = .ok (.getfield 15, 3) := by decide +kernel
theorem dX1_append_20 : decode cX1_append 20 = .ok (.iload_n 1, 1) := by decide +kernel
theorem dX1_append_21 : decode cX1_append 21 = .ok (.castore, 1) := by decide +kernel
theorem dX1_append_22 : decode cX1_append 22 = .ok (.aload_n 0, 1) := by decide +kernel
theorem dX1_append_23 : decode cX1_append 23 = .ok (.dup, 1) := by decide +kernel
theorem dX1_append_24 : decode cX1_append 24 = .ok (.getfield 15, 3) := by decide +kernel
theorem dX1_append_27 : decode cX1_append 27 = .ok (.iconst 1, 1) := by decide +kernel
theorem dX1_append_28 : decode cX1_append 28 = .ok (.iadd, 1) := by decide +kernel
theorem dX1_append_29 : decode cX1_append 29 = .ok (.putfield 15, 3) := by decide +kernel
theorem dX1_append_32 : decode cX1_append 32 = .ok (.aload_n 0, 1) := by decide +kernel
theorem dX1_append_33 : decode cX1_append 33 = .ok (.getfield 15, 3) := by decide +kernel
theorem dX1_append_36 : decode cX1_append 36 = .ok (.ireturn, 1) := by decide +kernel
theorem dX1_empty_0 : decode cX1_empty 0 = .ok (.aload_n 0, 1) := by decide +kernel
theorem dX1_empty_1 : decode cX1_empty 1 = .ok (.getfield 15, 3) := by decide +kernel
theorem dX1_empty_4 : decode cX1_empty 4 = .ok (.istore_n 1, 1) := by decide +kernel
theorem dX1_empty_5 : decode cX1_empty 5 = .ok (.aload_n 0, 1) := by decide +kernel
theorem dX1_empty_6 : decode cX1_empty 6 = .ok (.iconst 0, 1) := by decide +kernel
theorem dX1_empty_7 : decode cX1_empty 7 = .ok (.putfield 15, 3) := by decide +kernel
theorem dX1_empty_10 : decode cX1_empty 10 = .ok (.iload_n 1, 1) := by decide +kernel
theorem dX1_empty_11 : decode cX1_empty 11 = .ok (.ireturn, 1) := by decide +kernel
theorem dX1_things_0 : decode cX1_things 0 = .ok (.aload_n 0, 1) := by decide +kernel
theorem dX1_things_1 : decode cX1_things 1 = .ok (.getfield 32, 3) := by decide +kernel
theorem dX1_things_4 : decode cX1_things 4 = .ok (.ireturn, 1) := by decide +kernel
theorem dX1_sign_0 : decode cX1_sign 0 = .ok (.aload_n 0, 1) := by decide +kernel
theorem dX1_sign_1 : decode cX1_sign 1 = .ok (.getfield 22, 3) := by decide +kernel
theorem dX1_sign_4 : decode cX1_sign 4 = .ok (.iload_n 1, 1) := by decide +kernel
theorem dX1_sign_5 : decode cX1_sign 5 = .ok (.caload, 1) := by decide +kernel
theorem dX1_sign_6 : decode cX1_sign 6 = .ok (.ireturn, 1) := by decide +kernel
theorem dX1_first_0 : decode cX1_first 0 = .ok (.aload_n 0, 1) := by decide +kernel
theorem dX1_first_1 : decode cX1_first 1 = .ok (.getfield 25, 3) := by decide +kernel
theorem dX1_first_4 : decode cX1_first 4 = .ok (.iload_n 1, 1) := by decide +kernel
theorem dX1_first_5 : decode cX1_first 5 = .ok (.iaload, 1) := by decide +kernel
theorem dX1_first_6 : decode cX1_first 6 = .ok (.ireturn, 1) := by decide +kernel
theorem dX1_second_0 : decode cX1_second 0 = .ok (.aload_n 0, 1) := by decide +kernel
theorem dX1_second_1 : decode cX1_second 1 = .ok (.getfield 29, 3) := by decide +kernel
theorem dX1_second_4 : decode cX1_second 4 = .ok (.iload_n 1, 1) := by decide +kernel
theorem dX1_second_5 : decode cX1_second 5 = .ok (.iaload, 1) := by decide +kernel
theorem dX1_second_6 : decode cX1_second 6 = .ok (.ireturn, 1) := by decide +kernel
theorem dX1_read_0 : decode cX1_read 0 = .ok (.aload_n 0, 1) := by decide +kernel
theorem dX1_read_1 : decode cX1_read 1 = .ok (.iconst 0, 1) := by decide +kernel
theorem dX1_read_2 : decode cX1_read 2 = .ok (.putfield 19, 3) := by decide +kernel
theorem dX1_read_5 : decode cX1_read 5 = .ok (.aload_n 0, 1) := by decide +kernel
theorem dX1_read_6 : decode cX1_read 6 = .ok (.iconst 0, 1) := by decide +kernel
theorem dX1_read_7 : decode cX1_read 7 = .ok (.putfield 32, 3) := by decide +kernel
theorem dX1_read_10 : decode cX1_read 10 = .ok (.aload_n 0, 1) := by decide +kernel
theorem dX1_read_11 : decode cX1_read 11 = .ok (.getfield 32, 3) := by decide +kernel
theorem dX1_read_14 : decode cX1_read 14 = .ok (.bipush 20, 2) := by decide +kernel
theorem dX1_read_16 : decode cX1_read 16 = .ok (.if_icmp .ge 48, 3) := by decide +kernel
theorem dX1_read_19 : decode cX1_read 19 = .ok (.aload_n 0, 1) := by decide +kernel
theorem dX1_read_20 : decode cX1_read 20 = .ok (.invokevirtual 35, 3) := by decide +kernel
theorem dX1_read_23 : decode cX1_read 23 = .ok (.ifCond .eq 41, 3) := by decide +kernel
theorem dX1_read_26 : decode cX1_read 26 = .ok (.aload_n 0, 1) := by decide +kernel
theorem dX1_read_27 : decode cX1_read 27 = .ok (.dup, 1) := by decide +kernel
theorem dX1_read_28 : decode cX1_read 28 = .ok (.getfield 32, 3) := by decide +kernel
theorem dX1_read_31 : decode cX1_read 31 = .ok (.iconst 1, 1) := by decide +kernel
theorem dX1_read_32 : decode cX1_read 32 = .ok (.iadd, 1) := by decide +kernel
theorem dX1_read_33 : decode cX1_read 33 = .ok (.putfield 32, 3) := by decide +kernel
theorem dX1_read_36 : decode cX1_read 36 = .ok (.aload_n 0, 1) := by decide +kernel
theorem dX1_read_37 : decode cX1_read 37 = .ok (.getfield 19, 3) := by decide +kernel
theorem dX1_read_40 : decode cX1_read 40 = .ok (.aload_n 0, 1) := by decide +kernel
theorem dX1_read_41 : decode cX1_read 41 = .ok (.getfield 15, 3) := by decide +kernel
theorem dX1_read_44 : decode cX1_read 44 = .ok (.if_icmp .ne 6, 3) := by decide +kernel
theorem dX1_read_47 : decode cX1_read 47 = .ok (.bipush (-5), 2) := by decide +kernel
theorem dX1_read_49 : decode cX1_read 49 = .ok (.ireturn, 1) := by decide +kernel
theorem dX1_read_50 : decode cX1_read 50 = .ok (.aload_n 0, 1) := by decide +kernel
theorem dX1_read_51 : decode cX1_read 51 = .ok (.bipush 59, 2) := by decide +kernel
theorem dX1_read_53 : decode cX1_read 53 = .ok (.invokevirtual 39, 3) := by decide +kernel
theorem dX1_read_56 : decode cX1_read 56 = .ok (.ifCond .ne (-46), 3) := by decide +kernel
theorem dX1_read_59 : decode cX1_read 59 = .ok (.aload_n 0, 1) := by decide +kernel
theorem dX1_read_60 : decode cX1_read 60 = .ok (.getfield 19, 3) := by decide +kernel
theorem dX1_read_63 : decode cX1_read 63 = .ok (.ireturn, 1) := by decide +kernel
theorem dX1_read_64 : decode cX1_read 64 = .ok (.aload_n 0, 1) := by decide +kernel
theorem dX1_read_65 : decode cX1_read 65 = .ok (.getfield 19, 3) := by decide +kernel
theorem dX1_read_68 : decode cX1_read 68 = .ok (.ireturn, 1) := by decide +kernel
theorem dX1_readThing_0 : decode cX1_readThing 0 = .ok (.aload_n 0, 1) := by decide +kernel
theorem dX1_readThing_1 : decode cX1_readThing 1 = .ok (.getfield 19, 3) := by decide +kernel
theorem dX1_readThing_4 : decode cX1_readThing 4 = .ok (.aload_n 0, 1) := by decide +kernel
theorem dX1_readThing_5 : decode cX1_readThing 5 = .ok (.getfield 15, 3) := by decide +kernel
theorem dX1_readThing_8 : decode cX1_readThing 8 = .ok (.if_icmp .lt 5, 3) := by decide +kernel
theorem dX1_readThing_11 : decode cX1_readThing 11 = .ok (.iconst 0, 1) := by decide +kernel
theorem dX1_readThing_12 : decode cX1_readThing 12 = .ok (.ireturn, 1) := by decide +kernel
theorem dX1_readThing_13 : decode cX1_readThing 13 = .ok (.aload_n 0, 1) := by decide +kernel
theorem dX1_readThing_14 : decode cX1_readThing 14 = .ok (.getfield 11, 3) := by decide +kernel
theorem dX1_readThing_17 : decode cX1_readThing 17 = .ok (.aload_n 0, 1) := by decide +kernel
theorem dX1_readThing_18 : decode cX1_readThing 18 = .ok (.getfield 19, 3) := by decide +kernel
theorem dX1_readThing_21 : decode cX1_readThing 21 = .ok (.caload, 1) := by decide +kernel
theorem dX1_readThing_22 : decode cX1_readThing 22 = .ok (.istore_n 1, 1) := by decide +kernel
theorem dX1_readThing_23 : decode cX1_readThing 23 = .ok (.bipush (-5), 2) := by decide +kernel
theorem dX1_readThing_25 : decode cX1_readThing 25 = .ok (.istore_n 3, 1) := by decide +kernel
theorem dX1_readThing_26 : decode cX1_readThing 26 = .ok (.iload_n 1, 1) := by decide +kernel
theorem dX1_readThing_27 : decode cX1_readThing 27 = .ok (.lookupswitch 149 #[(43, 107), (45, 107), (46, 128), (100, 107), (109, 57), (117, 57)], 57) := by decide +kernel
theorem dX1_readThing_84 : decode cX1_readThing 84 = .ok (.aload_n 0, 1) := by decide +kernel
theorem dX1_readThing_85 : decode cX1_readThing 85 = .ok (.dup, 1) := by decide +kernel
theorem dX1_readThing_86 : decode cX1_readThing 86 = .ok (.getfield 19, 3) := by decide +kernel
theorem dX1_readThing_89 : decode cX1_readThing 89 = .ok (.iconst 1, 1) := by decide +kernel
theorem dX1_readThing_90 : decode cX1_readThing 90 = .ok (.iadd, 1) := by decide +kernel
theorem dX1_readThing_91 : decode cX1_readThing 91 = .ok (.putfield 19, 3) := by decide +kernel
theorem dX1_readThing_94 : decode cX1_readThing 94 = .ok (.aload_n 0, 1) := by decide +kernel
theorem dX1_readThing_95 : decode cX1_readThing 95 = .ok (.iconst 0, 1) := by decide +kernel
theorem dX1_readThing_96 : decode cX1_readThing 96 = .ok (.bipush 19, 2) := by decide +kernel
theorem dX1_readThing_98 : decode cX1_readThing 98 = .ok (.invokevirtual 43, 3) := by decide +kernel
theorem dX1_readThing_101 : decode cX1_readThing 101 = .ok (.istore_n 2, 1) := by decide +kernel
theorem dX1_readThing_102 : decode cX1_readThing 102 = .ok (.iload_n 2, 1) := by decide +kernel
theorem dX1_readThing_103 : decode cX1_readThing 103 = .ok (.bipush (-5), 2) := by decide +kernel
theorem dX1_readThing_105 : decode cX1_readThing 105 = .ok (.if_icmp .eq 12, 3) := by decide +kernel
theorem dX1_readThing_108 : decode cX1_readThing 108 = .ok (.aload_n 0, 1) := by decide +kernel
theorem dX1_readThing_109 : decode cX1_readThing 109 = .ok (.bipush 58, 2) := by decide +kernel
theorem dX1_readThing_111 : decode cX1_readThing 111 = .ok (.invokevirtual 39, 3) := by decide +kernel
theorem dX1_readThing_114 : decode cX1_readThing 114 = .ok (.ifCond .ne 5, 3) := by decide +kernel
theorem dX1_readThing_117 : decode cX1_readThing 117 = .ok (.iconst 0, 1) := by decide +kernel
theorem dX1_readThing_118 : decode cX1_readThing 118 = .ok (.ireturn, 1) := by decide +kernel
theorem dX1_readThing_119 : decode cX1_readThing 119 = .ok (.aload_n 0, 1) := by decide +kernel
theorem dX1_readThing_120 : decode cX1_readThing 120 = .ok (.iconst 0, 1) := by decide +kernel
theorem dX1_readThing_121 : decode cX1_readThing 121 = .ok (.iconst 3, 1) := by decide +kernel
theorem dX1_readThing_122 : decode cX1_readThing 122 = .ok (.invokevirtual 43, 3) := by decide +kernel
theorem dX1_readThing_125 : decode cX1_readThing 125 = .ok (.istore_n 3, 1) := by decide +kernel
theorem dX1_readThing_126 : decode cX1_readThing 126 = .ok (.iload_n 3, 1) := by decide +kernel
theorem dX1_readThing_127 : decode cX1_readThing 127 = .ok (.bipush (-5), 2) := by decide +kernel
theorem dX1_readThing_129 : decode cX1_readThing 129 = .ok (.if_icmp .ne 49, 3) := by decide +kernel
theorem dX1_readThing_132 : decode cX1_readThing 132 = .ok (.iconst 0, 1) := by decide +kernel
theorem dX1_readThing_133 : decode cX1_readThing 133 = .ok (.ireturn, 1) := by decide +kernel
theorem dX1_readThing_134 : decode cX1_readThing 134 = .ok (.aload_n 0, 1) := by decide +kernel
theorem dX1_readThing_135 : decode cX1_readThing 135 = .ok (.dup, 1) := by decide +kernel
theorem dX1_readThing_136 : decode cX1_readThing 136 = .ok (.getfield 19, 3) := by decide +kernel
theorem dX1_readThing_139 : decode cX1_readThing 139 = .ok (.iconst 1, 1) := by decide +kernel
theorem dX1_readThing_140 : decode cX1_readThing 140 = .ok (.iadd, 1) := by decide +kernel
theorem dX1_readThing_141 : decode cX1_readThing 141 = .ok (.putfield 19, 3) := by decide +kernel
theorem dX1_readThing_144 : decode cX1_readThing 144 = .ok (.aload_n 0, 1) := by decide +kernel
theorem dX1_readThing_145 : decode cX1_readThing 145 = .ok (.iconst 0, 1) := by decide +kernel
theorem dX1_readThing_146 : decode cX1_readThing 146 = .ok (.bipush 19, 2) := by decide +kernel
theorem dX1_readThing_148 : decode cX1_readThing 148 = .ok (.invokevirtual 43, 3) := by decide +kernel
theorem dX1_readThing_151 : decode cX1_readThing 151 = .ok (.istore_n 2, 1) := by decide +kernel
theorem dX1_readThing_152 : decode cX1_readThing 152 = .ok (.goto 26, 3) := by decide +kernel
theorem dX1_readThing_155 : decode cX1_readThing 155 = .ok (.aload_n 0, 1) := by decide +kernel
theorem dX1_readThing_156 : decode cX1_readThing 156 = .ok (.dup, 1) := by decide +kernel
theorem dX1_readThing_157 : decode cX1_readThing 157 = .ok (.getfield 19, 3) := by decide +kernel
theorem dX1_readThing_160 : decode cX1_readThing 160 = .ok (.iconst 1, 1) := by decide +kernel
theorem dX1_readThing_161 : decode cX1_readThing 161 = .ok (.iadd, 1) := by decide +kernel
theorem dX1_readThing_162 : decode cX1_readThing 162 = .ok (.putfield 19, 3) := by decide +kernel
theorem dX1_readThing_165 : decode cX1_readThing 165 = .ok (.aload_n 0, 1) := by decide +kernel
theorem dX1_readThing_166 : decode cX1_readThing 166 = .ok (.iconst 1, 1) := by decide +kernel
theorem dX1_readThing_167 : decode cX1_readThing 167 = .ok (.bipush 99, 2) := by decide +kernel
theorem dX1_readThing_169 : decode cX1_readThing 169 = .ok (.invokevirtual 43, 3) := by decide +kernel
theorem dX1_readThing_172 : decode cX1_readThing 172 = .ok (.istore_n 2, 1) := by decide +kernel
theorem dX1_readThing_173 : decode cX1_readThing 173 = .ok (.goto 5, 3) := by decide +kernel
theorem dX1_readThing_176 : decode cX1_readThing 176 = .ok (.iconst 0, 1) := by decide +kernel
theorem dX1_readThing_177 : decode cX1_readThing 177 = .ok (.ireturn, 1) := by decide +kernel
theorem dX1_readThing_178 : decode cX1_readThing 178 = .ok (.aload_n 0, 1) := by decide +kernel
theorem dX1_readThing_179 : decode cX1_readThing 179 = .ok (.getfield 22, 3) := by decide +kernel
theorem dX1_readThing_182 : decode cX1_readThing 182 = .ok (.aload_n 0, 1) := by decide +kernel
theorem dX1_readThing_183 : decode cX1_readThing 183 = .ok (.getfield 32, 3) := by decide +kernel
theorem dX1_readThing_186 : decode cX1_readThing 186 = .ok (.iload_n 1, 1) := by decide +kernel
theorem dX1_readThing_187 : decode cX1_readThing 187 = .ok (.castore, 1) := by decide +kernel
theorem dX1_readThing_188 : decode cX1_readThing 188 = .ok (.aload_n 0, 1) := by decide +kernel
theorem dX1_readThing_189 : decode cX1_readThing 189 = .ok (.getfield 25, 3) := by decide +kernel
theorem dX1_readThing_192 : decode cX1_readThing 192 = .ok (.aload_n 0, 1) := by decide +kernel
theorem dX1_readThing_193 : decode cX1_readThing 193 = .ok (.getfield 32, 3) := by decide +kernel
theorem dX1_readThing_196 : decode cX1_readThing 196 = .ok (.iload_n 2, 1) := by decide +kernel
theorem dX1_readThing_197 : decode cX1_readThing 197 = .ok (.iastore, 1) := by decide +kernel
theorem dX1_readThing_198 : decode cX1_readThing 198 = .ok (.aload_n 0, 1) := by decide +kernel
theorem dX1_readThing_199 : decode cX1_readThing 199 = .ok (.getfield 29, 3) := by decide +kernel
theorem dX1_readThing_202 : decode cX1_readThing 202 = .ok (.aload_n 0, 1) := by decide +kernel
theorem dX1_readThing_203 : decode cX1_readThing 203 = .ok (.getfield 32, 3) := by decide +kernel
theorem dX1_readThing_206 : decode cX1_readThing 206 = .ok (.iload_n 3, 1) := by decide +kernel
theorem dX1_readThing_207 : decode cX1_readThing 207 = .ok (.iastore, 1) := by decide +kernel
theorem dX1_readThing_208 : decode cX1_readThing 208 = .ok (.iload_n 2, 1) := by decide +kernel
theorem dX1_readThing_209 : decode cX1_readThing 209 = .ok (.bipush (-5), 2) := by decide +kernel
theorem dX1_readThing_211 : decode cX1_readThing 211 = .ok (.if_icmp .eq 7, 3) := by decide +kernel
theorem dX1_readThing_214 : decode cX1_readThing 214 = .ok (.iconst 1, 1) := by decide +kernel
theorem dX1_readThing_215 : decode cX1_readThing 215 = .ok (.goto 4, 3) := by decide +kernel
theorem dX1_readThing_218 : decode cX1_readThing 218 = .ok (.iconst 0, 1) := by decide +kernel
theorem dX1_readThing_219 : decode cX1_readThing 219 = .ok (.ireturn, 1) := by decide +kernel
theorem dX1_readCharacter_0 : decode cX1_readCharacter 0 = .ok (.aload_n 0, 1) := by decide +kernel
theorem dX1_readCharacter_1 : decode cX1_readCharacter 1 = .ok (.getfield 19, 3) := by decide +kernel
theorem dX1_readCharacter_4 : decode cX1_readCharacter 4 = .ok (.aload_n 0, 1) := by decide +kernel
theorem dX1_readCharacter_5 : decode cX1_readCharacter 5 = .ok (.getfield 15, 3) := by decide +kernel
theorem dX1_readCharacter_8 : decode cX1_readCharacter 8 = .ok (.if_icmp .ge 16, 3) := by decide +kernel
theorem dX1_readCharacter_11 : decode cX1_readCharacter 11 = .ok (.aload_n 0, 1) := by decide +kernel
theorem dX1_readCharacter_12 : decode cX1_readCharacter 12 = .ok (.getfield 11, 3) := by decide +kernel
theorem dX1_readCharacter_15 : decode cX1_readCharacter 15 = .ok (.aload_n 0, 1) := by decide +kernel
theorem dX1_readCharacter_16 : decode cX1_readCharacter 16 = .ok (.getfield 19, 3) := by decide +kernel
theorem dX1_readCharacter_19 : decode cX1_readCharacter 19 = .ok (.caload, 1) := by decide +kernel
theorem dX1_readCharacter_20 : decode cX1_readCharacter 20 = .ok (.iload_n 1, 1) := by decide +kernel
theorem dX1_readCharacter_21 : decode cX1_readCharacter 21 = .ok (.if_icmp .eq 5, 3) := by decide +kernel
theorem dX1_readCharacter_24 : decode cX1_readCharacter 24 = .ok (.iconst 0, 1) := by decide +kernel
theorem dX1_readCharacter_25 : decode cX1_readCharacter 25 = .ok (.ireturn, 1) := by decide +kernel
theorem dX1_readCharacter_26 : decode cX1_readCharacter 26 = .ok (.aload_n 0, 1) := by decide +kernel
theorem dX1_readCharacter_27 : decode cX1_readCharacter 27 = .ok (.dup, 1) := by decide +kernel
theorem dX1_readCharacter_28 : decode cX1_readCharacter 28 = .ok (.getfield 19, 3) := by decide +kernel
theorem dX1_readCharacter_31 : decode cX1_readCharacter 31 = .ok (.iconst 1, 1) := by decide +kernel
theorem dX1_readCharacter_32 : decode cX1_readCharacter 32 = .ok (.iadd, 1) := by decide +kernel
theorem dX1_readCharacter_33 : decode cX1_readCharacter 33 = .ok (.putfield 19, 3) := by decide +kernel
theorem dX1_readCharacter_36 : decode cX1_readCharacter 36 = .ok (.iconst 1, 1) := by decide +kernel
theorem dX1_readCharacter_37 : decode cX1_readCharacter 37 = .ok (.ireturn, 1) := by decide +kernel
theorem dX1_readNumber_0 : decode cX1_readNumber 0 = .ok (.aload_n 0, 1) := by decide +kernel
theorem dX1_readNumber_1 : decode cX1_readNumber 1 = .ok (.invokevirtual 47, 3) := by decide +kernel
theorem dX1_readNumber_4 : decode cX1_readNumber 4 = .ok (.istore_n 3, 1) := by decide +kernel
theorem dX1_readNumber_5 : decode cX1_readNumber 5 = .ok (.iload_n 3, 1) := by decide +kernel
theorem dX1_readNumber_6 : decode cX1_readNumber 6 = .ok (.iload_n 1, 1) := by decide +kernel
theorem dX1_readNumber_7 : decode cX1_readNumber 7 = .ok (.if_icmp .lt 8, 3) := by decide +kernel
theorem dX1_readNumber_10 : decode cX1_readNumber 10 = .ok (.iload_n 3, 1) := by decide +kernel
theorem dX1_readNumber_11 : decode cX1_readNumber 11 = .ok (.iload_n 2, 1) := by decide +kernel
theorem dX1_readNumber_12 : decode cX1_readNumber 12 = .ok (.if_icmp .le 6, 3) := by decide +kernel
theorem dX1_readNumber_15 : decode cX1_readNumber 15 = .ok (.bipush (-5), 2) := by decide +kernel
theorem dX1_readNumber_17 : decode cX1_readNumber 17 = .ok (.ireturn, 1) := by decide +kernel
theorem dX1_readNumber_18 : decode cX1_readNumber 18 = .ok (.aload_n 0, 1) := by decide +kernel
theorem dX1_readNumber_19 : decode cX1_readNumber 19 = .ok (.dup, 1) := by decide +kernel
theorem dX1_readNumber_20 : decode cX1_readNumber 20 = .ok (.getfield 19, 3) := by decide +kernel
theorem dX1_readNumber_23 : decode cX1_readNumber 23 = .ok (.iconst 1, 1) := by decide +kernel
theorem dX1_readNumber_24 : decode cX1_readNumber 24 = .ok (.iadd, 1) := by decide +kernel
theorem dX1_readNumber_25 : decode cX1_readNumber 25 = .ok (.putfield 19, 3) := by decide +kernel
theorem dX1_readNumber_28 : decode cX1_readNumber 28 = .ok (.aload_n 0, 1) := by decide +kernel
theorem dX1_readNumber_29 : decode cX1_readNumber 29 = .ok (.invokevirtual 47, 3) := by decide +kernel
theorem dX1_readNumber_32 : decode cX1_readNumber 32 = .ok (.istore 4, 2) := by decide +kernel
theorem dX1_readNumber_34 : decode cX1_readNumber 34 = .ok (.iload_n 3, 1) := by decide +kernel
theorem dX1_readNumber_35 : decode cX1_readNumber 35 = .ok (.ifCond .le 39, 3) := by decide +kernel
theorem dX1_readNumber_38 : decode cX1_readNumber 38 = .ok (.iload 4, 2) := by decide +kernel
theorem dX1_readNumber_40 : decode cX1_readNumber 40 = .ok (.bipush (-5), 2) := by decide +kernel
theorem dX1_readNumber_42 : decode cX1_readNumber 42 = .ok (.if_icmp .eq 32, 3) := by decide +kernel
theorem dX1_readNumber_45 : decode cX1_readNumber 45 = .ok (.iload_n 3, 1) := by decide +kernel
theorem dX1_readNumber_46 : decode cX1_readNumber 46 = .ok (.bipush 10, 2) := by decide +kernel
theorem dX1_readNumber_48 : decode cX1_readNumber 48 = .ok (.imul, 1) := by decide +kernel
theorem dX1_readNumber_49 : decode cX1_readNumber 49 = .ok (.iload 4, 2) := by decide +kernel
theorem dX1_readNumber_51 : decode cX1_readNumber 51 = .ok (.iadd, 1) := by decide +kernel
theorem dX1_readNumber_52 : decode cX1_readNumber 52 = .ok (.iload_n 2, 1) := by decide +kernel
theorem dX1_readNumber_53 : decode cX1_readNumber 53 = .ok (.if_icmp .gt 21, 3) := by decide +kernel
theorem dX1_readNumber_56 : decode cX1_readNumber 56 = .ok (.aload_n 0, 1) := by decide +kernel
theorem dX1_readNumber_57 : decode cX1_readNumber 57 = .ok (.dup, 1) := by decide +kernel
theorem dX1_readNumber_58 : decode cX1_readNumber 58 = .ok (.getfield 19, 3) := by decide +kernel
theorem dX1_readNumber_61 : decode cX1_readNumber 61 = .ok (.iconst 1, 1) := by decide +kernel
theorem dX1_readNumber_62 : decode cX1_readNumber 62 = .ok (.iadd, 1) := by decide +kernel
theorem dX1_readNumber_63 : decode cX1_readNumber 63 = .ok (.putfield 19, 3) := by decide +kernel
theorem dX1_readNumber_66 : decode cX1_readNumber 66 = .ok (.iload_n 3, 1) := by decide +kernel
theorem dX1_readNumber_67 : decode cX1_readNumber 67 = .ok (.bipush 10, 2) := by decide +kernel
theorem dX1_readNumber_69 : decode cX1_readNumber 69 = .ok (.imul, 1) := by decide +kernel
theorem dX1_readNumber_70 : decode cX1_readNumber 70 = .ok (.iload 4, 2) := by decide +kernel
theorem dX1_readNumber_72 : decode cX1_readNumber 72 = .ok (.iadd, 1) := by decide +kernel
theorem dX1_readNumber_73 : decode cX1_readNumber 73 = .ok (.istore_n 3, 1) := by decide +kernel
theorem dX1_readNumber_74 : decode cX1_readNumber 74 = .ok (.iload_n 3, 1) := by decide +kernel
theorem dX1_readNumber_75 : decode cX1_readNumber 75 = .ok (.ireturn, 1) := by decide +kernel
theorem dX1_digit_0 : decode cX1_digit 0 = .ok (.aload_n 0, 1) := by decide +kernel
theorem dX1_digit_1 : decode cX1_digit 1 = .ok (.getfield 19, 3) := by decide +kernel
theorem dX1_digit_4 : decode cX1_digit 4 = .ok (.aload_n 0, 1) := by decide +kernel
theorem dX1_digit_5 : decode cX1_digit 5 = .ok (.getfield 15, 3) := by decide +kernel
theorem dX1_digit_8 : decode cX1_digit 8 = .ok (.if_icmp .ge 31, 3) := by decide +kernel
theorem dX1_digit_11 : decode cX1_digit 11 = .ok (.aload_n 0, 1) := by decide +kernel
theorem dX1_digit_12 : decode cX1_digit 12 = .ok (.getfield 11, 3) := by decide +kernel
theorem dX1_digit_15 : decode cX1_digit 15 = .ok (.aload_n 0, 1) := by decide +kernel
theorem dX1_digit_16 : decode cX1_digit 16 = .ok (.getfield 19, 3) := by decide +kernel
theorem dX1_digit_19 : decode cX1_digit 19 = .ok (.caload, 1) := by decide +kernel
theorem dX1_digit_20 : decode cX1_digit 20 = .ok (.bipush 48, 2) := by decide +kernel
theorem dX1_digit_22 : decode cX1_digit 22 = .ok (.if_icmp .lt 17, 3) := by decide +kernel
theorem dX1_digit_25 : decode cX1_digit 25 = .ok (.aload_n 0, 1) := by decide +kernel
theorem dX1_digit_26 : decode cX1_digit 26 = .ok (.getfield 11, 3) := by decide +kernel
theorem dX1_digit_29 : decode cX1_digit 29 = .ok (.aload_n 0, 1) := by decide +kernel
theorem dX1_digit_30 : decode cX1_digit 30 = .ok (.getfield 19, 3) := by decide +kernel
theorem dX1_digit_33 : decode cX1_digit 33 = .ok (.caload, 1) := by decide +kernel
theorem dX1_digit_34 : decode cX1_digit 34 = .ok (.bipush 57, 2) := by decide +kernel
theorem dX1_digit_36 : decode cX1_digit 36 = .ok (.if_icmp .le 6, 3) := by decide +kernel
theorem dX1_digit_39 : decode cX1_digit 39 = .ok (.bipush (-5), 2) := by decide +kernel
theorem dX1_digit_41 : decode cX1_digit 41 = .ok (.ireturn, 1) := by decide +kernel
theorem dX1_digit_42 : decode cX1_digit 42 = .ok (.aload_n 0, 1) := by decide +kernel
theorem dX1_digit_43 : decode cX1_digit 43 = .ok (.getfield 11, 3) := by decide +kernel
theorem dX1_digit_46 : decode cX1_digit 46 = .ok (.aload_n 0, 1) := by decide +kernel
theorem dX1_digit_47 : decode cX1_digit 47 = .ok (.getfield 19, 3) := by decide +kernel
theorem dX1_digit_50 : decode cX1_digit 50 = .ok (.caload, 1) := by decide +kernel
theorem dX1_digit_51 : decode cX1_digit 51 = .ok (.bipush 48, 2) := by decide +kernel
theorem dX1_digit_53 : decode cX1_digit 53 = .ok (.isub, 1) := by decide +kernel
theorem dX1_digit_54 : decode cX1_digit 54 = .ok (.ireturn, 1) := by decide +kernel
theorem dX3_init_0 : decode cX3_init 0 = .ok (.aload_n 0, 1) := by decide +kernel
theorem dX3_init_1 : decode cX3_init 1 = .ok (.invokespecial 1, 3) := by decide +kernel
theorem dX3_init_4 : decode cX3_init 4 = .ok (.aload_n 0, 1) := by decide +kernel
theorem dX3_init_5 : decode cX3_init 5 = .ok (.new 7, 3) := by decide +kernel
theorem dX3_init_8 : decode cX3_init 8 = .ok (.dup, 1) := by decide +kernel
theorem dX3_init_9 : decode cX3_init 9 = .ok (.invokespecial 9, 3) := by decide +kernel
theorem dX3_init_12 : decode cX3_init 12 = .ok (.putfield 10, 3) := by decide +kernel
theorem dX3_init_15 : decode cX3_init 15 = .ok (.aload_n 0, 1) := by decide +kernel
theorem dX3_init_16 : decode cX3_init 16 = .ok (.new 7, 3) := by decide +kernel
theorem dX3_init_19 : decode cX3_init 19 = .ok (.dup, 1) := by decide +kernel
theorem dX3_init_20 : decode cX3_init 20 = .ok (.invokespecial 9, 3) := by decide +kernel
theorem dX3_init_23 : decode cX3_init 23 = .ok (.putfield 16, 3) := by decide +kernel
theorem dX3_init_26 : decode cX3_init 26 = .ok (.aload_n 0, 1) := by decide +kernel
theorem dX3_init_27 : decode cX3_init 27 = .ok (.iconst 0, 1) := by decide +kernel
theorem dX3_init_28 : decode cX3_init 28 = .ok (.putfield 19, 3) := by decide +kernel
theorem dX3_init_31 : decode cX3_init 31 = .ok (.aload_n 0, 1) := by decide +kernel
theorem dX3_init_32 : decode cX3_init 32 = .ok (.new 23, 3) := by decide +kernel
theorem dX3_init_35 : decode cX3_init 35 = .ok (.dup, 1) := by decide +kernel
theorem dX3_init_36 : decode cX3_init 36 = .ok (.invokespecial 25, 3) := by decide +kernel
theorem dX3_init_39 : decode cX3_init 39 = .ok (.putfield 26, 3) := by decide +kernel
theorem dX3_init_42 : decode cX3_init 42 = .ok (.aload_n 0, 1) := by decide +kernel
theorem dX3_init_43 : decode cX3_init 43 = .ok (.new 30, 3) := by decide +kernel
theorem dX3_init_46 : decode cX3_init 46 = .ok (.dup, 1) := by decide +kernel
theorem dX3_init_47 : decode cX3_init 47 = .ok (.invokespecial 32, 3) := by decide +kernel
theorem dX3_init_50 : decode cX3_init 50 = .ok (.putfield 33, 3) := by decide +kernel
theorem dX3_init_53 : decode cX3_init 53 = .ok (.aload_n 0, 1) := by decide +kernel
theorem dX3_init_54 : decode cX3_init 54 = .ok (.bipush (-5), 2) := by decide +kernel
theorem dX3_init_56 : decode cX3_init 56 = .ok (.putfield 37, 3) := by decide +kernel
theorem dX3_init_59 : decode cX3_init 59 = .ok (.aload_n 0, 1) := by decide +kernel
theorem dX3_init_60 : decode cX3_init 60 = .ok (.bipush (-5), 2) := by decide +kernel
theorem dX3_init_62 : decode cX3_init 62 = .ok (.putfield 41, 3) := by decide +kernel
theorem dX3_init_65 : decode cX3_init 65 = .ok (.return_, 1) := by decide +kernel
theorem dX3_come_0 : decode cX3_come 0 = .ok (.aload_n 0, 1) := by decide +kernel
theorem dX3_come_1 : decode cX3_come 1 = .ok (.getfield 26, 3) := by decide +kernel
theorem dX3_come_4 : decode cX3_come 4 = .ok (.aload_n 0, 1) := by decide +kernel
theorem dX3_come_5 : decode cX3_come 5 = .ok (.getfield 10, 3) := by decide +kernel
theorem dX3_come_8 : decode cX3_come 8 = .ok (.invokevirtual 44, 3) := by decide +kernel
theorem dX3_come_11 : decode cX3_come 11 = .ok (.aload_n 0, 1) := by decide +kernel
theorem dX3_come_12 : decode cX3_come 12 = .ok (.getfield 26, 3) := by decide +kernel
theorem dX3_come_15 : decode cX3_come 15 = .ok (.aload_n 0, 1) := by decide +kernel
theorem dX3_come_16 : decode cX3_come 16 = .ok (.getfield 10, 3) := by decide +kernel
theorem dX3_come_19 : decode cX3_come 19 = .ok (.iload_n 1, 1) := by decide +kernel
theorem dX3_come_20 : decode cX3_come 20 = .ok (.iload_n 2, 1) := by decide +kernel
theorem dX3_come_21 : decode cX3_come 21 = .ok (.iload_n 3, 1) := by decide +kernel
theorem dX3_come_22 : decode cX3_come 22 = .ok (.iload 4, 2) := by decide +kernel
theorem dX3_come_24 : decode cX3_come 24 = .ok (.invokevirtual 48, 3) := by decide +kernel
theorem dX3_come_27 : decode cX3_come 27 = .ok (.invokevirtual 52, 3) := by decide +kernel
theorem dX3_come_30 : decode cX3_come 30 = .ok (.ireturn, 1) := by decide +kernel
theorem dX3_goAway_0 : decode cX3_goAway 0 = .ok (.aload_n 0, 1) := by decide +kernel
theorem dX3_goAway_1 : decode cX3_goAway 1 = .ok (.getfield 26, 3) := by decide +kernel
theorem dX3_goAway_4 : decode cX3_goAway 4 = .ok (.aload_n 0, 1) := by decide +kernel
theorem dX3_goAway_5 : decode cX3_goAway 5 = .ok (.getfield 10, 3) := by decide +kernel
theorem dX3_goAway_8 : decode cX3_goAway 8 = .ok (.invokevirtual 44, 3) := by decide +kernel
theorem dX3_goAway_11 : decode cX3_goAway 11 = .ok (.aload_n 0, 1) := by decide +kernel
theorem dX3_goAway_12 : decode cX3_goAway 12 = .ok (.getfield 26, 3) := by decide +kernel
theorem dX3_goAway_15 : decode cX3_goAway 15 = .ok (.aload_n 0, 1) := by decide +kernel
theorem dX3_goAway_16 : decode cX3_goAway 16 = .ok (.getfield 10, 3) := by decide +kernel
theorem dX3_goAway_19 : decode cX3_goAway 19 = .ok (.iload_n 1, 1) := by decide +kernel
theorem dX3_goAway_20 : decode cX3_goAway 20 = .ok (.invokevirtual 56, 3) := by decide +kernel
theorem dX3_goAway_23 : decode cX3_goAway 23 = .ok (.invokevirtual 52, 3) := by decide +kernel
theorem dX3_goAway_26 : decode cX3_goAway 26 = .ok (.ireturn, 1) := by decide +kernel
theorem dX3_setCradles_0 : decode cX3_setCradles 0 = .ok (.aload_n 0, 1) := by decide +kernel
theorem dX3_setCradles_1 : decode cX3_setCradles 1 = .ok (.getfield 26, 3) := by decide +kernel
theorem dX3_setCradles_4 : decode cX3_setCradles 4 = .ok (.aload_n 0, 1) := by decide +kernel
theorem dX3_setCradles_5 : decode cX3_setCradles 5 = .ok (.getfield 10, 3) := by decide +kernel
theorem dX3_setCradles_8 : decode cX3_setCradles 8 = .ok (.invokevirtual 44, 3) := by decide +kernel
theorem dX3_setCradles_11 : decode cX3_setCradles 11 = .ok (.aload_n 0, 1) := by decide +kernel
theorem dX3_setCradles_12 : decode cX3_setCradles 12 = .ok (.getfield 26, 3) := by decide +kernel
theorem dX3_setCradles_15 : decode cX3_setCradles 15 = .ok (.aload_n 0, 1) := by decide +kernel
theorem dX3_setCradles_16 : decode cX3_setCradles 16 = .ok (.getfield 10, 3) := by decide +kernel
theorem dX3_setCradles_19 : decode cX3_setCradles 19 = .ok (.iload_n 1, 1) := by decide +kernel
theorem dX3_setCradles_20 : decode cX3_setCradles 20 = .ok (.iload_n 2, 1) := by decide +kernel
theorem dX3_setCradles_21 : decode cX3_setCradles 21 = .ok (.invokevirtual 59, 3) := by decide +kernel
theorem dX3_setCradles_24 : decode cX3_setCradles 24 = .ok (.invokevirtual 52, 3) := by decide +kernel
theorem dX3_setCradles_27 : decode cX3_setCradles 27 = .ok (.ireturn, 1) := by decide +kernel
theorem dX3_setRow_0 : decode cX3_setRow 0 = .ok (.aload_n 0, 1) := by decide +kernel
theorem dX3_setRow_1 : decode cX3_setRow 1 = .ok (.getfield 26, 3) := by decide +kernel
theorem dX3_setRow_4 : decode cX3_setRow 4 = .ok (.aload_n 0, 1) := by decide +kernel
theorem dX3_setRow_5 : decode cX3_setRow 5 = .ok (.getfield 10, 3) := by decide +kernel
theorem dX3_setRow_8 : decode cX3_setRow 8 = .ok (.invokevirtual 44, 3) := by decide +kernel
theorem dX3_setRow_11 : decode cX3_setRow 11 = .ok (.aload_n 0, 1) := by decide +kernel
theorem dX3_setRow_12 : decode cX3_setRow 12 = .ok (.getfield 26, 3) := by decide +kernel
theorem dX3_setRow_15 : decode cX3_setRow 15 = .ok (.aload_n 0, 1) := by decide +kernel
theorem dX3_setRow_16 : decode cX3_setRow 16 = .ok (.getfield 10, 3) := by decide +kernel
theorem dX3_setRow_19 : decode cX3_setRow 19 = .ok (.iload_n 1, 1) := by decide +kernel
theorem dX3_setRow_20 : decode cX3_setRow 20 = .ok (.iload_n 2, 1) := by decide +kernel
theorem dX3_setRow_21 : decode cX3_setRow 21 = .ok (.invokevirtual 63, 3) := by decide +kernel
theorem dX3_setRow_24 : decode cX3_setRow 24 = .ok (.invokevirtual 52, 3) := by decide +kernel
theorem dX3_setRow_27 : decode cX3_setRow 27 = .ok (.ireturn, 1) := by decide +kernel
theorem dX3_set_0 : decode cX3_set 0 = .ok (.aload_n 0, 1) := by decide +kernel
theorem dX3_set_1 : decode cX3_set 1 = .ok (.getfield 26, 3) := by decide +kernel
theorem dX3_set_4 : decode cX3_set 4 = .ok (.aload_n 0, 1) := by decide +kernel
theorem dX3_set_5 : decode cX3_set 5 = .ok (.getfield 10, 3) := by decide +kernel
theorem dX3_set_8 : decode cX3_set 8 = .ok (.invokevirtual 44, 3) := by decide +kernel
theorem dX3_set_11 : decode cX3_set 11 = .ok (.aload_n 0, 1) := by decide +kernel
theorem dX3_set_12 : decode cX3_set 12 = .ok (.getfield 26, 3) := by decide +kernel
theorem dX3_set_15 : decode cX3_set 15 = .ok (.aload_n 0, 1) := by decide +kernel
theorem dX3_set_16 : decode cX3_set 16 = .ok (.getfield 10, 3) := by decide +kernel
theorem dX3_set_19 : decode cX3_set 19 = .ok (.iload_n 1, 1) := by decide +kernel
theorem dX3_set_20 : decode cX3_set 20 = .ok (.iload_n 2, 1) := by decide +kernel
theorem dX3_set_21 : decode cX3_set 21 = .ok (.invokevirtual 66, 3) := by decide +kernel
theorem dX3_set_24 : decode cX3_set 24 = .ok (.invokevirtual 52, 3) := by decide +kernel
theorem dX3_set_27 : decode cX3_set 27 = .ok (.ireturn, 1) := by decide +kernel
theorem dX3_lift_0 : decode cX3_lift 0 = .ok (.aload_n 0, 1) := by decide +kernel
theorem dX3_lift_1 : decode cX3_lift 1 = .ok (.getfield 26, 3) := by decide +kernel
theorem dX3_lift_4 : decode cX3_lift 4 = .ok (.aload_n 0, 1) := by decide +kernel
theorem dX3_lift_5 : decode cX3_lift 5 = .ok (.getfield 10, 3) := by decide +kernel
theorem dX3_lift_8 : decode cX3_lift 8 = .ok (.invokevirtual 44, 3) := by decide +kernel
theorem dX3_lift_11 : decode cX3_lift 11 = .ok (.aload_n 0, 1) := by decide +kernel
theorem dX3_lift_12 : decode cX3_lift 12 = .ok (.getfield 26, 3) := by decide +kernel
theorem dX3_lift_15 : decode cX3_lift 15 = .ok (.aload_n 0, 1) := by decide +kernel
theorem dX3_lift_16 : decode cX3_lift 16 = .ok (.getfield 10, 3) := by decide +kernel
theorem dX3_lift_19 : decode cX3_lift 19 = .ok (.iload_n 1, 1) := by decide +kernel
theorem dX3_lift_20 : decode cX3_lift 20 = .ok (.iload_n 2, 1) := by decide +kernel
theorem dX3_lift_21 : decode cX3_lift 21 = .ok (.invokevirtual 69, 3) := by decide +kernel
theorem dX3_lift_24 : decode cX3_lift 24 = .ok (.invokevirtual 52, 3) := by decide +kernel
theorem dX3_lift_27 : decode cX3_lift 27 = .ok (.ireturn, 1) := by decide +kernel
theorem dX3_launch_0 : decode cX3_launch 0 = .ok (.aload_n 0, 1) := by decide +kernel
theorem dX3_launch_1 : decode cX3_launch 1 = .ok (.getfield 26, 3) := by decide +kernel
theorem dX3_launch_4 : decode cX3_launch 4 = .ok (.aload_n 0, 1) := by decide +kernel
theorem dX3_launch_5 : decode cX3_launch 5 = .ok (.getfield 10, 3) := by decide +kernel
theorem dX3_launch_8 : decode cX3_launch 8 = .ok (.invokevirtual 44, 3) := by decide +kernel
theorem dX3_launch_11 : decode cX3_launch 11 = .ok (.aload_n 0, 1) := by decide +kernel
theorem dX3_launch_12 : decode cX3_launch 12 = .ok (.getfield 26, 3) := by decide +kernel
theorem dX3_launch_15 : decode cX3_launch 15 = .ok (.aload_n 0, 1) := by decide +kernel
theorem dX3_launch_16 : decode cX3_launch 16 = .ok (.getfield 10, 3) := by decide +kernel
theorem dX3_launch_19 : decode cX3_launch 19 = .ok (.iload_n 1, 1) := by decide +kernel
theorem dX3_launch_20 : decode cX3_launch 20 = .ok (.invokevirtual 72, 3) := by decide +kernel
theorem dX3_launch_23 : decode cX3_launch 23 = .ok (.invokevirtual 52, 3) := by decide +kernel
theorem dX3_launch_26 : decode cX3_launch 26 = .ok (.ireturn, 1) := by decide +kernel
theorem dX3_move_0 : decode cX3_move 0 = .ok (.aload_n 0, 1) := by decide +kernel
theorem dX3_move_1 : decode cX3_move 1 = .ok (.getfield 26, 3) := by decide +kernel
theorem dX3_move_4 : decode cX3_move 4 = .ok (.aload_n 0, 1) := by decide +kernel
theorem dX3_move_5 : decode cX3_move 5 = .ok (.getfield 10, 3) := by decide +kernel
theorem dX3_move_8 : decode cX3_move 8 = .ok (.invokevirtual 44, 3) := by decide +kernel
theorem dX3_move_11 : decode cX3_move 11 = .ok (.aload_n 0, 1) := by decide +kernel
theorem dX3_move_12 : decode cX3_move 12 = .ok (.getfield 26, 3) := by decide +kernel
theorem dX3_move_15 : decode cX3_move 15 = .ok (.aload_n 0, 1) := by decide +kernel
theorem dX3_move_16 : decode cX3_move 16 = .ok (.getfield 10, 3) := by decide +kernel
theorem dX3_move_19 : decode cX3_move 19 = .ok (.iload_n 1, 1) := by decide +kernel
theorem dX3_move_20 : decode cX3_move 20 = .ok (.iload_n 2, 1) := by decide +kernel
theorem dX3_move_21 : decode cX3_move 21 = .ok (.invokevirtual 75, 3) := by decide +kernel
theorem dX3_move_24 : decode cX3_move 24 = .ok (.invokevirtual 52, 3) := by decide +kernel
theorem dX3_move_27 : decode cX3_move 27 = .ok (.ireturn, 1) := by decide +kernel
theorem dX3_mast_0 : decode cX3_mast 0 = .ok (.aload_n 0, 1) := by decide +kernel
theorem dX3_mast_1 : decode cX3_mast 1 = .ok (.getfield 26, 3) := by decide +kernel
theorem dX3_mast_4 : decode cX3_mast 4 = .ok (.aload_n 0, 1) := by decide +kernel
theorem dX3_mast_5 : decode cX3_mast 5 = .ok (.getfield 10, 3) := by decide +kernel
theorem dX3_mast_8 : decode cX3_mast 8 = .ok (.invokevirtual 44, 3) := by decide +kernel
theorem dX3_mast_11 : decode cX3_mast 11 = .ok (.aload_n 0, 1) := by decide +kernel
theorem dX3_mast_12 : decode cX3_mast 12 = .ok (.getfield 26, 3) := by decide +kernel
theorem dX3_mast_15 : decode cX3_mast 15 = .ok (.iload_n 2, 1) := by decide +kernel
theorem dX3_mast_16 : decode cX3_mast 16 = .ok (.ifCond .eq 14, 3) := by decide +kernel
theorem dX3_mast_19 : decode cX3_mast 19 = .ok (.aload_n 0, 1) := by decide +kernel
theorem dX3_mast_20 : decode cX3_mast 20 = .ok (.getfield 10, 3) := by decide +kernel
theorem dX3_mast_23 : decode cX3_mast 23 = .ok (.iload_n 1, 1) := by decide +kernel
theorem dX3_mast_24 : decode cX3_mast 24 = .ok (.invokevirtual 78, 3) := by decide +kernel
theorem dX3_mast_27 : decode cX3_mast 27 = .ok (.goto 11, 3) := by decide +kernel
theorem dX3_mast_30 : decode cX3_mast 30 = .ok (.aload_n 0, 1) := by decide +kernel
theorem dX3_mast_31 : decode cX3_mast 31 = .ok (.getfield 10, 3) := by decide +kernel
theorem dX3_mast_34 : decode cX3_mast 34 = .ok (.iload_n 1, 1) := by decide +kernel
theorem dX3_mast_35 : decode cX3_mast 35 = .ok (.invokevirtual 81, 3) := by decide +kernel
theorem dX3_mast_38 : decode cX3_mast 38 = .ok (.invokevirtual 52, 3) := by decide +kernel
theorem dX3_mast_41 : decode cX3_mast 41 = .ok (.ireturn, 1) := by decide +kernel
theorem dX3_work_0 : decode cX3_work 0 = .ok (.aload_n 0, 1) := by decide +kernel
theorem dX3_work_1 : decode cX3_work 1 = .ok (.getfield 26, 3) := by decide +kernel
theorem dX3_work_4 : decode cX3_work 4 = .ok (.aload_n 0, 1) := by decide +kernel
theorem dX3_work_5 : decode cX3_work 5 = .ok (.getfield 10, 3) := by decide +kernel
theorem dX3_work_8 : decode cX3_work 8 = .ok (.invokevirtual 44, 3) := by decide +kernel
theorem dX3_work_11 : decode cX3_work 11 = .ok (.aload_n 0, 1) := by decide +kernel
theorem dX3_work_12 : decode cX3_work 12 = .ok (.getfield 26, 3) := by decide +kernel
theorem dX3_work_15 : decode cX3_work 15 = .ok (.aload_n 0, 1) := by decide +kernel
theorem dX3_work_16 : decode cX3_work 16 = .ok (.getfield 10, 3) := by decide +kernel
theorem dX3_work_19 : decode cX3_work 19 = .ok (.iload_n 1, 1) := by decide +kernel
theorem dX3_work_20 : decode cX3_work 20 = .ok (.iload_n 2, 1) := by decide +kernel
theorem dX3_work_21 : decode cX3_work 21 = .ok (.invokevirtual 84, 3) := by decide +kernel
theorem dX3_work_24 : decode cX3_work 24 = .ok (.invokevirtual 52, 3) := by decide +kernel
theorem dX3_work_27 : decode cX3_work 27 = .ok (.ireturn, 1) := by decide +kernel
theorem dX3_pass_0 : decode cX3_pass 0 = .ok (.aload_n 0, 1) := by decide +kernel
theorem dX3_pass_1 : decode cX3_pass 1 = .ok (.getfield 26, 3) := by decide +kernel
theorem dX3_pass_4 : decode cX3_pass 4 = .ok (.aload_n 0, 1) := by decide +kernel
theorem dX3_pass_5 : decode cX3_pass 5 = .ok (.getfield 10, 3) := by decide +kernel
theorem dX3_pass_8 : decode cX3_pass 8 = .ok (.invokevirtual 44, 3) := by decide +kernel
theorem dX3_pass_11 : decode cX3_pass 11 = .ok (.aload_n 0, 1) := by decide +kernel
theorem dX3_pass_12 : decode cX3_pass 12 = .ok (.getfield 26, 3) := by decide +kernel
theorem dX3_pass_15 : decode cX3_pass 15 = .ok (.aload_n 0, 1) := by decide +kernel
theorem dX3_pass_16 : decode cX3_pass 16 = .ok (.getfield 10, 3) := by decide +kernel
theorem dX3_pass_19 : decode cX3_pass 19 = .ok (.iload_n 1, 1) := by decide +kernel
theorem dX3_pass_20 : decode cX3_pass 20 = .ok (.invokevirtual 87, 3) := by decide +kernel
theorem dX3_pass_23 : decode cX3_pass 23 = .ok (.invokevirtual 52, 3) := by decide +kernel
theorem dX3_pass_26 : decode cX3_pass 26 = .ok (.ireturn, 1) := by decide +kernel
theorem dX3_type_0 : decode cX3_type 0 = .ok (.aload_n 0, 1) := by decide +kernel
theorem dX3_type_1 : decode cX3_type 1 = .ok (.getfield 33, 3) := by decide +kernel
theorem dX3_type_4 : decode cX3_type 4 = .ok (.iload_n 1, 1) := by decide +kernel
theorem dX3_type_5 : decode cX3_type 5 = .ok (.invokevirtual 90, 3) := by decide +kernel
theorem dX3_type_8 : decode cX3_type 8 = .ok (.ireturn, 1) := by decide +kernel
theorem dX3_clearText_0 : decode cX3_clearText 0 = .ok (.aload_n 0, 1) := by decide +kernel
theorem dX3_clearText_1 : decode cX3_clearText 1 = .ok (.getfield 33, 3) := by decide +kernel
theorem dX3_clearText_4 : decode cX3_clearText 4 = .ok (.invokevirtual 94, 3) := by decide +kernel
theorem dX3_clearText_7 : decode cX3_clearText 7 = .ok (.ireturn, 1) := by decide +kernel
theorem dX3_perform_0 : decode cX3_perform 0 = .ok (.aload_n 0, 1) := by decide +kernel
theorem dX3_perform_1 : decode cX3_perform 1 = .ok (.getfield 33, 3) := by decide +kernel
theorem dX3_perform_4 : decode cX3_perform 4 = .ok (.invokevirtual 98, 3) := by decide +kernel
theorem dX3_perform_7 : decode cX3_perform 7 = .ok (.istore_n 1, 1) := by decide +kernel
theorem dX3_perform_8 : decode cX3_perform 8 = .ok (.iload_n 1, 1) := by decide +kernel
theorem dX3_perform_9 : decode cX3_perform 9 = .ok (.bipush (-5), 2) := by decide +kernel
theorem dX3_perform_11 : decode cX3_perform 11 = .ok (.if_icmp .eq 8, 3) := by decide +kernel
theorem dX3_perform_14 : decode cX3_perform 14 = .ok (.bipush (-100), 2) := by decide +kernel
theorem dX3_perform_16 : decode cX3_perform 16 = .ok (.iload_n 1, 1) := by decide +kernel
theorem dX3_perform_17 : decode cX3_perform 17 = .ok (.isub, 1) := by decide +kernel
theorem dX3_perform_18 : decode cX3_perform 18 = .ok (.ireturn, 1) := by decide +kernel
theorem dX3_perform_19 : decode cX3_perform 19 = .ok (.aload_n 0, 1) := by decide +kernel
theorem dX3_perform_20 : decode cX3_perform 20 = .ok (.getfield 26, 3) := by decide +kernel
theorem dX3_perform_23 : decode cX3_perform 23 = .ok (.aload_n 0, 1) := by decide +kernel
theorem dX3_perform_24 : decode cX3_perform 24 = .ok (.getfield 10, 3) := by decide +kernel
theorem dX3_perform_27 : decode cX3_perform 27 = .ok (.invokevirtual 44, 3) := by decide +kernel
theorem dX3_perform_30 : decode cX3_perform 30 = .ok (.aload_n 0, 1) := by decide +kernel
theorem dX3_perform_31 : decode cX3_perform 31 = .ok (.getfield 33, 3) := by decide +kernel
theorem dX3_perform_34 : decode cX3_perform 34 = .ok (.invokevirtual 101, 3) := by decide +kernel
theorem dX3_perform_37 : decode cX3_perform 37 = .ok (.istore_n 2, 1) := by decide +kernel
theorem dX3_perform_38 : decode cX3_perform 38 = .ok (.iconst 0, 1) := by decide +kernel
theorem dX3_perform_39 : decode cX3_perform 39 = .ok (.istore_n 3, 1) := by decide +kernel
theorem dX3_perform_40 : decode cX3_perform 40 = .ok (.iload_n 3, 1) := by decide +kernel
theorem dX3_perform_41 : decode cX3_perform 41 = .ok (.iload_n 2, 1) := by decide +kernel
theorem dX3_perform_42 : decode cX3_perform 42 = .ok (.if_icmp .ge 76, 3) := by decide +kernel
theorem dX3_perform_45 : decode cX3_perform 45 = .ok (.aload_n 0, 1) := by decide +kernel
theorem dX3_perform_46 : decode cX3_perform 46 = .ok (.aload_n 0, 1) := by decide +kernel
theorem dX3_perform_47 : decode cX3_perform 47 = .ok (.getfield 33, 3) := by decide +kernel
theorem dX3_perform_50 : decode cX3_perform 50 = .ok (.iload_n 3, 1) := by decide +kernel
theorem dX3_perform_51 : decode cX3_perform 51 = .ok (.invokevirtual 104, 3) := by decide +kernel
theorem dX3_perform_54 : decode cX3_perform 54 = .ok (.aload_n 0, 1) := by decide +kernel
theorem dX3_perform_55 : decode cX3_perform 55 = .ok (.getfield 33, 3) := by decide +kernel
theorem dX3_perform_58 : decode cX3_perform 58 = .ok (.iload_n 3, 1) := by decide +kernel
theorem dX3_perform_59 : decode cX3_perform 59 = .ok (.invokevirtual 108, 3) := by decide +kernel
theorem dX3_perform_62 : decode cX3_perform 62 = .ok (.aload_n 0, 1) := by decide +kernel
theorem dX3_perform_63 : decode cX3_perform 63 = .ok (.getfield 33, 3) := by decide +kernel
theorem dX3_perform_66 : decode cX3_perform 66 = .ok (.iload_n 3, 1) := by decide +kernel
theorem dX3_perform_67 : decode cX3_perform 67 = .ok (.invokevirtual 111, 3) := by decide +kernel
theorem dX3_perform_70 : decode cX3_perform 70 = .ok (.invokevirtual 114, 3) := by decide +kernel
theorem dX3_perform_73 : decode cX3_perform 73 = .ok (.istore 4, 2) := by decide +kernel
theorem dX3_perform_75 : decode cX3_perform 75 = .ok (.iload 4, 2) := by decide +kernel
theorem dX3_perform_77 : decode cX3_perform 77 = .ok (.ifCond .ge 35, 3) := by decide +kernel
theorem dX3_perform_80 : decode cX3_perform 80 = .ok (.iload 4, 2) := by decide +kernel
theorem dX3_perform_82 : decode cX3_perform 82 = .ok (.bipush (-5), 2) := by decide +kernel
theorem dX3_perform_84 : decode cX3_perform 84 = .ok (.if_icmp .eq 28, 3) := by decide +kernel
theorem dX3_perform_87 : decode cX3_perform 87 = .ok (.aload_n 0, 1) := by decide +kernel
theorem dX3_perform_88 : decode cX3_perform 88 = .ok (.iload_n 3, 1) := by decide +kernel
theorem dX3_perform_89 : decode cX3_perform 89 = .ok (.putfield 37, 3) := by decide +kernel
theorem dX3_perform_92 : decode cX3_perform 92 = .ok (.aload_n 0, 1) := by decide +kernel
theorem dX3_perform_93 : decode cX3_perform 93 = .ok (.iload 4, 2) := by decide +kernel
theorem dX3_perform_95 : decode cX3_perform 95 = .ok (.putfield 41, 3) := by decide +kernel
theorem dX3_perform_98 : decode cX3_perform 98 = .ok (.aload_n 0, 1) := by decide +kernel
theorem dX3_perform_99 : decode cX3_perform 99 = .ok (.getfield 26, 3) := by decide +kernel
theorem dX3_perform_102 : decode cX3_perform 102 = .ok (.aload_n 0, 1) := by decide +kernel
theorem dX3_perform_103 : decode cX3_perform 103 = .ok (.getfield 10, 3) := by decide +kernel
theorem dX3_perform_106 : decode cX3_perform 106 = .ok (.invokevirtual 118, 3) := by decide +kernel
theorem dX3_perform_109 : decode cX3_perform 109 = .ok (.bipush (-4), 2) := by decide +kernel
theorem dX3_perform_111 : decode cX3_perform 111 = .ok (.ireturn, 1) := by decide +kernel
theorem dX3_perform_112 : decode cX3_perform 112 = .ok (.iinc 3 1, 3) := by decide +kernel
theorem dX3_perform_115 : decode cX3_perform 115 = .ok (.goto (-75), 3) := by decide +kernel
theorem dX3_perform_118 : decode cX3_perform 118 = .ok (.aload_n 0, 1) := by decide +kernel
theorem dX3_perform_119 : decode cX3_perform 119 = .ok (.getfield 26, 3) := by decide +kernel
theorem dX3_perform_122 : decode cX3_perform 122 = .ok (.iload_n 2, 1) := by decide +kernel
theorem dX3_perform_123 : decode cX3_perform 123 = .ok (.invokevirtual 52, 3) := by decide +kernel
theorem dX3_perform_126 : decode cX3_perform 126 = .ok (.ireturn, 1) := by decide +kernel
theorem dX3_doThing_0 : decode cX3_doThing 0 = .ok (.iload_n 1, 1) := by decide +kernel
theorem dX3_doThing_1 : decode cX3_doThing 1 = .ok (.lookupswitch 98 #[(43, 89), (45, 80), (100, 61), (109, 70), (117, 51)], 51) := by decide +kernel
theorem dX3_doThing_52 : decode cX3_doThing 52 = .ok (.aload_n 0, 1) := by decide +kernel
theorem dX3_doThing_53 : decode cX3_doThing 53 = .ok (.getfield 10, 3) := by decide +kernel
theorem dX3_doThing_56 : decode cX3_doThing 56 = .ok (.iload_n 2, 1) := by decide +kernel
theorem dX3_doThing_57 : decode cX3_doThing 57 = .ok (.iload_n 3, 1) := by decide +kernel
theorem dX3_doThing_58 : decode cX3_doThing 58 = .ok (.invokevirtual 69, 3) := by decide +kernel
theorem dX3_doThing_61 : decode cX3_doThing 61 = .ok (.ireturn, 1) := by decide +kernel
theorem dX3_doThing_62 : decode cX3_doThing 62 = .ok (.aload_n 0, 1) := by decide +kernel
theorem dX3_doThing_63 : decode cX3_doThing 63 = .ok (.getfield 10, 3) := by decide +kernel
theorem dX3_doThing_66 : decode cX3_doThing 66 = .ok (.iload_n 2, 1) := by decide +kernel
theorem dX3_doThing_67 : decode cX3_doThing 67 = .ok (.invokevirtual 72, 3) := by decide +kernel
theorem dX3_doThing_70 : decode cX3_doThing 70 = .ok (.ireturn, 1) := by decide +kernel
theorem dX3_doThing_71 : decode cX3_doThing 71 = .ok (.aload_n 0, 1) := by decide +kernel
theorem dX3_doThing_72 : decode cX3_doThing 72 = .ok (.getfield 10, 3) := by decide +kernel
theorem dX3_doThing_75 : decode cX3_doThing 75 = .ok (.iload_n 2, 1) := by decide +kernel
theorem dX3_doThing_76 : decode cX3_doThing 76 = .ok (.iload_n 3, 1) := by decide +kernel
theorem dX3_doThing_77 : decode cX3_doThing 77 = .ok (.invokevirtual 75, 3) := by decide +kernel
theorem dX3_doThing_80 : decode cX3_doThing 80 = .ok (.ireturn, 1) := by decide +kernel
theorem dX3_doThing_81 : decode cX3_doThing 81 = .ok (.aload_n 0, 1) := by decide +kernel
theorem dX3_doThing_82 : decode cX3_doThing 82 = .ok (.getfield 10, 3) := by decide +kernel
theorem dX3_doThing_85 : decode cX3_doThing 85 = .ok (.iload_n 2, 1) := by decide +kernel
theorem dX3_doThing_86 : decode cX3_doThing 86 = .ok (.invokevirtual 81, 3) := by decide +kernel
theorem dX3_doThing_89 : decode cX3_doThing 89 = .ok (.ireturn, 1) := by decide +kernel
theorem dX3_doThing_90 : decode cX3_doThing 90 = .ok (.aload_n 0, 1) := by decide +kernel
theorem dX3_doThing_91 : decode cX3_doThing 91 = .ok (.getfield 10, 3) := by decide +kernel
theorem dX3_doThing_94 : decode cX3_doThing 94 = .ok (.iload_n 2, 1) := by decide +kernel
theorem dX3_doThing_95 : decode cX3_doThing 95 = .ok (.invokevirtual 78, 3) := by decide +kernel
theorem dX3_doThing_98 : decode cX3_doThing 98 = .ok (.ireturn, 1) := by decide +kernel
theorem dX3_doThing_99 : decode cX3_doThing 99 = .ok (.aload_n 0, 1) := by decide +kernel
theorem dX3_doThing_100 : decode cX3_doThing 100 = .ok (.getfield 10, 3) := by decide +kernel
theorem dX3_doThing_103 : decode cX3_doThing 103 = .ok (.iload_n 2, 1) := by decide +kernel
theorem dX3_doThing_104 : decode cX3_doThing 104 = .ok (.invokevirtual 87, 3) := by decide +kernel
theorem dX3_doThing_107 : decode cX3_doThing 107 = .ok (.ireturn, 1) := by decide +kernel
theorem dX3_stopped_0 : decode cX3_stopped 0 = .ok (.iload_n 1, 1) := by decide +kernel
theorem dX3_stopped_1 : decode cX3_stopped 1 = .ok (.ifCond .ne 8, 3) := by decide +kernel
theorem dX3_stopped_4 : decode cX3_stopped 4 = .ok (.aload_n 0, 1) := by decide +kernel
theorem dX3_stopped_5 : decode cX3_stopped 5 = .ok (.getfield 37, 3) := by decide +kernel
theorem dX3_stopped_8 : decode cX3_stopped 8 = .ok (.ireturn, 1) := by decide +kernel
theorem dX3_stopped_9 : decode cX3_stopped 9 = .ok (.iload_n 1, 1) := by decide +kernel
theorem dX3_stopped_10 : decode cX3_stopped 10 = .ok (.iconst 1, 1) := by decide +kernel
theorem dX3_stopped_11 : decode cX3_stopped 11 = .ok (.if_icmp .ne 8, 3) := by decide +kernel
theorem dX3_stopped_14 : decode cX3_stopped 14 = .ok (.aload_n 0, 1) := by decide +kernel
theorem dX3_stopped_15 : decode cX3_stopped 15 = .ok (.getfield 41, 3) := by decide +kernel
theorem dX3_stopped_18 : decode cX3_stopped 18 = .ok (.ireturn, 1) := by decide +kernel
theorem dX3_stopped_19 : decode cX3_stopped 19 = .ok (.bipush (-2), 2) := by decide +kernel
theorem dX3_stopped_21 : decode cX3_stopped 21 = .ok (.ireturn, 1) := by decide +kernel
theorem dX3_undo_0 : decode cX3_undo 0 = .ok (.aload_n 0, 1) := by decide +kernel
theorem dX3_undo_1 : decode cX3_undo 1 = .ok (.getfield 26, 3) := by decide +kernel
theorem dX3_undo_4 : decode cX3_undo 4 = .ok (.aload_n 0, 1) := by decide +kernel
theorem dX3_undo_5 : decode cX3_undo 5 = .ok (.getfield 10, 3) := by decide +kernel
theorem dX3_undo_8 : decode cX3_undo 8 = .ok (.invokevirtual 121, 3) := by decide +kernel
theorem dX3_undo_11 : decode cX3_undo 11 = .ok (.ireturn, 1) := by decide +kernel
theorem dX3_keep_0 : decode cX3_keep 0 = .ok (.aload_n 0, 1) := by decide +kernel
theorem dX3_keep_1 : decode cX3_keep 1 = .ok (.getfield 16, 3) := by decide +kernel
theorem dX3_keep_4 : decode cX3_keep 4 = .ok (.aload_n 0, 1) := by decide +kernel
theorem dX3_keep_5 : decode cX3_keep 5 = .ok (.getfield 10, 3) := by decide +kernel
theorem dX3_keep_8 : decode cX3_keep 8 = .ok (.invokevirtual 125, 3) := by decide +kernel
theorem dX3_keep_11 : decode cX3_keep 11 = .ok (.aload_n 0, 1) := by decide +kernel
theorem dX3_keep_12 : decode cX3_keep 12 = .ok (.iconst 1, 1) := by decide +kernel
theorem dX3_keep_13 : decode cX3_keep 13 = .ok (.putfield 19, 3) := by decide +kernel
theorem dX3_keep_16 : decode cX3_keep 16 = .ok (.aload_n 0, 1) := by decide +kernel
theorem dX3_keep_17 : decode cX3_keep 17 = .ok (.getfield 10, 3) := by decide +kernel
theorem dX3_keep_20 : decode cX3_keep 20 = .ok (.invokevirtual 128, 3) := by decide +kernel
theorem dX3_keep_23 : decode cX3_keep 23 = .ok (.ireturn, 1) := by decide +kernel
theorem dX3_restore_0 : decode cX3_restore 0 = .ok (.aload_n 0, 1) := by decide +kernel
theorem dX3_restore_1 : decode cX3_restore 1 = .ok (.getfield 19, 3) := by decide +kernel
theorem dX3_restore_4 : decode cX3_restore 4 = .ok (.ifCond .ne 6, 3) := by decide +kernel
theorem dX3_restore_7 : decode cX3_restore 7 = .ok (.bipush (-5), 2) := by decide +kernel
theorem dX3_restore_9 : decode cX3_restore 9 = .ok (.ireturn, 1) := by decide +kernel
theorem dX3_restore_10 : decode cX3_restore 10 = .ok (.aload_n 0, 1) := by decide +kernel
theorem dX3_restore_11 : decode cX3_restore 11 = .ok (.getfield 26, 3) := by decide +kernel
theorem dX3_restore_14 : decode cX3_restore 14 = .ok (.aload_n 0, 1) := by decide +kernel
theorem dX3_restore_15 : decode cX3_restore 15 = .ok (.getfield 10, 3) := by decide +kernel
theorem dX3_restore_18 : decode cX3_restore 18 = .ok (.invokevirtual 44, 3) := by decide +kernel
theorem dX3_restore_21 : decode cX3_restore 21 = .ok (.aload_n 0, 1) := by decide +kernel
theorem dX3_restore_22 : decode cX3_restore 22 = .ok (.getfield 10, 3) := by decide +kernel
theorem dX3_restore_25 : decode cX3_restore 25 = .ok (.aload_n 0, 1) := by decide +kernel
theorem dX3_restore_26 : decode cX3_restore 26 = .ok (.getfield 16, 3) := by decide +kernel
theorem dX3_restore_29 : decode cX3_restore 29 = .ok (.invokevirtual 125, 3) := by decide +kernel
theorem dX3_restore_32 : decode cX3_restore 32 = .ok (.aload_n 0, 1) := by decide +kernel
theorem dX3_restore_33 : decode cX3_restore 33 = .ok (.getfield 26, 3) := by decide +kernel
theorem dX3_restore_36 : decode cX3_restore 36 = .ok (.aload_n 0, 1) := by decide +kernel
theorem dX3_restore_37 : decode cX3_restore 37 = .ok (.getfield 10, 3) := by decide +kernel
theorem dX3_restore_40 : decode cX3_restore 40 = .ok (.invokevirtual 128, 3) := by decide +kernel
theorem dX3_restore_43 : decode cX3_restore 43 = .ok (.invokevirtual 52, 3) := by decide +kernel
theorem dX3_restore_46 : decode cX3_restore 46 = .ok (.ireturn, 1) := by decide +kernel
theorem dX3_boat_0 : decode cX3_boat 0 = .ok (.aload_n 0, 1) := by decide +kernel
theorem dX3_boat_1 : decode cX3_boat 1 = .ok (.getfield 10, 3) := by decide +kernel
theorem dX3_boat_4 : decode cX3_boat 4 = .ok (.iload_n 1, 1) := by decide +kernel
theorem dX3_boat_5 : decode cX3_boat 5 = .ok (.invokevirtual 131, 3) := by decide +kernel
theorem dX3_boat_8 : decode cX3_boat 8 = .ok (.ifCond .ne 5, 3) := by decide +kernel
theorem dX3_boat_11 : decode cX3_boat 11 = .ok (.iconst (-1), 1) := by decide +kernel
theorem dX3_boat_12 : decode cX3_boat 12 = .ok (.ireturn, 1) := by decide +kernel
theorem dX3_boat_13 : decode cX3_boat 13 = .ok (.iload_n 2, 1) := by decide +kernel
theorem dX3_boat_14 : decode cX3_boat 14 = .ok (.invokestatic 135, 3) := by decide +kernel
theorem dX3_boat_17 : decode cX3_boat 17 = .ok (.ifCond .eq 15, 3) := by decide +kernel
theorem dX3_boat_20 : decode cX3_boat 20 = .ok (.aload_n 0, 1) := by decide +kernel
theorem dX3_boat_21 : decode cX3_boat 21 = .ok (.getfield 10, 3) := by decide +kernel
theorem dX3_boat_24 : decode cX3_boat 24 = .ok (.iload_n 1, 1) := by decide +kernel
theorem dX3_boat_25 : decode cX3_boat 25 = .ok (.iload_n 2, 1) := by decide +kernel
theorem dX3_boat_26 : decode cX3_boat 26 = .ok (.invokevirtual 138, 3) := by decide +kernel
theorem dX3_boat_29 : decode cX3_boat 29 = .ok (.goto 5, 3) := by decide +kernel
theorem dX3_boat_32 : decode cX3_boat 32 = .ok (.bipush (-2), 2) := by decide +kernel
theorem dX3_boat_34 : decode cX3_boat 34 = .ok (.ireturn, 1) := by decide +kernel
theorem dX3_row_0 : decode cX3_row 0 = .ok (.iload_n 1, 1) := by decide +kernel
theorem dX3_row_1 : decode cX3_row 1 = .ok (.invokestatic 141, 3) := by decide +kernel
theorem dX3_row_4 : decode cX3_row 4 = .ok (.ifCond .ne 5, 3) := by decide +kernel
theorem dX3_row_7 : decode cX3_row 7 = .ok (.iconst (-1), 1) := by decide +kernel
theorem dX3_row_8 : decode cX3_row 8 = .ok (.ireturn, 1) := by decide +kernel
theorem dX3_row_9 : decode cX3_row 9 = .ok (.iload_n 2, 1) := by decide +kernel
theorem dX3_row_10 : decode cX3_row 10 = .ok (.tableswitch 76 0 3 #[30, 39, 48, 57], 30) := by decide +kernel
theorem dX3_row_40 : decode cX3_row 40 = .ok (.aload_n 0, 1) := by decide +kernel
theorem dX3_row_41 : decode cX3_row 41 = .ok (.getfield 10, 3) := by decide +kernel
theorem dX3_row_44 : decode cX3_row 44 = .ok (.iload_n 1, 1) := by decide +kernel
theorem dX3_row_45 : decode cX3_row 45 = .ok (.invokevirtual 144, 3) := by decide +kernel
theorem dX3_row_48 : decode cX3_row 48 = .ok (.ireturn, 1) := by decide +kernel
theorem dX3_row_49 : decode cX3_row 49 = .ok (.aload_n 0, 1) := by decide +kernel
theorem dX3_row_50 : decode cX3_row 50 = .ok (.getfield 10, 3) := by decide +kernel
theorem dX3_row_53 : decode cX3_row 53 = .ok (.iload_n 1, 1) := by decide +kernel
theorem dX3_row_54 : decode cX3_row 54 = .ok (.invokevirtual 147, 3) := by decide +kernel
theorem dX3_row_57 : decode cX3_row 57 = .ok (.ireturn, 1) := by decide +kernel
theorem dX3_row_58 : decode cX3_row 58 = .ok (.aload_n 0, 1) := by decide +kernel
theorem dX3_row_59 : decode cX3_row 59 = .ok (.getfield 10, 3) := by decide +kernel
theorem dX3_row_62 : decode cX3_row 62 = .ok (.iload_n 1, 1) := by decide +kernel
theorem dX3_row_63 : decode cX3_row 63 = .ok (.invokevirtual 150, 3) := by decide +kernel
theorem dX3_row_66 : decode cX3_row 66 = .ok (.ireturn, 1) := by decide +kernel
theorem dX3_row_67 : decode cX3_row 67 = .ok (.aload_n 0, 1) := by decide +kernel
theorem dX3_row_68 : decode cX3_row 68 = .ok (.getfield 10, 3) := by decide +kernel
theorem dX3_row_71 : decode cX3_row 71 = .ok (.iload_n 1, 1) := by decide +kernel
theorem dX3_row_72 : decode cX3_row 72 = .ok (.aload_n 0, 1) := by decide +kernel
theorem dX3_row_73 : decode cX3_row 73 = .ok (.getfield 10, 3) := by decide +kernel
theorem dX3_row_76 : decode cX3_row 76 = .ok (.iload_n 1, 1) := by decide +kernel
theorem dX3_row_77 : decode cX3_row 77 = .ok (.invokevirtual 150, 3) := by decide +kernel
theorem dX3_row_80 : decode cX3_row 80 = .ok (.iconst 1, 1) := by decide +kernel
theorem dX3_row_81 : decode cX3_row 81 = .ok (.isub, 1) := by decide +kernel
theorem dX3_row_82 : decode cX3_row 82 = .ok (.invokevirtual 153, 3) := by decide +kernel
theorem dX3_row_85 : decode cX3_row 85 = .ok (.ireturn, 1) := by decide +kernel
theorem dX3_row_86 : decode cX3_row 86 = .ok (.bipush (-2), 2) := by decide +kernel
theorem dX3_row_88 : decode cX3_row 88 = .ok (.ireturn, 1) := by decide +kernel
theorem dX3_stands_0 : decode cX3_stands 0 = .ok (.iload_n 1, 1) := by decide +kernel
theorem dX3_stands_1 : decode cX3_stands 1 = .ok (.invokestatic 141, 3) := by decide +kernel
theorem dX3_stands_4 : decode cX3_stands 4 = .ok (.ifCond .ne 5, 3) := by decide +kernel
theorem dX3_stands_7 : decode cX3_stands 7 = .ok (.iconst (-1), 1) := by decide +kernel
theorem dX3_stands_8 : decode cX3_stands 8 = .ok (.ireturn, 1) := by decide +kernel
theorem dX3_stands_9 : decode cX3_stands 9 = .ok (.iload_n 2, 1) := by decide +kernel
theorem dX3_stands_10 : decode cX3_stands 10 = .ok (.ifCond .ge 8, 3) := by decide +kernel
theorem dX3_stands_13 : decode cX3_stands 13 = .ok (.bipush (-2), 2) := by decide +kernel
theorem dX3_stands_15 : decode cX3_stands 15 = .ok (.goto 12, 3) := by decide +kernel
theorem dX3_stands_18 : decode cX3_stands 18 = .ok (.aload_n 0, 1) := by decide +kernel
theorem dX3_stands_19 : decode cX3_stands 19 = .ok (.getfield 10, 3) := by decide +kernel
theorem dX3_stands_22 : decode cX3_stands 22 = .ok (.iload_n 1, 1) := by decide +kernel
theorem dX3_stands_23 : decode cX3_stands 23 = .ok (.iload_n 2, 1) := by decide +kernel
theorem dX3_stands_24 : decode cX3_stands 24 = .ok (.invokevirtual 153, 3) := by decide +kernel
theorem dX3_stands_27 : decode cX3_stands 27 = .ok (.ireturn, 1) := by decide +kernel
theorem dX3_cradle_0 : decode cX3_cradle 0 = .ok (.iload_n 1, 1) := by decide +kernel
theorem dX3_cradle_1 : decode cX3_cradle 1 = .ok (.invokestatic 156, 3) := by decide +kernel
theorem dX3_cradle_4 : decode cX3_cradle 4 = .ok (.ifCond .ne 5, 3) := by decide +kernel
theorem dX3_cradle_7 : decode cX3_cradle 7 = .ok (.iconst (-1), 1) := by decide +kernel
theorem dX3_cradle_8 : decode cX3_cradle 8 = .ok (.ireturn, 1) := by decide +kernel
theorem dX3_cradle_9 : decode cX3_cradle 9 = .ok (.iload_n 2, 1) := by decide +kernel
theorem dX3_cradle_10 : decode cX3_cradle 10 = .ok (.tableswitch 49 0 2 #[26, 35, 44], 26) := by decide +kernel
theorem dX3_cradle_36 : decode cX3_cradle 36 = .ok (.aload_n 0, 1) := by decide +kernel
theorem dX3_cradle_37 : decode cX3_cradle 37 = .ok (.getfield 10, 3) := by decide +kernel
theorem dX3_cradle_40 : decode cX3_cradle 40 = .ok (.iload_n 1, 1) := by decide +kernel
theorem dX3_cradle_41 : decode cX3_cradle 41 = .ok (.invokevirtual 159, 3) := by decide +kernel
theorem dX3_cradle_44 : decode cX3_cradle 44 = .ok (.ireturn, 1) := by decide +kernel
theorem dX3_cradle_45 : decode cX3_cradle 45 = .ok (.aload_n 0, 1) := by decide +kernel
theorem dX3_cradle_46 : decode cX3_cradle 46 = .ok (.getfield 10, 3) := by decide +kernel
theorem dX3_cradle_49 : decode cX3_cradle 49 = .ok (.iload_n 1, 1) := by decide +kernel
theorem dX3_cradle_50 : decode cX3_cradle 50 = .ok (.invokevirtual 162, 3) := by decide +kernel
theorem dX3_cradle_53 : decode cX3_cradle 53 = .ok (.ireturn, 1) := by decide +kernel
theorem dX3_cradle_54 : decode cX3_cradle 54 = .ok (.iload_n 1, 1) := by decide +kernel
theorem dX3_cradle_55 : decode cX3_cradle 55 = .ok (.invokestatic 165, 3) := by decide +kernel
theorem dX3_cradle_58 : decode cX3_cradle 58 = .ok (.ireturn, 1) := by decide +kernel
theorem dX3_cradle_59 : decode cX3_cradle 59 = .ok (.bipush (-2), 2) := by decide +kernel
theorem dX3_cradle_61 : decode cX3_cradle 61 = .ok (.ireturn, 1) := by decide +kernel
theorem dX3_tide_0 : decode cX3_tide 0 = .ok (.iload_n 1, 1) := by decide +kernel
theorem dX3_tide_1 : decode cX3_tide 1 = .ok (.iconst 0, 1) := by decide +kernel
theorem dX3_tide_2 : decode cX3_tide 2 = .ok (.sipush 9999, 3) := by decide +kernel
theorem dX3_tide_5 : decode cX3_tide 5 = .ok (.invokestatic 168, 3) := by decide +kernel
theorem dX3_tide_8 : decode cX3_tide 8 = .ok (.ifCond .eq 14, 3) := by decide +kernel
theorem dX3_tide_11 : decode cX3_tide 11 = .ok (.aload_n 0, 1) := by decide +kernel
theorem dX3_tide_12 : decode cX3_tide 12 = .ok (.getfield 10, 3) := by decide +kernel
theorem dX3_tide_15 : decode cX3_tide 15 = .ok (.iload_n 1, 1) := by decide +kernel
theorem dX3_tide_16 : decode cX3_tide 16 = .ok (.invokevirtual 172, 3) := by decide +kernel
theorem dX3_tide_19 : decode cX3_tide 19 = .ok (.goto 5, 3) := by decide +kernel
theorem dX3_tide_22 : decode cX3_tide 22 = .ok (.bipush (-2), 2) := by decide +kernel
theorem dX3_tide_24 : decode cX3_tide 24 = .ok (.ireturn, 1) := by decide +kernel
theorem dX3_liftReason_0 : decode cX3_liftReason 0 = .ok (.aload_n 0, 1) := by decide +kernel
theorem dX3_liftReason_1 : decode cX3_liftReason 1 = .ok (.getfield 10, 3) := by decide +kernel
theorem dX3_liftReason_4 : decode cX3_liftReason 4 = .ok (.iload_n 1, 1) := by decide +kernel
theorem dX3_liftReason_5 : decode cX3_liftReason 5 = .ok (.invokevirtual 131, 3) := by decide +kernel
theorem dX3_liftReason_8 : decode cX3_liftReason 8 = .ok (.ifCond .eq 22, 3) := by decide +kernel
theorem dX3_liftReason_11 : decode cX3_liftReason 11 = .ok (.iload_n 2, 1) := by decide +kernel
theorem dX3_liftReason_12 : decode cX3_liftReason 12 = .ok (.invokestatic 141, 3) := by decide +kernel
theorem dX3_liftReason_15 : decode cX3_liftReason 15 = .ok (.ifCond .eq 15, 3) := by decide +kernel
theorem dX3_liftReason_18 : decode cX3_liftReason 18 = .ok (.aload_n 0, 1) := by decide +kernel
theorem dX3_liftReason_19 : decode cX3_liftReason 19 = .ok (.getfield 10, 3) := by decide +kernel
theorem dX3_liftReason_22 : decode cX3_liftReason 22 = .ok (.iload_n 1, 1) := by decide +kernel
theorem dX3_liftReason_23 : decode cX3_liftReason 23 = .ok (.iload_n 2, 1) := by decide +kernel
theorem dX3_liftReason_24 : decode cX3_liftReason 24 = .ok (.invokevirtual 175, 3) := by decide +kernel
theorem dX3_liftReason_27 : decode cX3_liftReason 27 = .ok (.goto 4, 3) := by decide +kernel
theorem dX3_liftReason_30 : decode cX3_liftReason 30 = .ok (.iconst (-1), 1) := by decide +kernel
theorem dX3_liftReason_31 : decode cX3_liftReason 31 = .ok (.ireturn, 1) := by decide +kernel
theorem dX3_launchReason_0 : decode cX3_launchReason 0 = .ok (.aload_n 0, 1) := by decide +kernel
theorem dX3_launchReason_1 : decode cX3_launchReason 1 = .ok (.getfield 10, 3) := by decide +kernel
theorem dX3_launchReason_4 : decode cX3_launchReason 4 = .ok (.iload_n 1, 1) := by decide +kernel
theorem dX3_launchReason_5 : decode cX3_launchReason 5 = .ok (.invokevirtual 131, 3) := by decide +kernel
theorem dX3_launchReason_8 : decode cX3_launchReason 8 = .ok (.ifCond .eq 14, 3) := by decide +kernel
theorem dX3_launchReason_11 : decode cX3_launchReason 11 = .ok (.aload_n 0, 1) := by decide +kernel
theorem dX3_launchReason_12 : decode cX3_launchReason 12 = .ok (.getfield 10, 3) := by decide +kernel
theorem dX3_launchReason_15 : decode cX3_launchReason 15 = .ok (.iload_n 1, 1) := by decide +kernel
theorem dX3_launchReason_16 : decode cX3_launchReason 16 = .ok (.invokevirtual 178, 3) := by decide +kernel
theorem dX3_launchReason_19 : decode cX3_launchReason 19 = .ok (.goto 4, 3) := by decide +kernel
theorem dX3_launchReason_22 : decode cX3_launchReason 22 = .ok (.iconst (-1), 1) := by decide +kernel
theorem dX3_launchReason_23 : decode cX3_launchReason 23 = .ok (.ireturn, 1) := by decide +kernel
theorem dX3_blockers_0 : decode cX3_blockers 0 = .ok (.aload_n 0, 1) := by decide +kernel
theorem dX3_blockers_1 : decode cX3_blockers 1 = .ok (.getfield 10, 3) := by decide +kernel
theorem dX3_blockers_4 : decode cX3_blockers 4 = .ok (.iload_n 1, 1) := by decide +kernel
theorem dX3_blockers_5 : decode cX3_blockers 5 = .ok (.invokevirtual 131, 3) := by decide +kernel
theorem dX3_blockers_8 : decode cX3_blockers 8 = .ok (.ifCond .ne 5, 3) := by decide +kernel
theorem dX3_blockers_11 : decode cX3_blockers 11 = .ok (.iconst (-1), 1) := by decide +kernel
theorem dX3_blockers_12 : decode cX3_blockers 12 = .ok (.ireturn, 1) := by decide +kernel
theorem dX3_blockers_13 : decode cX3_blockers 13 = .ok (.aload_n 0, 1) := by decide +kernel
theorem dX3_blockers_14 : decode cX3_blockers 14 = .ok (.getfield 10, 3) := by decide +kernel
theorem dX3_blockers_17 : decode cX3_blockers 17 = .ok (.iload_n 1, 1) := by decide +kernel
theorem dX3_blockers_18 : decode cX3_blockers 18 = .ok (.invokevirtual 181, 3) := by decide +kernel
theorem dX3_blockers_21 : decode cX3_blockers 21 = .ok (.ifCond .eq 14, 3) := by decide +kernel
theorem dX3_blockers_24 : decode cX3_blockers 24 = .ok (.aload_n 0, 1) := by decide +kernel
theorem dX3_blockers_25 : decode cX3_blockers 25 = .ok (.getfield 10, 3) := by decide +kernel
theorem dX3_blockers_28 : decode cX3_blockers 28 = .ok (.iload_n 1, 1) := by decide +kernel
theorem dX3_blockers_29 : decode cX3_blockers 29 = .ok (.invokevirtual 184, 3) := by decide +kernel
theorem dX3_blockers_32 : decode cX3_blockers 32 = .ok (.goto 5, 3) := by decide +kernel
theorem dX3_blockers_35 : decode cX3_blockers 35 = .ok (.bipush (-5), 2) := by decide +kernel
theorem dX3_blockers_37 : decode cX3_blockers 37 = .ok (.ireturn, 1) := by decide +kernel
theorem dX3_launchDay_0 : decode cX3_launchDay 0 = .ok (.aload_n 0, 1) := by decide +kernel
theorem dX3_launchDay_1 : decode cX3_launchDay 1 = .ok (.getfield 10, 3) := by decide +kernel
theorem dX3_launchDay_4 : decode cX3_launchDay 4 = .ok (.iload_n 1, 1) := by decide +kernel
theorem dX3_launchDay_5 : decode cX3_launchDay 5 = .ok (.invokevirtual 131, 3) := by decide +kernel
theorem dX3_launchDay_8 : decode cX3_launchDay 8 = .ok (.ifCond .ne 5, 3) := by decide +kernel
theorem dX3_launchDay_11 : decode cX3_launchDay 11 = .ok (.iconst (-1), 1) := by decide +kernel
theorem dX3_launchDay_12 : decode cX3_launchDay 12 = .ok (.ireturn, 1) := by decide +kernel
theorem dX3_launchDay_13 : decode cX3_launchDay 13 = .ok (.aload_n 0, 1) := by decide +kernel
theorem dX3_launchDay_14 : decode cX3_launchDay 14 = .ok (.getfield 10, 3) := by decide +kernel
theorem dX3_launchDay_17 : decode cX3_launchDay 17 = .ok (.iload_n 1, 1) := by decide +kernel
theorem dX3_launchDay_18 : decode cX3_launchDay 18 = .ok (.invokevirtual 181, 3) := by decide +kernel
theorem dX3_launchDay_21 : decode cX3_launchDay 21 = .ok (.ifCond .eq 14, 3) := by decide +kernel
theorem dX3_launchDay_24 : decode cX3_launchDay 24 = .ok (.aload_n 0, 1) := by decide +kernel
theorem dX3_launchDay_25 : decode cX3_launchDay 25 = .ok (.getfield 10, 3) := by decide +kernel
theorem dX3_launchDay_28 : decode cX3_launchDay 28 = .ok (.iload_n 1, 1) := by decide +kernel
theorem dX3_launchDay_29 : decode cX3_launchDay 29 = .ok (.invokevirtual 187, 3) := by decide +kernel
theorem dX3_launchDay_32 : decode cX3_launchDay 32 = .ok (.goto 5, 3) := by decide +kernel
theorem dX3_launchDay_35 : decode cX3_launchDay 35 = .ok (.bipush (-5), 2) := by decide +kernel
theorem dX3_launchDay_37 : decode cX3_launchDay 37 = .ok (.ireturn, 1) := by decide +kernel
theorem dX3_bestRow_0 : decode cX3_bestRow 0 = .ok (.aload_n 0, 1) := by decide +kernel
theorem dX3_bestRow_1 : decode cX3_bestRow 1 = .ok (.getfield 10, 3) := by decide +kernel
theorem dX3_bestRow_4 : decode cX3_bestRow 4 = .ok (.iload_n 1, 1) := by decide +kernel
theorem dX3_bestRow_5 : decode cX3_bestRow 5 = .ok (.invokevirtual 131, 3) := by decide +kernel
theorem dX3_bestRow_8 : decode cX3_bestRow 8 = .ok (.ifCond .eq 14, 3) := by decide +kernel
theorem dX3_bestRow_11 : decode cX3_bestRow 11 = .ok (.aload_n 0, 1) := by decide +kernel
theorem dX3_bestRow_12 : decode cX3_bestRow 12 = .ok (.getfield 10, 3) := by decide +kernel
theorem dX3_bestRow_15 : decode cX3_bestRow 15 = .ok (.iload_n 1, 1) := by decide +kernel
theorem dX3_bestRow_16 : decode cX3_bestRow 16 = .ok (.invokevirtual 190, 3) := by decide +kernel
theorem dX3_bestRow_19 : decode cX3_bestRow 19 = .ok (.goto 4, 3) := by decide +kernel
theorem dX3_bestRow_22 : decode cX3_bestRow 22 = .ok (.iconst (-1), 1) := by decide +kernel
theorem dX3_bestRow_23 : decode cX3_bestRow 23 = .ok (.ireturn, 1) := by decide +kernel
theorem dX3_count_0 : decode cX3_count 0 = .ok (.iload_n 1, 1) := by decide +kernel
theorem dX3_count_1 : decode cX3_count 1 = .ok (.tableswitch 207 0 14 #[75, 83, 98, 106, 114, 122, 130, 138, 146, 155, 164, 173, 182, 191, 199], 75) := by decide +kernel
theorem dX3_count_76 : decode cX3_count 76 = .ok (.aload_n 0, 1) := by decide +kernel
theorem dX3_count_77 : decode cX3_count 77 = .ok (.getfield 10, 3) := by decide +kernel
theorem dX3_count_80 : decode cX3_count 80 = .ok (.invokevirtual 193, 3) := by decide +kernel
theorem dX3_count_83 : decode cX3_count 83 = .ok (.ireturn, 1) := by decide +kernel
theorem dX3_count_84 : decode cX3_count 84 = .ok (.aload_n 0, 1) := by decide +kernel
theorem dX3_count_85 : decode cX3_count 85 = .ok (.getfield 10, 3) := by decide +kernel
theorem dX3_count_88 : decode cX3_count 88 = .ok (.aload_n 0, 1) := by decide +kernel
theorem dX3_count_89 : decode cX3_count 89 = .ok (.getfield 10, 3) := by decide +kernel
theorem dX3_count_92 : decode cX3_count 92 = .ok (.invokevirtual 193, 3) := by decide +kernel
theorem dX3_count_95 : decode cX3_count 95 = .ok (.invokevirtual 172, 3) := by decide +kernel
theorem dX3_count_98 : decode cX3_count 98 = .ok (.ireturn, 1) := by decide +kernel
theorem dX3_count_99 : decode cX3_count 99 = .ok (.aload_n 0, 1) := by decide +kernel
theorem dX3_count_100 : decode cX3_count 100 = .ok (.getfield 10, 3) := by decide +kernel
theorem dX3_count_103 : decode cX3_count 103 = .ok (.invokevirtual 196, 3) := by decide +kernel
theorem dX3_count_106 : decode cX3_count 106 = .ok (.ireturn, 1) := by decide +kernel
theorem dX3_count_107 : decode cX3_count 107 = .ok (.aload_n 0, 1) := by decide +kernel
theorem dX3_count_108 : decode cX3_count 108 = .ok (.getfield 10, 3) := by decide +kernel
theorem dX3_count_111 : decode cX3_count 111 = .ok (.invokevirtual 128, 3) := by decide +kernel
theorem dX3_count_114 : decode cX3_count 114 = .ok (.ireturn, 1) := by decide +kernel
theorem dX3_count_115 : decode cX3_count 115 = .ok (.aload_n 0, 1) := by decide +kernel
theorem dX3_count_116 : decode cX3_count 116 = .ok (.getfield 10, 3) := by decide +kernel
theorem dX3_count_119 : decode cX3_count 119 = .ok (.invokevirtual 199, 3) := by decide +kernel
theorem dX3_count_122 : decode cX3_count 122 = .ok (.ireturn, 1) := by decide +kernel
theorem dX3_count_123 : decode cX3_count 123 = .ok (.aload_n 0, 1) := by decide +kernel
theorem dX3_count_124 : decode cX3_count 124 = .ok (.getfield 10, 3) := by decide +kernel
theorem dX3_count_127 : decode cX3_count 127 = .ok (.invokevirtual 202, 3) := by decide +kernel
theorem dX3_count_130 : decode cX3_count 130 = .ok (.ireturn, 1) := by decide +kernel
theorem dX3_count_131 : decode cX3_count 131 = .ok (.aload_n 0, 1) := by decide +kernel
theorem dX3_count_132 : decode cX3_count 132 = .ok (.getfield 10, 3) := by decide +kernel
theorem dX3_count_135 : decode cX3_count 135 = .ok (.invokevirtual 205, 3) := by decide +kernel
theorem dX3_count_138 : decode cX3_count 138 = .ok (.ireturn, 1) := by decide +kernel
theorem dX3_count_139 : decode cX3_count 139 = .ok (.aload_n 0, 1) := by decide +kernel
theorem dX3_count_140 : decode cX3_count 140 = .ok (.getfield 10, 3) := by decide +kernel
theorem dX3_count_143 : decode cX3_count 143 = .ok (.invokevirtual 208, 3) := by decide +kernel
theorem dX3_count_146 : decode cX3_count 146 = .ok (.ireturn, 1) := by decide +kernel
theorem dX3_count_147 : decode cX3_count 147 = .ok (.aload_n 0, 1) := by decide +kernel
theorem dX3_count_148 : decode cX3_count 148 = .ok (.getfield 10, 3) := by decide +kernel
theorem dX3_count_151 : decode cX3_count 151 = .ok (.iconst 0, 1) := by decide +kernel
theorem dX3_count_152 : decode cX3_count 152 = .ok (.invokevirtual 211, 3) := by decide +kernel
theorem dX3_count_155 : decode cX3_count 155 = .ok (.ireturn, 1) := by decide +kernel
theorem dX3_count_156 : decode cX3_count 156 = .ok (.aload_n 0, 1) := by decide +kernel
theorem dX3_count_157 : decode cX3_count 157 = .ok (.getfield 10, 3) := by decide +kernel
theorem dX3_count_160 : decode cX3_count 160 = .ok (.iconst 1, 1) := by decide +kernel
theorem dX3_count_161 : decode cX3_count 161 = .ok (.invokevirtual 211, 3) := by decide +kernel
theorem dX3_count_164 : decode cX3_count 164 = .ok (.ireturn, 1) := by decide +kernel
theorem dX3_count_165 : decode cX3_count 165 = .ok (.aload_n 0, 1) := by decide +kernel
theorem dX3_count_166 : decode cX3_count 166 = .ok (.getfield 10, 3) := by decide +kernel
theorem dX3_count_169 : decode cX3_count 169 = .ok (.iconst 0, 1) := by decide +kernel
theorem dX3_count_170 : decode cX3_count 170 = .ok (.invokevirtual 214, 3) := by decide +kernel
theorem dX3_count_173 : decode cX3_count 173 = .ok (.ireturn, 1) := by decide +kernel
theorem dX3_count_174 : decode cX3_count 174 = .ok (.aload_n 0, 1) := by decide +kernel
theorem dX3_count_175 : decode cX3_count 175 = .ok (.getfield 10, 3) := by decide +kernel
theorem dX3_count_178 : decode cX3_count 178 = .ok (.iconst 1, 1) := by decide +kernel
theorem dX3_count_179 : decode cX3_count 179 = .ok (.invokevirtual 214, 3) := by decide +kernel
theorem dX3_count_182 : decode cX3_count 182 = .ok (.ireturn, 1) := by decide +kernel
theorem dX3_count_183 : decode cX3_count 183 = .ok (.aload_n 0, 1) := by decide +kernel
theorem dX3_count_184 : decode cX3_count 184 = .ok (.getfield 10, 3) := by decide +kernel
theorem dX3_count_187 : decode cX3_count 187 = .ok (.iconst 2, 1) := by decide +kernel
theorem dX3_count_188 : decode cX3_count 188 = .ok (.invokevirtual 214, 3) := by decide +kernel
theorem dX3_count_191 : decode cX3_count 191 = .ok (.ireturn, 1) := by decide +kernel
theorem dX3_count_192 : decode cX3_count 192 = .ok (.aload_n 0, 1) := by decide +kernel
theorem dX3_count_193 : decode cX3_count 193 = .ok (.getfield 26, 3) := by decide +kernel
theorem dX3_count_196 : decode cX3_count 196 = .ok (.invokevirtual 217, 3) := by decide +kernel
theorem dX3_count_199 : decode cX3_count 199 = .ok (.ireturn, 1) := by decide +kernel
theorem dX3_count_200 : decode cX3_count 200 = .ok (.aload_n 0, 1) := by decide +kernel
theorem dX3_count_201 : decode cX3_count 201 = .ok (.getfield 33, 3) := by decide +kernel
theorem dX3_count_204 : decode cX3_count 204 = .ok (.invokevirtual 220, 3) := by decide +kernel
theorem dX3_count_207 : decode cX3_count 207 = .ok (.ireturn, 1) := by decide +kernel
theorem dX3_count_208 : decode cX3_count 208 = .ok (.bipush (-2), 2) := by decide +kernel
theorem dX3_count_210 : decode cX3_count 210 = .ok (.ireturn, 1) := by decide +kernel
theorem dX3_within_0 : decode cX3_within 0 = .ok (.iload_n 0, 1) := by decide +kernel
theorem dX3_within_1 : decode cX3_within 1 = .ok (.iload_n 1, 1) := by decide +kernel
theorem dX3_within_2 : decode cX3_within 2 = .ok (.if_icmp .lt 12, 3) := by decide +kernel
theorem dX3_within_5 : decode cX3_within 5 = .ok (.iload_n 0, 1) := by decide +kernel
theorem dX3_within_6 : decode cX3_within 6 = .ok (.iload_n 2, 1) := by decide +kernel
theorem dX3_within_7 : decode cX3_within 7 = .ok (.if_icmp .gt 7, 3) := by decide +kernel
theorem dX3_within_10 : decode cX3_within 10 = .ok (.iconst 1, 1) := by decide +kernel
theorem dX3_within_11 : decode cX3_within 11 = .ok (.goto 4, 3) := by decide +kernel
theorem dX3_within_14 : decode cX3_within 14 = .ok (.iconst 0, 1) := by decide +kernel
theorem dX3_within_15 : decode cX3_within 15 = .ok (.ireturn, 1) := by decide +kernel
end
section
theorem dX4_init_0 : decode cX4_init 0 = .ok (.aload_n 0, 1) := by decide +kernel
theorem dX4_init_1 : decode cX4_init 1 = .ok (.invokespecial 1, 3) := by decide +kernel
theorem dX4_init_4 : decode cX4_init 4 = .ok (.aload_n 0, 1) := by decide +kernel
theorem dX4_init_5 : decode cX4_init 5 = .ok (.sipush 255, 3) := by decide +kernel
theorem dX4_init_8 : decode cX4_init 8 = .ok (.newarray .int, 2) := by decide +kernel
theorem dX4_init_10 : decode cX4_init 10 = .ok (.putfield 7, 3) := by decide +kernel
theorem dX4_init_13 : decode cX4_init 13 = .ok (.aload_n 0, 1) := by decide +kernel
theorem dX4_init_14 : decode cX4_init 14 = .ok (.sipush 255, 3) := by decide +kernel
theorem dX4_init_17 : decode cX4_init 17 = .ok (.newarray .int, 2) := by decide +kernel
theorem dX4_init_19 : decode cX4_init 19 = .ok (.putfield 13, 3) := by decide +kernel
theorem dX4_init_22 : decode cX4_init 22 = .ok (.aload_n 0, 1) := by decide +kernel
theorem dX4_init_23 : decode cX4_init 23 = .ok (.sipush 1020, 3) := by decide +kernel
theorem dX4_init_26 : decode cX4_init 26 = .ok (.newarray .int, 2) := by decide +kernel
theorem dX4_init_28 : decode cX4_init 28 = .ok (.putfield 16, 3) := by decide +kernel
theorem dX4_init_31 : decode cX4_init 31 = .ok (.aload_n 0, 1) := by decide +kernel
theorem dX4_init_32 : decode cX4_init 32 = .ok (.sipush 255, 3) := by decide +kernel
theorem dX4_init_35 : decode cX4_init 35 = .ok (.newarray .int, 2) := by decide +kernel
theorem dX4_init_37 : decode cX4_init 37 = .ok (.putfield 19, 3) := by decide +kernel
theorem dX4_init_40 : decode cX4_init 40 = .ok (.aload_n 0, 1) := by decide +kernel
theorem dX4_init_41 : decode cX4_init 41 = .ok (.bipush 60, 2) := by decide +kernel
theorem dX4_init_43 : decode cX4_init 43 = .ok (.newarray .int, 2) := by decide +kernel
theorem dX4_init_45 : decode cX4_init 45 = .ok (.putfield 22, 3) := by decide +kernel
theorem dX4_init_48 : decode cX4_init 48 = .ok (.aload_n 0, 1) := by decide +kernel
theorem dX4_init_49 : decode cX4_init 49 = .ok (.bipush (-5), 2) := by decide +kernel
theorem dX4_init_51 : decode cX4_init 51 = .ok (.putfield 25, 3) := by decide +kernel
theorem dX4_init_54 : decode cX4_init 54 = .ok (.aload_n 0, 1) := by decide +kernel
theorem dX4_init_55 : decode cX4_init 55 = .ok (.bipush (-5), 2) := by decide +kernel
theorem dX4_init_57 : decode cX4_init 57 = .ok (.putfield 29, 3) := by decide +kernel
theorem dX4_init_60 : decode cX4_init 60 = .ok (.aload_n 0, 1) := by decide +kernel
theorem dX4_init_61 : decode cX4_init 61 = .ok (.getfield 7, 3) := by decide +kernel
theorem dX4_init_64 : decode cX4_init 64 = .ok (.iconst 2, 1) := by decide +kernel
theorem dX4_init_65 : decode cX4_init 65 = .ok (.iconst 3, 1) := by decide +kernel
theorem dX4_init_66 : decode cX4_init 66 = .ok (.iastore, 1) := by decide +kernel
theorem dX4_init_67 : decode cX4_init 67 = .ok (.aload_n 0, 1) := by decide +kernel
theorem dX4_init_68 : decode cX4_init 68 = .ok (.getfield 7, 3) := by decide +kernel
theorem dX4_init_71 : decode cX4_init 71 = .ok (.iconst 3, 1) := by decide +kernel
theorem dX4_init_72 : decode cX4_init 72 = .ok (.iconst 4, 1) := by decide +kernel
theorem dX4_init_73 : decode cX4_init 73 = .ok (.iastore, 1) := by decide +kernel
theorem dX4_init_74 : decode cX4_init 74 = .ok (.aload_n 0, 1) := by decide +kernel
theorem dX4_init_75 : decode cX4_init 75 = .ok (.getfield 7, 3) := by decide +kernel
theorem dX4_init_78 : decode cX4_init 78 = .ok (.iconst 4, 1) := by decide +kernel
theorem dX4_init_79 : decode cX4_init 79 = .ok (.bipush 20, 2) := by decide +kernel
theorem dX4_init_81 : decode cX4_init 81 = .ok (.iastore, 1) := by decide +kernel
theorem dX4_init_82 : decode cX4_init 82 = .ok (.iconst 0, 1) := by decide +kernel
theorem dX4_init_83 : decode cX4_init 83 = .ok (.istore_n 1, 1) := by decide +kernel
theorem dX4_init_84 : decode cX4_init 84 = .ok (.iload_n 1, 1) := by decide +kernel
theorem dX4_init_85 : decode cX4_init 85 = .ok (.iconst 3, 1) := by decide +kernel
theorem dX4_init_86 : decode cX4_init 86 = .ok (.if_icmp .ge 19, 3) := by decide +kernel
theorem dX4_init_89 : decode cX4_init 89 = .ok (.aload_n 0, 1) := by decide +kernel
theorem dX4_init_90 : decode cX4_init 90 = .ok (.getfield 7, 3) := by decide +kernel
theorem dX4_init_93 : decode cX4_init 93 = .ok (.bipush 8, 2) := by decide +kernel
theorem dX4_init_95 : decode cX4_init 95 = .ok (.iload_n 1, 1) := by decide +kernel
theorem dX4_init_96 : decode cX4_init 96 = .ok (.iadd, 1) := by decide +kernel
theorem dX4_init_97 : decode cX4_init 97 = .ok (.iconst 4, 1) := by decide +kernel
theorem dX4_init_98 : decode cX4_init 98 = .ok (.iastore, 1) := by decide +kernel
theorem dX4_init_99 : decode cX4_init 99 = .ok (.iinc 1 1, 3) := by decide +kernel
theorem dX4_init_102 : decode cX4_init 102 = .ok (.goto (-18), 3) := by decide +kernel
theorem dX4_init_105 : decode cX4_init 105 = .ok (.iconst 0, 1) := by decide +kernel
theorem dX4_init_106 : decode cX4_init 106 = .ok (.istore_n 1, 1) := by decide +kernel
theorem dX4_init_107 : decode cX4_init 107 = .ok (.iload_n 1, 1) := by decide +kernel
theorem dX4_init_108 : decode cX4_init 108 = .ok (.iconst 4, 1) := by decide +kernel
theorem dX4_init_109 : decode cX4_init 109 = .ok (.if_icmp .ge 20, 3) := by decide +kernel
theorem dX4_init_112 : decode cX4_init 112 = .ok (.aload_n 0, 1) := by decide +kernel
theorem dX4_init_113 : decode cX4_init 113 = .ok (.getfield 7, 3) := by decide +kernel
theorem dX4_init_116 : decode cX4_init 116 = .ok (.bipush 11, 2) := by decide +kernel
theorem dX4_init_118 : decode cX4_init 118 = .ok (.iload_n 1, 1) := by decide +kernel
theorem dX4_init_119 : decode cX4_init 119 = .ok (.iadd, 1) := by decide +kernel
theorem dX4_init_120 : decode cX4_init 120 = .ok (.bipush 40, 2) := by decide +kernel
theorem dX4_init_122 : decode cX4_init 122 = .ok (.iastore, 1) := by decide +kernel
theorem dX4_init_123 : decode cX4_init 123 = .ok (.iinc 1 1, 3) := by decide +kernel
theorem dX4_init_126 : decode cX4_init 126 = .ok (.goto (-19), 3) := by decide +kernel
theorem dX4_init_129 : decode cX4_init 129 = .ok (.return_, 1) := by decide +kernel
theorem dX4_in_0 : decode cX4_in 0 = .ok (.iload_n 0, 1) := by decide +kernel
theorem dX4_in_1 : decode cX4_in 1 = .ok (.iload_n 1, 1) := by decide +kernel
theorem dX4_in_2 : decode cX4_in 2 = .ok (.if_icmp .lt 12, 3) := by decide +kernel
theorem dX4_in_5 : decode cX4_in 5 = .ok (.iload_n 0, 1) := by decide +kernel
theorem dX4_in_6 : decode cX4_in 6 = .ok (.iload_n 2, 1) := by decide +kernel
theorem dX4_in_7 : decode cX4_in 7 = .ok (.if_icmp .gt 7, 3) := by decide +kernel
theorem dX4_in_10 : decode cX4_in 10 = .ok (.iconst 1, 1) := by decide +kernel
theorem dX4_in_11 : decode cX4_in 11 = .ok (.goto 4, 3) := by decide +kernel
theorem dX4_in_14 : decode cX4_in 14 = .ok (.iconst 0, 1) := by decide +kernel
theorem dX4_in_15 : decode cX4_in 15 = .ok (.ireturn, 1) := by decide +kernel
theorem dX4_of_0 : decode cX4_of 0 = .ok (.aload_n 0, 1) := by decide +kernel
theorem dX4_of_1 : decode cX4_of 1 = .ok (.getfield 7, 3) := by decide +kernel
theorem dX4_of_4 : decode cX4_of 4 = .ok (.bipush 15, 2) := by decide +kernel
theorem dX4_of_6 : decode cX4_of 6 = .ok (.bipush 12, 2) := by decide +kernel
theorem dX4_of_8 : decode cX4_of 8 = .ok (.iload_n 1, 1) := by decide +kernel
theorem dX4_of_9 : decode cX4_of 9 = .ok (.imul, 1) := by decide +kernel
theorem dX4_of_10 : decode cX4_of 10 = .ok (.iadd, 1) := by decide +kernel
theorem dX4_of_11 : decode cX4_of 11 = .ok (.iload_n 2, 1) := by decide +kernel
theorem dX4_of_12 : decode cX4_of 12 = .ok (.iadd, 1) := by decide +kernel
theorem dX4_of_13 : decode cX4_of 13 = .ok (.iaload, 1) := by decide +kernel
theorem dX4_of_14 : decode cX4_of 14 = .ok (.ireturn, 1) := by decide +kernel
theorem dX4_put_0 : decode cX4_put 0 = .ok (.aload_n 0, 1) := by decide +kernel
theorem dX4_put_1 : decode cX4_put 1 = .ok (.getfield 7, 3) := by decide +kernel
theorem dX4_put_4 : decode cX4_put 4 = .ok (.bipush 15, 2) := by decide +kernel
theorem dX4_put_6 : decode cX4_put 6 = .ok (.bipush 12, 2) := by decide +kernel
theorem dX4_put_8 : decode cX4_put 8 = .ok (.iload_n 1, 1) := by decide +kernel
theorem dX4_put_9 : decode cX4_put 9 = .ok (.imul, 1) := by decide +kernel
theorem dX4_put_10 : decode cX4_put 10 = .ok (.iadd, 1) := by decide +kernel
theorem dX4_put_11 : decode cX4_put 11 = .ok (.iload_n 2, 1) := by decide +kernel
theorem dX4_put_12 : decode cX4_put 12 = .ok (.iadd, 1) := by decide +kernel
theorem dX4_put_13 : decode cX4_put 13 = .ok (.iload_n 3, 1) := by decide +kernel
theorem dX4_put_14 : decode cX4_put 14 = .ok (.iastore, 1) := by decide +kernel
theorem dX4_put_15 : decode cX4_put 15 = .ok (.return_, 1) := by decide +kernel
theorem dX4_isBoat_0 : decode cX4_isBoat 0 = .ok (.iload_n 1, 1) := by decide +kernel
theorem dX4_isBoat_1 : decode cX4_isBoat 1 = .ok (.iconst 0, 1) := by decide +kernel
theorem dX4_isBoat_2 : decode cX4_isBoat 2 = .ok (.bipush 19, 2) := by decide +kernel
theorem dX4_isBoat_4 : decode cX4_isBoat 4 = .ok (.invokestatic 32, 3) := by decide +kernel
theorem dX4_isBoat_7 : decode cX4_isBoat 7 = .ok (.ifCond .eq 17, 3) := by decide +kernel
theorem dX4_isBoat_10 : decode cX4_isBoat 10 = .ok (.aload_n 0, 1) := by decide +kernel
theorem dX4_isBoat_11 : decode cX4_isBoat 11 = .ok (.iload_n 1, 1) := by decide +kernel
theorem dX4_isBoat_12 : decode cX4_isBoat 12 = .ok (.iconst 0, 1) := by decide +kernel
theorem dX4_isBoat_13 : decode cX4_isBoat 13 = .ok (.invokevirtual 36, 3) := by decide +kernel
theorem dX4_isBoat_16 : decode cX4_isBoat 16 = .ok (.iconst 1, 1) := by decide +kernel
theorem dX4_isBoat_17 : decode cX4_isBoat 17 = .ok (.if_icmp .ne 7, 3) := by decide +kernel
theorem dX4_isBoat_20 : decode cX4_isBoat 20 = .ok (.iconst 1, 1) := by decide +kernel
theorem dX4_isBoat_21 : decode cX4_isBoat 21 = .ok (.goto 4, 3) := by decide +kernel
theorem dX4_isBoat_24 : decode cX4_isBoat 24 = .ok (.iconst 0, 1) := by decide +kernel
theorem dX4_isBoat_25 : decode cX4_isBoat 25 = .ok (.ireturn, 1) := by decide +kernel
theorem dX4_isRow_0 : decode cX4_isRow 0 = .ok (.iload_n 0, 1) := by decide +kernel
theorem dX4_isRow_1 : decode cX4_isRow 1 = .ok (.iconst 0, 1) := by decide +kernel
theorem dX4_isRow_2 : decode cX4_isRow 2 = .ok (.iconst 3, 1) := by decide +kernel
theorem dX4_isRow_3 : decode cX4_isRow 3 = .ok (.invokestatic 32, 3) := by decide +kernel
theorem dX4_isRow_6 : decode cX4_isRow 6 = .ok (.ireturn, 1) := by decide +kernel
theorem dX4_isKind_0 : decode cX4_isKind 0 = .ok (.iload_n 0, 1) := by decide +kernel
theorem dX4_isKind_1 : decode cX4_isKind 1 = .ok (.iconst 0, 1) := by decide +kernel
theorem dX4_isKind_2 : decode cX4_isKind 2 = .ok (.iconst 2, 1) := by decide +kernel
theorem dX4_isKind_3 : decode cX4_isKind 3 = .ok (.invokestatic 32, 3) := by decide +kernel
theorem dX4_isKind_6 : decode cX4_isKind 6 = .ok (.ireturn, 1) := by decide +kernel
theorem dX4_isAshore_0 : decode cX4_isAshore 0 = .ok (.aload_n 0, 1) := by decide +kernel
theorem dX4_isAshore_1 : decode cX4_isAshore 1 = .ok (.iload_n 1, 1) := by decide +kernel
theorem dX4_isAshore_2 : decode cX4_isAshore 2 = .ok (.iconst 5, 1) := by decide +kernel
theorem dX4_isAshore_3 : decode cX4_isAshore 3 = .ok (.invokevirtual 36, 3) := by decide +kernel
theorem dX4_isAshore_6 : decode cX4_isAshore 6 = .ok (.ifCond .lt 7, 3) := by decide +kernel
theorem dX4_isAshore_9 : decode cX4_isAshore 9 = .ok (.iconst 1, 1) := by decide +kernel
theorem dX4_isAshore_10 : decode cX4_isAshore 10 = .ok (.goto 4, 3) := by decide +kernel
theorem dX4_isAshore_13 : decode cX4_isAshore 13 = .ok (.iconst 0, 1) := by decide +kernel
theorem dX4_isAshore_14 : decode cX4_isAshore 14 = .ok (.ireturn, 1) := by decide +kernel
theorem dX4_isIn_0 : decode cX4_isIn 0 = .ok (.aload_n 0, 1) := by decide +kernel
theorem dX4_isIn_1 : decode cX4_isIn 1 = .ok (.iload_n 1, 1) := by decide +kernel
theorem dX4_isIn_2 : decode cX4_isIn 2 = .ok (.iconst 0, 1) := by decide +kernel
theorem dX4_isIn_3 : decode cX4_isIn 3 = .ok (.invokevirtual 36, 3) := by decide +kernel
theorem dX4_isIn_6 : decode cX4_isIn 6 = .ok (.iconst 1, 1) := by decide +kernel
theorem dX4_isIn_7 : decode cX4_isIn 7 = .ok (.if_icmp .ne 17, 3) := by decide +kernel
theorem dX4_isIn_10 : decode cX4_isIn 10 = .ok (.aload_n 0, 1) := by decide +kernel
theorem dX4_isIn_11 : decode cX4_isIn 11 = .ok (.iload_n 1, 1) := by decide +kernel
theorem dX4_isIn_12 : decode cX4_isIn 12 = .ok (.iconst 5, 1) := by decide +kernel
theorem dX4_isIn_13 : decode cX4_isIn 13 = .ok (.invokevirtual 36, 3) := by decide +kernel
theorem dX4_isIn_16 : decode cX4_isIn 16 = .ok (.iload_n 2, 1) := by decide +kernel
theorem dX4_isIn_17 : decode cX4_isIn 17 = .ok (.if_icmp .ne 7, 3) := by decide +kernel
theorem dX4_isIn_20 : decode cX4_isIn 20 = .ok (.iconst 1, 1) := by decide +kernel
theorem dX4_isIn_21 : decode cX4_isIn 21 = .ok (.goto 4, 3) := by decide +kernel
theorem dX4_isIn_24 : decode cX4_isIn 24 = .ok (.iconst 0, 1) := by decide +kernel
theorem dX4_isIn_25 : decode cX4_isIn 25 = .ok (.ireturn, 1) := by decide +kernel
theorem dX4_tideAt_0 : decode cX4_tideAt 0 = .ok (.iload_n 1, 1) := by decide +kernel
theorem dX4_tideAt_1 : decode cX4_tideAt 1 = .ok (.bipush 14, 2) := by decide +kernel
theorem dX4_tideAt_3 : decode cX4_tideAt 3 = .ok (.irem, 1) := by decide +kernel
theorem dX4_tideAt_4 : decode cX4_tideAt 4 = .ok (.bipush 7, 2) := by decide +kernel
theorem dX4_tideAt_6 : decode cX4_tideAt 6 = .ok (.isub, 1) := by decide +kernel
theorem dX4_tideAt_7 : decode cX4_tideAt 7 = .ok (.istore_n 2, 1) := by decide +kernel
theorem dX4_tideAt_8 : decode cX4_tideAt 8 = .ok (.bipush 30, 2) := by decide +kernel
theorem dX4_tideAt_10 : decode cX4_tideAt 10 = .ok (.aload_n 0, 1) := by decide +kernel
theorem dX4_tideAt_11 : decode cX4_tideAt 11 = .ok (.getfield 7, 3) := by decide +kernel
theorem dX4_tideAt_14 : decode cX4_tideAt 14 = .ok (.iconst 2, 1) := by decide +kernel
theorem dX4_tideAt_15 : decode cX4_tideAt 15 = .ok (.iaload, 1) := by decide +kernel
theorem dX4_tideAt_16 : decode cX4_tideAt 16 = .ok (.iload_n 2, 1) := by decide +kernel
theorem dX4_tideAt_17 : decode cX4_tideAt 17 = .ok (.ifCond .ge 8, 3) := by decide +kernel
theorem dX4_tideAt_20 : decode cX4_tideAt 20 = .ok (.iload_n 2, 1) := by decide +kernel
theorem dX4_tideAt_21 : decode cX4_tideAt 21 = .ok (.ineg, 1) := by decide +kernel
theorem dX4_tideAt_22 : decode cX4_tideAt 22 = .ok (.goto 4, 3) := by decide +kernel
theorem dX4_tideAt_25 : decode cX4_tideAt 25 = .ok (.iload_n 2, 1) := by decide +kernel
theorem dX4_tideAt_26 : decode cX4_tideAt 26 = .ok (.imul, 1) := by decide +kernel
theorem dX4_tideAt_27 : decode cX4_tideAt 27 = .ok (.iadd, 1) := by decide +kernel
theorem dX4_tideAt_28 : decode cX4_tideAt 28 = .ok (.ireturn, 1) := by decide +kernel
theorem dX4_liftsLeft_0 : decode cX4_liftsLeft 0 = .ok (.aload_n 0, 1) := by decide +kernel
theorem dX4_liftsLeft_1 : decode cX4_liftsLeft 1 = .ok (.getfield 7, 3) := by decide +kernel
theorem dX4_liftsLeft_4 : decode cX4_liftsLeft 4 = .ok (.iconst 1, 1) := by decide +kernel
theorem dX4_liftsLeft_5 : decode cX4_liftsLeft 5 = .ok (.iaload, 1) := by decide +kernel
theorem dX4_liftsLeft_6 : decode cX4_liftsLeft 6 = .ok (.aload_n 0, 1) := by decide +kernel
theorem dX4_liftsLeft_7 : decode cX4_liftsLeft 7 = .ok (.getfield 7, 3) := by decide +kernel
theorem dX4_liftsLeft_10 : decode cX4_liftsLeft 10 = .ok (.iconst 3, 1) := by decide +kernel
theorem dX4_liftsLeft_11 : decode cX4_liftsLeft 11 = .ok (.iaload, 1) := by decide +kernel
theorem dX4_liftsLeft_12 : decode cX4_liftsLeft 12 = .ok (.if_icmp .ge 19, 3) := by decide +kernel
theorem dX4_liftsLeft_15 : decode cX4_liftsLeft 15 = .ok (.aload_n 0, 1) := by decide +kernel
theorem dX4_liftsLeft_16 : decode cX4_liftsLeft 16 = .ok (.getfield 7, 3) := by decide +kernel
theorem dX4_liftsLeft_19 : decode cX4_liftsLeft 19 = .ok (.iconst 3, 1) := by decide +kernel
theorem dX4_liftsLeft_20 : decode cX4_liftsLeft 20 = .ok (.iaload, 1) := by decide +kernel
theorem dX4_liftsLeft_21 : decode cX4_liftsLeft 21 = .ok (.aload_n 0, 1) := by decide +kernel
theorem dX4_liftsLeft_22 : decode cX4_liftsLeft 22 = .ok (.getfield 7, 3) := by decide +kernel
theorem dX4_liftsLeft_25 : decode cX4_liftsLeft 25 = .ok (.iconst 1, 1) := by decide +kernel
theorem dX4_liftsLeft_26 : decode cX4_liftsLeft 26 = .ok (.iaload, 1) := by decide +kernel
theorem dX4_liftsLeft_27 : decode cX4_liftsLeft 27 = .ok (.isub, 1) := by decide +kernel
theorem dX4_liftsLeft_28 : decode cX4_liftsLeft 28 = .ok (.goto 4, 3) := by decide +kernel
theorem dX4_liftsLeft_31 : decode cX4_liftsLeft 31 = .ok (.iconst 0, 1) := by decide +kernel
theorem dX4_liftsLeft_32 : decode cX4_liftsLeft 32 = .ok (.ireturn, 1) := by decide +kernel
theorem dX4_bears_0 : decode cX4_bears 0 = .ok (.iload_n 0, 1) := by decide +kernel
theorem dX4_bears_1 : decode cX4_bears 1 = .ok (.ifCond .ne 8, 3) := by decide +kernel
theorem dX4_bears_4 : decode cX4_bears 4 = .ok (.bipush 30, 2) := by decide +kernel
theorem dX4_bears_6 : decode cX4_bears 6 = .ok (.goto 15, 3) := by decide +kernel
theorem dX4_bears_9 : decode cX4_bears 9 = .ok (.iload_n 0, 1) := by decide +kernel
theorem dX4_bears_10 : decode cX4_bears 10 = .ok (.iconst 1, 1) := by decide +kernel
theorem dX4_bears_11 : decode cX4_bears 11 = .ok (.if_icmp .ne 8, 3) := by decide +kernel
theorem dX4_bears_14 : decode cX4_bears 14 = .ok (.bipush 12, 2) := by decide +kernel
theorem dX4_bears_16 : decode cX4_bears 16 = .ok (.goto 5, 3) := by decide +kernel
theorem dX4_bears_19 : decode cX4_bears 19 = .ok (.bipush 20, 2) := by decide +kernel
theorem dX4_bears_21 : decode cX4_bears 21 = .ok (.ireturn, 1) := by decide +kernel
theorem dX4_taken_0 : decode cX4_taken 0 = .ok (.iconst 0, 1) := by decide +kernel
theorem dX4_taken_1 : decode cX4_taken 1 = .ok (.istore_n 2, 1) := by decide +kernel
theorem dX4_taken_2 : decode cX4_taken 2 = .ok (.iconst 0, 1) := by decide +kernel
theorem dX4_taken_3 : decode cX4_taken 3 = .ok (.istore_n 3, 1) := by decide +kernel
theorem dX4_taken_4 : decode cX4_taken 4 = .ok (.iload_n 3, 1) := by decide +kernel
theorem dX4_taken_5 : decode cX4_taken 5 = .ok (.bipush 20, 2) := by decide +kernel
theorem dX4_taken_7 : decode cX4_taken 7 = .ok (.if_icmp .ge 46, 3) := by decide +kernel
theorem dX4_taken_10 : decode cX4_taken 10 = .ok (.iload_n 2, 1) := by decide +kernel
theorem dX4_taken_11 : decode cX4_taken 11 = .ok (.aload_n 0, 1) := by decide +kernel
theorem dX4_taken_12 : decode cX4_taken 12 = .ok (.iload_n 3, 1) := by decide +kernel
theorem dX4_taken_13 : decode cX4_taken 13 = .ok (.iconst 0, 1) := by decide +kernel
theorem dX4_taken_14 : decode cX4_taken 14 = .ok (.invokevirtual 36, 3) := by decide +kernel
theorem dX4_taken_17 : decode cX4_taken 17 = .ok (.iconst 1, 1) := by decide +kernel
theorem dX4_taken_18 : decode cX4_taken 18 = .ok (.if_icmp .ne 26, 3) := by decide +kernel
theorem dX4_taken_21 : decode cX4_taken 21 = .ok (.aload_n 0, 1) := by decide +kernel
theorem dX4_taken_22 : decode cX4_taken 22 = .ok (.iload_n 3, 1) := by decide +kernel
theorem dX4_taken_23 : decode cX4_taken 23 = .ok (.invokevirtual 40, 3) := by decide +kernel
theorem dX4_taken_26 : decode cX4_taken 26 = .ok (.ifCond .eq 18, 3) := by decide +kernel
theorem dX4_taken_29 : decode cX4_taken 29 = .ok (.aload_n 0, 1) := by decide +kernel
theorem dX4_taken_30 : decode cX4_taken 30 = .ok (.iload_n 3, 1) := by decide +kernel
theorem dX4_taken_31 : decode cX4_taken 31 = .ok (.bipush 6, 2) := by decide +kernel
theorem dX4_taken_33 : decode cX4_taken 33 = .ok (.invokevirtual 36, 3) := by decide +kernel
theorem dX4_taken_36 : decode cX4_taken 36 = .ok (.iload_n 1, 1) := by decide +kernel
theorem dX4_taken_37 : decode cX4_taken 37 = .ok (.if_icmp .ne 7, 3) := by decide +kernel
theorem dX4_taken_40 : decode cX4_taken 40 = .ok (.iconst 1, 1) := by decide +kernel
theorem dX4_taken_41 : decode cX4_taken 41 = .ok (.goto 4, 3) := by decide +kernel
theorem dX4_taken_44 : decode cX4_taken 44 = .ok (.iconst 0, 1) := by decide +kernel
theorem dX4_taken_45 : decode cX4_taken 45 = .ok (.iadd, 1) := by decide +kernel
theorem dX4_taken_46 : decode cX4_taken 46 = .ok (.istore_n 2, 1) := by decide +kernel
theorem dX4_taken_47 : decode cX4_taken 47 = .ok (.iinc 3 1, 3) := by decide +kernel
theorem dX4_taken_50 : decode cX4_taken 50 = .ok (.goto (-46), 3) := by decide +kernel
theorem dX4_taken_53 : decode cX4_taken 53 = .ok (.iload_n 2, 1) := by decide +kernel
theorem dX4_taken_54 : decode cX4_taken 54 = .ok (.ireturn, 1) := by decide +kernel
theorem dX4_isFree_0 : decode cX4_isFree 0 = .ok (.aload_n 0, 1) := by decide +kernel
theorem dX4_isFree_1 : decode cX4_isFree 1 = .ok (.iload_n 1, 1) := by decide +kernel
theorem dX4_isFree_2 : decode cX4_isFree 2 = .ok (.invokevirtual 44, 3) := by decide +kernel
theorem dX4_isFree_5 : decode cX4_isFree 5 = .ok (.aload_n 0, 1) := by decide +kernel
theorem dX4_isFree_6 : decode cX4_isFree 6 = .ok (.getfield 7, 3) := by decide +kernel
theorem dX4_isFree_9 : decode cX4_isFree 9 = .ok (.bipush 8, 2) := by decide +kernel
theorem dX4_isFree_11 : decode cX4_isFree 11 = .ok (.iload_n 1, 1) := by decide +kernel
theorem dX4_isFree_12 : decode cX4_isFree 12 = .ok (.iadd, 1) := by decide +kernel
theorem dX4_isFree_13 : decode cX4_isFree 13 = .ok (.iaload, 1) := by decide +kernel
theorem dX4_isFree_14 : decode cX4_isFree 14 = .ok (.if_icmp .ge 7, 3) := by decide +kernel
theorem dX4_isFree_17 : decode cX4_isFree 17 = .ok (.iconst 1, 1) := by decide +kernel
theorem dX4_isFree_18 : decode cX4_isFree 18 = .ok (.goto 4, 3) := by decide +kernel
theorem dX4_isFree_21 : decode cX4_isFree 21 = .ok (.iconst 0, 1) := by decide +kernel
theorem dX4_isFree_22 : decode cX4_isFree 22 = .ok (.ireturn, 1) := by decide +kernel
theorem dX4_cradleFor_0 : decode cX4_cradleFor 0 = .ok (.aload_n 0, 1) := by decide +kernel
theorem dX4_cradleFor_1 : decode cX4_cradleFor 1 = .ok (.iload_n 1, 1) := by decide +kernel
theorem dX4_cradleFor_2 : decode cX4_cradleFor 2 = .ok (.iconst 4, 1) := by decide +kernel
theorem dX4_cradleFor_3 : decode cX4_cradleFor 3 = .ok (.invokevirtual 36, 3) := by decide +kernel
theorem dX4_cradleFor_6 : decode cX4_cradleFor 6 = .ok (.istore_n 2, 1) := by decide +kernel
theorem dX4_cradleFor_7 : decode cX4_cradleFor 7 = .ok (.aload_n 0, 1) := by decide +kernel
theorem dX4_cradleFor_8 : decode cX4_cradleFor 8 = .ok (.iload_n 1, 1) := by decide +kernel
theorem dX4_cradleFor_9 : decode cX4_cradleFor 9 = .ok (.iconst 3, 1) := by decide +kernel
theorem dX4_cradleFor_10 : decode cX4_cradleFor 10 = .ok (.invokevirtual 36, 3) := by decide +kernel
theorem dX4_cradleFor_13 : decode cX4_cradleFor 13 = .ok (.istore_n 3, 1) := by decide +kernel
theorem dX4_cradleFor_14 : decode cX4_cradleFor 14 = .ok (.aload_n 0, 1) := by decide +kernel
theorem dX4_cradleFor_15 : decode cX4_cradleFor 15 = .ok (.iload_n 2, 1) := by decide +kernel
theorem dX4_cradleFor_16 : decode cX4_cradleFor 16 = .ok (.invokevirtual 48, 3) := by decide +kernel
theorem dX4_cradleFor_19 : decode cX4_cradleFor 19 = .ok (.ifCond .eq 13, 3) := by decide +kernel
theorem dX4_cradleFor_22 : decode cX4_cradleFor 22 = .ok (.iload_n 3, 1) := by decide +kernel
theorem dX4_cradleFor_23 : decode cX4_cradleFor 23 = .ok (.iload_n 2, 1) := by decide +kernel
theorem dX4_cradleFor_24 : decode cX4_cradleFor 24 = .ok (.invokestatic 51, 3) := by decide +kernel
theorem dX4_cradleFor_27 : decode cX4_cradleFor 27 = .ok (.if_icmp .gt 5, 3) := by decide +kernel
theorem dX4_cradleFor_30 : decode cX4_cradleFor 30 = .ok (.iload_n 2, 1) := by decide +kernel
theorem dX4_cradleFor_31 : decode cX4_cradleFor 31 = .ok (.ireturn, 1) := by decide +kernel
theorem dX4_cradleFor_32 : decode cX4_cradleFor 32 = .ok (.iconst 2, 1) := by decide +kernel
theorem dX4_cradleFor_33 : decode cX4_cradleFor 33 = .ok (.iload_n 2, 1) := by decide +kernel
theorem dX4_cradleFor_34 : decode cX4_cradleFor 34 = .ok (.isub, 1) := by decide +kernel
theorem dX4_cradleFor_35 : decode cX4_cradleFor 35 = .ok (.istore 4, 2) := by decide +kernel
theorem dX4_cradleFor_37 : decode cX4_cradleFor 37 = .ok (.iload 4, 2) := by decide +kernel
theorem dX4_cradleFor_39 : decode cX4_cradleFor 39 = .ok (.iload_n 2, 1) := by decide +kernel
theorem dX4_cradleFor_40 : decode cX4_cradleFor 40 = .ok (.if_icmp .eq 28, 3) := by decide +kernel
theorem dX4_cradleFor_43 : decode cX4_cradleFor 43 = .ok (.aload_n 0, 1) := by decide +kernel
theorem dX4_cradleFor_44 : decode cX4_cradleFor 44 = .ok (.iload 4, 2) := by decide +kernel
theorem dX4_cradleFor_46 : decode cX4_cradleFor 46 = .ok (.invokevirtual 48, 3) := by decide +kernel
theorem dX4_cradleFor_49 : decode cX4_cradleFor 49 = .ok (.ifCond .eq 19, 3) := by decide +kernel
theorem dX4_cradleFor_52 : decode cX4_cradleFor 52 = .ok (.iload_n 3, 1) := by decide +kernel
theorem dX4_cradleFor_53 : decode cX4_cradleFor 53 = .ok (.iload 4, 2) := by decide +kernel
theorem dX4_cradleFor_55 : decode cX4_cradleFor 55 = .ok (.invokestatic 51, 3) := by decide +kernel
theorem dX4_cradleFor_58 : decode cX4_cradleFor 58 = .ok (.iconst 2, 1) := by decide +kernel
theorem dX4_cradleFor_59 : decode cX4_cradleFor 59 = .ok (.idiv, 1) := by decide +kernel
theorem dX4_cradleFor_60 : decode cX4_cradleFor 60 = .ok (.if_icmp .gt 8, 3) := by decide +kernel
theorem dX4_cradleFor_63 : decode cX4_cradleFor 63 = .ok (.iload 4, 2) := by decide +kernel
theorem dX4_cradleFor_65 : decode cX4_cradleFor 65 = .ok (.goto 5, 3) := by decide +kernel
theorem dX4_cradleFor_68 : decode cX4_cradleFor 68 = .ok (.bipush (-5), 2) := by decide +kernel
theorem dX4_cradleFor_70 : decode cX4_cradleFor 70 = .ok (.ireturn, 1) := by decide +kernel
theorem dX4_metresTaken_0 : decode cX4_metresTaken 0 = .ok (.iconst 0, 1) := by decide +kernel
theorem dX4_metresTaken_1 : decode cX4_metresTaken 1 = .ok (.istore_n 2, 1) := by decide +kernel
theorem dX4_metresTaken_2 : decode cX4_metresTaken 2 = .ok (.iconst 0, 1) := by decide +kernel
theorem dX4_metresTaken_3 : decode cX4_metresTaken 3 = .ok (.istore_n 3, 1) := by decide +kernel
theorem dX4_metresTaken_4 : decode cX4_metresTaken 4 = .ok (.iload_n 3, 1) := by decide +kernel
theorem dX4_metresTaken_5 : decode cX4_metresTaken 5 = .ok (.bipush 20, 2) := by decide +kernel
theorem dX4_metresTaken_7 : decode cX4_metresTaken 7 = .ok (.if_icmp .ge 33, 3) := by decide +kernel
theorem dX4_metresTaken_10 : decode cX4_metresTaken 10 = .ok (.iload_n 2, 1) := by decide +kernel
theorem dX4_metresTaken_11 : decode cX4_metresTaken 11 = .ok (.aload_n 0, 1) := by decide +kernel
theorem dX4_metresTaken_12 : decode cX4_metresTaken 12 = .ok (.iload_n 3, 1) := by decide +kernel
theorem dX4_metresTaken_13 : decode cX4_metresTaken 13 = .ok (.iload_n 1, 1) := by decide +kernel
theorem dX4_metresTaken_14 : decode cX4_metresTaken 14 = .ok (.invokevirtual 54, 3) := by decide +kernel
theorem dX4_metresTaken_17 : decode cX4_metresTaken 17 = .ok (.ifCond .eq 14, 3) := by decide +kernel
theorem dX4_metresTaken_20 : decode cX4_metresTaken 20 = .ok (.aload_n 0, 1) := by decide +kernel
theorem dX4_metresTaken_21 : decode cX4_metresTaken 21 = .ok (.iload_n 3, 1) := by decide +kernel
theorem dX4_metresTaken_22 : decode cX4_metresTaken 22 = .ok (.iconst 1, 1) := by decide +kernel
theorem dX4_metresTaken_23 : decode cX4_metresTaken 23 = .ok (.invokevirtual 36, 3) := by decide +kernel
theorem dX4_metresTaken_26 : decode cX4_metresTaken 26 = .ok (.iconst 1, 1) := by decide +kernel
theorem dX4_metresTaken_27 : decode cX4_metresTaken 27 = .ok (.iadd, 1) := by decide +kernel
theorem dX4_metresTaken_28 : decode cX4_metresTaken 28 = .ok (.goto 4, 3) := by decide +kernel
theorem dX4_metresTaken_31 : decode cX4_metresTaken 31 = .ok (.iconst 0, 1) := by decide +kernel
theorem dX4_metresTaken_32 : decode cX4_metresTaken 32 = .ok (.iadd, 1) := by decide +kernel
theorem dX4_metresTaken_33 : decode cX4_metresTaken 33 = .ok (.istore_n 2, 1) := by decide +kernel
theorem dX4_metresTaken_34 : decode cX4_metresTaken 34 = .ok (.iinc 3 1, 3) := by decide +kernel
theorem dX4_metresTaken_37 : decode cX4_metresTaken 37 = .ok (.goto (-33), 3) := by decide +kernel
theorem dX4_metresTaken_40 : decode cX4_metresTaken 40 = .ok (.iload_n 2, 1) := by decide +kernel
theorem dX4_metresTaken_41 : decode cX4_metresTaken 41 = .ok (.ireturn, 1) := by decide +kernel
theorem dX4_metresLeft_0 : decode cX4_metresLeft 0 = .ok (.aload_n 0, 1) := by decide +kernel
theorem dX4_metresLeft_1 : decode cX4_metresLeft 1 = .ok (.getfield 7, 3) := by decide +kernel
theorem dX4_metresLeft_4 : decode cX4_metresLeft 4 = .ok (.bipush 11, 2) := by decide +kernel
theorem dX4_metresLeft_6 : decode cX4_metresLeft 6 = .ok (.iload_n 1, 1) := by decide +kernel
theorem dX4_metresLeft_7 : decode cX4_metresLeft 7 = .ok (.iadd, 1) := by decide +kernel
theorem dX4_metresLeft_8 : decode cX4_metresLeft 8 = .ok (.iaload, 1) := by decide +kernel
theorem dX4_metresLeft_9 : decode cX4_metresLeft 9 = .ok (.aload_n 0, 1) := by decide +kernel
theorem dX4_metresLeft_10 : decode cX4_metresLeft 10 = .ok (.iload_n 1, 1) := by decide +kernel
theorem dX4_metresLeft_11 : decode cX4_metresLeft 11 = .ok (.invokevirtual 58, 3) := by decide +kernel
theorem dX4_metresLeft_14 : decode cX4_metresLeft 14 = .ok (.isub, 1) := by decide +kernel
theorem dX4_metresLeft_15 : decode cX4_metresLeft 15 = .ok (.ireturn, 1) := by decide +kernel
theorem dX4_hasRoom_0 : decode cX4_hasRoom 0 = .ok (.aload_n 0, 1) := by decide +kernel
theorem dX4_hasRoom_1 : decode cX4_hasRoom 1 = .ok (.iload_n 1, 1) := by decide +kernel
theorem dX4_hasRoom_2 : decode cX4_hasRoom 2 = .ok (.iconst 1, 1) := by decide +kernel
theorem dX4_hasRoom_3 : decode cX4_hasRoom 3 = .ok (.invokevirtual 36, 3) := by decide +kernel
theorem dX4_hasRoom_6 : decode cX4_hasRoom 6 = .ok (.iconst 1, 1) := by decide +kernel
theorem dX4_hasRoom_7 : decode cX4_hasRoom 7 = .ok (.iadd, 1) := by decide +kernel
theorem dX4_hasRoom_8 : decode cX4_hasRoom 8 = .ok (.aload_n 0, 1) := by decide +kernel
theorem dX4_hasRoom_9 : decode cX4_hasRoom 9 = .ok (.iload_n 2, 1) := by decide +kernel
theorem dX4_hasRoom_10 : decode cX4_hasRoom 10 = .ok (.invokevirtual 61, 3) := by decide +kernel
theorem dX4_hasRoom_13 : decode cX4_hasRoom 13 = .ok (.if_icmp .gt 7, 3) := by decide +kernel
theorem dX4_hasRoom_16 : decode cX4_hasRoom 16 = .ok (.iconst 1, 1) := by decide +kernel
theorem dX4_hasRoom_17 : decode cX4_hasRoom 17 = .ok (.goto 4, 3) := by decide +kernel
theorem dX4_hasRoom_20 : decode cX4_hasRoom 20 = .ok (.iconst 0, 1) := by decide +kernel
theorem dX4_hasRoom_21 : decode cX4_hasRoom 21 = .ok (.ireturn, 1) := by decide +kernel
theorem dX4_boatsIn_0 : decode cX4_boatsIn 0 = .ok (.iconst 0, 1) := by decide +kernel
theorem dX4_boatsIn_1 : decode cX4_boatsIn 1 = .ok (.istore_n 2, 1) := by decide +kernel
theorem dX4_boatsIn_2 : decode cX4_boatsIn 2 = .ok (.iconst 0, 1) := by decide +kernel
theorem dX4_boatsIn_3 : decode cX4_boatsIn 3 = .ok (.istore_n 3, 1) := by decide +kernel
theorem dX4_boatsIn_4 : decode cX4_boatsIn 4 = .ok (.iload_n 3, 1) := by decide +kernel
theorem dX4_boatsIn_5 : decode cX4_boatsIn 5 = .ok (.bipush 20, 2) := by decide +kernel
theorem dX4_boatsIn_7 : decode cX4_boatsIn 7 = .ok (.if_icmp .ge 26, 3) := by decide +kernel
theorem dX4_boatsIn_10 : decode cX4_boatsIn 10 = .ok (.iload_n 2, 1) := by decide +kernel
theorem dX4_boatsIn_11 : decode cX4_boatsIn 11 = .ok (.aload_n 0, 1) := by decide +kernel
theorem dX4_boatsIn_12 : decode cX4_boatsIn 12 = .ok (.iload_n 3, 1) := by decide +kernel
theorem dX4_boatsIn_13 : decode cX4_boatsIn 13 = .ok (.iload_n 1, 1) := by decide +kernel
theorem dX4_boatsIn_14 : decode cX4_boatsIn 14 = .ok (.invokevirtual 54, 3) := by decide +kernel
theorem dX4_boatsIn_17 : decode cX4_boatsIn 17 = .ok (.ifCond .eq 7, 3) := by decide +kernel
theorem dX4_boatsIn_20 : decode cX4_boatsIn 20 = .ok (.iconst 1, 1) := by decide +kernel
theorem dX4_boatsIn_21 : decode cX4_boatsIn 21 = .ok (.goto 4, 3) := by decide +kernel
theorem dX4_boatsIn_24 : decode cX4_boatsIn 24 = .ok (.iconst 0, 1) := by decide +kernel
theorem dX4_boatsIn_25 : decode cX4_boatsIn 25 = .ok (.iadd, 1) := by decide +kernel
theorem dX4_boatsIn_26 : decode cX4_boatsIn 26 = .ok (.istore_n 2, 1) := by decide +kernel
theorem dX4_boatsIn_27 : decode cX4_boatsIn 27 = .ok (.iinc 3 1, 3) := by decide +kernel
theorem dX4_boatsIn_30 : decode cX4_boatsIn 30 = .ok (.goto (-26), 3) := by decide +kernel
theorem dX4_boatsIn_33 : decode cX4_boatsIn 33 = .ok (.iload_n 2, 1) := by decide +kernel
theorem dX4_boatsIn_34 : decode cX4_boatsIn 34 = .ok (.ireturn, 1) := by decide +kernel
theorem dX4_placeOf_0 : decode cX4_placeOf 0 = .ok (.iconst 0, 1) := by decide +kernel
theorem dX4_placeOf_1 : decode cX4_placeOf 1 = .ok (.istore_n 2, 1) := by decide +kernel
theorem dX4_placeOf_2 : decode cX4_placeOf 2 = .ok (.iconst 0, 1) := by decide +kernel
theorem dX4_placeOf_3 : decode cX4_placeOf 3 = .ok (.istore_n 3, 1) := by decide +kernel
theorem dX4_placeOf_4 : decode cX4_placeOf 4 = .ok (.iload_n 3, 1) := by decide +kernel
theorem dX4_placeOf_5 : decode cX4_placeOf 5 = .ok (.bipush 20, 2) := by decide +kernel
theorem dX4_placeOf_7 : decode cX4_placeOf 7 = .ok (.if_icmp .ge 48, 3) := by decide +kernel
theorem dX4_placeOf_10 : decode cX4_placeOf 10 = .ok (.iload_n 2, 1) := by decide +kernel
theorem dX4_placeOf_11 : decode cX4_placeOf 11 = .ok (.aload_n 0, 1) := by decide +kernel
theorem dX4_placeOf_12 : decode cX4_placeOf 12 = .ok (.iload_n 3, 1) := by decide +kernel
theorem dX4_placeOf_13 : decode cX4_placeOf 13 = .ok (.aload_n 0, 1) := by decide +kernel
theorem dX4_placeOf_14 : decode cX4_placeOf 14 = .ok (.iload_n 1, 1) := by decide +kernel
theorem dX4_placeOf_15 : decode cX4_placeOf 15 = .ok (.iconst 5, 1) := by decide +kernel
theorem dX4_placeOf_16 : decode cX4_placeOf 16 = .ok (.invokevirtual 36, 3) := by decide +kernel
theorem dX4_placeOf_19 : decode cX4_placeOf 19 = .ok (.invokevirtual 54, 3) := by decide +kernel
theorem dX4_placeOf_22 : decode cX4_placeOf 22 = .ok (.ifCond .eq 24, 3) := by decide +kernel
theorem dX4_placeOf_25 : decode cX4_placeOf 25 = .ok (.aload_n 0, 1) := by decide +kernel
theorem dX4_placeOf_26 : decode cX4_placeOf 26 = .ok (.iload_n 3, 1) := by decide +kernel
theorem dX4_placeOf_27 : decode cX4_placeOf 27 = .ok (.bipush 11, 2) := by decide +kernel
theorem dX4_placeOf_29 : decode cX4_placeOf 29 = .ok (.invokevirtual 36, 3) := by decide +kernel
theorem dX4_placeOf_32 : decode cX4_placeOf 32 = .ok (.aload_n 0, 1) := by decide +kernel
theorem dX4_placeOf_33 : decode cX4_placeOf 33 = .ok (.iload_n 1, 1) := by decide +kernel
theorem dX4_placeOf_34 : decode cX4_placeOf 34 = .ok (.bipush 11, 2) := by decide +kernel
theorem dX4_placeOf_36 : decode cX4_placeOf 36 = .ok (.invokevirtual 36, 3) := by decide +kernel
theorem dX4_placeOf_39 : decode cX4_placeOf 39 = .ok (.if_icmp .ge 7, 3) := by decide +kernel
theorem dX4_placeOf_42 : decode cX4_placeOf 42 = .ok (.iconst 1, 1) := by decide +kernel
theorem dX4_placeOf_43 : decode cX4_placeOf 43 = .ok (.goto 4, 3) := by decide +kernel
theorem dX4_placeOf_46 : decode cX4_placeOf 46 = .ok (.iconst 0, 1) := by decide +kernel
theorem dX4_placeOf_47 : decode cX4_placeOf 47 = .ok (.iadd, 1) := by decide +kernel
theorem dX4_placeOf_48 : decode cX4_placeOf 48 = .ok (.istore_n 2, 1) := by decide +kernel
theorem dX4_placeOf_49 : decode cX4_placeOf 49 = .ok (.iinc 3 1, 3) := by decide +kernel
theorem dX4_placeOf_52 : decode cX4_placeOf 52 = .ok (.goto (-48), 3) := by decide +kernel
theorem dX4_placeOf_55 : decode cX4_placeOf 55 = .ok (.iload_n 2, 1) := by decide +kernel
theorem dX4_placeOf_56 : decode cX4_placeOf 56 = .ok (.ireturn, 1) := by decide +kernel
theorem dX4_blockersOf_0 : decode cX4_blockersOf 0 = .ok (.aload_n 0, 1) := by decide +kernel
theorem dX4_blockersOf_1 : decode cX4_blockersOf 1 = .ok (.aload_n 0, 1) := by decide +kernel
theorem dX4_blockersOf_2 : decode cX4_blockersOf 2 = .ok (.iload_n 1, 1) := by decide +kernel
theorem dX4_blockersOf_3 : decode cX4_blockersOf 3 = .ok (.iconst 5, 1) := by decide +kernel
theorem dX4_blockersOf_4 : decode cX4_blockersOf 4 = .ok (.invokevirtual 36, 3) := by decide +kernel
theorem dX4_blockersOf_7 : decode cX4_blockersOf 7 = .ok (.invokevirtual 64, 3) := by decide +kernel
theorem dX4_blockersOf_10 : decode cX4_blockersOf 10 = .ok (.iconst 1, 1) := by decide +kernel
theorem dX4_blockersOf_11 : decode cX4_blockersOf 11 = .ok (.isub, 1) := by decide +kernel
theorem dX4_blockersOf_12 : decode cX4_blockersOf 12 = .ok (.aload_n 0, 1) := by decide +kernel
theorem dX4_blockersOf_13 : decode cX4_blockersOf 13 = .ok (.iload_n 1, 1) := by decide +kernel
theorem dX4_blockersOf_14 : decode cX4_blockersOf 14 = .ok (.invokevirtual 67, 3) := by decide +kernel
theorem dX4_blockersOf_17 : decode cX4_blockersOf 17 = .ok (.isub, 1) := by decide +kernel
theorem dX4_blockersOf_18 : decode cX4_blockersOf 18 = .ok (.ireturn, 1) := by decide +kernel
theorem dX4_boatAt_0 : decode cX4_boatAt 0 = .ok (.bipush (-5), 2) := by decide +kernel
theorem dX4_boatAt_2 : decode cX4_boatAt 2 = .ok (.istore_n 3, 1) := by decide +kernel
theorem dX4_boatAt_3 : decode cX4_boatAt 3 = .ok (.iconst 0, 1) := by decide +kernel
theorem dX4_boatAt_4 : decode cX4_boatAt 4 = .ok (.istore 4, 2) := by decide +kernel
theorem dX4_boatAt_6 : decode cX4_boatAt 6 = .ok (.iload 4, 2) := by decide +kernel
theorem dX4_boatAt_8 : decode cX4_boatAt 8 = .ok (.bipush 20, 2) := by decide +kernel
theorem dX4_boatAt_10 : decode cX4_boatAt 10 = .ok (.if_icmp .ge 36, 3) := by decide +kernel
theorem dX4_boatAt_13 : decode cX4_boatAt 13 = .ok (.aload_n 0, 1) := by decide +kernel
theorem dX4_boatAt_14 : decode cX4_boatAt 14 = .ok (.iload 4, 2) := by decide +kernel
theorem dX4_boatAt_16 : decode cX4_boatAt 16 = .ok (.iload_n 1, 1) := by decide +kernel
theorem dX4_boatAt_17 : decode cX4_boatAt 17 = .ok (.invokevirtual 54, 3) := by decide +kernel
theorem dX4_boatAt_20 : decode cX4_boatAt 20 = .ok (.ifCond .eq 18, 3) := by decide +kernel
theorem dX4_boatAt_23 : decode cX4_boatAt 23 = .ok (.aload_n 0, 1) := by decide +kernel
theorem dX4_boatAt_24 : decode cX4_boatAt 24 = .ok (.iload 4, 2) := by decide +kernel
theorem dX4_boatAt_26 : decode cX4_boatAt 26 = .ok (.invokevirtual 67, 3) := by decide +kernel
theorem dX4_boatAt_29 : decode cX4_boatAt 29 = .ok (.iload_n 2, 1) := by decide +kernel
theorem dX4_boatAt_30 : decode cX4_boatAt 30 = .ok (.if_icmp .ne 8, 3) := by decide +kernel
theorem dX4_boatAt_33 : decode cX4_boatAt 33 = .ok (.iload 4, 2) := by decide +kernel
theorem dX4_boatAt_35 : decode cX4_boatAt 35 = .ok (.goto 4, 3) := by decide +kernel
theorem dX4_boatAt_38 : decode cX4_boatAt 38 = .ok (.iload_n 3, 1) := by decide +kernel
theorem dX4_boatAt_39 : decode cX4_boatAt 39 = .ok (.istore_n 3, 1) := by decide +kernel
theorem dX4_boatAt_40 : decode cX4_boatAt 40 = .ok (.iinc 4 1, 3) := by decide +kernel
theorem dX4_boatAt_43 : decode cX4_boatAt 43 = .ok (.goto (-37), 3) := by decide +kernel
theorem dX4_boatAt_46 : decode cX4_boatAt 46 = .ok (.iload_n 3, 1) := by decide +kernel
theorem dX4_boatAt_47 : decode cX4_boatAt 47 = .ok (.ireturn, 1) := by decide +kernel
theorem dX4_stand_0 : decode cX4_stand 0 = .ok (.aload_n 0, 1) := by decide +kernel
theorem dX4_stand_1 : decode cX4_stand 1 = .ok (.iload_n 1, 1) := by decide +kernel
theorem dX4_stand_2 : decode cX4_stand 2 = .ok (.iconst 5, 1) := by decide +kernel
theorem dX4_stand_3 : decode cX4_stand 3 = .ok (.iload_n 2, 1) := by decide +kernel
theorem dX4_stand_4 : decode cX4_stand 4 = .ok (.invokevirtual 70, 3) := by decide +kernel
theorem dX4_stand_7 : decode cX4_stand 7 = .ok (.aload_n 0, 1) := by decide +kernel
theorem dX4_stand_8 : decode cX4_stand 8 = .ok (.iload_n 1, 1) := by decide +kernel
theorem dX4_stand_9 : decode cX4_stand 9 = .ok (.bipush 11, 2) := by decide +kernel
theorem dX4_stand_11 : decode cX4_stand 11 = .ok (.aload_n 0, 1) := by decide +kernel
theorem dX4_stand_12 : decode cX4_stand 12 = .ok (.getfield 7, 3) := by decide +kernel
theorem dX4_stand_15 : decode cX4_stand 15 = .ok (.bipush 7, 2) := by decide +kernel
theorem dX4_stand_17 : decode cX4_stand 17 = .ok (.iaload, 1) := by decide +kernel
theorem dX4_stand_18 : decode cX4_stand 18 = .ok (.invokevirtual 70, 3) := by decide +kernel
theorem dX4_stand_21 : decode cX4_stand 21 = .ok (.aload_n 0, 1) := by decide +kernel
theorem dX4_stand_22 : decode cX4_stand 22 = .ok (.getfield 7, 3) := by decide +kernel
theorem dX4_stand_25 : decode cX4_stand 25 = .ok (.bipush 7, 2) := by decide +kernel
theorem dX4_stand_27 : decode cX4_stand 27 = .ok (.dup2, 1) := by decide +kernel
theorem dX4_stand_28 : decode cX4_stand 28 = .ok (.iaload, 1) := by decide +kernel
theorem dX4_stand_29 : decode cX4_stand 29 = .ok (.iconst 1, 1) := by decide +kernel
theorem dX4_stand_30 : decode cX4_stand 30 = .ok (.iadd, 1) := by decide +kernel
theorem dX4_stand_31 : decode cX4_stand 31 = .ok (.iastore, 1) := by decide +kernel
theorem dX4_stand_32 : decode cX4_stand 32 = .ok (.return_, 1) := by decide +kernel
theorem dX4_mastsIn_0 : decode cX4_mastsIn 0 = .ok (.iconst 0, 1) := by decide +kernel
theorem dX4_mastsIn_1 : decode cX4_mastsIn 1 = .ok (.istore_n 2, 1) := by decide +kernel
theorem dX4_mastsIn_2 : decode cX4_mastsIn 2 = .ok (.iconst 0, 1) := by decide +kernel
theorem dX4_mastsIn_3 : decode cX4_mastsIn 3 = .ok (.istore_n 3, 1) := by decide +kernel
theorem dX4_mastsIn_4 : decode cX4_mastsIn 4 = .ok (.iload_n 3, 1) := by decide +kernel
theorem dX4_mastsIn_5 : decode cX4_mastsIn 5 = .ok (.bipush 20, 2) := by decide +kernel
theorem dX4_mastsIn_7 : decode cX4_mastsIn 7 = .ok (.if_icmp .ge 38, 3) := by decide +kernel
theorem dX4_mastsIn_10 : decode cX4_mastsIn 10 = .ok (.iload_n 2, 1) := by decide +kernel
theorem dX4_mastsIn_11 : decode cX4_mastsIn 11 = .ok (.aload_n 0, 1) := by decide +kernel
theorem dX4_mastsIn_12 : decode cX4_mastsIn 12 = .ok (.iload_n 3, 1) := by decide +kernel
theorem dX4_mastsIn_13 : decode cX4_mastsIn 13 = .ok (.iconst 0, 1) := by decide +kernel
theorem dX4_mastsIn_14 : decode cX4_mastsIn 14 = .ok (.invokevirtual 36, 3) := by decide +kernel
theorem dX4_mastsIn_17 : decode cX4_mastsIn 17 = .ok (.iconst 1, 1) := by decide +kernel
theorem dX4_mastsIn_18 : decode cX4_mastsIn 18 = .ok (.if_icmp .ne 18, 3) := by decide +kernel
theorem dX4_mastsIn_21 : decode cX4_mastsIn 21 = .ok (.aload_n 0, 1) := by decide +kernel
theorem dX4_mastsIn_22 : decode cX4_mastsIn 22 = .ok (.iload_n 3, 1) := by decide +kernel
theorem dX4_mastsIn_23 : decode cX4_mastsIn 23 = .ok (.bipush 7, 2) := by decide +kernel
theorem dX4_mastsIn_25 : decode cX4_mastsIn 25 = .ok (.invokevirtual 36, 3) := by decide +kernel
theorem dX4_mastsIn_28 : decode cX4_mastsIn 28 = .ok (.iload_n 1, 1) := by decide +kernel
theorem dX4_mastsIn_29 : decode cX4_mastsIn 29 = .ok (.if_icmp .ne 7, 3) := by decide +kernel
theorem dX4_mastsIn_32 : decode cX4_mastsIn 32 = .ok (.iconst 1, 1) := by decide +kernel
theorem dX4_mastsIn_33 : decode cX4_mastsIn 33 = .ok (.goto 4, 3) := by decide +kernel
theorem dX4_mastsIn_36 : decode cX4_mastsIn 36 = .ok (.iconst 0, 1) := by decide +kernel
theorem dX4_mastsIn_37 : decode cX4_mastsIn 37 = .ok (.iadd, 1) := by decide +kernel
theorem dX4_mastsIn_38 : decode cX4_mastsIn 38 = .ok (.istore_n 2, 1) := by decide +kernel
theorem dX4_mastsIn_39 : decode cX4_mastsIn 39 = .ok (.iinc 3 1, 3) := by decide +kernel
theorem dX4_mastsIn_42 : decode cX4_mastsIn 42 = .ok (.goto (-38), 3) := by decide +kernel
theorem dX4_mastsIn_45 : decode cX4_mastsIn 45 = .ok (.iload_n 2, 1) := by decide +kernel
theorem dX4_mastsIn_46 : decode cX4_mastsIn 46 = .ok (.ireturn, 1) := by decide +kernel
theorem dX4_boats_0 : decode cX4_boats 0 = .ok (.iconst 0, 1) := by decide +kernel
theorem dX4_boats_1 : decode cX4_boats 1 = .ok (.istore_n 1, 1) := by decide +kernel
theorem dX4_boats_2 : decode cX4_boats 2 = .ok (.iconst 0, 1) := by decide +kernel
theorem dX4_boats_3 : decode cX4_boats 3 = .ok (.istore_n 2, 1) := by decide +kernel
theorem dX4_boats_4 : decode cX4_boats 4 = .ok (.iload_n 2, 1) := by decide +kernel
theorem dX4_boats_5 : decode cX4_boats 5 = .ok (.bipush 20, 2) := by decide +kernel
theorem dX4_boats_7 : decode cX4_boats 7 = .ok (.if_icmp .ge 18, 3) := by decide +kernel
theorem dX4_boats_10 : decode cX4_boats 10 = .ok (.iload_n 1, 1) := by decide +kernel
theorem dX4_boats_11 : decode cX4_boats 11 = .ok (.aload_n 0, 1) := by decide +kernel
theorem dX4_boats_12 : decode cX4_boats 12 = .ok (.iload_n 2, 1) := by decide +kernel
theorem dX4_boats_13 : decode cX4_boats 13 = .ok (.iconst 0, 1) := by decide +kernel
theorem dX4_boats_14 : decode cX4_boats 14 = .ok (.invokevirtual 36, 3) := by decide +kernel
theorem dX4_boats_17 : decode cX4_boats 17 = .ok (.iadd, 1) := by decide +kernel
theorem dX4_boats_18 : decode cX4_boats 18 = .ok (.istore_n 1, 1) := by decide +kernel
theorem dX4_boats_19 : decode cX4_boats 19 = .ok (.iinc 2 1, 3) := by decide +kernel
theorem dX4_boats_22 : decode cX4_boats 22 = .ok (.goto (-18), 3) := by decide +kernel
theorem dX4_boats_25 : decode cX4_boats 25 = .ok (.iload_n 1, 1) := by decide +kernel
theorem dX4_boats_26 : decode cX4_boats 26 = .ok (.ireturn, 1) := by decide +kernel
theorem dX4_push_0 : decode cX4_push 0 = .ok (.aload_n 0, 1) := by decide +kernel
theorem dX4_push_1 : decode cX4_push 1 = .ok (.getfield 74, 3) := by decide +kernel
theorem dX4_push_4 : decode cX4_push 4 = .ok (.iconst 4, 1) := by decide +kernel
theorem dX4_push_5 : decode cX4_push 5 = .ok (.if_icmp .ne 44, 3) := by decide +kernel
theorem dX4_push_8 : decode cX4_push 8 = .ok (.iconst 0, 1) := by decide +kernel
theorem dX4_push_9 : decode cX4_push 9 = .ok (.istore_n 2, 1) := by decide +kernel
theorem dX4_push_10 : decode cX4_push 10 = .ok (.iload_n 2, 1) := by decide +kernel
theorem dX4_push_11 : decode cX4_push 11 = .ok (.sipush 765, 3) := by decide +kernel
theorem dX4_push_14 : decode cX4_push 14 = .ok (.if_icmp .ge 25, 3) := by decide +kernel
theorem dX4_push_17 : decode cX4_push 17 = .ok (.aload_n 0, 1) := by decide +kernel
theorem dX4_push_18 : decode cX4_push 18 = .ok (.getfield 16, 3) := by decide +kernel
theorem dX4_push_21 : decode cX4_push 21 = .ok (.iload_n 2, 1) := by decide +kernel
theorem dX4_push_22 : decode cX4_push 22 = .ok (.aload_n 0, 1) := by decide +kernel
theorem dX4_push_23 : decode cX4_push 23 = .ok (.getfield 16, 3) := by decide +kernel
theorem dX4_push_26 : decode cX4_push 26 = .ok (.sipush 255, 3) := by decide +kernel
theorem dX4_push_29 : decode cX4_push 29 = .ok (.iload_n 2, 1) := by decide +kernel
theorem dX4_push_30 : decode cX4_push 30 = .ok (.iadd, 1) := by decide +kernel
theorem dX4_push_31 : decode cX4_push 31 = .ok (.iaload, 1) := by decide +kernel
theorem dX4_push_32 : decode cX4_push 32 = .ok (.iastore, 1) := by decide +kernel
theorem dX4_push_33 : decode cX4_push 33 = .ok (.iinc 2 1, 3) := by decide +kernel
theorem dX4_push_36 : decode cX4_push 36 = .ok (.goto (-26), 3) := by decide +kernel
theorem dX4_push_39 : decode cX4_push 39 = .ok (.aload_n 0, 1) := by decide +kernel
theorem dX4_push_40 : decode cX4_push 40 = .ok (.dup, 1) := by decide +kernel
theorem dX4_push_41 : decode cX4_push 41 = .ok (.getfield 74, 3) := by decide +kernel
theorem dX4_push_44 : decode cX4_push 44 = .ok (.iconst 1, 1) := by decide +kernel
theorem dX4_push_45 : decode cX4_push 45 = .ok (.isub, 1) := by decide +kernel
theorem dX4_push_46 : decode cX4_push 46 = .ok (.putfield 74, 3) := by decide +kernel
theorem dX4_push_49 : decode cX4_push 49 = .ok (.iconst 0, 1) := by decide +kernel
theorem dX4_push_50 : decode cX4_push 50 = .ok (.istore_n 2, 1) := by decide +kernel
theorem dX4_push_51 : decode cX4_push 51 = .ok (.iload_n 2, 1) := by decide +kernel
theorem dX4_push_52 : decode cX4_push 52 = .ok (.sipush 255, 3) := by decide +kernel
theorem dX4_push_55 : decode cX4_push 55 = .ok (.if_icmp .ge 27, 3) := by decide +kernel
theorem dX4_push_58 : decode cX4_push 58 = .ok (.aload_n 0, 1) := by decide +kernel
theorem dX4_push_59 : decode cX4_push 59 = .ok (.getfield 16, 3) := by decide +kernel
theorem dX4_push_62 : decode cX4_push 62 = .ok (.sipush 255, 3) := by decide +kernel
theorem dX4_push_65 : decode cX4_push 65 = .ok (.aload_n 0, 1) := by decide +kernel
theorem dX4_push_66 : decode cX4_push 66 = .ok (.getfield 74, 3) := by decide +kernel
theorem dX4_push_69 : decode cX4_push 69 = .ok (.imul, 1) := by decide +kernel
theorem dX4_push_70 : decode cX4_push 70 = .ok (.iload_n 2, 1) := by decide +kernel
theorem dX4_push_71 : decode cX4_push 71 = .ok (.iadd, 1) := by decide +kernel
theorem dX4_push_72 : decode cX4_push 72 = .ok (.aload_n 1, 1) := by decide +kernel
theorem dX4_push_73 : decode cX4_push 73 = .ok (.iload_n 2, 1) := by decide +kernel
theorem dX4_push_74 : decode cX4_push 74 = .ok (.iaload, 1) := by decide +kernel
theorem dX4_push_75 : decode cX4_push 75 = .ok (.iastore, 1) := by decide +kernel
theorem dX4_push_76 : decode cX4_push 76 = .ok (.iinc 2 1, 3) := by decide +kernel
theorem dX4_push_79 : decode cX4_push 79 = .ok (.goto (-28), 3) := by decide +kernel
theorem dX4_push_82 : decode cX4_push 82 = .ok (.aload_n 0, 1) := by decide +kernel
theorem dX4_push_83 : decode cX4_push 83 = .ok (.dup, 1) := by decide +kernel
theorem dX4_push_84 : decode cX4_push 84 = .ok (.getfield 74, 3) := by decide +kernel
theorem dX4_push_87 : decode cX4_push 87 = .ok (.iconst 1, 1) := by decide +kernel
theorem dX4_push_88 : decode cX4_push 88 = .ok (.iadd, 1) := by decide +kernel
theorem dX4_push_89 : decode cX4_push 89 = .ok (.putfield 74, 3) := by decide +kernel
theorem dX4_push_92 : decode cX4_push 92 = .ok (.return_, 1) := by decide +kernel
theorem dX4_undo_0 : decode cX4_undo 0 = .ok (.aload_n 0, 1) := by decide +kernel
theorem dX4_undo_1 : decode cX4_undo 1 = .ok (.getfield 74, 3) := by decide +kernel
theorem dX4_undo_4 : decode cX4_undo 4 = .ok (.ifCond .ne 6, 3) := by decide +kernel
theorem dX4_undo_7 : decode cX4_undo 7 = .ok (.bipush (-5), 2) := by decide +kernel
theorem dX4_undo_9 : decode cX4_undo 9 = .ok (.ireturn, 1) := by decide +kernel
theorem dX4_undo_10 : decode cX4_undo 10 = .ok (.aload_n 0, 1) := by decide +kernel
theorem dX4_undo_11 : decode cX4_undo 11 = .ok (.dup, 1) := by decide +kernel
theorem dX4_undo_12 : decode cX4_undo 12 = .ok (.getfield 74, 3) := by decide +kernel
theorem dX4_undo_15 : decode cX4_undo 15 = .ok (.iconst 1, 1) := by decide +kernel
theorem dX4_undo_16 : decode cX4_undo 16 = .ok (.isub, 1) := by decide +kernel
theorem dX4_undo_17 : decode cX4_undo 17 = .ok (.putfield 74, 3) := by decide +kernel
theorem dX4_undo_20 : decode cX4_undo 20 = .ok (.iconst 0, 1) := by decide +kernel
theorem dX4_undo_21 : decode cX4_undo 21 = .ok (.istore_n 1, 1) := by decide +kernel
theorem dX4_undo_22 : decode cX4_undo 22 = .ok (.iload_n 1, 1) := by decide +kernel
theorem dX4_undo_23 : decode cX4_undo 23 = .ok (.sipush 255, 3) := by decide +kernel
theorem dX4_undo_26 : decode cX4_undo 26 = .ok (.if_icmp .ge 30, 3) := by decide +kernel
theorem dX4_undo_29 : decode cX4_undo 29 = .ok (.aload_n 0, 1) := by decide +kernel
theorem dX4_undo_30 : decode cX4_undo 30 = .ok (.getfield 7, 3) := by decide +kernel
theorem dX4_undo_33 : decode cX4_undo 33 = .ok (.iload_n 1, 1) := by decide +kernel
theorem dX4_undo_34 : decode cX4_undo 34 = .ok (.aload_n 0, 1) := by decide +kernel
theorem dX4_undo_35 : decode cX4_undo 35 = .ok (.getfield 16, 3) := by decide +kernel
theorem dX4_undo_38 : decode cX4_undo 38 = .ok (.sipush 255, 3) := by decide +kernel
theorem dX4_undo_41 : decode cX4_undo 41 = .ok (.aload_n 0, 1) := by decide +kernel
theorem dX4_undo_42 : decode cX4_undo 42 = .ok (.getfield 74, 3) := by decide +kernel
theorem dX4_undo_45 : decode cX4_undo 45 = .ok (.imul, 1) := by decide +kernel
theorem dX4_undo_46 : decode cX4_undo 46 = .ok (.iload_n 1, 1) := by decide +kernel
theorem dX4_undo_47 : decode cX4_undo 47 = .ok (.iadd, 1) := by decide +kernel
theorem dX4_undo_48 : decode cX4_undo 48 = .ok (.iaload, 1) := by decide +kernel
theorem dX4_undo_49 : decode cX4_undo 49 = .ok (.iastore, 1) := by decide +kernel
theorem dX4_undo_50 : decode cX4_undo 50 = .ok (.iinc 1 1, 3) := by decide +kernel
theorem dX4_undo_53 : decode cX4_undo 53 = .ok (.goto (-31), 3) := by decide +kernel
theorem dX4_undo_56 : decode cX4_undo 56 = .ok (.aload_n 0, 1) := by decide +kernel
theorem dX4_undo_57 : decode cX4_undo 57 = .ok (.getfield 74, 3) := by decide +kernel
theorem dX4_undo_60 : decode cX4_undo 60 = .ok (.ireturn, 1) := by decide +kernel
theorem dX4_keep_0 : decode cX4_keep 0 = .ok (.iconst 0, 1) := by decide +kernel
theorem dX4_keep_1 : decode cX4_keep 1 = .ok (.istore_n 1, 1) := by decide +kernel
theorem dX4_keep_2 : decode cX4_keep 2 = .ok (.iload_n 1, 1) := by decide +kernel
theorem dX4_keep_3 : decode cX4_keep 3 = .ok (.sipush 255, 3) := by decide +kernel
theorem dX4_keep_6 : decode cX4_keep 6 = .ok (.if_icmp .ge 21, 3) := by decide +kernel
theorem dX4_keep_9 : decode cX4_keep 9 = .ok (.aload_n 0, 1) := by decide +kernel
theorem dX4_keep_10 : decode cX4_keep 10 = .ok (.getfield 19, 3) := by decide +kernel
theorem dX4_keep_13 : decode cX4_keep 13 = .ok (.iload_n 1, 1) := by decide +kernel
theorem dX4_keep_14 : decode cX4_keep 14 = .ok (.aload_n 0, 1) := by decide +kernel
theorem dX4_keep_15 : decode cX4_keep 15 = .ok (.getfield 7, 3) := by decide +kernel
theorem dX4_keep_18 : decode cX4_keep 18 = .ok (.iload_n 1, 1) := by decide +kernel
theorem dX4_keep_19 : decode cX4_keep 19 = .ok (.iaload, 1) := by decide +kernel
theorem dX4_keep_20 : decode cX4_keep 20 = .ok (.iastore, 1) := by decide +kernel
theorem dX4_keep_21 : decode cX4_keep 21 = .ok (.iinc 1 1, 3) := by decide +kernel
theorem dX4_keep_24 : decode cX4_keep 24 = .ok (.goto (-22), 3) := by decide +kernel
theorem dX4_keep_27 : decode cX4_keep 27 = .ok (.aload_n 0, 1) := by decide +kernel
theorem dX4_keep_28 : decode cX4_keep 28 = .ok (.iconst 1, 1) := by decide +kernel
theorem dX4_keep_29 : decode cX4_keep 29 = .ok (.putfield 77, 3) := by decide +kernel
theorem dX4_keep_32 : decode cX4_keep 32 = .ok (.aload_n 0, 1) := by decide +kernel
theorem dX4_keep_33 : decode cX4_keep 33 = .ok (.invokevirtual 81, 3) := by decide +kernel
theorem dX4_keep_36 : decode cX4_keep 36 = .ok (.ireturn, 1) := by decide +kernel
theorem dX4_restore_0 : decode cX4_restore 0 = .ok (.aload_n 0, 1) := by decide +kernel
theorem dX4_restore_1 : decode cX4_restore 1 = .ok (.getfield 77, 3) := by decide +kernel
theorem dX4_restore_4 : decode cX4_restore 4 = .ok (.ifCond .ne 6, 3) := by decide +kernel
theorem dX4_restore_7 : decode cX4_restore 7 = .ok (.bipush (-5), 2) := by decide +kernel
theorem dX4_restore_9 : decode cX4_restore 9 = .ok (.ireturn, 1) := by decide +kernel
theorem dX4_restore_10 : decode cX4_restore 10 = .ok (.aload_n 0, 1) := by decide +kernel
theorem dX4_restore_11 : decode cX4_restore 11 = .ok (.aload_n 0, 1) := by decide +kernel
theorem dX4_restore_12 : decode cX4_restore 12 = .ok (.getfield 7, 3) := by decide +kernel
theorem dX4_restore_15 : decode cX4_restore 15 = .ok (.invokevirtual 85, 3) := by decide +kernel
theorem dX4_restore_18 : decode cX4_restore 18 = .ok (.iconst 0, 1) := by decide +kernel
theorem dX4_restore_19 : decode cX4_restore 19 = .ok (.istore_n 1, 1) := by decide +kernel
theorem dX4_restore_20 : decode cX4_restore 20 = .ok (.iload_n 1, 1) := by decide +kernel
theorem dX4_restore_21 : decode cX4_restore 21 = .ok (.sipush 255, 3) := by decide +kernel
theorem dX4_restore_24 : decode cX4_restore 24 = .ok (.if_icmp .ge 21, 3) := by decide +kernel
theorem dX4_restore_27 : decode cX4_restore 27 = .ok (.aload_n 0, 1) := by decide +kernel
theorem dX4_restore_28 : decode cX4_restore 28 = .ok (.getfield 7, 3) := by decide +kernel
theorem dX4_restore_31 : decode cX4_restore 31 = .ok (.iload_n 1, 1) := by decide +kernel
theorem dX4_restore_32 : decode cX4_restore 32 = .ok (.aload_n 0, 1) := by decide +kernel
theorem dX4_restore_33 : decode cX4_restore 33 = .ok (.getfield 19, 3) := by decide +kernel
theorem dX4_restore_36 : decode cX4_restore 36 = .ok (.iload_n 1, 1) := by decide +kernel
theorem dX4_restore_37 : decode cX4_restore 37 = .ok (.iaload, 1) := by decide +kernel
theorem dX4_restore_38 : decode cX4_restore 38 = .ok (.iastore, 1) := by decide +kernel
theorem dX4_restore_39 : decode cX4_restore 39 = .ok (.iinc 1 1, 3) := by decide +kernel
theorem dX4_restore_42 : decode cX4_restore 42 = .ok (.goto (-22), 3) := by decide +kernel
theorem dX4_restore_45 : decode cX4_restore 45 = .ok (.aload_n 0, 1) := by decide +kernel
theorem dX4_restore_46 : decode cX4_restore 46 = .ok (.invokevirtual 81, 3) := by decide +kernel
theorem dX4_restore_49 : decode cX4_restore 49 = .ok (.ireturn, 1) := by decide +kernel
theorem dX4_come_0 : decode cX4_come 0 = .ok (.iload 4, 2) := by decide +kernel
theorem dX4_come_2 : decode cX4_come 2 = .ok (.invokestatic 89, 3) := by decide +kernel
theorem dX4_come_5 : decode cX4_come 5 = .ok (.ifCond .ne 5, 3) := by decide +kernel
theorem dX4_come_8 : decode cX4_come 8 = .ok (.iconst (-1), 1) := by decide +kernel
theorem dX4_come_9 : decode cX4_come 9 = .ok (.ireturn, 1) := by decide +kernel
theorem dX4_come_10 : decode cX4_come 10 = .ok (.iload_n 1, 1) := by decide +kernel
theorem dX4_come_11 : decode cX4_come 11 = .ok (.iconst 3, 1) := by decide +kernel
theorem dX4_come_12 : decode cX4_come 12 = .ok (.bipush 20, 2) := by decide +kernel
theorem dX4_come_14 : decode cX4_come 14 = .ok (.invokestatic 32, 3) := by decide +kernel
theorem dX4_come_17 : decode cX4_come 17 = .ok (.ifCond .eq 23, 3) := by decide +kernel
theorem dX4_come_20 : decode cX4_come 20 = .ok (.iload_n 2, 1) := by decide +kernel
theorem dX4_come_21 : decode cX4_come 21 = .ok (.iconst 5, 1) := by decide +kernel
theorem dX4_come_22 : decode cX4_come 22 = .ok (.bipush 40, 2) := by decide +kernel
theorem dX4_come_24 : decode cX4_come 24 = .ok (.invokestatic 32, 3) := by decide +kernel
theorem dX4_come_27 : decode cX4_come 27 = .ok (.ifCond .eq 13, 3) := by decide +kernel
theorem dX4_come_30 : decode cX4_come 30 = .ok (.iload_n 3, 1) := by decide +kernel
theorem dX4_come_31 : decode cX4_come 31 = .ok (.iconst 1, 1) := by decide +kernel
theorem dX4_come_32 : decode cX4_come 32 = .ok (.bipush 30, 2) := by decide +kernel
theorem dX4_come_34 : decode cX4_come 34 = .ok (.invokestatic 32, 3) := by decide +kernel
theorem dX4_come_37 : decode cX4_come 37 = .ok (.ifCond .ne 6, 3) := by decide +kernel
theorem dX4_come_40 : decode cX4_come 40 = .ok (.bipush (-2), 2) := by decide +kernel
theorem dX4_come_42 : decode cX4_come 42 = .ok (.ireturn, 1) := by decide +kernel
theorem dX4_come_43 : decode cX4_come 43 = .ok (.aload_n 0, 1) := by decide +kernel
theorem dX4_come_44 : decode cX4_come 44 = .ok (.invokevirtual 81, 3) := by decide +kernel
theorem dX4_come_47 : decode cX4_come 47 = .ok (.bipush 20, 2) := by decide +kernel
theorem dX4_come_49 : decode cX4_come 49 = .ok (.if_icmp .ne 6, 3) := by decide +kernel
theorem dX4_come_52 : decode cX4_come 52 = .ok (.bipush (-3), 2) := by decide +kernel
theorem dX4_come_54 : decode cX4_come 54 = .ok (.ireturn, 1) := by decide +kernel
theorem dX4_come_55 : decode cX4_come 55 = .ok (.aload_n 0, 1) := by decide +kernel
theorem dX4_come_56 : decode cX4_come 56 = .ok (.aload_n 0, 1) := by decide +kernel
theorem dX4_come_57 : decode cX4_come 57 = .ok (.getfield 7, 3) := by decide +kernel
theorem dX4_come_60 : decode cX4_come 60 = .ok (.invokevirtual 85, 3) := by decide +kernel
theorem dX4_come_63 : decode cX4_come 63 = .ok (.iconst 0, 1) := by decide +kernel
theorem dX4_come_64 : decode cX4_come 64 = .ok (.istore 5, 2) := by decide +kernel
theorem dX4_come_66 : decode cX4_come 66 = .ok (.aload_n 0, 1) := by decide +kernel
theorem dX4_come_67 : decode cX4_come 67 = .ok (.iload 5, 2) := by decide +kernel
theorem dX4_come_69 : decode cX4_come 69 = .ok (.iconst 0, 1) := by decide +kernel
theorem dX4_come_70 : decode cX4_come 70 = .ok (.invokevirtual 36, 3) := by decide +kernel
theorem dX4_come_73 : decode cX4_come 73 = .ok (.iconst 1, 1) := by decide +kernel
theorem dX4_come_74 : decode cX4_come 74 = .ok (.if_icmp .ne 9, 3) := by decide +kernel
theorem dX4_come_77 : decode cX4_come 77 = .ok (.iinc 5 1, 3) := by decide +kernel
theorem dX4_come_80 : decode cX4_come 80 = .ok (.goto (-14), 3) := by decide +kernel
theorem dX4_come_83 : decode cX4_come 83 = .ok (.aload_n 0, 1) := by decide +kernel
theorem dX4_come_84 : decode cX4_come 84 = .ok (.iload 5, 2) := by decide +kernel
theorem dX4_come_86 : decode cX4_come 86 = .ok (.iconst 0, 1) := by decide +kernel
theorem dX4_come_87 : decode cX4_come 87 = .ok (.iconst 1, 1) := by decide +kernel
theorem dX4_come_88 : decode cX4_come 88 = .ok (.invokevirtual 70, 3) := by decide +kernel
theorem dX4_come_91 : decode cX4_come 91 = .ok (.aload_n 0, 1) := by decide +kernel
theorem dX4_come_92 : decode cX4_come 92 = .ok (.iload 5, 2) := by decide +kernel
theorem dX4_come_94 : decode cX4_come 94 = .ok (.iconst 1, 1) := by decide +kernel
theorem dX4_come_95 : decode cX4_come 95 = .ok (.iload_n 1, 1) := by decide +kernel
theorem dX4_come_96 : decode cX4_come 96 = .ok (.invokevirtual 70, 3) := by decide +kernel
theorem dX4_come_99 : decode cX4_come 99 = .ok (.aload_n 0, 1) := by decide +kernel
theorem dX4_come_100 : decode cX4_come 100 = .ok (.iload 5, 2) := by decide +kernel
theorem dX4_come_102 : decode cX4_come 102 = .ok (.iconst 2, 1) := by decide +kernel
theorem dX4_come_103 : decode cX4_come 103 = .ok (.iload_n 2, 1) := by decide +kernel
theorem dX4_come_104 : decode cX4_come 104 = .ok (.invokevirtual 70, 3) := by decide +kernel
theorem dX4_come_107 : decode cX4_come 107 = .ok (.aload_n 0, 1) := by decide +kernel
theorem dX4_come_108 : decode cX4_come 108 = .ok (.iload 5, 2) := by decide +kernel
theorem dX4_come_110 : decode cX4_come 110 = .ok (.iconst 3, 1) := by decide +kernel
theorem dX4_come_111 : decode cX4_come 111 = .ok (.iload_n 3, 1) := by decide +kernel
theorem dX4_come_112 : decode cX4_come 112 = .ok (.invokevirtual 70, 3) := by decide +kernel
theorem dX4_come_115 : decode cX4_come 115 = .ok (.aload_n 0, 1) := by decide +kernel
theorem dX4_come_116 : decode cX4_come 116 = .ok (.iload 5, 2) := by decide +kernel
theorem dX4_come_118 : decode cX4_come 118 = .ok (.iconst 4, 1) := by decide +kernel
theorem dX4_come_119 : decode cX4_come 119 = .ok (.iload 4, 2) := by decide +kernel
theorem dX4_come_121 : decode cX4_come 121 = .ok (.invokevirtual 70, 3) := by decide +kernel
theorem dX4_come_124 : decode cX4_come 124 = .ok (.aload_n 0, 1) := by decide +kernel
theorem dX4_come_125 : decode cX4_come 125 = .ok (.iload 5, 2) := by decide +kernel
theorem dX4_come_127 : decode cX4_come 127 = .ok (.iconst 5, 1) := by decide +kernel
theorem dX4_come_128 : decode cX4_come 128 = .ok (.bipush (-5), 2) := by decide +kernel
theorem dX4_come_130 : decode cX4_come 130 = .ok (.invokevirtual 70, 3) := by decide +kernel
theorem dX4_come_133 : decode cX4_come 133 = .ok (.aload_n 0, 1) := by decide +kernel
theorem dX4_come_134 : decode cX4_come 134 = .ok (.iload 5, 2) := by decide +kernel
theorem dX4_come_136 : decode cX4_come 136 = .ok (.bipush 6, 2) := by decide +kernel
theorem dX4_come_138 : decode cX4_come 138 = .ok (.bipush (-5), 2) := by decide +kernel
theorem dX4_come_140 : decode cX4_come 140 = .ok (.invokevirtual 70, 3) := by decide +kernel
theorem dX4_come_143 : decode cX4_come 143 = .ok (.aload_n 0, 1) := by decide +kernel
theorem dX4_come_144 : decode cX4_come 144 = .ok (.iload 5, 2) := by decide +kernel
theorem dX4_come_146 : decode cX4_come 146 = .ok (.bipush 7, 2) := by decide +kernel
theorem dX4_come_148 : decode cX4_come 148 = .ok (.bipush (-5), 2) := by decide +kernel
theorem dX4_come_150 : decode cX4_come 150 = .ok (.invokevirtual 70, 3) := by decide +kernel
theorem dX4_come_153 : decode cX4_come 153 = .ok (.aload_n 0, 1) := by decide +kernel
theorem dX4_come_154 : decode cX4_come 154 = .ok (.iload 5, 2) := by decide +kernel
theorem dX4_come_156 : decode cX4_come 156 = .ok (.bipush 8, 2) := by decide +kernel
theorem dX4_come_158 : decode cX4_come 158 = .ok (.iconst 0, 1) := by decide +kernel
theorem dX4_come_159 : decode cX4_come 159 = .ok (.invokevirtual 70, 3) := by decide +kernel
theorem dX4_come_162 : decode cX4_come 162 = .ok (.aload_n 0, 1) := by decide +kernel
theorem dX4_come_163 : decode cX4_come 163 = .ok (.iload 5, 2) := by decide +kernel
theorem dX4_come_165 : decode cX4_come 165 = .ok (.bipush 9, 2) := by decide +kernel
theorem dX4_come_167 : decode cX4_come 167 = .ok (.iconst 0, 1) := by decide +kernel
theorem dX4_come_168 : decode cX4_come 168 = .ok (.invokevirtual 70, 3) := by decide +kernel
theorem dX4_come_171 : decode cX4_come 171 = .ok (.aload_n 0, 1) := by decide +kernel
theorem dX4_come_172 : decode cX4_come 172 = .ok (.iload 5, 2) := by decide +kernel
theorem dX4_come_174 : decode cX4_come 174 = .ok (.bipush 10, 2) := by decide +kernel
theorem dX4_come_176 : decode cX4_come 176 = .ok (.iconst 0, 1) := by decide +kernel
theorem dX4_come_177 : decode cX4_come 177 = .ok (.invokevirtual 70, 3) := by decide +kernel
theorem dX4_come_180 : decode cX4_come 180 = .ok (.iload 5, 2) := by decide +kernel
theorem dX4_come_182 : decode cX4_come 182 = .ok (.ireturn, 1) := by decide +kernel
theorem dX4_goAway_0 : decode cX4_goAway 0 = .ok (.aload_n 0, 1) := by decide +kernel
theorem dX4_goAway_1 : decode cX4_goAway 1 = .ok (.iload_n 1, 1) := by decide +kernel
theorem dX4_goAway_2 : decode cX4_goAway 2 = .ok (.invokevirtual 92, 3) := by decide +kernel
theorem dX4_goAway_5 : decode cX4_goAway 5 = .ok (.ifCond .ne 5, 3) := by decide +kernel
theorem dX4_goAway_8 : decode cX4_goAway 8 = .ok (.iconst (-1), 1) := by decide +kernel
theorem dX4_goAway_9 : decode cX4_goAway 9 = .ok (.ireturn, 1) := by decide +kernel
theorem dX4_goAway_10 : decode cX4_goAway 10 = .ok (.aload_n 0, 1) := by decide +kernel
theorem dX4_goAway_11 : decode cX4_goAway 11 = .ok (.iload_n 1, 1) := by decide +kernel
theorem dX4_goAway_12 : decode cX4_goAway 12 = .ok (.invokevirtual 40, 3) := by decide +kernel
theorem dX4_goAway_15 : decode cX4_goAway 15 = .ok (.ifCond .ne 13, 3) := by decide +kernel
theorem dX4_goAway_18 : decode cX4_goAway 18 = .ok (.aload_n 0, 1) := by decide +kernel
theorem dX4_goAway_19 : decode cX4_goAway 19 = .ok (.iload_n 1, 1) := by decide +kernel
theorem dX4_goAway_20 : decode cX4_goAway 20 = .ok (.bipush 7, 2) := by decide +kernel
theorem dX4_goAway_22 : decode cX4_goAway 22 = .ok (.invokevirtual 36, 3) := by decide +kernel
theorem dX4_goAway_25 : decode cX4_goAway 25 = .ok (.ifCond .lt 6, 3) := by decide +kernel
theorem dX4_goAway_28 : decode cX4_goAway 28 = .ok (.bipush (-4), 2) := by decide +kernel
theorem dX4_goAway_30 : decode cX4_goAway 30 = .ok (.ireturn, 1) := by decide +kernel
theorem dX4_goAway_31 : decode cX4_goAway 31 = .ok (.aload_n 0, 1) := by decide +kernel
theorem dX4_goAway_32 : decode cX4_goAway 32 = .ok (.aload_n 0, 1) := by decide +kernel
theorem dX4_goAway_33 : decode cX4_goAway 33 = .ok (.getfield 7, 3) := by decide +kernel
theorem dX4_goAway_36 : decode cX4_goAway 36 = .ok (.invokevirtual 85, 3) := by decide +kernel
theorem dX4_goAway_39 : decode cX4_goAway 39 = .ok (.aload_n 0, 1) := by decide +kernel
theorem dX4_goAway_40 : decode cX4_goAway 40 = .ok (.iload_n 1, 1) := by decide +kernel
theorem dX4_goAway_41 : decode cX4_goAway 41 = .ok (.iconst 0, 1) := by decide +kernel
theorem dX4_goAway_42 : decode cX4_goAway 42 = .ok (.iconst 0, 1) := by decide +kernel
theorem dX4_goAway_43 : decode cX4_goAway 43 = .ok (.invokevirtual 70, 3) := by decide +kernel
theorem dX4_goAway_46 : decode cX4_goAway 46 = .ok (.aload_n 0, 1) := by decide +kernel
theorem dX4_goAway_47 : decode cX4_goAway 47 = .ok (.invokevirtual 81, 3) := by decide +kernel
theorem dX4_goAway_50 : decode cX4_goAway 50 = .ok (.ireturn, 1) := by decide +kernel
theorem dX4_change_0 : decode cX4_change 0 = .ok (.aload_n 0, 1) := by decide +kernel
theorem dX4_change_1 : decode cX4_change 1 = .ok (.getfield 7, 3) := by decide +kernel
theorem dX4_change_4 : decode cX4_change 4 = .ok (.iload_n 1, 1) := by decide +kernel
theorem dX4_change_5 : decode cX4_change 5 = .ok (.iaload, 1) := by decide +kernel
theorem dX4_change_6 : decode cX4_change 6 = .ok (.iload_n 2, 1) := by decide +kernel
theorem dX4_change_7 : decode cX4_change 7 = .ok (.if_icmp .ne 6, 3) := by decide +kernel
theorem dX4_change_10 : decode cX4_change 10 = .ok (.bipush (-5), 2) := by decide +kernel
theorem dX4_change_12 : decode cX4_change 12 = .ok (.ireturn, 1) := by decide +kernel
theorem dX4_change_13 : decode cX4_change 13 = .ok (.aload_n 0, 1) := by decide +kernel
theorem dX4_change_14 : decode cX4_change 14 = .ok (.aload_n 0, 1) := by decide +kernel
theorem dX4_change_15 : decode cX4_change 15 = .ok (.getfield 7, 3) := by decide +kernel
theorem dX4_change_18 : decode cX4_change 18 = .ok (.invokevirtual 85, 3) := by decide +kernel
theorem dX4_change_21 : decode cX4_change 21 = .ok (.aload_n 0, 1) := by decide +kernel
theorem dX4_change_22 : decode cX4_change 22 = .ok (.getfield 7, 3) := by decide +kernel
theorem dX4_change_25 : decode cX4_change 25 = .ok (.iload_n 1, 1) := by decide +kernel
theorem dX4_change_26 : decode cX4_change 26 = .ok (.iaload, 1) := by decide +kernel
theorem dX4_change_27 : decode cX4_change 27 = .ok (.istore_n 3, 1) := by decide +kernel
theorem dX4_change_28 : decode cX4_change 28 = .ok (.aload_n 0, 1) := by decide +kernel
theorem dX4_change_29 : decode cX4_change 29 = .ok (.getfield 7, 3) := by decide +kernel
theorem dX4_change_32 : decode cX4_change 32 = .ok (.iload_n 1, 1) := by decide +kernel
theorem dX4_change_33 : decode cX4_change 33 = .ok (.iload_n 2, 1) := by decide +kernel
theorem dX4_change_34 : decode cX4_change 34 = .ok (.iastore, 1) := by decide +kernel
theorem dX4_change_35 : decode cX4_change 35 = .ok (.iload_n 3, 1) := by decide +kernel
theorem dX4_change_36 : decode cX4_change 36 = .ok (.ireturn, 1) := by decide +kernel
theorem dX4_setCradles_0 : decode cX4_setCradles 0 = .ok (.iload_n 1, 1) := by decide +kernel
theorem dX4_setCradles_1 : decode cX4_setCradles 1 = .ok (.invokestatic 89, 3) := by decide +kernel
theorem dX4_setCradles_4 : decode cX4_setCradles 4 = .ok (.ifCond .ne 5, 3) := by decide +kernel
theorem dX4_setCradles_7 : decode cX4_setCradles 7 = .ok (.iconst (-1), 1) := by decide +kernel
theorem dX4_setCradles_8 : decode cX4_setCradles 8 = .ok (.ireturn, 1) := by decide +kernel
theorem dX4_setCradles_9 : decode cX4_setCradles 9 = .ok (.iload_n 2, 1) := by decide +kernel
theorem dX4_setCradles_10 : decode cX4_setCradles 10 = .ok (.iconst 0, 1) := by decide +kernel
theorem dX4_setCradles_11 : decode cX4_setCradles 11 = .ok (.bipush 9, 2) := by decide +kernel
theorem dX4_setCradles_13 : decode cX4_setCradles 13 = .ok (.invokestatic 32, 3) := by decide +kernel
theorem dX4_setCradles_16 : decode cX4_setCradles 16 = .ok (.ifCond .ne 6, 3) := by decide +kernel
theorem dX4_setCradles_19 : decode cX4_setCradles 19 = .ok (.bipush (-2), 2) := by decide +kernel
theorem dX4_setCradles_21 : decode cX4_setCradles 21 = .ok (.ireturn, 1) := by decide +kernel
theorem dX4_setCradles_22 : decode cX4_setCradles 22 = .ok (.aload_n 0, 1) := by decide +kernel
theorem dX4_setCradles_23 : decode cX4_setCradles 23 = .ok (.iload_n 1, 1) := by decide +kernel
theorem dX4_setCradles_24 : decode cX4_setCradles 24 = .ok (.invokevirtual 44, 3) := by decide +kernel
theorem dX4_setCradles_27 : decode cX4_setCradles 27 = .ok (.iload_n 2, 1) := by decide +kernel
theorem dX4_setCradles_28 : decode cX4_setCradles 28 = .ok (.if_icmp .le 8, 3) := by decide +kernel
theorem dX4_setCradles_31 : decode cX4_setCradles 31 = .ok (.bipush (-4), 2) := by decide +kernel
theorem dX4_setCradles_33 : decode cX4_setCradles 33 = .ok (.goto 12, 3) := by decide +kernel
theorem dX4_setCradles_36 : decode cX4_setCradles 36 = .ok (.aload_n 0, 1) := by decide +kernel
theorem dX4_setCradles_37 : decode cX4_setCradles 37 = .ok (.bipush 8, 2) := by decide +kernel
theorem dX4_setCradles_39 : decode cX4_setCradles 39 = .ok (.iload_n 1, 1) := by decide +kernel
theorem dX4_setCradles_40 : decode cX4_setCradles 40 = .ok (.iadd, 1) := by decide +kernel
theorem dX4_setCradles_41 : decode cX4_setCradles 41 = .ok (.iload_n 2, 1) := by decide +kernel
theorem dX4_setCradles_42 : decode cX4_setCradles 42 = .ok (.invokevirtual 95, 3) := by decide +kernel
theorem dX4_setCradles_45 : decode cX4_setCradles 45 = .ok (.ireturn, 1) := by decide +kernel
theorem dX4_setRow_0 : decode cX4_setRow 0 = .ok (.iload_n 1, 1) := by decide +kernel
theorem dX4_setRow_1 : decode cX4_setRow 1 = .ok (.invokestatic 98, 3) := by decide +kernel
theorem dX4_setRow_4 : decode cX4_setRow 4 = .ok (.ifCond .ne 5, 3) := by decide +kernel
theorem dX4_setRow_7 : decode cX4_setRow 7 = .ok (.iconst (-1), 1) := by decide +kernel
theorem dX4_setRow_8 : decode cX4_setRow 8 = .ok (.ireturn, 1) := by decide +kernel
theorem dX4_setRow_9 : decode cX4_setRow 9 = .ok (.iload_n 2, 1) := by decide +kernel
theorem dX4_setRow_10 : decode cX4_setRow 10 = .ok (.bipush 10, 2) := by decide +kernel
theorem dX4_setRow_12 : decode cX4_setRow 12 = .ok (.bipush 60, 2) := by decide +kernel
theorem dX4_setRow_14 : decode cX4_setRow 14 = .ok (.invokestatic 32, 3) := by decide +kernel
theorem dX4_setRow_17 : decode cX4_setRow 17 = .ok (.ifCond .ne 6, 3) := by decide +kernel
theorem dX4_setRow_20 : decode cX4_setRow 20 = .ok (.bipush (-2), 2) := by decide +kernel
theorem dX4_setRow_22 : decode cX4_setRow 22 = .ok (.ireturn, 1) := by decide +kernel
theorem dX4_setRow_23 : decode cX4_setRow 23 = .ok (.aload_n 0, 1) := by decide +kernel
theorem dX4_setRow_24 : decode cX4_setRow 24 = .ok (.iload_n 1, 1) := by decide +kernel
theorem dX4_setRow_25 : decode cX4_setRow 25 = .ok (.invokevirtual 58, 3) := by decide +kernel
theorem dX4_setRow_28 : decode cX4_setRow 28 = .ok (.iload_n 2, 1) := by decide +kernel
theorem dX4_setRow_29 : decode cX4_setRow 29 = .ok (.if_icmp .le 8, 3) := by decide +kernel
theorem dX4_setRow_32 : decode cX4_setRow 32 = .ok (.bipush (-4), 2) := by decide +kernel
theorem dX4_setRow_34 : decode cX4_setRow 34 = .ok (.goto 12, 3) := by decide +kernel
theorem dX4_setRow_37 : decode cX4_setRow 37 = .ok (.aload_n 0, 1) := by decide +kernel
theorem dX4_setRow_38 : decode cX4_setRow 38 = .ok (.bipush 11, 2) := by decide +kernel
theorem dX4_setRow_40 : decode cX4_setRow 40 = .ok (.iload_n 1, 1) := by decide +kernel
theorem dX4_setRow_41 : decode cX4_setRow 41 = .ok (.iadd, 1) := by decide +kernel
theorem dX4_setRow_42 : decode cX4_setRow 42 = .ok (.iload_n 2, 1) := by decide +kernel
theorem dX4_setRow_43 : decode cX4_setRow 43 = .ok (.invokevirtual 95, 3) := by decide +kernel
theorem dX4_setRow_46 : decode cX4_setRow 46 = .ok (.ireturn, 1) := by decide +kernel
theorem dX4_set_0 : decode cX4_set 0 = .ok (.iload_n 1, 1) := by decide +kernel
theorem dX4_set_1 : decode cX4_set 1 = .ok (.iconst 0, 1) := by decide +kernel
theorem dX4_set_2 : decode cX4_set 2 = .ok (.iconst 2, 1) := by decide +kernel
theorem dX4_set_3 : decode cX4_set 3 = .ok (.invokestatic 32, 3) := by decide +kernel
theorem dX4_set_6 : decode cX4_set 6 = .ok (.ifCond .ne 5, 3) := by decide +kernel
theorem dX4_set_9 : decode cX4_set 9 = .ok (.iconst (-1), 1) := by decide +kernel
theorem dX4_set_10 : decode cX4_set 10 = .ok (.ireturn, 1) := by decide +kernel
theorem dX4_set_11 : decode cX4_set 11 = .ok (.iload_n 1, 1) := by decide +kernel
theorem dX4_set_12 : decode cX4_set 12 = .ok (.ifCond .ne 13, 3) := by decide +kernel
theorem dX4_set_15 : decode cX4_set 15 = .ok (.iload_n 2, 1) := by decide +kernel
theorem dX4_set_16 : decode cX4_set 16 = .ok (.iconst 0, 1) := by decide +kernel
theorem dX4_set_17 : decode cX4_set 17 = .ok (.bipush 9, 2) := by decide +kernel
theorem dX4_set_19 : decode cX4_set 19 = .ok (.invokestatic 32, 3) := by decide +kernel
theorem dX4_set_22 : decode cX4_set 22 = .ok (.goto 25, 3) := by decide +kernel
theorem dX4_set_25 : decode cX4_set 25 = .ok (.iload_n 1, 1) := by decide +kernel
theorem dX4_set_26 : decode cX4_set 26 = .ok (.iconst 1, 1) := by decide +kernel
theorem dX4_set_27 : decode cX4_set 27 = .ok (.if_icmp .ne 13, 3) := by decide +kernel
theorem dX4_set_30 : decode cX4_set 30 = .ok (.iload_n 2, 1) := by decide +kernel
theorem dX4_set_31 : decode cX4_set 31 = .ok (.iconst 1, 1) := by decide +kernel
theorem dX4_set_32 : decode cX4_set 32 = .ok (.bipush 9, 2) := by decide +kernel
theorem dX4_set_34 : decode cX4_set 34 = .ok (.invokestatic 32, 3) := by decide +kernel
theorem dX4_set_37 : decode cX4_set 37 = .ok (.goto 10, 3) := by decide +kernel
theorem dX4_set_40 : decode cX4_set 40 = .ok (.iload_n 2, 1) := by decide +kernel
theorem dX4_set_41 : decode cX4_set 41 = .ok (.iconst 1, 1) := by decide +kernel
theorem dX4_set_42 : decode cX4_set 42 = .ok (.bipush 30, 2) := by decide +kernel
theorem dX4_set_44 : decode cX4_set 44 = .ok (.invokestatic 32, 3) := by decide +kernel
theorem dX4_set_47 : decode cX4_set 47 = .ok (.istore_n 3, 1) := by decide +kernel
theorem dX4_set_48 : decode cX4_set 48 = .ok (.iload_n 3, 1) := by decide +kernel
theorem dX4_set_49 : decode cX4_set 49 = .ok (.ifCond .eq 14, 3) := by decide +kernel
theorem dX4_set_52 : decode cX4_set 52 = .ok (.aload_n 0, 1) := by decide +kernel
theorem dX4_set_53 : decode cX4_set 53 = .ok (.iconst 2, 1) := by decide +kernel
theorem dX4_set_54 : decode cX4_set 54 = .ok (.iload_n 1, 1) := by decide +kernel
theorem dX4_set_55 : decode cX4_set 55 = .ok (.iadd, 1) := by decide +kernel
theorem dX4_set_56 : decode cX4_set 56 = .ok (.iload_n 2, 1) := by decide +kernel
theorem dX4_set_57 : decode cX4_set 57 = .ok (.invokevirtual 95, 3) := by decide +kernel
theorem dX4_set_60 : decode cX4_set 60 = .ok (.goto 5, 3) := by decide +kernel
theorem dX4_set_63 : decode cX4_set 63 = .ok (.bipush (-2), 2) := by decide +kernel
theorem dX4_set_65 : decode cX4_set 65 = .ok (.ireturn, 1) := by decide +kernel
theorem dX4_whyNoLift_0 : decode cX4_whyNoLift 0 = .ok (.aload_n 0, 1) := by decide +kernel
theorem dX4_whyNoLift_1 : decode cX4_whyNoLift 1 = .ok (.iload_n 1, 1) := by decide +kernel
theorem dX4_whyNoLift_2 : decode cX4_whyNoLift 2 = .ok (.invokevirtual 40, 3) := by decide +kernel
theorem dX4_whyNoLift_5 : decode cX4_whyNoLift 5 = .ok (.ifCond .eq 5, 3) := by decide +kernel
theorem dX4_whyNoLift_8 : decode cX4_whyNoLift 8 = .ok (.iconst 1, 1) := by decide +kernel
theorem dX4_whyNoLift_9 : decode cX4_whyNoLift 9 = .ok (.ireturn, 1) := by decide +kernel
theorem dX4_whyNoLift_10 : decode cX4_whyNoLift 10 = .ok (.aload_n 0, 1) := by decide +kernel
theorem dX4_whyNoLift_11 : decode cX4_whyNoLift 11 = .ok (.aload_n 0, 1) := by decide +kernel
theorem dX4_whyNoLift_12 : decode cX4_whyNoLift 12 = .ok (.getfield 7, 3) := by decide +kernel
theorem dX4_whyNoLift_15 : decode cX4_whyNoLift 15 = .ok (.iconst 0, 1) := by decide +kernel
theorem dX4_whyNoLift_16 : decode cX4_whyNoLift 16 = .ok (.iaload, 1) := by decide +kernel
theorem dX4_whyNoLift_17 : decode cX4_whyNoLift 17 = .ok (.invokevirtual 101, 3) := by decide +kernel
theorem dX4_whyNoLift_20 : decode cX4_whyNoLift 20 = .ok (.aload_n 0, 1) := by decide +kernel
theorem dX4_whyNoLift_21 : decode cX4_whyNoLift 21 = .ok (.iload_n 1, 1) := by decide +kernel
theorem dX4_whyNoLift_22 : decode cX4_whyNoLift 22 = .ok (.iconst 2, 1) := by decide +kernel
theorem dX4_whyNoLift_23 : decode cX4_whyNoLift 23 = .ok (.invokevirtual 36, 3) := by decide +kernel
theorem dX4_whyNoLift_26 : decode cX4_whyNoLift 26 = .ok (.if_icmp .ge 5, 3) := by decide +kernel
theorem dX4_whyNoLift_29 : decode cX4_whyNoLift 29 = .ok (.iconst 2, 1) := by decide +kernel
theorem dX4_whyNoLift_30 : decode cX4_whyNoLift 30 = .ok (.ireturn, 1) := by decide +kernel
theorem dX4_whyNoLift_31 : decode cX4_whyNoLift 31 = .ok (.aload_n 0, 1) := by decide +kernel
theorem dX4_whyNoLift_32 : decode cX4_whyNoLift 32 = .ok (.iload_n 1, 1) := by decide +kernel
theorem dX4_whyNoLift_33 : decode cX4_whyNoLift 33 = .ok (.iconst 3, 1) := by decide +kernel
theorem dX4_whyNoLift_34 : decode cX4_whyNoLift 34 = .ok (.invokevirtual 36, 3) := by decide +kernel
theorem dX4_whyNoLift_37 : decode cX4_whyNoLift 37 = .ok (.aload_n 0, 1) := by decide +kernel
theorem dX4_whyNoLift_38 : decode cX4_whyNoLift 38 = .ok (.getfield 7, 3) := by decide +kernel
theorem dX4_whyNoLift_41 : decode cX4_whyNoLift 41 = .ok (.iconst 4, 1) := by decide +kernel
theorem dX4_whyNoLift_42 : decode cX4_whyNoLift 42 = .ok (.iaload, 1) := by decide +kernel
theorem dX4_whyNoLift_43 : decode cX4_whyNoLift 43 = .ok (.if_icmp .le 5, 3) := by decide +kernel
theorem dX4_whyNoLift_46 : decode cX4_whyNoLift 46 = .ok (.iconst 3, 1) := by decide +kernel
theorem dX4_whyNoLift_47 : decode cX4_whyNoLift 47 = .ok (.ireturn, 1) := by decide +kernel
theorem dX4_whyNoLift_48 : decode cX4_whyNoLift 48 = .ok (.aload_n 0, 1) := by decide +kernel
theorem dX4_whyNoLift_49 : decode cX4_whyNoLift 49 = .ok (.iload_n 1, 1) := by decide +kernel
theorem dX4_whyNoLift_50 : decode cX4_whyNoLift 50 = .ok (.invokevirtual 104, 3) := by decide +kernel
theorem dX4_whyNoLift_53 : decode cX4_whyNoLift 53 = .ok (.bipush (-5), 2) := by decide +kernel
theorem dX4_whyNoLift_55 : decode cX4_whyNoLift 55 = .ok (.if_icmp .ne 5, 3) := by decide +kernel
theorem dX4_whyNoLift_58 : decode cX4_whyNoLift 58 = .ok (.iconst 4, 1) := by decide +kernel
theorem dX4_whyNoLift_59 : decode cX4_whyNoLift 59 = .ok (.ireturn, 1) := by decide +kernel
theorem dX4_whyNoLift_60 : decode cX4_whyNoLift 60 = .ok (.aload_n 0, 1) := by decide +kernel
theorem dX4_whyNoLift_61 : decode cX4_whyNoLift 61 = .ok (.iload_n 1, 1) := by decide +kernel
theorem dX4_whyNoLift_62 : decode cX4_whyNoLift 62 = .ok (.iload_n 2, 1) := by decide +kernel
theorem dX4_whyNoLift_63 : decode cX4_whyNoLift 63 = .ok (.invokevirtual 107, 3) := by decide +kernel
theorem dX4_whyNoLift_66 : decode cX4_whyNoLift 66 = .ok (.ifCond .ne 5, 3) := by decide +kernel
theorem dX4_whyNoLift_69 : decode cX4_whyNoLift 69 = .ok (.iconst 5, 1) := by decide +kernel
theorem dX4_whyNoLift_70 : decode cX4_whyNoLift 70 = .ok (.ireturn, 1) := by decide +kernel
theorem dX4_whyNoLift_71 : decode cX4_whyNoLift 71 = .ok (.aload_n 0, 1) := by decide +kernel
theorem dX4_whyNoLift_72 : decode cX4_whyNoLift 72 = .ok (.iload_n 1, 1) := by decide +kernel
theorem dX4_whyNoLift_73 : decode cX4_whyNoLift 73 = .ok (.iconst 1, 1) := by decide +kernel
theorem dX4_whyNoLift_74 : decode cX4_whyNoLift 74 = .ok (.invokevirtual 36, 3) := by decide +kernel
theorem dX4_whyNoLift_77 : decode cX4_whyNoLift 77 = .ok (.bipush 10, 2) := by decide +kernel
theorem dX4_whyNoLift_79 : decode cX4_whyNoLift 79 = .ok (.if_icmp .lt 18, 3) := by decide +kernel
theorem dX4_whyNoLift_82 : decode cX4_whyNoLift 82 = .ok (.aload_n 0, 1) := by decide +kernel
theorem dX4_whyNoLift_83 : decode cX4_whyNoLift 83 = .ok (.iload_n 1, 1) := by decide +kernel
theorem dX4_whyNoLift_84 : decode cX4_whyNoLift 84 = .ok (.bipush 7, 2) := by decide +kernel
theorem dX4_whyNoLift_86 : decode cX4_whyNoLift 86 = .ok (.invokevirtual 36, 3) := by decide +kernel
theorem dX4_whyNoLift_89 : decode cX4_whyNoLift 89 = .ok (.bipush (-5), 2) := by decide +kernel
theorem dX4_whyNoLift_91 : decode cX4_whyNoLift 91 = .ok (.if_icmp .ne 6, 3) := by decide +kernel
theorem dX4_whyNoLift_94 : decode cX4_whyNoLift 94 = .ok (.bipush 6, 2) := by decide +kernel
theorem dX4_whyNoLift_96 : decode cX4_whyNoLift 96 = .ok (.ireturn, 1) := by decide +kernel
theorem dX4_whyNoLift_97 : decode cX4_whyNoLift 97 = .ok (.aload_n 0, 1) := by decide +kernel
theorem dX4_whyNoLift_98 : decode cX4_whyNoLift 98 = .ok (.invokevirtual 110, 3) := by decide +kernel
theorem dX4_whyNoLift_101 : decode cX4_whyNoLift 101 = .ok (.ifCond .ne 8, 3) := by decide +kernel
theorem dX4_whyNoLift_104 : decode cX4_whyNoLift 104 = .ok (.bipush 7, 2) := by decide +kernel
theorem dX4_whyNoLift_106 : decode cX4_whyNoLift 106 = .ok (.goto 4, 3) := by decide +kernel
theorem dX4_whyNoLift_109 : decode cX4_whyNoLift 109 = .ok (.iconst 0, 1) := by decide +kernel
theorem dX4_whyNoLift_110 : decode cX4_whyNoLift 110 = .ok (.ireturn, 1) := by decide +kernel
theorem dX4_noLift_0 : decode cX4_noLift 0 = .ok (.aload_n 0, 1) := by decide +kernel
theorem dX4_noLift_1 : decode cX4_noLift 1 = .ok (.iload_n 1, 1) := by decide +kernel
theorem dX4_noLift_2 : decode cX4_noLift 2 = .ok (.invokevirtual 92, 3) := by decide +kernel
theorem dX4_noLift_5 : decode cX4_noLift 5 = .ok (.ifCond .eq 10, 3) := by decide +kernel
theorem dX4_noLift_8 : decode cX4_noLift 8 = .ok (.iload_n 2, 1) := by decide +kernel
theorem dX4_noLift_9 : decode cX4_noLift 9 = .ok (.invokestatic 98, 3) := by decide +kernel
theorem dX4_noLift_12 : decode cX4_noLift 12 = .ok (.ifCond .ne 5, 3) := by decide +kernel
theorem dX4_noLift_15 : decode cX4_noLift 15 = .ok (.iconst (-1), 1) := by decide +kernel
theorem dX4_noLift_16 : decode cX4_noLift 16 = .ok (.ireturn, 1) := by decide +kernel
theorem dX4_noLift_17 : decode cX4_noLift 17 = .ok (.aload_n 0, 1) := by decide +kernel
theorem dX4_noLift_18 : decode cX4_noLift 18 = .ok (.iload_n 1, 1) := by decide +kernel
theorem dX4_noLift_19 : decode cX4_noLift 19 = .ok (.iload_n 2, 1) := by decide +kernel
theorem dX4_noLift_20 : decode cX4_noLift 20 = .ok (.invokevirtual 113, 3) := by decide +kernel
theorem dX4_noLift_23 : decode cX4_noLift 23 = .ok (.istore_n 3, 1) := by decide +kernel
theorem dX4_noLift_24 : decode cX4_noLift 24 = .ok (.iload_n 3, 1) := by decide +kernel
theorem dX4_noLift_25 : decode cX4_noLift 25 = .ok (.ifCond .le 10, 3) := by decide +kernel
theorem dX4_noLift_28 : decode cX4_noLift 28 = .ok (.bipush (-10), 2) := by decide +kernel
theorem dX4_noLift_30 : decode cX4_noLift 30 = .ok (.iload_n 3, 1) := by decide +kernel
theorem dX4_noLift_31 : decode cX4_noLift 31 = .ok (.isub, 1) := by decide +kernel
theorem dX4_noLift_32 : decode cX4_noLift 32 = .ok (.goto 4, 3) := by decide +kernel
theorem dX4_noLift_35 : decode cX4_noLift 35 = .ok (.iconst 0, 1) := by decide +kernel
theorem dX4_noLift_36 : decode cX4_noLift 36 = .ok (.ireturn, 1) := by decide +kernel
theorem dX4_useCrane_0 : decode cX4_useCrane 0 = .ok (.aload_n 0, 1) := by decide +kernel
theorem dX4_useCrane_1 : decode cX4_useCrane 1 = .ok (.getfield 7, 3) := by decide +kernel
theorem dX4_useCrane_4 : decode cX4_useCrane 4 = .ok (.iconst 1, 1) := by decide +kernel
theorem dX4_useCrane_5 : decode cX4_useCrane 5 = .ok (.dup2, 1) := by decide +kernel
theorem dX4_useCrane_6 : decode cX4_useCrane 6 = .ok (.iaload, 1) := by decide +kernel
theorem dX4_useCrane_7 : decode cX4_useCrane 7 = .ok (.iconst 1, 1) := by decide +kernel
theorem dX4_useCrane_8 : decode cX4_useCrane 8 = .ok (.iadd, 1) := by decide +kernel
theorem dX4_useCrane_9 : decode cX4_useCrane 9 = .ok (.iastore, 1) := by decide +kernel
theorem dX4_useCrane_10 : decode cX4_useCrane 10 = .ok (.aload_n 0, 1) := by decide +kernel
theorem dX4_useCrane_11 : decode cX4_useCrane 11 = .ok (.getfield 7, 3) := by decide +kernel
theorem dX4_useCrane_14 : decode cX4_useCrane 14 = .ok (.iconst 5, 1) := by decide +kernel
theorem dX4_useCrane_15 : decode cX4_useCrane 15 = .ok (.dup2, 1) := by decide +kernel
theorem dX4_useCrane_16 : decode cX4_useCrane 16 = .ok (.iaload, 1) := by decide +kernel
theorem dX4_useCrane_17 : decode cX4_useCrane 17 = .ok (.iconst 1, 1) := by decide +kernel
theorem dX4_useCrane_18 : decode cX4_useCrane 18 = .ok (.iadd, 1) := by decide +kernel
theorem dX4_useCrane_19 : decode cX4_useCrane 19 = .ok (.iastore, 1) := by decide +kernel
theorem dX4_useCrane_20 : decode cX4_useCrane 20 = .ok (.return_, 1) := by decide +kernel
theorem dX4_doLift_0 : decode cX4_doLift 0 = .ok (.aload_n 0, 1) := by decide +kernel
theorem dX4_doLift_1 : decode cX4_doLift 1 = .ok (.iload_n 1, 1) := by decide +kernel
theorem dX4_doLift_2 : decode cX4_doLift 2 = .ok (.bipush 6, 2) := by decide +kernel
theorem dX4_doLift_4 : decode cX4_doLift 4 = .ok (.aload_n 0, 1) := by decide +kernel
theorem dX4_doLift_5 : decode cX4_doLift 5 = .ok (.iload_n 1, 1) := by decide +kernel
theorem dX4_doLift_6 : decode cX4_doLift 6 = .ok (.invokevirtual 104, 3) := by decide +kernel
theorem dX4_doLift_9 : decode cX4_doLift 9 = .ok (.invokevirtual 70, 3) := by decide +kernel
theorem dX4_doLift_12 : decode cX4_doLift 12 = .ok (.aload_n 0, 1) := by decide +kernel
theorem dX4_doLift_13 : decode cX4_doLift 13 = .ok (.iload_n 1, 1) := by decide +kernel
theorem dX4_doLift_14 : decode cX4_doLift 14 = .ok (.bipush 9, 2) := by decide +kernel
theorem dX4_doLift_16 : decode cX4_doLift 16 = .ok (.iconst 0, 1) := by decide +kernel
theorem dX4_doLift_17 : decode cX4_doLift 17 = .ok (.invokevirtual 70, 3) := by decide +kernel
theorem dX4_doLift_20 : decode cX4_doLift 20 = .ok (.aload_n 0, 1) := by decide +kernel
theorem dX4_doLift_21 : decode cX4_doLift 21 = .ok (.iload_n 1, 1) := by decide +kernel
theorem dX4_doLift_22 : decode cX4_doLift 22 = .ok (.bipush 10, 2) := by decide +kernel
theorem dX4_doLift_24 : decode cX4_doLift 24 = .ok (.aload_n 0, 1) := by decide +kernel
theorem dX4_doLift_25 : decode cX4_doLift 25 = .ok (.iload_n 1, 1) := by decide +kernel
theorem dX4_doLift_26 : decode cX4_doLift 26 = .ok (.bipush 10, 2) := by decide +kernel
theorem dX4_doLift_28 : decode cX4_doLift 28 = .ok (.invokevirtual 36, 3) := by decide +kernel
theorem dX4_doLift_31 : decode cX4_doLift 31 = .ok (.iconst 1, 1) := by decide +kernel
theorem dX4_doLift_32 : decode cX4_doLift 32 = .ok (.iadd, 1) := by decide +kernel
theorem dX4_doLift_33 : decode cX4_doLift 33 = .ok (.invokevirtual 70, 3) := by decide +kernel
theorem dX4_doLift_36 : decode cX4_doLift 36 = .ok (.aload_n 0, 1) := by decide +kernel
theorem dX4_doLift_37 : decode cX4_doLift 37 = .ok (.iload_n 1, 1) := by decide +kernel
theorem dX4_doLift_38 : decode cX4_doLift 38 = .ok (.iload_n 2, 1) := by decide +kernel
theorem dX4_doLift_39 : decode cX4_doLift 39 = .ok (.invokevirtual 116, 3) := by decide +kernel
theorem dX4_doLift_42 : decode cX4_doLift 42 = .ok (.aload_n 0, 1) := by decide +kernel
theorem dX4_doLift_43 : decode cX4_doLift 43 = .ok (.invokevirtual 120, 3) := by decide +kernel
theorem dX4_doLift_46 : decode cX4_doLift 46 = .ok (.aload_n 0, 1) := by decide +kernel
theorem dX4_doLift_47 : decode cX4_doLift 47 = .ok (.iload_n 2, 1) := by decide +kernel
theorem dX4_doLift_48 : decode cX4_doLift 48 = .ok (.invokevirtual 64, 3) := by decide +kernel
theorem dX4_doLift_51 : decode cX4_doLift 51 = .ok (.ireturn, 1) := by decide +kernel
theorem dX4_lift_0 : decode cX4_lift 0 = .ok (.aload_n 0, 1) := by decide +kernel
theorem dX4_lift_1 : decode cX4_lift 1 = .ok (.iload_n 1, 1) := by decide +kernel
theorem dX4_lift_2 : decode cX4_lift 2 = .ok (.iload_n 2, 1) := by decide +kernel
theorem dX4_lift_3 : decode cX4_lift 3 = .ok (.invokevirtual 123, 3) := by decide +kernel
theorem dX4_lift_6 : decode cX4_lift 6 = .ok (.istore_n 3, 1) := by decide +kernel
theorem dX4_lift_7 : decode cX4_lift 7 = .ok (.iload_n 3, 1) := by decide +kernel
theorem dX4_lift_8 : decode cX4_lift 8 = .ok (.ifCond .ge 5, 3) := by decide +kernel
theorem dX4_lift_11 : decode cX4_lift 11 = .ok (.iload_n 3, 1) := by decide +kernel
theorem dX4_lift_12 : decode cX4_lift 12 = .ok (.ireturn, 1) := by decide +kernel
theorem dX4_lift_13 : decode cX4_lift 13 = .ok (.aload_n 0, 1) := by decide +kernel
theorem dX4_lift_14 : decode cX4_lift 14 = .ok (.aload_n 0, 1) := by decide +kernel
theorem dX4_lift_15 : decode cX4_lift 15 = .ok (.getfield 7, 3) := by decide +kernel
theorem dX4_lift_18 : decode cX4_lift 18 = .ok (.invokevirtual 85, 3) := by decide +kernel
theorem dX4_lift_21 : decode cX4_lift 21 = .ok (.aload_n 0, 1) := by decide +kernel
theorem dX4_lift_22 : decode cX4_lift 22 = .ok (.iload_n 1, 1) := by decide +kernel
theorem dX4_lift_23 : decode cX4_lift 23 = .ok (.iload_n 2, 1) := by decide +kernel
theorem dX4_lift_24 : decode cX4_lift 24 = .ok (.invokevirtual 126, 3) := by decide +kernel
theorem dX4_lift_27 : decode cX4_lift 27 = .ok (.ireturn, 1) := by decide +kernel
theorem dX4_whyNoLaunch_0 : decode cX4_whyNoLaunch 0 = .ok (.aload_n 0, 1) := by decide +kernel
theorem dX4_whyNoLaunch_1 : decode cX4_whyNoLaunch 1 = .ok (.iload_n 1, 1) := by decide +kernel
theorem dX4_whyNoLaunch_2 : decode cX4_whyNoLaunch 2 = .ok (.invokevirtual 40, 3) := by decide +kernel
theorem dX4_whyNoLaunch_5 : decode cX4_whyNoLaunch 5 = .ok (.ifCond .ne 5, 3) := by decide +kernel
theorem dX4_whyNoLaunch_8 : decode cX4_whyNoLaunch 8 = .ok (.iconst 1, 1) := by decide +kernel
theorem dX4_whyNoLaunch_9 : decode cX4_whyNoLaunch 9 = .ok (.ireturn, 1) := by decide +kernel
theorem dX4_whyNoLaunch_10 : decode cX4_whyNoLaunch 10 = .ok (.aload_n 0, 1) := by decide +kernel
theorem dX4_whyNoLaunch_11 : decode cX4_whyNoLaunch 11 = .ok (.iload_n 1, 1) := by decide +kernel
theorem dX4_whyNoLaunch_12 : decode cX4_whyNoLaunch 12 = .ok (.bipush 8, 2) := by decide +kernel
theorem dX4_whyNoLaunch_14 : decode cX4_whyNoLaunch 14 = .ok (.invokevirtual 36, 3) := by decide +kernel
theorem dX4_whyNoLaunch_17 : decode cX4_whyNoLaunch 17 = .ok (.ifCond .le 5, 3) := by decide +kernel
theorem dX4_whyNoLaunch_20 : decode cX4_whyNoLaunch 20 = .ok (.iconst 2, 1) := by decide +kernel
theorem dX4_whyNoLaunch_21 : decode cX4_whyNoLaunch 21 = .ok (.ireturn, 1) := by decide +kernel
theorem dX4_whyNoLaunch_22 : decode cX4_whyNoLaunch 22 = .ok (.aload_n 0, 1) := by decide +kernel
theorem dX4_whyNoLaunch_23 : decode cX4_whyNoLaunch 23 = .ok (.iload_n 1, 1) := by decide +kernel
theorem dX4_whyNoLaunch_24 : decode cX4_whyNoLaunch 24 = .ok (.invokevirtual 129, 3) := by decide +kernel
theorem dX4_whyNoLaunch_27 : decode cX4_whyNoLaunch 27 = .ok (.ifCond .le 5, 3) := by decide +kernel
theorem dX4_whyNoLaunch_30 : decode cX4_whyNoLaunch 30 = .ok (.iconst 3, 1) := by decide +kernel
theorem dX4_whyNoLaunch_31 : decode cX4_whyNoLaunch 31 = .ok (.ireturn, 1) := by decide +kernel
theorem dX4_whyNoLaunch_32 : decode cX4_whyNoLaunch 32 = .ok (.aload_n 0, 1) := by decide +kernel
theorem dX4_whyNoLaunch_33 : decode cX4_whyNoLaunch 33 = .ok (.aload_n 0, 1) := by decide +kernel
theorem dX4_whyNoLaunch_34 : decode cX4_whyNoLaunch 34 = .ok (.getfield 7, 3) := by decide +kernel
theorem dX4_whyNoLaunch_37 : decode cX4_whyNoLaunch 37 = .ok (.iconst 0, 1) := by decide +kernel
theorem dX4_whyNoLaunch_38 : decode cX4_whyNoLaunch 38 = .ok (.iaload, 1) := by decide +kernel
theorem dX4_whyNoLaunch_39 : decode cX4_whyNoLaunch 39 = .ok (.invokevirtual 101, 3) := by decide +kernel
theorem dX4_whyNoLaunch_42 : decode cX4_whyNoLaunch 42 = .ok (.aload_n 0, 1) := by decide +kernel
theorem dX4_whyNoLaunch_43 : decode cX4_whyNoLaunch 43 = .ok (.iload_n 1, 1) := by decide +kernel
theorem dX4_whyNoLaunch_44 : decode cX4_whyNoLaunch 44 = .ok (.iconst 2, 1) := by decide +kernel
theorem dX4_whyNoLaunch_45 : decode cX4_whyNoLaunch 45 = .ok (.invokevirtual 36, 3) := by decide +kernel
theorem dX4_whyNoLaunch_48 : decode cX4_whyNoLaunch 48 = .ok (.if_icmp .ge 5, 3) := by decide +kernel
theorem dX4_whyNoLaunch_51 : decode cX4_whyNoLaunch 51 = .ok (.iconst 4, 1) := by decide +kernel
theorem dX4_whyNoLaunch_52 : decode cX4_whyNoLaunch 52 = .ok (.ireturn, 1) := by decide +kernel
theorem dX4_whyNoLaunch_53 : decode cX4_whyNoLaunch 53 = .ok (.aload_n 0, 1) := by decide +kernel
theorem dX4_whyNoLaunch_54 : decode cX4_whyNoLaunch 54 = .ok (.iload_n 1, 1) := by decide +kernel
theorem dX4_whyNoLaunch_55 : decode cX4_whyNoLaunch 55 = .ok (.iconst 3, 1) := by decide +kernel
theorem dX4_whyNoLaunch_56 : decode cX4_whyNoLaunch 56 = .ok (.invokevirtual 36, 3) := by decide +kernel
theorem dX4_whyNoLaunch_59 : decode cX4_whyNoLaunch 59 = .ok (.aload_n 0, 1) := by decide +kernel
theorem dX4_whyNoLaunch_60 : decode cX4_whyNoLaunch 60 = .ok (.getfield 7, 3) := by decide +kernel
theorem dX4_whyNoLaunch_63 : decode cX4_whyNoLaunch 63 = .ok (.iconst 4, 1) := by decide +kernel
theorem dX4_whyNoLaunch_64 : decode cX4_whyNoLaunch 64 = .ok (.iaload, 1) := by decide +kernel
theorem dX4_whyNoLaunch_65 : decode cX4_whyNoLaunch 65 = .ok (.if_icmp .le 5, 3) := by decide +kernel
theorem dX4_whyNoLaunch_68 : decode cX4_whyNoLaunch 68 = .ok (.iconst 5, 1) := by decide +kernel
theorem dX4_whyNoLaunch_69 : decode cX4_whyNoLaunch 69 = .ok (.ireturn, 1) := by decide +kernel
theorem dX4_whyNoLaunch_70 : decode cX4_whyNoLaunch 70 = .ok (.aload_n 0, 1) := by decide +kernel
theorem dX4_whyNoLaunch_71 : decode cX4_whyNoLaunch 71 = .ok (.invokevirtual 110, 3) := by decide +kernel
theorem dX4_whyNoLaunch_74 : decode cX4_whyNoLaunch 74 = .ok (.ifCond .ne 8, 3) := by decide +kernel
theorem dX4_whyNoLaunch_77 : decode cX4_whyNoLaunch 77 = .ok (.bipush 6, 2) := by decide +kernel
theorem dX4_whyNoLaunch_79 : decode cX4_whyNoLaunch 79 = .ok (.goto 4, 3) := by decide +kernel
theorem dX4_whyNoLaunch_82 : decode cX4_whyNoLaunch 82 = .ok (.iconst 0, 1) := by decide +kernel
theorem dX4_whyNoLaunch_83 : decode cX4_whyNoLaunch 83 = .ok (.ireturn, 1) := by decide +kernel
theorem dX4_noLaunch_0 : decode cX4_noLaunch 0 = .ok (.aload_n 0, 1) := by decide +kernel
theorem dX4_noLaunch_1 : decode cX4_noLaunch 1 = .ok (.iload_n 1, 1) := by decide +kernel
theorem dX4_noLaunch_2 : decode cX4_noLaunch 2 = .ok (.invokevirtual 92, 3) := by decide +kernel
theorem dX4_noLaunch_5 : decode cX4_noLaunch 5 = .ok (.ifCond .ne 5, 3) := by decide +kernel
theorem dX4_noLaunch_8 : decode cX4_noLaunch 8 = .ok (.iconst (-1), 1) := by decide +kernel
theorem dX4_noLaunch_9 : decode cX4_noLaunch 9 = .ok (.ireturn, 1) := by decide +kernel
theorem dX4_noLaunch_10 : decode cX4_noLaunch 10 = .ok (.aload_n 0, 1) := by decide +kernel
theorem dX4_noLaunch_11 : decode cX4_noLaunch 11 = .ok (.iload_n 1, 1) := by decide +kernel
theorem dX4_noLaunch_12 : decode cX4_noLaunch 12 = .ok (.invokevirtual 132, 3) := by decide +kernel
theorem dX4_noLaunch_15 : decode cX4_noLaunch 15 = .ok (.istore_n 2, 1) := by decide +kernel
theorem dX4_noLaunch_16 : decode cX4_noLaunch 16 = .ok (.iload_n 2, 1) := by decide +kernel
theorem dX4_noLaunch_17 : decode cX4_noLaunch 17 = .ok (.ifCond .le 10, 3) := by decide +kernel
theorem dX4_noLaunch_20 : decode cX4_noLaunch 20 = .ok (.bipush (-10), 2) := by decide +kernel
theorem dX4_noLaunch_22 : decode cX4_noLaunch 22 = .ok (.iload_n 2, 1) := by decide +kernel
theorem dX4_noLaunch_23 : decode cX4_noLaunch 23 = .ok (.isub, 1) := by decide +kernel
theorem dX4_noLaunch_24 : decode cX4_noLaunch 24 = .ok (.goto 4, 3) := by decide +kernel
theorem dX4_noLaunch_27 : decode cX4_noLaunch 27 = .ok (.iconst 0, 1) := by decide +kernel
theorem dX4_noLaunch_28 : decode cX4_noLaunch 28 = .ok (.ireturn, 1) := by decide +kernel
theorem dX4_doLaunch_0 : decode cX4_doLaunch 0 = .ok (.aload_n 0, 1) := by decide +kernel
theorem dX4_doLaunch_1 : decode cX4_doLaunch 1 = .ok (.iload_n 1, 1) := by decide +kernel
theorem dX4_doLaunch_2 : decode cX4_doLaunch 2 = .ok (.bipush 9, 2) := by decide +kernel
theorem dX4_doLaunch_4 : decode cX4_doLaunch 4 = .ok (.invokevirtual 36, 3) := by decide +kernel
theorem dX4_doLaunch_7 : decode cX4_doLaunch 7 = .ok (.istore_n 2, 1) := by decide +kernel
theorem dX4_doLaunch_8 : decode cX4_doLaunch 8 = .ok (.aload_n 0, 1) := by decide +kernel
theorem dX4_doLaunch_9 : decode cX4_doLaunch 9 = .ok (.iload_n 1, 1) := by decide +kernel
theorem dX4_doLaunch_10 : decode cX4_doLaunch 10 = .ok (.iconst 5, 1) := by decide +kernel
theorem dX4_doLaunch_11 : decode cX4_doLaunch 11 = .ok (.bipush (-5), 2) := by decide +kernel
theorem dX4_doLaunch_13 : decode cX4_doLaunch 13 = .ok (.invokevirtual 70, 3) := by decide +kernel
theorem dX4_doLaunch_16 : decode cX4_doLaunch 16 = .ok (.aload_n 0, 1) := by decide +kernel
theorem dX4_doLaunch_17 : decode cX4_doLaunch 17 = .ok (.iload_n 1, 1) := by decide +kernel
theorem dX4_doLaunch_18 : decode cX4_doLaunch 18 = .ok (.bipush 6, 2) := by decide +kernel
theorem dX4_doLaunch_20 : decode cX4_doLaunch 20 = .ok (.bipush (-5), 2) := by decide +kernel
theorem dX4_doLaunch_22 : decode cX4_doLaunch 22 = .ok (.invokevirtual 70, 3) := by decide +kernel
theorem dX4_doLaunch_25 : decode cX4_doLaunch 25 = .ok (.aload_n 0, 1) := by decide +kernel
theorem dX4_doLaunch_26 : decode cX4_doLaunch 26 = .ok (.iload_n 1, 1) := by decide +kernel
theorem dX4_doLaunch_27 : decode cX4_doLaunch 27 = .ok (.bipush 9, 2) := by decide +kernel
theorem dX4_doLaunch_29 : decode cX4_doLaunch 29 = .ok (.iconst 0, 1) := by decide +kernel
theorem dX4_doLaunch_30 : decode cX4_doLaunch 30 = .ok (.invokevirtual 70, 3) := by decide +kernel
theorem dX4_doLaunch_33 : decode cX4_doLaunch 33 = .ok (.aload_n 0, 1) := by decide +kernel
theorem dX4_doLaunch_34 : decode cX4_doLaunch 34 = .ok (.invokevirtual 120, 3) := by decide +kernel
theorem dX4_doLaunch_37 : decode cX4_doLaunch 37 = .ok (.aload_n 0, 1) := by decide +kernel
theorem dX4_doLaunch_38 : decode cX4_doLaunch 38 = .ok (.getfield 7, 3) := by decide +kernel
theorem dX4_doLaunch_41 : decode cX4_doLaunch 41 = .ok (.bipush 6, 2) := by decide +kernel
theorem dX4_doLaunch_43 : decode cX4_doLaunch 43 = .ok (.dup2, 1) := by decide +kernel
theorem dX4_doLaunch_44 : decode cX4_doLaunch 44 = .ok (.iaload, 1) := by decide +kernel
theorem dX4_doLaunch_45 : decode cX4_doLaunch 45 = .ok (.iconst 1, 1) := by decide +kernel
theorem dX4_doLaunch_46 : decode cX4_doLaunch 46 = .ok (.iadd, 1) := by decide +kernel
theorem dX4_doLaunch_47 : decode cX4_doLaunch 47 = .ok (.iastore, 1) := by decide +kernel
theorem dX4_doLaunch_48 : decode cX4_doLaunch 48 = .ok (.iload_n 2, 1) := by decide +kernel
theorem dX4_doLaunch_49 : decode cX4_doLaunch 49 = .ok (.ireturn, 1) := by decide +kernel
theorem dX4_launch_0 : decode cX4_launch 0 = .ok (.aload_n 0, 1) := by decide +kernel
theorem dX4_launch_1 : decode cX4_launch 1 = .ok (.iload_n 1, 1) := by decide +kernel
theorem dX4_launch_2 : decode cX4_launch 2 = .ok (.invokevirtual 135, 3) := by decide +kernel
theorem dX4_launch_5 : decode cX4_launch 5 = .ok (.istore_n 2, 1) := by decide +kernel
theorem dX4_launch_6 : decode cX4_launch 6 = .ok (.iload_n 2, 1) := by decide +kernel
theorem dX4_launch_7 : decode cX4_launch 7 = .ok (.ifCond .ge 5, 3) := by decide +kernel
theorem dX4_launch_10 : decode cX4_launch 10 = .ok (.iload_n 2, 1) := by decide +kernel
theorem dX4_launch_11 : decode cX4_launch 11 = .ok (.ireturn, 1) := by decide +kernel
theorem dX4_launch_12 : decode cX4_launch 12 = .ok (.aload_n 0, 1) := by decide +kernel
theorem dX4_launch_13 : decode cX4_launch 13 = .ok (.aload_n 0, 1) := by decide +kernel
theorem dX4_launch_14 : decode cX4_launch 14 = .ok (.getfield 7, 3) := by decide +kernel
theorem dX4_launch_17 : decode cX4_launch 17 = .ok (.invokevirtual 85, 3) := by decide +kernel
theorem dX4_launch_20 : decode cX4_launch 20 = .ok (.aload_n 0, 1) := by decide +kernel
theorem dX4_launch_21 : decode cX4_launch 21 = .ok (.iload_n 1, 1) := by decide +kernel
theorem dX4_launch_22 : decode cX4_launch 22 = .ok (.invokevirtual 138, 3) := by decide +kernel
theorem dX4_launch_25 : decode cX4_launch 25 = .ok (.ireturn, 1) := by decide +kernel
theorem dX4_noMove_0 : decode cX4_noMove 0 = .ok (.aload_n 0, 1) := by decide +kernel
theorem dX4_noMove_1 : decode cX4_noMove 1 = .ok (.iload_n 1, 1) := by decide +kernel
theorem dX4_noMove_2 : decode cX4_noMove 2 = .ok (.invokevirtual 92, 3) := by decide +kernel
theorem dX4_noMove_5 : decode cX4_noMove 5 = .ok (.ifCond .eq 10, 3) := by decide +kernel
theorem dX4_noMove_8 : decode cX4_noMove 8 = .ok (.iload_n 2, 1) := by decide +kernel
theorem dX4_noMove_9 : decode cX4_noMove 9 = .ok (.invokestatic 98, 3) := by decide +kernel
theorem dX4_noMove_12 : decode cX4_noMove 12 = .ok (.ifCond .ne 5, 3) := by decide +kernel
theorem dX4_noMove_15 : decode cX4_noMove 15 = .ok (.iconst (-1), 1) := by decide +kernel
theorem dX4_noMove_16 : decode cX4_noMove 16 = .ok (.ireturn, 1) := by decide +kernel
theorem dX4_noMove_17 : decode cX4_noMove 17 = .ok (.aload_n 0, 1) := by decide +kernel
theorem dX4_noMove_18 : decode cX4_noMove 18 = .ok (.iload_n 1, 1) := by decide +kernel
theorem dX4_noMove_19 : decode cX4_noMove 19 = .ok (.invokevirtual 40, 3) := by decide +kernel
theorem dX4_noMove_22 : decode cX4_noMove 22 = .ok (.ifCond .eq 21, 3) := by decide +kernel
theorem dX4_noMove_25 : decode cX4_noMove 25 = .ok (.aload_n 0, 1) := by decide +kernel
theorem dX4_noMove_26 : decode cX4_noMove 26 = .ok (.iload_n 1, 1) := by decide +kernel
theorem dX4_noMove_27 : decode cX4_noMove 27 = .ok (.invokevirtual 129, 3) := by decide +kernel
theorem dX4_noMove_30 : decode cX4_noMove 30 = .ok (.ifCond .gt 13, 3) := by decide +kernel
theorem dX4_noMove_33 : decode cX4_noMove 33 = .ok (.aload_n 0, 1) := by decide +kernel
theorem dX4_noMove_34 : decode cX4_noMove 34 = .ok (.iload_n 1, 1) := by decide +kernel
theorem dX4_noMove_35 : decode cX4_noMove 35 = .ok (.iconst 5, 1) := by decide +kernel
theorem dX4_noMove_36 : decode cX4_noMove 36 = .ok (.invokevirtual 36, 3) := by decide +kernel
theorem dX4_noMove_39 : decode cX4_noMove 39 = .ok (.iload_n 2, 1) := by decide +kernel
theorem dX4_noMove_40 : decode cX4_noMove 40 = .ok (.if_icmp .ne 6, 3) := by decide +kernel
theorem dX4_noMove_43 : decode cX4_noMove 43 = .ok (.bipush (-4), 2) := by decide +kernel
theorem dX4_noMove_45 : decode cX4_noMove 45 = .ok (.ireturn, 1) := by decide +kernel
theorem dX4_noMove_46 : decode cX4_noMove 46 = .ok (.aload_n 0, 1) := by decide +kernel
theorem dX4_noMove_47 : decode cX4_noMove 47 = .ok (.iload_n 1, 1) := by decide +kernel
theorem dX4_noMove_48 : decode cX4_noMove 48 = .ok (.iload_n 2, 1) := by decide +kernel
theorem dX4_noMove_49 : decode cX4_noMove 49 = .ok (.invokevirtual 107, 3) := by decide +kernel
theorem dX4_noMove_52 : decode cX4_noMove 52 = .ok (.ifCond .eq 10, 3) := by decide +kernel
theorem dX4_noMove_55 : decode cX4_noMove 55 = .ok (.aload_n 0, 1) := by decide +kernel
theorem dX4_noMove_56 : decode cX4_noMove 56 = .ok (.invokevirtual 110, 3) := by decide +kernel
theorem dX4_noMove_59 : decode cX4_noMove 59 = .ok (.ifCond .ne 8, 3) := by decide +kernel
theorem dX4_noMove_62 : decode cX4_noMove 62 = .ok (.bipush (-3), 2) := by decide +kernel
theorem dX4_noMove_64 : decode cX4_noMove 64 = .ok (.goto 4, 3) := by decide +kernel
theorem dX4_noMove_67 : decode cX4_noMove 67 = .ok (.iconst 0, 1) := by decide +kernel
theorem dX4_noMove_68 : decode cX4_noMove 68 = .ok (.ireturn, 1) := by decide +kernel
theorem dX4_doMove_0 : decode cX4_doMove 0 = .ok (.aload_n 0, 1) := by decide +kernel
theorem dX4_doMove_1 : decode cX4_doMove 1 = .ok (.iload_n 1, 1) := by decide +kernel
theorem dX4_doMove_2 : decode cX4_doMove 2 = .ok (.iload_n 2, 1) := by decide +kernel
theorem dX4_doMove_3 : decode cX4_doMove 3 = .ok (.invokevirtual 116, 3) := by decide +kernel
theorem dX4_doMove_6 : decode cX4_doMove 6 = .ok (.aload_n 0, 1) := by decide +kernel
theorem dX4_doMove_7 : decode cX4_doMove 7 = .ok (.invokevirtual 120, 3) := by decide +kernel
theorem dX4_doMove_10 : decode cX4_doMove 10 = .ok (.aload_n 0, 1) := by decide +kernel
theorem dX4_doMove_11 : decode cX4_doMove 11 = .ok (.iload_n 2, 1) := by decide +kernel
theorem dX4_doMove_12 : decode cX4_doMove 12 = .ok (.invokevirtual 64, 3) := by decide +kernel
theorem dX4_doMove_15 : decode cX4_doMove 15 = .ok (.ireturn, 1) := by decide +kernel
theorem dX4_move_0 : decode cX4_move 0 = .ok (.aload_n 0, 1) := by decide +kernel
theorem dX4_move_1 : decode cX4_move 1 = .ok (.iload_n 1, 1) := by decide +kernel
theorem dX4_move_2 : decode cX4_move 2 = .ok (.iload_n 2, 1) := by decide +kernel
theorem dX4_move_3 : decode cX4_move 3 = .ok (.invokevirtual 141, 3) := by decide +kernel
theorem dX4_move_6 : decode cX4_move 6 = .ok (.istore_n 3, 1) := by decide +kernel
theorem dX4_move_7 : decode cX4_move 7 = .ok (.iload_n 3, 1) := by decide +kernel
theorem dX4_move_8 : decode cX4_move 8 = .ok (.ifCond .ge 5, 3) := by decide +kernel
theorem dX4_move_11 : decode cX4_move 11 = .ok (.iload_n 3, 1) := by decide +kernel
theorem dX4_move_12 : decode cX4_move 12 = .ok (.ireturn, 1) := by decide +kernel
theorem dX4_move_13 : decode cX4_move 13 = .ok (.aload_n 0, 1) := by decide +kernel
theorem dX4_move_14 : decode cX4_move 14 = .ok (.aload_n 0, 1) := by decide +kernel
theorem dX4_move_15 : decode cX4_move 15 = .ok (.getfield 7, 3) := by decide +kernel
theorem dX4_move_18 : decode cX4_move 18 = .ok (.invokevirtual 85, 3) := by decide +kernel
theorem dX4_move_21 : decode cX4_move 21 = .ok (.aload_n 0, 1) := by decide +kernel
theorem dX4_move_22 : decode cX4_move 22 = .ok (.iload_n 1, 1) := by decide +kernel
theorem dX4_move_23 : decode cX4_move 23 = .ok (.iload_n 2, 1) := by decide +kernel
theorem dX4_move_24 : decode cX4_move 24 = .ok (.invokevirtual 144, 3) := by decide +kernel
theorem dX4_move_27 : decode cX4_move 27 = .ok (.ireturn, 1) := by decide +kernel
theorem dX4_rackFor_0 : decode cX4_rackFor 0 = .ok (.aload_n 0, 1) := by decide +kernel
theorem dX4_rackFor_1 : decode cX4_rackFor 1 = .ok (.iload_n 1, 1) := by decide +kernel
theorem dX4_rackFor_2 : decode cX4_rackFor 2 = .ok (.iconst 1, 1) := by decide +kernel
theorem dX4_rackFor_3 : decode cX4_rackFor 3 = .ok (.invokevirtual 36, 3) := by decide +kernel
theorem dX4_rackFor_6 : decode cX4_rackFor 6 = .ok (.bipush 12, 2) := by decide +kernel
theorem dX4_rackFor_8 : decode cX4_rackFor 8 = .ok (.if_icmp .gt 17, 3) := by decide +kernel
theorem dX4_rackFor_11 : decode cX4_rackFor 11 = .ok (.aload_n 0, 1) := by decide +kernel
theorem dX4_rackFor_12 : decode cX4_rackFor 12 = .ok (.iconst 0, 1) := by decide +kernel
theorem dX4_rackFor_13 : decode cX4_rackFor 13 = .ok (.invokevirtual 147, 3) := by decide +kernel
theorem dX4_rackFor_16 : decode cX4_rackFor 16 = .ok (.bipush 6, 2) := by decide +kernel
theorem dX4_rackFor_18 : decode cX4_rackFor 18 = .ok (.if_icmp .ge 7, 3) := by decide +kernel
theorem dX4_rackFor_21 : decode cX4_rackFor 21 = .ok (.iconst 0, 1) := by decide +kernel
theorem dX4_rackFor_22 : decode cX4_rackFor 22 = .ok (.goto 19, 3) := by decide +kernel
theorem dX4_rackFor_25 : decode cX4_rackFor 25 = .ok (.aload_n 0, 1) := by decide +kernel
theorem dX4_rackFor_26 : decode cX4_rackFor 26 = .ok (.iconst 1, 1) := by decide +kernel
theorem dX4_rackFor_27 : decode cX4_rackFor 27 = .ok (.invokevirtual 147, 3) := by decide +kernel
theorem dX4_rackFor_30 : decode cX4_rackFor 30 = .ok (.bipush 6, 2) := by decide +kernel
theorem dX4_rackFor_32 : decode cX4_rackFor 32 = .ok (.if_icmp .ge 7, 3) := by decide +kernel
theorem dX4_rackFor_35 : decode cX4_rackFor 35 = .ok (.iconst 1, 1) := by decide +kernel
theorem dX4_rackFor_36 : decode cX4_rackFor 36 = .ok (.goto 5, 3) := by decide +kernel
theorem dX4_rackFor_39 : decode cX4_rackFor 39 = .ok (.bipush (-5), 2) := by decide +kernel
theorem dX4_rackFor_41 : decode cX4_rackFor 41 = .ok (.ireturn, 1) := by decide +kernel
theorem dX4_noMast_0 : decode cX4_noMast 0 = .ok (.aload_n 0, 1) := by decide +kernel
theorem dX4_noMast_1 : decode cX4_noMast 1 = .ok (.iload_n 1, 1) := by decide +kernel
theorem dX4_noMast_2 : decode cX4_noMast 2 = .ok (.invokevirtual 92, 3) := by decide +kernel
theorem dX4_noMast_5 : decode cX4_noMast 5 = .ok (.ifCond .ne 5, 3) := by decide +kernel
theorem dX4_noMast_8 : decode cX4_noMast 8 = .ok (.iconst (-1), 1) := by decide +kernel
theorem dX4_noMast_9 : decode cX4_noMast 9 = .ok (.ireturn, 1) := by decide +kernel
theorem dX4_noMast_10 : decode cX4_noMast 10 = .ok (.aload_n 0, 1) := by decide +kernel
theorem dX4_noMast_11 : decode cX4_noMast 11 = .ok (.iload_n 1, 1) := by decide +kernel
theorem dX4_noMast_12 : decode cX4_noMast 12 = .ok (.invokevirtual 40, 3) := by decide +kernel
theorem dX4_noMast_15 : decode cX4_noMast 15 = .ok (.ifCond .eq 6, 3) := by decide +kernel
theorem dX4_noMast_18 : decode cX4_noMast 18 = .ok (.bipush (-4), 2) := by decide +kernel
theorem dX4_noMast_20 : decode cX4_noMast 20 = .ok (.ireturn, 1) := by decide +kernel
theorem dX4_noMast_21 : decode cX4_noMast 21 = .ok (.iload_n 2, 1) := by decide +kernel
theorem dX4_noMast_22 : decode cX4_noMast 22 = .ok (.aload_n 0, 1) := by decide +kernel
theorem dX4_noMast_23 : decode cX4_noMast 23 = .ok (.iload_n 1, 1) := by decide +kernel
theorem dX4_noMast_24 : decode cX4_noMast 24 = .ok (.bipush 7, 2) := by decide +kernel
theorem dX4_noMast_26 : decode cX4_noMast 26 = .ok (.invokevirtual 36, 3) := by decide +kernel
theorem dX4_noMast_29 : decode cX4_noMast 29 = .ok (.bipush (-5), 2) := by decide +kernel
theorem dX4_noMast_31 : decode cX4_noMast 31 = .ok (.if_icmp .ne 7, 3) := by decide +kernel
theorem dX4_noMast_34 : decode cX4_noMast 34 = .ok (.iconst 1, 1) := by decide +kernel
theorem dX4_noMast_35 : decode cX4_noMast 35 = .ok (.goto 4, 3) := by decide +kernel
theorem dX4_noMast_38 : decode cX4_noMast 38 = .ok (.iconst 0, 1) := by decide +kernel
theorem dX4_noMast_39 : decode cX4_noMast 39 = .ok (.if_icmp .ne 6, 3) := by decide +kernel
theorem dX4_noMast_42 : decode cX4_noMast 42 = .ok (.bipush (-5), 2) := by decide +kernel
theorem dX4_noMast_44 : decode cX4_noMast 44 = .ok (.ireturn, 1) := by decide +kernel
theorem dX4_noMast_45 : decode cX4_noMast 45 = .ok (.iload_n 2, 1) := by decide +kernel
theorem dX4_noMast_46 : decode cX4_noMast 46 = .ok (.ifCond .ne 18, 3) := by decide +kernel
theorem dX4_noMast_49 : decode cX4_noMast 49 = .ok (.aload_n 0, 1) := by decide +kernel
theorem dX4_noMast_50 : decode cX4_noMast 50 = .ok (.iload_n 1, 1) := by decide +kernel
theorem dX4_noMast_51 : decode cX4_noMast 51 = .ok (.invokevirtual 150, 3) := by decide +kernel
theorem dX4_noMast_54 : decode cX4_noMast 54 = .ok (.bipush (-5), 2) := by decide +kernel
theorem dX4_noMast_56 : decode cX4_noMast 56 = .ok (.if_icmp .ne 8, 3) := by decide +kernel
theorem dX4_noMast_59 : decode cX4_noMast 59 = .ok (.bipush (-3), 2) := by decide +kernel
theorem dX4_noMast_61 : decode cX4_noMast 61 = .ok (.goto 4, 3) := by decide +kernel
theorem dX4_noMast_64 : decode cX4_noMast 64 = .ok (.iconst 0, 1) := by decide +kernel
theorem dX4_noMast_65 : decode cX4_noMast 65 = .ok (.ireturn, 1) := by decide +kernel
theorem dX4_doMast_0 : decode cX4_doMast 0 = .ok (.iload_n 2, 1) := by decide +kernel
theorem dX4_doMast_1 : decode cX4_doMast 1 = .ok (.ifCond .eq 13, 3) := by decide +kernel
theorem dX4_doMast_4 : decode cX4_doMast 4 = .ok (.aload_n 0, 1) := by decide +kernel
theorem dX4_doMast_5 : decode cX4_doMast 5 = .ok (.iload_n 1, 1) := by decide +kernel
theorem dX4_doMast_6 : decode cX4_doMast 6 = .ok (.bipush 7, 2) := by decide +kernel
theorem dX4_doMast_8 : decode cX4_doMast 8 = .ok (.invokevirtual 36, 3) := by decide +kernel
theorem dX4_doMast_11 : decode cX4_doMast 11 = .ok (.goto 8, 3) := by decide +kernel
theorem dX4_doMast_14 : decode cX4_doMast 14 = .ok (.aload_n 0, 1) := by decide +kernel
theorem dX4_doMast_15 : decode cX4_doMast 15 = .ok (.iload_n 1, 1) := by decide +kernel
theorem dX4_doMast_16 : decode cX4_doMast 16 = .ok (.invokevirtual 150, 3) := by decide +kernel
theorem dX4_doMast_19 : decode cX4_doMast 19 = .ok (.istore_n 3, 1) := by decide +kernel
theorem dX4_doMast_20 : decode cX4_doMast 20 = .ok (.aload_n 0, 1) := by decide +kernel
theorem dX4_doMast_21 : decode cX4_doMast 21 = .ok (.iload_n 1, 1) := by decide +kernel
theorem dX4_doMast_22 : decode cX4_doMast 22 = .ok (.bipush 7, 2) := by decide +kernel
theorem dX4_doMast_24 : decode cX4_doMast 24 = .ok (.iload_n 2, 1) := by decide +kernel
theorem dX4_doMast_25 : decode cX4_doMast 25 = .ok (.ifCond .eq 8, 3) := by decide +kernel
theorem dX4_doMast_28 : decode cX4_doMast 28 = .ok (.bipush (-5), 2) := by decide +kernel
theorem dX4_doMast_30 : decode cX4_doMast 30 = .ok (.goto 4, 3) := by decide +kernel
theorem dX4_doMast_33 : decode cX4_doMast 33 = .ok (.iload_n 3, 1) := by decide +kernel
theorem dX4_doMast_34 : decode cX4_doMast 34 = .ok (.invokevirtual 70, 3) := by decide +kernel
theorem dX4_doMast_37 : decode cX4_doMast 37 = .ok (.iload_n 3, 1) := by decide +kernel
theorem dX4_doMast_38 : decode cX4_doMast 38 = .ok (.ireturn, 1) := by decide +kernel
theorem dX4_mast_0 : decode cX4_mast 0 = .ok (.aload_n 0, 1) := by decide +kernel
theorem dX4_mast_1 : decode cX4_mast 1 = .ok (.iload_n 1, 1) := by decide +kernel
theorem dX4_mast_2 : decode cX4_mast 2 = .ok (.iload_n 2, 1) := by decide +kernel
theorem dX4_mast_3 : decode cX4_mast 3 = .ok (.invokevirtual 153, 3) := by decide +kernel
theorem dX4_mast_6 : decode cX4_mast 6 = .ok (.istore_n 3, 1) := by decide +kernel
theorem dX4_mast_7 : decode cX4_mast 7 = .ok (.iload_n 3, 1) := by decide +kernel
theorem dX4_mast_8 : decode cX4_mast 8 = .ok (.ifCond .ge 5, 3) := by decide +kernel
theorem dX4_mast_11 : decode cX4_mast 11 = .ok (.iload_n 3, 1) := by decide +kernel
theorem dX4_mast_12 : decode cX4_mast 12 = .ok (.ireturn, 1) := by decide +kernel
theorem dX4_mast_13 : decode cX4_mast 13 = .ok (.aload_n 0, 1) := by decide +kernel
theorem dX4_mast_14 : decode cX4_mast 14 = .ok (.aload_n 0, 1) := by decide +kernel
theorem dX4_mast_15 : decode cX4_mast 15 = .ok (.getfield 7, 3) := by decide +kernel
theorem dX4_mast_18 : decode cX4_mast 18 = .ok (.invokevirtual 85, 3) := by decide +kernel
theorem dX4_mast_21 : decode cX4_mast 21 = .ok (.aload_n 0, 1) := by decide +kernel
theorem dX4_mast_22 : decode cX4_mast 22 = .ok (.iload_n 1, 1) := by decide +kernel
theorem dX4_mast_23 : decode cX4_mast 23 = .ok (.iload_n 2, 1) := by decide +kernel
theorem dX4_mast_24 : decode cX4_mast 24 = .ok (.invokevirtual 157, 3) := by decide +kernel
theorem dX4_mast_27 : decode cX4_mast 27 = .ok (.ireturn, 1) := by decide +kernel
theorem dX4_work_0 : decode cX4_work 0 = .ok (.aload_n 0, 1) := by decide +kernel
theorem dX4_work_1 : decode cX4_work 1 = .ok (.iload_n 1, 1) := by decide +kernel
theorem dX4_work_2 : decode cX4_work 2 = .ok (.invokevirtual 92, 3) := by decide +kernel
theorem dX4_work_5 : decode cX4_work 5 = .ok (.ifCond .ne 5, 3) := by decide +kernel
theorem dX4_work_8 : decode cX4_work 8 = .ok (.iconst (-1), 1) := by decide +kernel
theorem dX4_work_9 : decode cX4_work 9 = .ok (.ireturn, 1) := by decide +kernel
theorem dX4_work_10 : decode cX4_work 10 = .ok (.iload_n 2, 1) := by decide +kernel
theorem dX4_work_11 : decode cX4_work 11 = .ok (.iconst 1, 1) := by decide +kernel
theorem dX4_work_12 : decode cX4_work 12 = .ok (.bipush 99, 2) := by decide +kernel
theorem dX4_work_14 : decode cX4_work 14 = .ok (.invokestatic 32, 3) := by decide +kernel
theorem dX4_work_17 : decode cX4_work 17 = .ok (.ifCond .ne 6, 3) := by decide +kernel
theorem dX4_work_20 : decode cX4_work 20 = .ok (.bipush (-2), 2) := by decide +kernel
theorem dX4_work_22 : decode cX4_work 22 = .ok (.ireturn, 1) := by decide +kernel
theorem dX4_work_23 : decode cX4_work 23 = .ok (.aload_n 0, 1) := by decide +kernel
theorem dX4_work_24 : decode cX4_work 24 = .ok (.iload_n 1, 1) := by decide +kernel
theorem dX4_work_25 : decode cX4_work 25 = .ok (.bipush 8, 2) := by decide +kernel
theorem dX4_work_27 : decode cX4_work 27 = .ok (.invokevirtual 36, 3) := by decide +kernel
theorem dX4_work_30 : decode cX4_work 30 = .ok (.iload_n 2, 1) := by decide +kernel
theorem dX4_work_31 : decode cX4_work 31 = .ok (.iadd, 1) := by decide +kernel
theorem dX4_work_32 : decode cX4_work 32 = .ok (.bipush 99, 2) := by decide +kernel
theorem dX4_work_34 : decode cX4_work 34 = .ok (.if_icmp .le 6, 3) := by decide +kernel
theorem dX4_work_37 : decode cX4_work 37 = .ok (.bipush (-3), 2) := by decide +kernel
theorem dX4_work_39 : decode cX4_work 39 = .ok (.ireturn, 1) := by decide +kernel
theorem dX4_work_40 : decode cX4_work 40 = .ok (.aload_n 0, 1) := by decide +kernel
theorem dX4_work_41 : decode cX4_work 41 = .ok (.aload_n 0, 1) := by decide +kernel
theorem dX4_work_42 : decode cX4_work 42 = .ok (.getfield 7, 3) := by decide +kernel
theorem dX4_work_45 : decode cX4_work 45 = .ok (.invokevirtual 85, 3) := by decide +kernel
theorem dX4_work_48 : decode cX4_work 48 = .ok (.aload_n 0, 1) := by decide +kernel
theorem dX4_work_49 : decode cX4_work 49 = .ok (.iload_n 1, 1) := by decide +kernel
theorem dX4_work_50 : decode cX4_work 50 = .ok (.bipush 8, 2) := by decide +kernel
theorem dX4_work_52 : decode cX4_work 52 = .ok (.aload_n 0, 1) := by decide +kernel
theorem dX4_work_53 : decode cX4_work 53 = .ok (.iload_n 1, 1) := by decide +kernel
theorem dX4_work_54 : decode cX4_work 54 = .ok (.bipush 8, 2) := by decide +kernel
theorem dX4_work_56 : decode cX4_work 56 = .ok (.invokevirtual 36, 3) := by decide +kernel
theorem dX4_work_59 : decode cX4_work 59 = .ok (.iload_n 2, 1) := by decide +kernel
theorem dX4_work_60 : decode cX4_work 60 = .ok (.iadd, 1) := by decide +kernel
theorem dX4_work_61 : decode cX4_work 61 = .ok (.invokevirtual 70, 3) := by decide +kernel
theorem dX4_work_64 : decode cX4_work 64 = .ok (.aload_n 0, 1) := by decide +kernel
theorem dX4_work_65 : decode cX4_work 65 = .ok (.iload_n 1, 1) := by decide +kernel
theorem dX4_work_66 : decode cX4_work 66 = .ok (.bipush 8, 2) := by decide +kernel
theorem dX4_work_68 : decode cX4_work 68 = .ok (.invokevirtual 36, 3) := by decide +kernel
theorem dX4_work_71 : decode cX4_work 71 = .ok (.ireturn, 1) := by decide +kernel
theorem dX4_noPass_0 : decode cX4_noPass 0 = .ok (.iload_n 1, 1) := by decide +kernel
theorem dX4_noPass_1 : decode cX4_noPass 1 = .ok (.iconst 1, 1) := by decide +kernel
theorem dX4_noPass_2 : decode cX4_noPass 2 = .ok (.bipush 99, 2) := by decide +kernel
theorem dX4_noPass_4 : decode cX4_noPass 4 = .ok (.invokestatic 32, 3) := by decide +kernel
theorem dX4_noPass_7 : decode cX4_noPass 7 = .ok (.ifCond .ne 8, 3) := by decide +kernel
theorem dX4_noPass_10 : decode cX4_noPass 10 = .ok (.bipush (-2), 2) := by decide +kernel
theorem dX4_noPass_12 : decode cX4_noPass 12 = .ok (.goto 23, 3) := by decide +kernel
theorem dX4_noPass_15 : decode cX4_noPass 15 = .ok (.aload_n 0, 1) := by decide +kernel
theorem dX4_noPass_16 : decode cX4_noPass 16 = .ok (.getfield 7, 3) := by decide +kernel
theorem dX4_noPass_19 : decode cX4_noPass 19 = .ok (.iconst 0, 1) := by decide +kernel
theorem dX4_noPass_20 : decode cX4_noPass 20 = .ok (.iaload, 1) := by decide +kernel
theorem dX4_noPass_21 : decode cX4_noPass 21 = .ok (.iload_n 1, 1) := by decide +kernel
theorem dX4_noPass_22 : decode cX4_noPass 22 = .ok (.iadd, 1) := by decide +kernel
theorem dX4_noPass_23 : decode cX4_noPass 23 = .ok (.sipush 9999, 3) := by decide +kernel
theorem dX4_noPass_26 : decode cX4_noPass 26 = .ok (.if_icmp .le 8, 3) := by decide +kernel
theorem dX4_noPass_29 : decode cX4_noPass 29 = .ok (.bipush (-3), 2) := by decide +kernel
theorem dX4_noPass_31 : decode cX4_noPass 31 = .ok (.goto 4, 3) := by decide +kernel
theorem dX4_noPass_34 : decode cX4_noPass 34 = .ok (.iconst 0, 1) := by decide +kernel
theorem dX4_noPass_35 : decode cX4_noPass 35 = .ok (.ireturn, 1) := by decide +kernel
theorem dX4_doPass_0 : decode cX4_doPass 0 = .ok (.aload_n 0, 1) := by decide +kernel
theorem dX4_doPass_1 : decode cX4_doPass 1 = .ok (.getfield 7, 3) := by decide +kernel
theorem dX4_doPass_4 : decode cX4_doPass 4 = .ok (.iconst 0, 1) := by decide +kernel
theorem dX4_doPass_5 : decode cX4_doPass 5 = .ok (.dup2, 1) := by decide +kernel
theorem dX4_doPass_6 : decode cX4_doPass 6 = .ok (.iaload, 1) := by decide +kernel
theorem dX4_doPass_7 : decode cX4_doPass 7 = .ok (.iload_n 1, 1) := by decide +kernel
theorem dX4_doPass_8 : decode cX4_doPass 8 = .ok (.iadd, 1) := by decide +kernel
theorem dX4_doPass_9 : decode cX4_doPass 9 = .ok (.iastore, 1) := by decide +kernel
theorem dX4_doPass_10 : decode cX4_doPass 10 = .ok (.aload_n 0, 1) := by decide +kernel
theorem dX4_doPass_11 : decode cX4_doPass 11 = .ok (.getfield 7, 3) := by decide +kernel
theorem dX4_doPass_14 : decode cX4_doPass 14 = .ok (.iconst 1, 1) := by decide +kernel
theorem dX4_doPass_15 : decode cX4_doPass 15 = .ok (.iconst 0, 1) := by decide +kernel
theorem dX4_doPass_16 : decode cX4_doPass 16 = .ok (.iastore, 1) := by decide +kernel
theorem dX4_doPass_17 : decode cX4_doPass 17 = .ok (.iconst 0, 1) := by decide +kernel
theorem dX4_doPass_18 : decode cX4_doPass 18 = .ok (.istore_n 2, 1) := by decide +kernel
theorem dX4_doPass_19 : decode cX4_doPass 19 = .ok (.iload_n 2, 1) := by decide +kernel
theorem dX4_doPass_20 : decode cX4_doPass 20 = .ok (.bipush 20, 2) := by decide +kernel
theorem dX4_doPass_22 : decode cX4_doPass 22 = .ok (.if_icmp .ge 74, 3) := by decide +kernel
theorem dX4_doPass_25 : decode cX4_doPass 25 = .ok (.aload_n 0, 1) := by decide +kernel
theorem dX4_doPass_26 : decode cX4_doPass 26 = .ok (.iload_n 2, 1) := by decide +kernel
theorem dX4_doPass_27 : decode cX4_doPass 27 = .ok (.iconst 0, 1) := by decide +kernel
theorem dX4_doPass_28 : decode cX4_doPass 28 = .ok (.invokevirtual 36, 3) := by decide +kernel
theorem dX4_doPass_31 : decode cX4_doPass 31 = .ok (.iconst 1, 1) := by decide +kernel
theorem dX4_doPass_32 : decode cX4_doPass 32 = .ok (.if_icmp .ne 58, 3) := by decide +kernel
theorem dX4_doPass_35 : decode cX4_doPass 35 = .ok (.aload_n 0, 1) := by decide +kernel
theorem dX4_doPass_36 : decode cX4_doPass 36 = .ok (.iload_n 2, 1) := by decide +kernel
theorem dX4_doPass_37 : decode cX4_doPass 37 = .ok (.invokevirtual 40, 3) := by decide +kernel
theorem dX4_doPass_40 : decode cX4_doPass 40 = .ok (.ifCond .eq 50, 3) := by decide +kernel
theorem dX4_doPass_43 : decode cX4_doPass 43 = .ok (.aload_n 0, 1) := by decide +kernel
theorem dX4_doPass_44 : decode cX4_doPass 44 = .ok (.iload_n 2, 1) := by decide +kernel
theorem dX4_doPass_45 : decode cX4_doPass 45 = .ok (.bipush 9, 2) := by decide +kernel
theorem dX4_doPass_47 : decode cX4_doPass 47 = .ok (.aload_n 0, 1) := by decide +kernel
theorem dX4_doPass_48 : decode cX4_doPass 48 = .ok (.iload_n 2, 1) := by decide +kernel
theorem dX4_doPass_49 : decode cX4_doPass 49 = .ok (.bipush 9, 2) := by decide +kernel
theorem dX4_doPass_51 : decode cX4_doPass 51 = .ok (.invokevirtual 36, 3) := by decide +kernel
theorem dX4_doPass_54 : decode cX4_doPass 54 = .ok (.iload_n 1, 1) := by decide +kernel
theorem dX4_doPass_55 : decode cX4_doPass 55 = .ok (.iadd, 1) := by decide +kernel
theorem dX4_doPass_56 : decode cX4_doPass 56 = .ok (.invokevirtual 70, 3) := by decide +kernel
theorem dX4_doPass_59 : decode cX4_doPass 59 = .ok (.aload_n 0, 1) := by decide +kernel
theorem dX4_doPass_60 : decode cX4_doPass 60 = .ok (.iload_n 2, 1) := by decide +kernel
theorem dX4_doPass_61 : decode cX4_doPass 61 = .ok (.bipush 8, 2) := by decide +kernel
theorem dX4_doPass_63 : decode cX4_doPass 63 = .ok (.aload_n 0, 1) := by decide +kernel
theorem dX4_doPass_64 : decode cX4_doPass 64 = .ok (.iload_n 2, 1) := by decide +kernel
theorem dX4_doPass_65 : decode cX4_doPass 65 = .ok (.bipush 8, 2) := by decide +kernel
theorem dX4_doPass_67 : decode cX4_doPass 67 = .ok (.invokevirtual 36, 3) := by decide +kernel
theorem dX4_doPass_70 : decode cX4_doPass 70 = .ok (.iload_n 1, 1) := by decide +kernel
theorem dX4_doPass_71 : decode cX4_doPass 71 = .ok (.if_icmp .le 15, 3) := by decide +kernel
theorem dX4_doPass_74 : decode cX4_doPass 74 = .ok (.aload_n 0, 1) := by decide +kernel
theorem dX4_doPass_75 : decode cX4_doPass 75 = .ok (.iload_n 2, 1) := by decide +kernel
theorem dX4_doPass_76 : decode cX4_doPass 76 = .ok (.bipush 8, 2) := by decide +kernel
theorem dX4_doPass_78 : decode cX4_doPass 78 = .ok (.invokevirtual 36, 3) := by decide +kernel
theorem dX4_doPass_81 : decode cX4_doPass 81 = .ok (.iload_n 1, 1) := by decide +kernel
theorem dX4_doPass_82 : decode cX4_doPass 82 = .ok (.isub, 1) := by decide +kernel
theorem dX4_doPass_83 : decode cX4_doPass 83 = .ok (.goto 4, 3) := by decide +kernel
theorem dX4_doPass_86 : decode cX4_doPass 86 = .ok (.iconst 0, 1) := by decide +kernel
theorem dX4_doPass_87 : decode cX4_doPass 87 = .ok (.invokevirtual 70, 3) := by decide +kernel
theorem dX4_doPass_90 : decode cX4_doPass 90 = .ok (.iinc 2 1, 3) := by decide +kernel
theorem dX4_doPass_93 : decode cX4_doPass 93 = .ok (.goto (-74), 3) := by decide +kernel
theorem dX4_doPass_96 : decode cX4_doPass 96 = .ok (.aload_n 0, 1) := by decide +kernel
theorem dX4_doPass_97 : decode cX4_doPass 97 = .ok (.aload_n 0, 1) := by decide +kernel
theorem dX4_doPass_98 : decode cX4_doPass 98 = .ok (.getfield 7, 3) := by decide +kernel
theorem dX4_doPass_101 : decode cX4_doPass 101 = .ok (.iconst 0, 1) := by decide +kernel
theorem dX4_doPass_102 : decode cX4_doPass 102 = .ok (.iaload, 1) := by decide +kernel
theorem dX4_doPass_103 : decode cX4_doPass 103 = .ok (.invokevirtual 101, 3) := by decide +kernel
theorem dX4_doPass_106 : decode cX4_doPass 106 = .ok (.ireturn, 1) := by decide +kernel
theorem dX4_pass_0 : decode cX4_pass 0 = .ok (.aload_n 0, 1) := by decide +kernel
theorem dX4_pass_1 : decode cX4_pass 1 = .ok (.iload_n 1, 1) := by decide +kernel
theorem dX4_pass_2 : decode cX4_pass 2 = .ok (.invokevirtual 160, 3) := by decide +kernel
theorem dX4_pass_5 : decode cX4_pass 5 = .ok (.istore_n 2, 1) := by decide +kernel
theorem dX4_pass_6 : decode cX4_pass 6 = .ok (.iload_n 2, 1) := by decide +kernel
theorem dX4_pass_7 : decode cX4_pass 7 = .ok (.ifCond .ge 5, 3) := by decide +kernel
theorem dX4_pass_10 : decode cX4_pass 10 = .ok (.iload_n 2, 1) := by decide +kernel
theorem dX4_pass_11 : decode cX4_pass 11 = .ok (.ireturn, 1) := by decide +kernel
theorem dX4_pass_12 : decode cX4_pass 12 = .ok (.aload_n 0, 1) := by decide +kernel
theorem dX4_pass_13 : decode cX4_pass 13 = .ok (.aload_n 0, 1) := by decide +kernel
theorem dX4_pass_14 : decode cX4_pass 14 = .ok (.getfield 7, 3) := by decide +kernel
theorem dX4_pass_17 : decode cX4_pass 17 = .ok (.invokevirtual 85, 3) := by decide +kernel
theorem dX4_pass_20 : decode cX4_pass 20 = .ok (.aload_n 0, 1) := by decide +kernel
theorem dX4_pass_21 : decode cX4_pass 21 = .ok (.iload_n 1, 1) := by decide +kernel
theorem dX4_pass_22 : decode cX4_pass 22 = .ok (.invokevirtual 163, 3) := by decide +kernel
theorem dX4_pass_25 : decode cX4_pass 25 = .ok (.ireturn, 1) := by decide +kernel
theorem dX4_type_0 : decode cX4_type 0 = .ok (.aload_n 0, 1) := by decide +kernel
theorem dX4_type_1 : decode cX4_type 1 = .ok (.getfield 166, 3) := by decide +kernel
theorem dX4_type_4 : decode cX4_type 4 = .ok (.bipush 60, 2) := by decide +kernel
theorem dX4_type_6 : decode cX4_type 6 = .ok (.if_icmp .ne 6, 3) := by decide +kernel
theorem dX4_type_9 : decode cX4_type 9 = .ok (.bipush (-3), 2) := by decide +kernel
theorem dX4_type_11 : decode cX4_type 11 = .ok (.ireturn, 1) := by decide +kernel
theorem dX4_type_12 : decode cX4_type 12 = .ok (.aload_n 0, 1) := by decide +kernel
theorem dX4_type_13 : decode cX4_type 13 = .ok (.getfield 22, 3) := by decide +kernel
theorem dX4_type_16 : decode cX4_type 16 = .ok (.aload_n 0, 1) := by decide +kernel
theorem dX4_type_17 : decode cX4_type 17 = .ok (.getfield 166, 3) := by decide +kernel
theorem dX4_type_20 : decode cX4_type 20 = .ok (.iload_n 1, 1) := by decide +kernel
theorem dX4_type_21 : decode cX4_type 21 = .ok (.iastore, 1) := by decide +kernel
theorem dX4_type_22 : decode cX4_type 22 = .ok (.aload_n 0, 1) := by decide +kernel
theorem dX4_type_23 : decode cX4_type 23 = .ok (.dup, 1) := by decide +kernel
theorem dX4_type_24 : decode cX4_type 24 = .ok (.getfield 166, 3) := by decide +kernel
theorem dX4_type_27 : decode cX4_type 27 = .ok (.iconst 1, 1) := by decide +kernel
theorem dX4_type_28 : decode cX4_type 28 = .ok (.iadd, 1) := by decide +kernel
theorem dX4_type_29 : decode cX4_type 29 = .ok (.putfield 166, 3) := by decide +kernel
theorem dX4_type_32 : decode cX4_type 32 = .ok (.aload_n 0, 1) := by decide +kernel
theorem dX4_type_33 : decode cX4_type 33 = .ok (.getfield 166, 3) := by decide +kernel
theorem dX4_type_36 : decode cX4_type 36 = .ok (.ireturn, 1) := by decide +kernel
theorem dX4_clearText_0 : decode cX4_clearText 0 = .ok (.aload_n 0, 1) := by decide +kernel
theorem dX4_clearText_1 : decode cX4_clearText 1 = .ok (.getfield 166, 3) := by decide +kernel
theorem dX4_clearText_4 : decode cX4_clearText 4 = .ok (.istore_n 1, 1) := by decide +kernel
theorem dX4_clearText_5 : decode cX4_clearText 5 = .ok (.aload_n 0, 1) := by decide +kernel
theorem dX4_clearText_6 : decode cX4_clearText 6 = .ok (.iconst 0, 1) := by decide +kernel
theorem dX4_clearText_7 : decode cX4_clearText 7 = .ok (.putfield 166, 3) := by decide +kernel
theorem dX4_clearText_10 : decode cX4_clearText 10 = .ok (.iload_n 1, 1) := by decide +kernel
theorem dX4_clearText_11 : decode cX4_clearText 11 = .ok (.ireturn, 1) := by decide +kernel
theorem dX4_at_0 : decode cX4_at 0 = .ok (.iload_n 1, 1) := by decide +kernel
theorem dX4_at_1 : decode cX4_at 1 = .ok (.aload_n 0, 1) := by decide +kernel
theorem dX4_at_2 : decode cX4_at 2 = .ok (.getfield 166, 3) := by decide +kernel
theorem dX4_at_5 : decode cX4_at 5 = .ok (.if_icmp .ge 12, 3) := by decide +kernel
theorem dX4_at_8 : decode cX4_at 8 = .ok (.aload_n 0, 1) := by decide +kernel
theorem dX4_at_9 : decode cX4_at 9 = .ok (.getfield 22, 3) := by decide +kernel
theorem dX4_at_12 : decode cX4_at 12 = .ok (.iload_n 1, 1) := by decide +kernel
theorem dX4_at_13 : decode cX4_at 13 = .ok (.iaload, 1) := by decide +kernel
theorem dX4_at_14 : decode cX4_at 14 = .ok (.goto 4, 3) := by decide +kernel
theorem dX4_at_17 : decode cX4_at 17 = .ok (.iconst 0, 1) := by decide +kernel
theorem dX4_at_18 : decode cX4_at 18 = .ok (.ireturn, 1) := by decide +kernel
theorem dX4_isDigit_0 : decode cX4_isDigit 0 = .ok (.iload_n 0, 1) := by decide +kernel
theorem dX4_isDigit_1 : decode cX4_isDigit 1 = .ok (.bipush 48, 2) := by decide +kernel
theorem dX4_isDigit_3 : decode cX4_isDigit 3 = .ok (.bipush 57, 2) := by decide +kernel
theorem dX4_isDigit_5 : decode cX4_isDigit 5 = .ok (.invokestatic 32, 3) := by decide +kernel
theorem dX4_isDigit_8 : decode cX4_isDigit 8 = .ok (.ireturn, 1) := by decide +kernel
theorem dX4_readNumber_0 : decode cX4_readNumber 0 = .ok (.aload_n 0, 1) := by decide +kernel
theorem dX4_readNumber_1 : decode cX4_readNumber 1 = .ok (.iload_n 1, 1) := by decide +kernel
theorem dX4_readNumber_2 : decode cX4_readNumber 2 = .ok (.invokevirtual 169, 3) := by decide +kernel
theorem dX4_readNumber_5 : decode cX4_readNumber 5 = .ok (.bipush 48, 2) := by decide +kernel
theorem dX4_readNumber_7 : decode cX4_readNumber 7 = .ok (.isub, 1) := by decide +kernel
theorem dX4_readNumber_8 : decode cX4_readNumber 8 = .ok (.istore 4, 2) := by decide +kernel
theorem dX4_readNumber_10 : decode cX4_readNumber 10 = .ok (.iload 4, 2) := by decide +kernel
theorem dX4_readNumber_12 : decode cX4_readNumber 12 = .ok (.iload_n 2, 1) := by decide +kernel
theorem dX4_readNumber_13 : decode cX4_readNumber 13 = .ok (.bipush 9, 2) := by decide +kernel
theorem dX4_readNumber_15 : decode cX4_readNumber 15 = .ok (.invokestatic 32, 3) := by decide +kernel
theorem dX4_readNumber_18 : decode cX4_readNumber 18 = .ok (.ifCond .eq 9, 3) := by decide +kernel
theorem dX4_readNumber_21 : decode cX4_readNumber 21 = .ok (.iload 4, 2) := by decide +kernel
theorem dX4_readNumber_23 : decode cX4_readNumber 23 = .ok (.iload_n 3, 1) := by decide +kernel
theorem dX4_readNumber_24 : decode cX4_readNumber 24 = .ok (.if_icmp .le 7, 3) := by decide +kernel
theorem dX4_readNumber_27 : decode cX4_readNumber 27 = .ok (.iconst (-1), 1) := by decide +kernel
theorem dX4_readNumber_28 : decode cX4_readNumber 28 = .ok (.iload_n 1, 1) := by decide +kernel
theorem dX4_readNumber_29 : decode cX4_readNumber 29 = .ok (.isub, 1) := by decide +kernel
theorem dX4_readNumber_30 : decode cX4_readNumber 30 = .ok (.ireturn, 1) := by decide +kernel
theorem dX4_readNumber_31 : decode cX4_readNumber 31 = .ok (.iload_n 1, 1) := by decide +kernel
theorem dX4_readNumber_32 : decode cX4_readNumber 32 = .ok (.iconst 1, 1) := by decide +kernel
theorem dX4_readNumber_33 : decode cX4_readNumber 33 = .ok (.iadd, 1) := by decide +kernel
theorem dX4_readNumber_34 : decode cX4_readNumber 34 = .ok (.istore 5, 2) := by decide +kernel
theorem dX4_readNumber_36 : decode cX4_readNumber 36 = .ok (.iload 4, 2) := by decide +kernel
theorem dX4_readNumber_38 : decode cX4_readNumber 38 = .ok (.ifCond .le 57, 3) := by decide +kernel
theorem dX4_readNumber_41 : decode cX4_readNumber 41 = .ok (.aload_n 0, 1) := by decide +kernel
theorem dX4_readNumber_42 : decode cX4_readNumber 42 = .ok (.iload 5, 2) := by decide +kernel
theorem dX4_readNumber_44 : decode cX4_readNumber 44 = .ok (.invokevirtual 169, 3) := by decide +kernel
theorem dX4_readNumber_47 : decode cX4_readNumber 47 = .ok (.invokestatic 172, 3) := by decide +kernel
theorem dX4_readNumber_50 : decode cX4_readNumber 50 = .ok (.ifCond .eq 45, 3) := by decide +kernel
theorem dX4_readNumber_53 : decode cX4_readNumber 53 = .ok (.bipush 10, 2) := by decide +kernel
theorem dX4_readNumber_55 : decode cX4_readNumber 55 = .ok (.iload 4, 2) := by decide +kernel
theorem dX4_readNumber_57 : decode cX4_readNumber 57 = .ok (.imul, 1) := by decide +kernel
theorem dX4_readNumber_58 : decode cX4_readNumber 58 = .ok (.aload_n 0, 1) := by decide +kernel
theorem dX4_readNumber_59 : decode cX4_readNumber 59 = .ok (.iload 5, 2) := by decide +kernel
theorem dX4_readNumber_61 : decode cX4_readNumber 61 = .ok (.invokevirtual 169, 3) := by decide +kernel
theorem dX4_readNumber_64 : decode cX4_readNumber 64 = .ok (.iadd, 1) := by decide +kernel
theorem dX4_readNumber_65 : decode cX4_readNumber 65 = .ok (.bipush 48, 2) := by decide +kernel
theorem dX4_readNumber_67 : decode cX4_readNumber 67 = .ok (.isub, 1) := by decide +kernel
theorem dX4_readNumber_68 : decode cX4_readNumber 68 = .ok (.iload_n 3, 1) := by decide +kernel
theorem dX4_readNumber_69 : decode cX4_readNumber 69 = .ok (.if_icmp .gt 26, 3) := by decide +kernel
theorem dX4_readNumber_72 : decode cX4_readNumber 72 = .ok (.bipush 10, 2) := by decide +kernel
theorem dX4_readNumber_74 : decode cX4_readNumber 74 = .ok (.iload 4, 2) := by decide +kernel
theorem dX4_readNumber_76 : decode cX4_readNumber 76 = .ok (.imul, 1) := by decide +kernel
theorem dX4_readNumber_77 : decode cX4_readNumber 77 = .ok (.aload_n 0, 1) := by decide +kernel
theorem dX4_readNumber_78 : decode cX4_readNumber 78 = .ok (.iload 5, 2) := by decide +kernel
theorem dX4_readNumber_80 : decode cX4_readNumber 80 = .ok (.invokevirtual 169, 3) := by decide +kernel
theorem dX4_readNumber_83 : decode cX4_readNumber 83 = .ok (.iadd, 1) := by decide +kernel
theorem dX4_readNumber_84 : decode cX4_readNumber 84 = .ok (.bipush 48, 2) := by decide +kernel
theorem dX4_readNumber_86 : decode cX4_readNumber 86 = .ok (.isub, 1) := by decide +kernel
theorem dX4_readNumber_87 : decode cX4_readNumber 87 = .ok (.istore 4, 2) := by decide +kernel
theorem dX4_readNumber_89 : decode cX4_readNumber 89 = .ok (.iinc 5 1, 3) := by decide +kernel
theorem dX4_readNumber_92 : decode cX4_readNumber 92 = .ok (.goto (-56), 3) := by decide +kernel
theorem dX4_readNumber_95 : decode cX4_readNumber 95 = .ok (.aload_n 0, 1) := by decide +kernel
theorem dX4_readNumber_96 : decode cX4_readNumber 96 = .ok (.aload_n 0, 1) := by decide +kernel
theorem dX4_readNumber_97 : decode cX4_readNumber 97 = .ok (.getfield 175, 3) := by decide +kernel
theorem dX4_readNumber_100 : decode cX4_readNumber 100 = .ok (.putfield 178, 3) := by decide +kernel
theorem dX4_readNumber_103 : decode cX4_readNumber 103 = .ok (.aload_n 0, 1) := by decide +kernel
theorem dX4_readNumber_104 : decode cX4_readNumber 104 = .ok (.iload 4, 2) := by decide +kernel
theorem dX4_readNumber_106 : decode cX4_readNumber 106 = .ok (.putfield 175, 3) := by decide +kernel
theorem dX4_readNumber_109 : decode cX4_readNumber 109 = .ok (.iload 5, 2) := by decide +kernel
theorem dX4_readNumber_111 : decode cX4_readNumber 111 = .ok (.ireturn, 1) := by decide +kernel
theorem dX4_readCommand_0 : decode cX4_readCommand 0 = .ok (.aload_n 0, 1) := by decide +kernel
theorem dX4_readCommand_1 : decode cX4_readCommand 1 = .ok (.aload_n 0, 1) := by decide +kernel
theorem dX4_readCommand_2 : decode cX4_readCommand 2 = .ok (.iload_n 1, 1) := by decide +kernel
theorem dX4_readCommand_3 : decode cX4_readCommand 3 = .ok (.invokevirtual 169, 3) := by decide +kernel
theorem dX4_readCommand_6 : decode cX4_readCommand 6 = .ok (.putfield 181, 3) := by decide +kernel
theorem dX4_readCommand_9 : decode cX4_readCommand 9 = .ok (.aload_n 0, 1) := by decide +kernel
theorem dX4_readCommand_10 : decode cX4_readCommand 10 = .ok (.getfield 181, 3) := by decide +kernel
theorem dX4_readCommand_13 : decode cX4_readCommand 13 = .ok (.bipush 46, 2) := by decide +kernel
theorem dX4_readCommand_15 : decode cX4_readCommand 15 = .ok (.if_icmp .ne 14, 3) := by decide +kernel
theorem dX4_readCommand_18 : decode cX4_readCommand 18 = .ok (.aload_n 0, 1) := by decide +kernel
theorem dX4_readCommand_19 : decode cX4_readCommand 19 = .ok (.iload_n 1, 1) := by decide +kernel
theorem dX4_readCommand_20 : decode cX4_readCommand 20 = .ok (.iconst 1, 1) := by decide +kernel
theorem dX4_readCommand_21 : decode cX4_readCommand 21 = .ok (.iadd, 1) := by decide +kernel
theorem dX4_readCommand_22 : decode cX4_readCommand 22 = .ok (.iconst 1, 1) := by decide +kernel
theorem dX4_readCommand_23 : decode cX4_readCommand 23 = .ok (.bipush 99, 2) := by decide +kernel
theorem dX4_readCommand_25 : decode cX4_readCommand 25 = .ok (.invokevirtual 184, 3) := by decide +kernel
theorem dX4_readCommand_28 : decode cX4_readCommand 28 = .ok (.ireturn, 1) := by decide +kernel
theorem dX4_readCommand_29 : decode cX4_readCommand 29 = .ok (.aload_n 0, 1) := by decide +kernel
theorem dX4_readCommand_30 : decode cX4_readCommand 30 = .ok (.getfield 181, 3) := by decide +kernel
theorem dX4_readCommand_33 : decode cX4_readCommand 33 = .ok (.bipush 117, 2) := by decide +kernel
theorem dX4_readCommand_35 : decode cX4_readCommand 35 = .ok (.if_icmp .eq 43, 3) := by decide +kernel
theorem dX4_readCommand_38 : decode cX4_readCommand 38 = .ok (.aload_n 0, 1) := by decide +kernel
theorem dX4_readCommand_39 : decode cX4_readCommand 39 = .ok (.getfield 181, 3) := by decide +kernel
theorem dX4_readCommand_42 : decode cX4_readCommand 42 = .ok (.bipush 100, 2) := by decide +kernel
theorem dX4_readCommand_44 : decode cX4_readCommand 44 = .ok (.if_icmp .eq 34, 3) := by decide +kernel
theorem dX4_readCommand_47 : decode cX4_readCommand 47 = .ok (.aload_n 0, 1) := by decide +kernel
theorem dX4_readCommand_48 : decode cX4_readCommand 48 = .ok (.getfield 181, 3) := by decide +kernel
theorem dX4_readCommand_51 : decode cX4_readCommand 51 = .ok (.bipush 109, 2) := by decide +kernel
theorem dX4_readCommand_53 : decode cX4_readCommand 53 = .ok (.if_icmp .eq 25, 3) := by decide +kernel
theorem dX4_readCommand_56 : decode cX4_readCommand 56 = .ok (.aload_n 0, 1) := by decide +kernel
theorem dX4_readCommand_57 : decode cX4_readCommand 57 = .ok (.getfield 181, 3) := by decide +kernel
theorem dX4_readCommand_60 : decode cX4_readCommand 60 = .ok (.bipush 45, 2) := by decide +kernel
theorem dX4_readCommand_62 : decode cX4_readCommand 62 = .ok (.if_icmp .eq 16, 3) := by decide +kernel
theorem dX4_readCommand_65 : decode cX4_readCommand 65 = .ok (.aload_n 0, 1) := by decide +kernel
theorem dX4_readCommand_66 : decode cX4_readCommand 66 = .ok (.getfield 181, 3) := by decide +kernel
theorem dX4_readCommand_69 : decode cX4_readCommand 69 = .ok (.bipush 43, 2) := by decide +kernel
theorem dX4_readCommand_71 : decode cX4_readCommand 71 = .ok (.if_icmp .eq 7, 3) := by decide +kernel
theorem dX4_readCommand_74 : decode cX4_readCommand 74 = .ok (.iconst (-1), 1) := by decide +kernel
theorem dX4_readCommand_75 : decode cX4_readCommand 75 = .ok (.iload_n 1, 1) := by decide +kernel
theorem dX4_readCommand_76 : decode cX4_readCommand 76 = .ok (.isub, 1) := by decide +kernel
theorem dX4_readCommand_77 : decode cX4_readCommand 77 = .ok (.ireturn, 1) := by decide +kernel
theorem dX4_readCommand_78 : decode cX4_readCommand 78 = .ok (.aload_n 0, 1) := by decide +kernel
theorem dX4_readCommand_79 : decode cX4_readCommand 79 = .ok (.iload_n 1, 1) := by decide +kernel
theorem dX4_readCommand_80 : decode cX4_readCommand 80 = .ok (.iconst 1, 1) := by decide +kernel
theorem dX4_readCommand_81 : decode cX4_readCommand 81 = .ok (.iadd, 1) := by decide +kernel
theorem dX4_readCommand_82 : decode cX4_readCommand 82 = .ok (.iconst 0, 1) := by decide +kernel
theorem dX4_readCommand_83 : decode cX4_readCommand 83 = .ok (.bipush 19, 2) := by decide +kernel
theorem dX4_readCommand_85 : decode cX4_readCommand 85 = .ok (.invokevirtual 184, 3) := by decide +kernel
theorem dX4_readCommand_88 : decode cX4_readCommand 88 = .ok (.istore_n 2, 1) := by decide +kernel
theorem dX4_readCommand_89 : decode cX4_readCommand 89 = .ok (.iload_n 2, 1) := by decide +kernel
theorem dX4_readCommand_90 : decode cX4_readCommand 90 = .ok (.ifCond .lt 21, 3) := by decide +kernel
theorem dX4_readCommand_93 : decode cX4_readCommand 93 = .ok (.aload_n 0, 1) := by decide +kernel
theorem dX4_readCommand_94 : decode cX4_readCommand 94 = .ok (.getfield 181, 3) := by decide +kernel
theorem dX4_readCommand_97 : decode cX4_readCommand 97 = .ok (.bipush 117, 2) := by decide +kernel
theorem dX4_readCommand_99 : decode cX4_readCommand 99 = .ok (.if_icmp .eq 14, 3) := by decide +kernel
theorem dX4_readCommand_102 : decode cX4_readCommand 102 = .ok (.aload_n 0, 1) := by decide +kernel
theorem dX4_readCommand_103 : decode cX4_readCommand 103 = .ok (.getfield 181, 3) := by decide +kernel
theorem dX4_readCommand_106 : decode cX4_readCommand 106 = .ok (.bipush 109, 2) := by decide +kernel
theorem dX4_readCommand_108 : decode cX4_readCommand 108 = .ok (.if_icmp .eq 5, 3) := by decide +kernel
theorem dX4_readCommand_111 : decode cX4_readCommand 111 = .ok (.iload_n 2, 1) := by decide +kernel
theorem dX4_readCommand_112 : decode cX4_readCommand 112 = .ok (.ireturn, 1) := by decide +kernel
theorem dX4_readCommand_113 : decode cX4_readCommand 113 = .ok (.aload_n 0, 1) := by decide +kernel
theorem dX4_readCommand_114 : decode cX4_readCommand 114 = .ok (.iload_n 2, 1) := by decide +kernel
theorem dX4_readCommand_115 : decode cX4_readCommand 115 = .ok (.invokevirtual 169, 3) := by decide +kernel
theorem dX4_readCommand_118 : decode cX4_readCommand 118 = .ok (.bipush 58, 2) := by decide +kernel
theorem dX4_readCommand_120 : decode cX4_readCommand 120 = .ok (.if_icmp .ne 15, 3) := by decide +kernel
theorem dX4_readCommand_123 : decode cX4_readCommand 123 = .ok (.aload_n 0, 1) := by decide +kernel
theorem dX4_readCommand_124 : decode cX4_readCommand 124 = .ok (.iload_n 2, 1) := by decide +kernel
theorem dX4_readCommand_125 : decode cX4_readCommand 125 = .ok (.iconst 1, 1) := by decide +kernel
theorem dX4_readCommand_126 : decode cX4_readCommand 126 = .ok (.iadd, 1) := by decide +kernel
theorem dX4_readCommand_127 : decode cX4_readCommand 127 = .ok (.iconst 0, 1) := by decide +kernel
theorem dX4_readCommand_128 : decode cX4_readCommand 128 = .ok (.iconst 3, 1) := by decide +kernel
theorem dX4_readCommand_129 : decode cX4_readCommand 129 = .ok (.invokevirtual 184, 3) := by decide +kernel
theorem dX4_readCommand_132 : decode cX4_readCommand 132 = .ok (.goto 6, 3) := by decide +kernel
theorem dX4_readCommand_135 : decode cX4_readCommand 135 = .ok (.iconst (-1), 1) := by decide +kernel
theorem dX4_readCommand_136 : decode cX4_readCommand 136 = .ok (.iload_n 2, 1) := by decide +kernel
theorem dX4_readCommand_137 : decode cX4_readCommand 137 = .ok (.isub, 1) := by decide +kernel
theorem dX4_readCommand_138 : decode cX4_readCommand 138 = .ok (.ireturn, 1) := by decide +kernel
theorem dX4_findFault_0 : decode cX4_findFault 0 = .ok (.iconst 0, 1) := by decide +kernel
theorem dX4_findFault_1 : decode cX4_findFault 1 = .ok (.istore_n 1, 1) := by decide +kernel
theorem dX4_findFault_2 : decode cX4_findFault 2 = .ok (.aload_n 0, 1) := by decide +kernel
theorem dX4_findFault_3 : decode cX4_findFault 3 = .ok (.iload_n 1, 1) := by decide +kernel
theorem dX4_findFault_4 : decode cX4_findFault 4 = .ok (.invokevirtual 188, 3) := by decide +kernel
theorem dX4_findFault_7 : decode cX4_findFault 7 = .ok (.istore_n 1, 1) := by decide +kernel
theorem dX4_findFault_8 : decode cX4_findFault 8 = .ok (.iload_n 1, 1) := by decide +kernel
theorem dX4_findFault_9 : decode cX4_findFault 9 = .ok (.ifCond .ge 7, 3) := by decide +kernel
theorem dX4_findFault_12 : decode cX4_findFault 12 = .ok (.iconst (-1), 1) := by decide +kernel
theorem dX4_findFault_13 : decode cX4_findFault 13 = .ok (.iload_n 1, 1) := by decide +kernel
theorem dX4_findFault_14 : decode cX4_findFault 14 = .ok (.isub, 1) := by decide +kernel
theorem dX4_findFault_15 : decode cX4_findFault 15 = .ok (.ireturn, 1) := by decide +kernel
theorem dX4_findFault_16 : decode cX4_findFault 16 = .ok (.iload_n 1, 1) := by decide +kernel
theorem dX4_findFault_17 : decode cX4_findFault 17 = .ok (.aload_n 0, 1) := by decide +kernel
theorem dX4_findFault_18 : decode cX4_findFault 18 = .ok (.getfield 166, 3) := by decide +kernel
theorem dX4_findFault_21 : decode cX4_findFault 21 = .ok (.if_icmp .ne 6, 3) := by decide +kernel
theorem dX4_findFault_24 : decode cX4_findFault 24 = .ok (.bipush (-5), 2) := by decide +kernel
theorem dX4_findFault_26 : decode cX4_findFault 26 = .ok (.ireturn, 1) := by decide +kernel
theorem dX4_findFault_27 : decode cX4_findFault 27 = .ok (.aload_n 0, 1) := by decide +kernel
theorem dX4_findFault_28 : decode cX4_findFault 28 = .ok (.getfield 22, 3) := by decide +kernel
theorem dX4_findFault_31 : decode cX4_findFault 31 = .ok (.iload_n 1, 1) := by decide +kernel
theorem dX4_findFault_32 : decode cX4_findFault 32 = .ok (.iaload, 1) := by decide +kernel
theorem dX4_findFault_33 : decode cX4_findFault 33 = .ok (.bipush 59, 2) := by decide +kernel
theorem dX4_findFault_35 : decode cX4_findFault 35 = .ok (.if_icmp .eq 5, 3) := by decide +kernel
theorem dX4_findFault_38 : decode cX4_findFault 38 = .ok (.iload_n 1, 1) := by decide +kernel
theorem dX4_findFault_39 : decode cX4_findFault 39 = .ok (.ireturn, 1) := by decide +kernel
theorem dX4_findFault_40 : decode cX4_findFault 40 = .ok (.iinc 1 1, 3) := by decide +kernel
theorem dX4_findFault_43 : decode cX4_findFault 43 = .ok (.goto (-41), 3) := by decide +kernel
theorem dX4_noCommand_0 : decode cX4_noCommand 0 = .ok (.aload_n 0, 1) := by decide +kernel
theorem dX4_noCommand_1 : decode cX4_noCommand 1 = .ok (.getfield 181, 3) := by decide +kernel
theorem dX4_noCommand_4 : decode cX4_noCommand 4 = .ok (.lookupswitch 110 #[(43, 87), (45, 87), (100, 65), (109, 74), (117, 52)], 52) := by decide +kernel
theorem dX4_noCommand_56 : decode cX4_noCommand 56 = .ok (.aload_n 0, 1) := by decide +kernel
theorem dX4_noCommand_57 : decode cX4_noCommand 57 = .ok (.aload_n 0, 1) := by decide +kernel
theorem dX4_noCommand_58 : decode cX4_noCommand 58 = .ok (.getfield 178, 3) := by decide +kernel
theorem dX4_noCommand_61 : decode cX4_noCommand 61 = .ok (.aload_n 0, 1) := by decide +kernel
theorem dX4_noCommand_62 : decode cX4_noCommand 62 = .ok (.getfield 175, 3) := by decide +kernel
theorem dX4_noCommand_65 : decode cX4_noCommand 65 = .ok (.invokevirtual 123, 3) := by decide +kernel
theorem dX4_noCommand_68 : decode cX4_noCommand 68 = .ok (.ireturn, 1) := by decide +kernel
theorem dX4_noCommand_69 : decode cX4_noCommand 69 = .ok (.aload_n 0, 1) := by decide +kernel
theorem dX4_noCommand_70 : decode cX4_noCommand 70 = .ok (.aload_n 0, 1) := by decide +kernel
theorem dX4_noCommand_71 : decode cX4_noCommand 71 = .ok (.getfield 175, 3) := by decide +kernel
theorem dX4_noCommand_74 : decode cX4_noCommand 74 = .ok (.invokevirtual 135, 3) := by decide +kernel
theorem dX4_noCommand_77 : decode cX4_noCommand 77 = .ok (.ireturn, 1) := by decide +kernel
theorem dX4_noCommand_78 : decode cX4_noCommand 78 = .ok (.aload_n 0, 1) := by decide +kernel
theorem dX4_noCommand_79 : decode cX4_noCommand 79 = .ok (.aload_n 0, 1) := by decide +kernel
theorem dX4_noCommand_80 : decode cX4_noCommand 80 = .ok (.getfield 178, 3) := by decide +kernel
theorem dX4_noCommand_83 : decode cX4_noCommand 83 = .ok (.aload_n 0, 1) := by decide +kernel
theorem dX4_noCommand_84 : decode cX4_noCommand 84 = .ok (.getfield 175, 3) := by decide +kernel
theorem dX4_noCommand_87 : decode cX4_noCommand 87 = .ok (.invokevirtual 141, 3) := by decide +kernel
theorem dX4_noCommand_90 : decode cX4_noCommand 90 = .ok (.ireturn, 1) := by decide +kernel
theorem dX4_noCommand_91 : decode cX4_noCommand 91 = .ok (.aload_n 0, 1) := by decide +kernel
theorem dX4_noCommand_92 : decode cX4_noCommand 92 = .ok (.aload_n 0, 1) := by decide +kernel
theorem dX4_noCommand_93 : decode cX4_noCommand 93 = .ok (.getfield 175, 3) := by decide +kernel
theorem dX4_noCommand_96 : decode cX4_noCommand 96 = .ok (.aload_n 0, 1) := by decide +kernel
theorem dX4_noCommand_97 : decode cX4_noCommand 97 = .ok (.getfield 181, 3) := by decide +kernel
theorem dX4_noCommand_100 : decode cX4_noCommand 100 = .ok (.bipush 43, 2) := by decide +kernel
theorem dX4_noCommand_102 : decode cX4_noCommand 102 = .ok (.if_icmp .ne 7, 3) := by decide +kernel
theorem dX4_noCommand_105 : decode cX4_noCommand 105 = .ok (.iconst 1, 1) := by decide +kernel
theorem dX4_noCommand_106 : decode cX4_noCommand 106 = .ok (.goto 4, 3) := by decide +kernel
theorem dX4_noCommand_109 : decode cX4_noCommand 109 = .ok (.iconst 0, 1) := by decide +kernel
theorem dX4_noCommand_110 : decode cX4_noCommand 110 = .ok (.invokevirtual 153, 3) := by decide +kernel
theorem dX4_noCommand_113 : decode cX4_noCommand 113 = .ok (.ireturn, 1) := by decide +kernel
theorem dX4_noCommand_114 : decode cX4_noCommand 114 = .ok (.aload_n 0, 1) := by decide +kernel
theorem dX4_noCommand_115 : decode cX4_noCommand 115 = .ok (.aload_n 0, 1) := by decide +kernel
theorem dX4_noCommand_116 : decode cX4_noCommand 116 = .ok (.getfield 175, 3) := by decide +kernel
theorem dX4_noCommand_119 : decode cX4_noCommand 119 = .ok (.invokevirtual 160, 3) := by decide +kernel
theorem dX4_noCommand_122 : decode cX4_noCommand 122 = .ok (.ireturn, 1) := by decide +kernel
theorem dX4_doCommand_0 : decode cX4_doCommand 0 = .ok (.aload_n 0, 1) := by decide +kernel
theorem dX4_doCommand_1 : decode cX4_doCommand 1 = .ok (.getfield 181, 3) := by decide +kernel
theorem dX4_doCommand_4 : decode cX4_doCommand 4 = .ok (.lookupswitch 110 #[(43, 87), (45, 87), (100, 65), (109, 74), (117, 52)], 52) := by decide +kernel
theorem dX4_doCommand_56 : decode cX4_doCommand 56 = .ok (.aload_n 0, 1) := by decide +kernel
theorem dX4_doCommand_57 : decode cX4_doCommand 57 = .ok (.aload_n 0, 1) := by decide +kernel
theorem dX4_doCommand_58 : decode cX4_doCommand 58 = .ok (.getfield 178, 3) := by decide +kernel
theorem dX4_doCommand_61 : decode cX4_doCommand 61 = .ok (.aload_n 0, 1) := by decide +kernel
theorem dX4_doCommand_62 : decode cX4_doCommand 62 = .ok (.getfield 175, 3) := by decide +kernel
theorem dX4_doCommand_65 : decode cX4_doCommand 65 = .ok (.invokevirtual 126, 3) := by decide +kernel
theorem dX4_doCommand_68 : decode cX4_doCommand 68 = .ok (.ireturn, 1) := by decide +kernel
theorem dX4_doCommand_69 : decode cX4_doCommand 69 = .ok (.aload_n 0, 1) := by decide +kernel
theorem dX4_doCommand_70 : decode cX4_doCommand 70 = .ok (.aload_n 0, 1) := by decide +kernel
theorem dX4_doCommand_71 : decode cX4_doCommand 71 = .ok (.getfield 175, 3) := by decide +kernel
theorem dX4_doCommand_74 : decode cX4_doCommand 74 = .ok (.invokevirtual 138, 3) := by decide +kernel
theorem dX4_doCommand_77 : decode cX4_doCommand 77 = .ok (.ireturn, 1) := by decide +kernel
theorem dX4_doCommand_78 : decode cX4_doCommand 78 = .ok (.aload_n 0, 1) := by decide +kernel
theorem dX4_doCommand_79 : decode cX4_doCommand 79 = .ok (.aload_n 0, 1) := by decide +kernel
theorem dX4_doCommand_80 : decode cX4_doCommand 80 = .ok (.getfield 178, 3) := by decide +kernel
theorem dX4_doCommand_83 : decode cX4_doCommand 83 = .ok (.aload_n 0, 1) := by decide +kernel
theorem dX4_doCommand_84 : decode cX4_doCommand 84 = .ok (.getfield 175, 3) := by decide +kernel
theorem dX4_doCommand_87 : decode cX4_doCommand 87 = .ok (.invokevirtual 144, 3) := by decide +kernel
theorem dX4_doCommand_90 : decode cX4_doCommand 90 = .ok (.ireturn, 1) := by decide +kernel
theorem dX4_doCommand_91 : decode cX4_doCommand 91 = .ok (.aload_n 0, 1) := by decide +kernel
theorem dX4_doCommand_92 : decode cX4_doCommand 92 = .ok (.aload_n 0, 1) := by decide +kernel
theorem dX4_doCommand_93 : decode cX4_doCommand 93 = .ok (.getfield 175, 3) := by decide +kernel
theorem dX4_doCommand_96 : decode cX4_doCommand 96 = .ok (.aload_n 0, 1) := by decide +kernel
theorem dX4_doCommand_97 : decode cX4_doCommand 97 = .ok (.getfield 181, 3) := by decide +kernel
theorem dX4_doCommand_100 : decode cX4_doCommand 100 = .ok (.bipush 43, 2) := by decide +kernel
theorem dX4_doCommand_102 : decode cX4_doCommand 102 = .ok (.if_icmp .ne 7, 3) := by decide +kernel
theorem dX4_doCommand_105 : decode cX4_doCommand 105 = .ok (.iconst 1, 1) := by decide +kernel
theorem dX4_doCommand_106 : decode cX4_doCommand 106 = .ok (.goto 4, 3) := by decide +kernel
theorem dX4_doCommand_109 : decode cX4_doCommand 109 = .ok (.iconst 0, 1) := by decide +kernel
theorem dX4_doCommand_110 : decode cX4_doCommand 110 = .ok (.invokevirtual 157, 3) := by decide +kernel
theorem dX4_doCommand_113 : decode cX4_doCommand 113 = .ok (.ireturn, 1) := by decide +kernel
theorem dX4_doCommand_114 : decode cX4_doCommand 114 = .ok (.aload_n 0, 1) := by decide +kernel
theorem dX4_doCommand_115 : decode cX4_doCommand 115 = .ok (.aload_n 0, 1) := by decide +kernel
theorem dX4_doCommand_116 : decode cX4_doCommand 116 = .ok (.getfield 175, 3) := by decide +kernel
theorem dX4_doCommand_119 : decode cX4_doCommand 119 = .ok (.invokevirtual 163, 3) := by decide +kernel
theorem dX4_doCommand_122 : decode cX4_doCommand 122 = .ok (.ireturn, 1) := by decide +kernel
theorem dX4_perform_0 : decode cX4_perform 0 = .ok (.aload_n 0, 1) := by decide +kernel
theorem dX4_perform_1 : decode cX4_perform 1 = .ok (.invokevirtual 191, 3) := by decide +kernel
theorem dX4_perform_4 : decode cX4_perform 4 = .ok (.istore_n 1, 1) := by decide +kernel
theorem dX4_perform_5 : decode cX4_perform 5 = .ok (.iload_n 1, 1) := by decide +kernel
theorem dX4_perform_6 : decode cX4_perform 6 = .ok (.ifCond .lt 8, 3) := by decide +kernel
theorem dX4_perform_9 : decode cX4_perform 9 = .ok (.bipush (-100), 2) := by decide +kernel
theorem dX4_perform_11 : decode cX4_perform 11 = .ok (.iload_n 1, 1) := by decide +kernel
theorem dX4_perform_12 : decode cX4_perform 12 = .ok (.isub, 1) := by decide +kernel
theorem dX4_perform_13 : decode cX4_perform 13 = .ok (.ireturn, 1) := by decide +kernel
theorem dX4_perform_14 : decode cX4_perform 14 = .ok (.iconst 0, 1) := by decide +kernel
theorem dX4_perform_15 : decode cX4_perform 15 = .ok (.istore_n 2, 1) := by decide +kernel
theorem dX4_perform_16 : decode cX4_perform 16 = .ok (.iload_n 2, 1) := by decide +kernel
theorem dX4_perform_17 : decode cX4_perform 17 = .ok (.sipush 255, 3) := by decide +kernel
theorem dX4_perform_20 : decode cX4_perform 20 = .ok (.if_icmp .ge 21, 3) := by decide +kernel
theorem dX4_perform_23 : decode cX4_perform 23 = .ok (.aload_n 0, 1) := by decide +kernel
theorem dX4_perform_24 : decode cX4_perform 24 = .ok (.getfield 13, 3) := by decide +kernel
theorem dX4_perform_27 : decode cX4_perform 27 = .ok (.iload_n 2, 1) := by decide +kernel
theorem dX4_perform_28 : decode cX4_perform 28 = .ok (.aload_n 0, 1) := by decide +kernel
theorem dX4_perform_29 : decode cX4_perform 29 = .ok (.getfield 7, 3) := by decide +kernel
theorem dX4_perform_32 : decode cX4_perform 32 = .ok (.iload_n 2, 1) := by decide +kernel
theorem dX4_perform_33 : decode cX4_perform 33 = .ok (.iaload, 1) := by decide +kernel
theorem dX4_perform_34 : decode cX4_perform 34 = .ok (.iastore, 1) := by decide +kernel
theorem dX4_perform_35 : decode cX4_perform 35 = .ok (.iinc 2 1, 3) := by decide +kernel
theorem dX4_perform_38 : decode cX4_perform 38 = .ok (.goto (-22), 3) := by decide +kernel
theorem dX4_perform_41 : decode cX4_perform 41 = .ok (.iconst 0, 1) := by decide +kernel
theorem dX4_perform_42 : decode cX4_perform 42 = .ok (.istore_n 2, 1) := by decide +kernel
theorem dX4_perform_43 : decode cX4_perform 43 = .ok (.iconst 0, 1) := by decide +kernel
theorem dX4_perform_44 : decode cX4_perform 44 = .ok (.istore_n 3, 1) := by decide +kernel
theorem dX4_perform_45 : decode cX4_perform 45 = .ok (.iconst 0, 1) := by decide +kernel
theorem dX4_perform_46 : decode cX4_perform 46 = .ok (.istore 4, 2) := by decide +kernel
theorem dX4_perform_48 : decode cX4_perform 48 = .ok (.iload 4, 2) := by decide +kernel
theorem dX4_perform_50 : decode cX4_perform 50 = .ok (.aload_n 0, 1) := by decide +kernel
theorem dX4_perform_51 : decode cX4_perform 51 = .ok (.getfield 166, 3) := by decide +kernel
theorem dX4_perform_54 : decode cX4_perform 54 = .ok (.if_icmp .ge 44, 3) := by decide +kernel
theorem dX4_perform_57 : decode cX4_perform 57 = .ok (.iload_n 3, 1) := by decide +kernel
theorem dX4_perform_58 : decode cX4_perform 58 = .ok (.ifCond .eq 9, 3) := by decide +kernel
theorem dX4_perform_61 : decode cX4_perform 61 = .ok (.iload_n 3, 1) := by decide +kernel
theorem dX4_perform_62 : decode cX4_perform 62 = .ok (.bipush (-5), 2) := by decide +kernel
theorem dX4_perform_64 : decode cX4_perform 64 = .ok (.if_icmp .ne 34, 3) := by decide +kernel
theorem dX4_perform_67 : decode cX4_perform 67 = .ok (.aload_n 0, 1) := by decide +kernel
theorem dX4_perform_68 : decode cX4_perform 68 = .ok (.iload 4, 2) := by decide +kernel
theorem dX4_perform_70 : decode cX4_perform 70 = .ok (.invokevirtual 188, 3) := by decide +kernel
theorem dX4_perform_73 : decode cX4_perform 73 = .ok (.istore 4, 2) := by decide +kernel
theorem dX4_perform_75 : decode cX4_perform 75 = .ok (.aload_n 0, 1) := by decide +kernel
theorem dX4_perform_76 : decode cX4_perform 76 = .ok (.invokevirtual 194, 3) := by decide +kernel
theorem dX4_perform_79 : decode cX4_perform 79 = .ok (.istore_n 3, 1) := by decide +kernel
theorem dX4_perform_80 : decode cX4_perform 80 = .ok (.iload_n 3, 1) := by decide +kernel
theorem dX4_perform_81 : decode cX4_perform 81 = .ok (.ifCond .ne 8, 3) := by decide +kernel
theorem dX4_perform_84 : decode cX4_perform 84 = .ok (.aload_n 0, 1) := by decide +kernel
theorem dX4_perform_85 : decode cX4_perform 85 = .ok (.invokevirtual 197, 3) := by decide +kernel
theorem dX4_perform_88 : decode cX4_perform 88 = .ok (.pop, 1) := by decide +kernel
theorem dX4_perform_89 : decode cX4_perform 89 = .ok (.iinc 2 1, 3) := by decide +kernel
theorem dX4_perform_92 : decode cX4_perform 92 = .ok (.iinc 4 1, 3) := by decide +kernel
theorem dX4_perform_95 : decode cX4_perform 95 = .ok (.goto (-47), 3) := by decide +kernel
theorem dX4_perform_98 : decode cX4_perform 98 = .ok (.iload_n 3, 1) := by decide +kernel
theorem dX4_perform_99 : decode cX4_perform 99 = .ok (.ifCond .ge 55, 3) := by decide +kernel
theorem dX4_perform_102 : decode cX4_perform 102 = .ok (.iload_n 3, 1) := by decide +kernel
theorem dX4_perform_103 : decode cX4_perform 103 = .ok (.bipush (-5), 2) := by decide +kernel
theorem dX4_perform_105 : decode cX4_perform 105 = .ok (.if_icmp .eq 49, 3) := by decide +kernel
theorem dX4_perform_108 : decode cX4_perform 108 = .ok (.iconst 0, 1) := by decide +kernel
theorem dX4_perform_109 : decode cX4_perform 109 = .ok (.istore 4, 2) := by decide +kernel
theorem dX4_perform_111 : decode cX4_perform 111 = .ok (.iload 4, 2) := by decide +kernel
theorem dX4_perform_113 : decode cX4_perform 113 = .ok (.sipush 255, 3) := by decide +kernel
theorem dX4_perform_116 : decode cX4_perform 116 = .ok (.if_icmp .ge 23, 3) := by decide +kernel
theorem dX4_perform_119 : decode cX4_perform 119 = .ok (.aload_n 0, 1) := by decide +kernel
theorem dX4_perform_120 : decode cX4_perform 120 = .ok (.getfield 7, 3) := by decide +kernel
theorem dX4_perform_123 : decode cX4_perform 123 = .ok (.iload 4, 2) := by decide +kernel
theorem dX4_perform_125 : decode cX4_perform 125 = .ok (.aload_n 0, 1) := by decide +kernel
theorem dX4_perform_126 : decode cX4_perform 126 = .ok (.getfield 13, 3) := by decide +kernel
theorem dX4_perform_129 : decode cX4_perform 129 = .ok (.iload 4, 2) := by decide +kernel
theorem dX4_perform_131 : decode cX4_perform 131 = .ok (.iaload, 1) := by decide +kernel
theorem dX4_perform_132 : decode cX4_perform 132 = .ok (.iastore, 1) := by decide +kernel
theorem dX4_perform_133 : decode cX4_perform 133 = .ok (.iinc 4 1, 3) := by decide +kernel
theorem dX4_perform_136 : decode cX4_perform 136 = .ok (.goto (-25), 3) := by decide +kernel
theorem dX4_perform_139 : decode cX4_perform 139 = .ok (.aload_n 0, 1) := by decide +kernel
theorem dX4_perform_140 : decode cX4_perform 140 = .ok (.iload_n 2, 1) := by decide +kernel
theorem dX4_perform_141 : decode cX4_perform 141 = .ok (.iconst 1, 1) := by decide +kernel
theorem dX4_perform_142 : decode cX4_perform 142 = .ok (.isub, 1) := by decide +kernel
theorem dX4_perform_143 : decode cX4_perform 143 = .ok (.putfield 25, 3) := by decide +kernel
theorem dX4_perform_146 : decode cX4_perform 146 = .ok (.aload_n 0, 1) := by decide +kernel
theorem dX4_perform_147 : decode cX4_perform 147 = .ok (.iload_n 3, 1) := by decide +kernel
theorem dX4_perform_148 : decode cX4_perform 148 = .ok (.putfield 29, 3) := by decide +kernel
theorem dX4_perform_151 : decode cX4_perform 151 = .ok (.bipush (-4), 2) := by decide +kernel
theorem dX4_perform_153 : decode cX4_perform 153 = .ok (.ireturn, 1) := by decide +kernel
theorem dX4_perform_154 : decode cX4_perform 154 = .ok (.aload_n 0, 1) := by decide +kernel
theorem dX4_perform_155 : decode cX4_perform 155 = .ok (.aload_n 0, 1) := by decide +kernel
theorem dX4_perform_156 : decode cX4_perform 156 = .ok (.getfield 13, 3) := by decide +kernel
theorem dX4_perform_159 : decode cX4_perform 159 = .ok (.invokevirtual 85, 3) := by decide +kernel
theorem dX4_perform_162 : decode cX4_perform 162 = .ok (.iload_n 2, 1) := by decide +kernel
theorem dX4_perform_163 : decode cX4_perform 163 = .ok (.ireturn, 1) := by decide +kernel
theorem dX4_stopped_0 : decode cX4_stopped 0 = .ok (.iload_n 1, 1) := by decide +kernel
theorem dX4_stopped_1 : decode cX4_stopped 1 = .ok (.ifCond .ne 10, 3) := by decide +kernel
theorem dX4_stopped_4 : decode cX4_stopped 4 = .ok (.aload_n 0, 1) := by decide +kernel
theorem dX4_stopped_5 : decode cX4_stopped 5 = .ok (.getfield 25, 3) := by decide +kernel
theorem dX4_stopped_8 : decode cX4_stopped 8 = .ok (.goto 17, 3) := by decide +kernel
theorem dX4_stopped_11 : decode cX4_stopped 11 = .ok (.iload_n 1, 1) := by decide +kernel
theorem dX4_stopped_12 : decode cX4_stopped 12 = .ok (.iconst 1, 1) := by decide +kernel
theorem dX4_stopped_13 : decode cX4_stopped 13 = .ok (.if_icmp .ne 10, 3) := by decide +kernel
theorem dX4_stopped_16 : decode cX4_stopped 16 = .ok (.aload_n 0, 1) := by decide +kernel
theorem dX4_stopped_17 : decode cX4_stopped 17 = .ok (.getfield 29, 3) := by decide +kernel
theorem dX4_stopped_20 : decode cX4_stopped 20 = .ok (.goto 5, 3) := by decide +kernel
theorem dX4_stopped_23 : decode cX4_stopped 23 = .ok (.bipush (-2), 2) := by decide +kernel
theorem dX4_stopped_25 : decode cX4_stopped 25 = .ok (.ireturn, 1) := by decide +kernel
theorem dX4_boat_0 : decode cX4_boat 0 = .ok (.aload_n 0, 1) := by decide +kernel
theorem dX4_boat_1 : decode cX4_boat 1 = .ok (.iload_n 1, 1) := by decide +kernel
theorem dX4_boat_2 : decode cX4_boat 2 = .ok (.invokevirtual 92, 3) := by decide +kernel
theorem dX4_boat_5 : decode cX4_boat 5 = .ok (.ifCond .ne 5, 3) := by decide +kernel
theorem dX4_boat_8 : decode cX4_boat 8 = .ok (.iconst (-1), 1) := by decide +kernel
theorem dX4_boat_9 : decode cX4_boat 9 = .ok (.ireturn, 1) := by decide +kernel
theorem dX4_boat_10 : decode cX4_boat 10 = .ok (.iload_n 2, 1) := by decide +kernel
theorem dX4_boat_11 : decode cX4_boat 11 = .ok (.tableswitch 132 0 10 #[57, 57, 57, 57, 66, 73, 92, 100, 108, 116, 124], 57) := by decide +kernel
theorem dX4_boat_68 : decode cX4_boat 68 = .ok (.aload_n 0, 1) := by decide +kernel
theorem dX4_boat_69 : decode cX4_boat 69 = .ok (.iload_n 1, 1) := by decide +kernel
theorem dX4_boat_70 : decode cX4_boat 70 = .ok (.iconst 1, 1) := by decide +kernel
theorem dX4_boat_71 : decode cX4_boat 71 = .ok (.iload_n 2, 1) := by decide +kernel
theorem dX4_boat_72 : decode cX4_boat 72 = .ok (.iadd, 1) := by decide +kernel
theorem dX4_boat_73 : decode cX4_boat 73 = .ok (.invokevirtual 36, 3) := by decide +kernel
theorem dX4_boat_76 : decode cX4_boat 76 = .ok (.ireturn, 1) := by decide +kernel
theorem dX4_boat_77 : decode cX4_boat 77 = .ok (.aload_n 0, 1) := by decide +kernel
theorem dX4_boat_78 : decode cX4_boat 78 = .ok (.iload_n 1, 1) := by decide +kernel
theorem dX4_boat_79 : decode cX4_boat 79 = .ok (.iconst 5, 1) := by decide +kernel
theorem dX4_boat_80 : decode cX4_boat 80 = .ok (.invokevirtual 36, 3) := by decide +kernel
theorem dX4_boat_83 : decode cX4_boat 83 = .ok (.ireturn, 1) := by decide +kernel
theorem dX4_boat_84 : decode cX4_boat 84 = .ok (.aload_n 0, 1) := by decide +kernel
theorem dX4_boat_85 : decode cX4_boat 85 = .ok (.iload_n 1, 1) := by decide +kernel
theorem dX4_boat_86 : decode cX4_boat 86 = .ok (.invokevirtual 40, 3) := by decide +kernel
theorem dX4_boat_89 : decode cX4_boat 89 = .ok (.ifCond .eq 11, 3) := by decide +kernel
theorem dX4_boat_92 : decode cX4_boat 92 = .ok (.aload_n 0, 1) := by decide +kernel
theorem dX4_boat_93 : decode cX4_boat 93 = .ok (.iload_n 1, 1) := by decide +kernel
theorem dX4_boat_94 : decode cX4_boat 94 = .ok (.invokevirtual 67, 3) := by decide +kernel
theorem dX4_boat_97 : decode cX4_boat 97 = .ok (.goto 5, 3) := by decide +kernel
theorem dX4_boat_100 : decode cX4_boat 100 = .ok (.bipush (-5), 2) := by decide +kernel
theorem dX4_boat_102 : decode cX4_boat 102 = .ok (.ireturn, 1) := by decide +kernel
theorem dX4_boat_103 : decode cX4_boat 103 = .ok (.aload_n 0, 1) := by decide +kernel
theorem dX4_boat_104 : decode cX4_boat 104 = .ok (.iload_n 1, 1) := by decide +kernel
theorem dX4_boat_105 : decode cX4_boat 105 = .ok (.bipush 6, 2) := by decide +kernel
theorem dX4_boat_107 : decode cX4_boat 107 = .ok (.invokevirtual 36, 3) := by decide +kernel
theorem dX4_boat_110 : decode cX4_boat 110 = .ok (.ireturn, 1) := by decide +kernel
theorem dX4_boat_111 : decode cX4_boat 111 = .ok (.aload_n 0, 1) := by decide +kernel
theorem dX4_boat_112 : decode cX4_boat 112 = .ok (.iload_n 1, 1) := by decide +kernel
theorem dX4_boat_113 : decode cX4_boat 113 = .ok (.bipush 7, 2) := by decide +kernel
theorem dX4_boat_115 : decode cX4_boat 115 = .ok (.invokevirtual 36, 3) := by decide +kernel
theorem dX4_boat_118 : decode cX4_boat 118 = .ok (.ireturn, 1) := by decide +kernel
theorem dX4_boat_119 : decode cX4_boat 119 = .ok (.aload_n 0, 1) := by decide +kernel
theorem dX4_boat_120 : decode cX4_boat 120 = .ok (.iload_n 1, 1) := by decide +kernel
theorem dX4_boat_121 : decode cX4_boat 121 = .ok (.bipush 8, 2) := by decide +kernel
theorem dX4_boat_123 : decode cX4_boat 123 = .ok (.invokevirtual 36, 3) := by decide +kernel
theorem dX4_boat_126 : decode cX4_boat 126 = .ok (.ireturn, 1) := by decide +kernel
theorem dX4_boat_127 : decode cX4_boat 127 = .ok (.aload_n 0, 1) := by decide +kernel
theorem dX4_boat_128 : decode cX4_boat 128 = .ok (.iload_n 1, 1) := by decide +kernel
theorem dX4_boat_129 : decode cX4_boat 129 = .ok (.bipush 9, 2) := by decide +kernel
theorem dX4_boat_131 : decode cX4_boat 131 = .ok (.invokevirtual 36, 3) := by decide +kernel
theorem dX4_boat_134 : decode cX4_boat 134 = .ok (.ireturn, 1) := by decide +kernel
theorem dX4_boat_135 : decode cX4_boat 135 = .ok (.aload_n 0, 1) := by decide +kernel
theorem dX4_boat_136 : decode cX4_boat 136 = .ok (.iload_n 1, 1) := by decide +kernel
theorem dX4_boat_137 : decode cX4_boat 137 = .ok (.bipush 10, 2) := by decide +kernel
theorem dX4_boat_139 : decode cX4_boat 139 = .ok (.invokevirtual 36, 3) := by decide +kernel
theorem dX4_boat_142 : decode cX4_boat 142 = .ok (.ireturn, 1) := by decide +kernel
theorem dX4_boat_143 : decode cX4_boat 143 = .ok (.bipush (-2), 2) := by decide +kernel
theorem dX4_boat_145 : decode cX4_boat 145 = .ok (.ireturn, 1) := by decide +kernel
theorem dX4_row_0 : decode cX4_row 0 = .ok (.iload_n 1, 1) := by decide +kernel
theorem dX4_row_1 : decode cX4_row 1 = .ok (.invokestatic 98, 3) := by decide +kernel
theorem dX4_row_4 : decode cX4_row 4 = .ok (.ifCond .ne 5, 3) := by decide +kernel
theorem dX4_row_7 : decode cX4_row 7 = .ok (.iconst (-1), 1) := by decide +kernel
theorem dX4_row_8 : decode cX4_row 8 = .ok (.ireturn, 1) := by decide +kernel
theorem dX4_row_9 : decode cX4_row 9 = .ok (.iload_n 2, 1) := by decide +kernel
theorem dX4_row_10 : decode cX4_row 10 = .ok (.tableswitch 65 0 3 #[30, 40, 46, 52], 30) := by decide +kernel
theorem dX4_row_40 : decode cX4_row 40 = .ok (.aload_n 0, 1) := by decide +kernel
theorem dX4_row_41 : decode cX4_row 41 = .ok (.getfield 7, 3) := by decide +kernel
theorem dX4_row_44 : decode cX4_row 44 = .ok (.bipush 11, 2) := by decide +kernel
theorem dX4_row_46 : decode cX4_row 46 = .ok (.iload_n 1, 1) := by decide +kernel
theorem dX4_row_47 : decode cX4_row 47 = .ok (.iadd, 1) := by decide +kernel
theorem dX4_row_48 : decode cX4_row 48 = .ok (.iaload, 1) := by decide +kernel
theorem dX4_row_49 : decode cX4_row 49 = .ok (.ireturn, 1) := by decide +kernel
theorem dX4_row_50 : decode cX4_row 50 = .ok (.aload_n 0, 1) := by decide +kernel
theorem dX4_row_51 : decode cX4_row 51 = .ok (.iload_n 1, 1) := by decide +kernel
theorem dX4_row_52 : decode cX4_row 52 = .ok (.invokevirtual 58, 3) := by decide +kernel
theorem dX4_row_55 : decode cX4_row 55 = .ok (.ireturn, 1) := by decide +kernel
theorem dX4_row_56 : decode cX4_row 56 = .ok (.aload_n 0, 1) := by decide +kernel
theorem dX4_row_57 : decode cX4_row 57 = .ok (.iload_n 1, 1) := by decide +kernel
theorem dX4_row_58 : decode cX4_row 58 = .ok (.invokevirtual 64, 3) := by decide +kernel
theorem dX4_row_61 : decode cX4_row 61 = .ok (.ireturn, 1) := by decide +kernel
theorem dX4_row_62 : decode cX4_row 62 = .ok (.aload_n 0, 1) := by decide +kernel
theorem dX4_row_63 : decode cX4_row 63 = .ok (.iload_n 1, 1) := by decide +kernel
theorem dX4_row_64 : decode cX4_row 64 = .ok (.aload_n 0, 1) := by decide +kernel
theorem dX4_row_65 : decode cX4_row 65 = .ok (.iload_n 1, 1) := by decide +kernel
theorem dX4_row_66 : decode cX4_row 66 = .ok (.invokevirtual 64, 3) := by decide +kernel
theorem dX4_row_69 : decode cX4_row 69 = .ok (.iconst 1, 1) := by decide +kernel
theorem dX4_row_70 : decode cX4_row 70 = .ok (.isub, 1) := by decide +kernel
theorem dX4_row_71 : decode cX4_row 71 = .ok (.invokevirtual 200, 3) := by decide +kernel
theorem dX4_row_74 : decode cX4_row 74 = .ok (.ireturn, 1) := by decide +kernel
theorem dX4_row_75 : decode cX4_row 75 = .ok (.bipush (-2), 2) := by decide +kernel
theorem dX4_row_77 : decode cX4_row 77 = .ok (.ireturn, 1) := by decide +kernel
theorem dX4_stands_0 : decode cX4_stands 0 = .ok (.iload_n 1, 1) := by decide +kernel
theorem dX4_stands_1 : decode cX4_stands 1 = .ok (.invokestatic 98, 3) := by decide +kernel
theorem dX4_stands_4 : decode cX4_stands 4 = .ok (.ifCond .ne 5, 3) := by decide +kernel
theorem dX4_stands_7 : decode cX4_stands 7 = .ok (.iconst (-1), 1) := by decide +kernel
theorem dX4_stands_8 : decode cX4_stands 8 = .ok (.ireturn, 1) := by decide +kernel
theorem dX4_stands_9 : decode cX4_stands 9 = .ok (.iload_n 2, 1) := by decide +kernel
theorem dX4_stands_10 : decode cX4_stands 10 = .ok (.ifCond .ge 8, 3) := by decide +kernel
theorem dX4_stands_13 : decode cX4_stands 13 = .ok (.bipush (-2), 2) := by decide +kernel
theorem dX4_stands_15 : decode cX4_stands 15 = .ok (.goto 9, 3) := by decide +kernel
theorem dX4_stands_18 : decode cX4_stands 18 = .ok (.aload_n 0, 1) := by decide +kernel
theorem dX4_stands_19 : decode cX4_stands 19 = .ok (.iload_n 1, 1) := by decide +kernel
theorem dX4_stands_20 : decode cX4_stands 20 = .ok (.iload_n 2, 1) := by decide +kernel
theorem dX4_stands_21 : decode cX4_stands 21 = .ok (.invokevirtual 200, 3) := by decide +kernel
theorem dX4_stands_24 : decode cX4_stands 24 = .ok (.ireturn, 1) := by decide +kernel
theorem dX4_cradle_0 : decode cX4_cradle 0 = .ok (.iload_n 1, 1) := by decide +kernel
theorem dX4_cradle_1 : decode cX4_cradle 1 = .ok (.invokestatic 89, 3) := by decide +kernel
theorem dX4_cradle_4 : decode cX4_cradle 4 = .ok (.ifCond .ne 5, 3) := by decide +kernel
theorem dX4_cradle_7 : decode cX4_cradle 7 = .ok (.iconst (-1), 1) := by decide +kernel
theorem dX4_cradle_8 : decode cX4_cradle 8 = .ok (.ireturn, 1) := by decide +kernel
theorem dX4_cradle_9 : decode cX4_cradle 9 = .ok (.iload_n 2, 1) := by decide +kernel
theorem dX4_cradle_10 : decode cX4_cradle 10 = .ok (.ifCond .ne 15, 3) := by decide +kernel
theorem dX4_cradle_13 : decode cX4_cradle 13 = .ok (.aload_n 0, 1) := by decide +kernel
theorem dX4_cradle_14 : decode cX4_cradle 14 = .ok (.getfield 7, 3) := by decide +kernel
theorem dX4_cradle_17 : decode cX4_cradle 17 = .ok (.bipush 8, 2) := by decide +kernel
theorem dX4_cradle_19 : decode cX4_cradle 19 = .ok (.iload_n 1, 1) := by decide +kernel
theorem dX4_cradle_20 : decode cX4_cradle 20 = .ok (.iadd, 1) := by decide +kernel
theorem dX4_cradle_21 : decode cX4_cradle 21 = .ok (.iaload, 1) := by decide +kernel
theorem dX4_cradle_22 : decode cX4_cradle 22 = .ok (.goto 30, 3) := by decide +kernel
theorem dX4_cradle_25 : decode cX4_cradle 25 = .ok (.iload_n 2, 1) := by decide +kernel
theorem dX4_cradle_26 : decode cX4_cradle 26 = .ok (.iconst 1, 1) := by decide +kernel
theorem dX4_cradle_27 : decode cX4_cradle 27 = .ok (.if_icmp .ne 11, 3) := by decide +kernel
theorem dX4_cradle_30 : decode cX4_cradle 30 = .ok (.aload_n 0, 1) := by decide +kernel
theorem dX4_cradle_31 : decode cX4_cradle 31 = .ok (.iload_n 1, 1) := by decide +kernel
theorem dX4_cradle_32 : decode cX4_cradle 32 = .ok (.invokevirtual 44, 3) := by decide +kernel
theorem dX4_cradle_35 : decode cX4_cradle 35 = .ok (.goto 17, 3) := by decide +kernel
theorem dX4_cradle_38 : decode cX4_cradle 38 = .ok (.iload_n 2, 1) := by decide +kernel
theorem dX4_cradle_39 : decode cX4_cradle 39 = .ok (.iconst 2, 1) := by decide +kernel
theorem dX4_cradle_40 : decode cX4_cradle 40 = .ok (.if_icmp .ne 10, 3) := by decide +kernel
theorem dX4_cradle_43 : decode cX4_cradle 43 = .ok (.iload_n 1, 1) := by decide +kernel
theorem dX4_cradle_44 : decode cX4_cradle 44 = .ok (.invokestatic 51, 3) := by decide +kernel
theorem dX4_cradle_47 : decode cX4_cradle 47 = .ok (.goto 5, 3) := by decide +kernel
theorem dX4_cradle_50 : decode cX4_cradle 50 = .ok (.bipush (-2), 2) := by decide +kernel
theorem dX4_cradle_52 : decode cX4_cradle 52 = .ok (.ireturn, 1) := by decide +kernel
theorem dX4_tide_0 : decode cX4_tide 0 = .ok (.iload_n 1, 1) := by decide +kernel
theorem dX4_tide_1 : decode cX4_tide 1 = .ok (.iconst 0, 1) := by decide +kernel
theorem dX4_tide_2 : decode cX4_tide 2 = .ok (.sipush 9999, 3) := by decide +kernel
theorem dX4_tide_5 : decode cX4_tide 5 = .ok (.invokestatic 32, 3) := by decide +kernel
theorem dX4_tide_8 : decode cX4_tide 8 = .ok (.ifCond .eq 11, 3) := by decide +kernel
theorem dX4_tide_11 : decode cX4_tide 11 = .ok (.aload_n 0, 1) := by decide +kernel
theorem dX4_tide_12 : decode cX4_tide 12 = .ok (.iload_n 1, 1) := by decide +kernel
theorem dX4_tide_13 : decode cX4_tide 13 = .ok (.invokevirtual 101, 3) := by decide +kernel
theorem dX4_tide_16 : decode cX4_tide 16 = .ok (.goto 5, 3) := by decide +kernel
theorem dX4_tide_19 : decode cX4_tide 19 = .ok (.bipush (-2), 2) := by decide +kernel
theorem dX4_tide_21 : decode cX4_tide 21 = .ok (.ireturn, 1) := by decide +kernel
theorem dX4_liftReason_0 : decode cX4_liftReason 0 = .ok (.aload_n 0, 1) := by decide +kernel
theorem dX4_liftReason_1 : decode cX4_liftReason 1 = .ok (.iload_n 1, 1) := by decide +kernel
theorem dX4_liftReason_2 : decode cX4_liftReason 2 = .ok (.invokevirtual 92, 3) := by decide +kernel
theorem dX4_liftReason_5 : decode cX4_liftReason 5 = .ok (.ifCond .eq 19, 3) := by decide +kernel
theorem dX4_liftReason_8 : decode cX4_liftReason 8 = .ok (.iload_n 2, 1) := by decide +kernel
theorem dX4_liftReason_9 : decode cX4_liftReason 9 = .ok (.invokestatic 98, 3) := by decide +kernel
theorem dX4_liftReason_12 : decode cX4_liftReason 12 = .ok (.ifCond .eq 12, 3) := by decide +kernel
theorem dX4_liftReason_15 : decode cX4_liftReason 15 = .ok (.aload_n 0, 1) := by decide +kernel
theorem dX4_liftReason_16 : decode cX4_liftReason 16 = .ok (.iload_n 1, 1) := by decide +kernel
theorem dX4_liftReason_17 : decode cX4_liftReason 17 = .ok (.iload_n 2, 1) := by decide +kernel
theorem dX4_liftReason_18 : decode cX4_liftReason 18 = .ok (.invokevirtual 113, 3) := by decide +kernel
theorem dX4_liftReason_21 : decode cX4_liftReason 21 = .ok (.goto 4, 3) := by decide +kernel
theorem dX4_liftReason_24 : decode cX4_liftReason 24 = .ok (.iconst (-1), 1) := by decide +kernel
theorem dX4_liftReason_25 : decode cX4_liftReason 25 = .ok (.ireturn, 1) := by decide +kernel
theorem dX4_launchReason_0 : decode cX4_launchReason 0 = .ok (.aload_n 0, 1) := by decide +kernel
theorem dX4_launchReason_1 : decode cX4_launchReason 1 = .ok (.iload_n 1, 1) := by decide +kernel
theorem dX4_launchReason_2 : decode cX4_launchReason 2 = .ok (.invokevirtual 92, 3) := by decide +kernel
theorem dX4_launchReason_5 : decode cX4_launchReason 5 = .ok (.ifCond .eq 11, 3) := by decide +kernel
theorem dX4_launchReason_8 : decode cX4_launchReason 8 = .ok (.aload_n 0, 1) := by decide +kernel
theorem dX4_launchReason_9 : decode cX4_launchReason 9 = .ok (.iload_n 1, 1) := by decide +kernel
theorem dX4_launchReason_10 : decode cX4_launchReason 10 = .ok (.invokevirtual 132, 3) := by decide +kernel
theorem dX4_launchReason_13 : decode cX4_launchReason 13 = .ok (.goto 4, 3) := by decide +kernel
theorem dX4_launchReason_16 : decode cX4_launchReason 16 = .ok (.iconst (-1), 1) := by decide +kernel
theorem dX4_launchReason_17 : decode cX4_launchReason 17 = .ok (.ireturn, 1) := by decide +kernel
theorem dX4_blockers_0 : decode cX4_blockers 0 = .ok (.aload_n 0, 1) := by decide +kernel
theorem dX4_blockers_1 : decode cX4_blockers 1 = .ok (.iload_n 1, 1) := by decide +kernel
theorem dX4_blockers_2 : decode cX4_blockers 2 = .ok (.invokevirtual 92, 3) := by decide +kernel
theorem dX4_blockers_5 : decode cX4_blockers 5 = .ok (.ifCond .ne 5, 3) := by decide +kernel
theorem dX4_blockers_8 : decode cX4_blockers 8 = .ok (.iconst (-1), 1) := by decide +kernel
theorem dX4_blockers_9 : decode cX4_blockers 9 = .ok (.ireturn, 1) := by decide +kernel
theorem dX4_blockers_10 : decode cX4_blockers 10 = .ok (.aload_n 0, 1) := by decide +kernel
theorem dX4_blockers_11 : decode cX4_blockers 11 = .ok (.iload_n 1, 1) := by decide +kernel
theorem dX4_blockers_12 : decode cX4_blockers 12 = .ok (.invokevirtual 40, 3) := by decide +kernel
theorem dX4_blockers_15 : decode cX4_blockers 15 = .ok (.ifCond .eq 11, 3) := by decide +kernel
theorem dX4_blockers_18 : decode cX4_blockers 18 = .ok (.aload_n 0, 1) := by decide +kernel
theorem dX4_blockers_19 : decode cX4_blockers 19 = .ok (.iload_n 1, 1) := by decide +kernel
theorem dX4_blockers_20 : decode cX4_blockers 20 = .ok (.invokevirtual 129, 3) := by decide +kernel
theorem dX4_blockers_23 : decode cX4_blockers 23 = .ok (.goto 5, 3) := by decide +kernel
theorem dX4_blockers_26 : decode cX4_blockers 26 = .ok (.bipush (-5), 2) := by decide +kernel
theorem dX4_blockers_28 : decode cX4_blockers 28 = .ok (.ireturn, 1) := by decide +kernel
theorem dX4_launchDay_0 : decode cX4_launchDay 0 = .ok (.aload_n 0, 1) := by decide +kernel
theorem dX4_launchDay_1 : decode cX4_launchDay 1 = .ok (.iload_n 1, 1) := by decide +kernel
theorem dX4_launchDay_2 : decode cX4_launchDay 2 = .ok (.invokevirtual 92, 3) := by decide +kernel
theorem dX4_launchDay_5 : decode cX4_launchDay 5 = .ok (.ifCond .ne 5, 3) := by decide +kernel
theorem dX4_launchDay_8 : decode cX4_launchDay 8 = .ok (.iconst (-1), 1) := by decide +kernel
theorem dX4_launchDay_9 : decode cX4_launchDay 9 = .ok (.ireturn, 1) := by decide +kernel
theorem dX4_launchDay_10 : decode cX4_launchDay 10 = .ok (.bipush (-5), 2) := by decide +kernel
theorem dX4_launchDay_12 : decode cX4_launchDay 12 = .ok (.istore_n 2, 1) := by decide +kernel
theorem dX4_launchDay_13 : decode cX4_launchDay 13 = .ok (.sipush 200, 3) := by decide +kernel
theorem dX4_launchDay_16 : decode cX4_launchDay 16 = .ok (.istore_n 3, 1) := by decide +kernel
theorem dX4_launchDay_17 : decode cX4_launchDay 17 = .ok (.iload_n 3, 1) := by decide +kernel
theorem dX4_launchDay_18 : decode cX4_launchDay 18 = .ok (.ifCond .lt 112, 3) := by decide +kernel
theorem dX4_launchDay_21 : decode cX4_launchDay 21 = .ok (.aload_n 0, 1) := by decide +kernel
theorem dX4_launchDay_22 : decode cX4_launchDay 22 = .ok (.iload_n 1, 1) := by decide +kernel
theorem dX4_launchDay_23 : decode cX4_launchDay 23 = .ok (.invokevirtual 40, 3) := by decide +kernel
theorem dX4_launchDay_26 : decode cX4_launchDay 26 = .ok (.ifCond .eq 104, 3) := by decide +kernel
theorem dX4_launchDay_29 : decode cX4_launchDay 29 = .ok (.iload_n 3, 1) := by decide +kernel
theorem dX4_launchDay_30 : decode cX4_launchDay 30 = .ok (.ifCond .gt 10, 3) := by decide +kernel
theorem dX4_launchDay_33 : decode cX4_launchDay 33 = .ok (.aload_n 0, 1) := by decide +kernel
theorem dX4_launchDay_34 : decode cX4_launchDay 34 = .ok (.invokevirtual 110, 3) := by decide +kernel
theorem dX4_launchDay_37 : decode cX4_launchDay 37 = .ok (.ifCond .le 7, 3) := by decide +kernel
theorem dX4_launchDay_40 : decode cX4_launchDay 40 = .ok (.iconst 1, 1) := by decide +kernel
theorem dX4_launchDay_41 : decode cX4_launchDay 41 = .ok (.goto 4, 3) := by decide +kernel
theorem dX4_launchDay_44 : decode cX4_launchDay 44 = .ok (.iconst 0, 1) := by decide +kernel
theorem dX4_launchDay_45 : decode cX4_launchDay 45 = .ok (.istore 4, 2) := by decide +kernel
theorem dX4_launchDay_47 : decode cX4_launchDay 47 = .ok (.iload 4, 2) := by decide +kernel
theorem dX4_launchDay_49 : decode cX4_launchDay 49 = .ok (.ifCond .eq 54, 3) := by decide +kernel
theorem dX4_launchDay_52 : decode cX4_launchDay 52 = .ok (.aload_n 0, 1) := by decide +kernel
theorem dX4_launchDay_53 : decode cX4_launchDay 53 = .ok (.iload_n 1, 1) := by decide +kernel
theorem dX4_launchDay_54 : decode cX4_launchDay 54 = .ok (.bipush 8, 2) := by decide +kernel
theorem dX4_launchDay_56 : decode cX4_launchDay 56 = .ok (.invokevirtual 36, 3) := by decide +kernel
theorem dX4_launchDay_59 : decode cX4_launchDay 59 = .ok (.iload_n 3, 1) := by decide +kernel
theorem dX4_launchDay_60 : decode cX4_launchDay 60 = .ok (.if_icmp .gt 43, 3) := by decide +kernel
theorem dX4_launchDay_63 : decode cX4_launchDay 63 = .ok (.aload_n 0, 1) := by decide +kernel
theorem dX4_launchDay_64 : decode cX4_launchDay 64 = .ok (.iload_n 1, 1) := by decide +kernel
theorem dX4_launchDay_65 : decode cX4_launchDay 65 = .ok (.iconst 3, 1) := by decide +kernel
theorem dX4_launchDay_66 : decode cX4_launchDay 66 = .ok (.invokevirtual 36, 3) := by decide +kernel
theorem dX4_launchDay_69 : decode cX4_launchDay 69 = .ok (.aload_n 0, 1) := by decide +kernel
theorem dX4_launchDay_70 : decode cX4_launchDay 70 = .ok (.getfield 7, 3) := by decide +kernel
theorem dX4_launchDay_73 : decode cX4_launchDay 73 = .ok (.iconst 4, 1) := by decide +kernel
theorem dX4_launchDay_74 : decode cX4_launchDay 74 = .ok (.iaload, 1) := by decide +kernel
theorem dX4_launchDay_75 : decode cX4_launchDay 75 = .ok (.if_icmp .gt 28, 3) := by decide +kernel
theorem dX4_launchDay_78 : decode cX4_launchDay 78 = .ok (.aload_n 0, 1) := by decide +kernel
theorem dX4_launchDay_79 : decode cX4_launchDay 79 = .ok (.aload_n 0, 1) := by decide +kernel
theorem dX4_launchDay_80 : decode cX4_launchDay 80 = .ok (.getfield 7, 3) := by decide +kernel
theorem dX4_launchDay_83 : decode cX4_launchDay 83 = .ok (.iconst 0, 1) := by decide +kernel
theorem dX4_launchDay_84 : decode cX4_launchDay 84 = .ok (.iaload, 1) := by decide +kernel
theorem dX4_launchDay_85 : decode cX4_launchDay 85 = .ok (.iload_n 3, 1) := by decide +kernel
theorem dX4_launchDay_86 : decode cX4_launchDay 86 = .ok (.iadd, 1) := by decide +kernel
theorem dX4_launchDay_87 : decode cX4_launchDay 87 = .ok (.invokevirtual 101, 3) := by decide +kernel
theorem dX4_launchDay_90 : decode cX4_launchDay 90 = .ok (.aload_n 0, 1) := by decide +kernel
theorem dX4_launchDay_91 : decode cX4_launchDay 91 = .ok (.iload_n 1, 1) := by decide +kernel
theorem dX4_launchDay_92 : decode cX4_launchDay 92 = .ok (.iconst 2, 1) := by decide +kernel
theorem dX4_launchDay_93 : decode cX4_launchDay 93 = .ok (.invokevirtual 36, 3) := by decide +kernel
theorem dX4_launchDay_96 : decode cX4_launchDay 96 = .ok (.if_icmp .lt 7, 3) := by decide +kernel
theorem dX4_launchDay_99 : decode cX4_launchDay 99 = .ok (.iconst 1, 1) := by decide +kernel
theorem dX4_launchDay_100 : decode cX4_launchDay 100 = .ok (.goto 4, 3) := by decide +kernel
theorem dX4_launchDay_103 : decode cX4_launchDay 103 = .ok (.iconst 0, 1) := by decide +kernel
theorem dX4_launchDay_104 : decode cX4_launchDay 104 = .ok (.istore 5, 2) := by decide +kernel
theorem dX4_launchDay_106 : decode cX4_launchDay 106 = .ok (.iload 5, 2) := by decide +kernel
theorem dX4_launchDay_108 : decode cX4_launchDay 108 = .ok (.ifCond .eq 14, 3) := by decide +kernel
theorem dX4_launchDay_111 : decode cX4_launchDay 111 = .ok (.aload_n 0, 1) := by decide +kernel
theorem dX4_launchDay_112 : decode cX4_launchDay 112 = .ok (.getfield 7, 3) := by decide +kernel
theorem dX4_launchDay_115 : decode cX4_launchDay 115 = .ok (.iconst 0, 1) := by decide +kernel
theorem dX4_launchDay_116 : decode cX4_launchDay 116 = .ok (.iaload, 1) := by decide +kernel
theorem dX4_launchDay_117 : decode cX4_launchDay 117 = .ok (.iload_n 3, 1) := by decide +kernel
theorem dX4_launchDay_118 : decode cX4_launchDay 118 = .ok (.iadd, 1) := by decide +kernel
theorem dX4_launchDay_119 : decode cX4_launchDay 119 = .ok (.goto 4, 3) := by decide +kernel
theorem dX4_launchDay_122 : decode cX4_launchDay 122 = .ok (.iload_n 2, 1) := by decide +kernel
theorem dX4_launchDay_123 : decode cX4_launchDay 123 = .ok (.istore_n 2, 1) := by decide +kernel
theorem dX4_launchDay_124 : decode cX4_launchDay 124 = .ok (.iinc 3 (-1), 3) := by decide +kernel
theorem dX4_launchDay_127 : decode cX4_launchDay 127 = .ok (.goto (-110), 3) := by decide +kernel
theorem dX4_launchDay_130 : decode cX4_launchDay 130 = .ok (.iload_n 2, 1) := by decide +kernel
theorem dX4_launchDay_131 : decode cX4_launchDay 131 = .ok (.ireturn, 1) := by decide +kernel
theorem dX4_bestRow_0 : decode cX4_bestRow 0 = .ok (.aload_n 0, 1) := by decide +kernel
theorem dX4_bestRow_1 : decode cX4_bestRow 1 = .ok (.iload_n 1, 1) := by decide +kernel
theorem dX4_bestRow_2 : decode cX4_bestRow 2 = .ok (.invokevirtual 92, 3) := by decide +kernel
theorem dX4_bestRow_5 : decode cX4_bestRow 5 = .ok (.ifCond .ne 5, 3) := by decide +kernel
theorem dX4_bestRow_8 : decode cX4_bestRow 8 = .ok (.iconst (-1), 1) := by decide +kernel
theorem dX4_bestRow_9 : decode cX4_bestRow 9 = .ok (.ireturn, 1) := by decide +kernel
theorem dX4_bestRow_10 : decode cX4_bestRow 10 = .ok (.bipush (-5), 2) := by decide +kernel
theorem dX4_bestRow_12 : decode cX4_bestRow 12 = .ok (.istore_n 2, 1) := by decide +kernel
theorem dX4_bestRow_13 : decode cX4_bestRow 13 = .ok (.iconst 0, 1) := by decide +kernel
theorem dX4_bestRow_14 : decode cX4_bestRow 14 = .ok (.istore_n 3, 1) := by decide +kernel
theorem dX4_bestRow_15 : decode cX4_bestRow 15 = .ok (.iload_n 3, 1) := by decide +kernel
theorem dX4_bestRow_16 : decode cX4_bestRow 16 = .ok (.iconst 4, 1) := by decide +kernel
theorem dX4_bestRow_17 : decode cX4_bestRow 17 = .ok (.if_icmp .ge 63, 3) := by decide +kernel
theorem dX4_bestRow_20 : decode cX4_bestRow 20 = .ok (.iload_n 3, 1) := by decide +kernel
theorem dX4_bestRow_21 : decode cX4_bestRow 21 = .ok (.aload_n 0, 1) := by decide +kernel
theorem dX4_bestRow_22 : decode cX4_bestRow 22 = .ok (.iload_n 1, 1) := by decide +kernel
theorem dX4_bestRow_23 : decode cX4_bestRow 23 = .ok (.iconst 5, 1) := by decide +kernel
theorem dX4_bestRow_24 : decode cX4_bestRow 24 = .ok (.invokevirtual 36, 3) := by decide +kernel
theorem dX4_bestRow_27 : decode cX4_bestRow 27 = .ok (.if_icmp .eq 16, 3) := by decide +kernel
theorem dX4_bestRow_30 : decode cX4_bestRow 30 = .ok (.aload_n 0, 1) := by decide +kernel
theorem dX4_bestRow_31 : decode cX4_bestRow 31 = .ok (.iload_n 1, 1) := by decide +kernel
theorem dX4_bestRow_32 : decode cX4_bestRow 32 = .ok (.iload_n 3, 1) := by decide +kernel
theorem dX4_bestRow_33 : decode cX4_bestRow 33 = .ok (.invokevirtual 107, 3) := by decide +kernel
theorem dX4_bestRow_36 : decode cX4_bestRow 36 = .ok (.ifCond .eq 7, 3) := by decide +kernel
theorem dX4_bestRow_39 : decode cX4_bestRow 39 = .ok (.iconst 1, 1) := by decide +kernel
theorem dX4_bestRow_40 : decode cX4_bestRow 40 = .ok (.goto 4, 3) := by decide +kernel
theorem dX4_bestRow_43 : decode cX4_bestRow 43 = .ok (.iconst 0, 1) := by decide +kernel
theorem dX4_bestRow_44 : decode cX4_bestRow 44 = .ok (.istore 4, 2) := by decide +kernel
theorem dX4_bestRow_46 : decode cX4_bestRow 46 = .ok (.iload 4, 2) := by decide +kernel
theorem dX4_bestRow_48 : decode cX4_bestRow 48 = .ok (.ifCond .eq 24, 3) := by decide +kernel
theorem dX4_bestRow_51 : decode cX4_bestRow 51 = .ok (.iload_n 2, 1) := by decide +kernel
theorem dX4_bestRow_52 : decode cX4_bestRow 52 = .ok (.ifCond .lt 16, 3) := by decide +kernel
theorem dX4_bestRow_55 : decode cX4_bestRow 55 = .ok (.aload_n 0, 1) := by decide +kernel
theorem dX4_bestRow_56 : decode cX4_bestRow 56 = .ok (.iload_n 3, 1) := by decide +kernel
theorem dX4_bestRow_57 : decode cX4_bestRow 57 = .ok (.invokevirtual 61, 3) := by decide +kernel
theorem dX4_bestRow_60 : decode cX4_bestRow 60 = .ok (.aload_n 0, 1) := by decide +kernel
theorem dX4_bestRow_61 : decode cX4_bestRow 61 = .ok (.iload_n 2, 1) := by decide +kernel
theorem dX4_bestRow_62 : decode cX4_bestRow 62 = .ok (.invokevirtual 61, 3) := by decide +kernel
theorem dX4_bestRow_65 : decode cX4_bestRow 65 = .ok (.if_icmp .ge 7, 3) := by decide +kernel
theorem dX4_bestRow_68 : decode cX4_bestRow 68 = .ok (.iload_n 3, 1) := by decide +kernel
theorem dX4_bestRow_69 : decode cX4_bestRow 69 = .ok (.goto 4, 3) := by decide +kernel
theorem dX4_bestRow_72 : decode cX4_bestRow 72 = .ok (.iload_n 2, 1) := by decide +kernel
theorem dX4_bestRow_73 : decode cX4_bestRow 73 = .ok (.istore_n 2, 1) := by decide +kernel
theorem dX4_bestRow_74 : decode cX4_bestRow 74 = .ok (.iinc 3 1, 3) := by decide +kernel
theorem dX4_bestRow_77 : decode cX4_bestRow 77 = .ok (.goto (-62), 3) := by decide +kernel
theorem dX4_bestRow_80 : decode cX4_bestRow 80 = .ok (.iload_n 2, 1) := by decide +kernel
theorem dX4_bestRow_81 : decode cX4_bestRow 81 = .ok (.ireturn, 1) := by decide +kernel
theorem dX4_count_0 : decode cX4_count 0 = .ok (.iconst 0, 1) := by decide +kernel
theorem dX4_count_1 : decode cX4_count 1 = .ok (.istore_n 2, 1) := by decide +kernel
theorem dX4_count_2 : decode cX4_count 2 = .ok (.iconst 0, 1) := by decide +kernel
theorem dX4_count_3 : decode cX4_count 3 = .ok (.istore_n 3, 1) := by decide +kernel
theorem dX4_count_4 : decode cX4_count 4 = .ok (.iconst 0, 1) := by decide +kernel
theorem dX4_count_5 : decode cX4_count 5 = .ok (.istore 4, 2) := by decide +kernel
theorem dX4_count_7 : decode cX4_count 7 = .ok (.iload 4, 2) := by decide +kernel
theorem dX4_count_9 : decode cX4_count 9 = .ok (.bipush 20, 2) := by decide +kernel
theorem dX4_count_11 : decode cX4_count 11 = .ok (.if_icmp .ge 67, 3) := by decide +kernel
theorem dX4_count_14 : decode cX4_count 14 = .ok (.iload_n 2, 1) := by decide +kernel
theorem dX4_count_15 : decode cX4_count 15 = .ok (.aload_n 0, 1) := by decide +kernel
theorem dX4_count_16 : decode cX4_count 16 = .ok (.iload 4, 2) := by decide +kernel
theorem dX4_count_18 : decode cX4_count 18 = .ok (.iconst 0, 1) := by decide +kernel
theorem dX4_count_19 : decode cX4_count 19 = .ok (.invokevirtual 36, 3) := by decide +kernel
theorem dX4_count_22 : decode cX4_count 22 = .ok (.iconst 1, 1) := by decide +kernel
theorem dX4_count_23 : decode cX4_count 23 = .ok (.if_icmp .ne 16, 3) := by decide +kernel
theorem dX4_count_26 : decode cX4_count 26 = .ok (.aload_n 0, 1) := by decide +kernel
theorem dX4_count_27 : decode cX4_count 27 = .ok (.iload 4, 2) := by decide +kernel
theorem dX4_count_29 : decode cX4_count 29 = .ok (.invokevirtual 40, 3) := by decide +kernel
theorem dX4_count_32 : decode cX4_count 32 = .ok (.ifCond .eq 7, 3) := by decide +kernel
theorem dX4_count_35 : decode cX4_count 35 = .ok (.iconst 1, 1) := by decide +kernel
theorem dX4_count_36 : decode cX4_count 36 = .ok (.goto 4, 3) := by decide +kernel
theorem dX4_count_39 : decode cX4_count 39 = .ok (.iconst 0, 1) := by decide +kernel
theorem dX4_count_40 : decode cX4_count 40 = .ok (.iadd, 1) := by decide +kernel
theorem dX4_count_41 : decode cX4_count 41 = .ok (.istore_n 2, 1) := by decide +kernel
theorem dX4_count_42 : decode cX4_count 42 = .ok (.iload_n 3, 1) := by decide +kernel
theorem dX4_count_43 : decode cX4_count 43 = .ok (.aload_n 0, 1) := by decide +kernel
theorem dX4_count_44 : decode cX4_count 44 = .ok (.iload 4, 2) := by decide +kernel
theorem dX4_count_46 : decode cX4_count 46 = .ok (.iconst 0, 1) := by decide +kernel
theorem dX4_count_47 : decode cX4_count 47 = .ok (.invokevirtual 36, 3) := by decide +kernel
theorem dX4_count_50 : decode cX4_count 50 = .ok (.iconst 1, 1) := by decide +kernel
theorem dX4_count_51 : decode cX4_count 51 = .ok (.if_icmp .ne 18, 3) := by decide +kernel
theorem dX4_count_54 : decode cX4_count 54 = .ok (.aload_n 0, 1) := by decide +kernel
theorem dX4_count_55 : decode cX4_count 55 = .ok (.iload 4, 2) := by decide +kernel
theorem dX4_count_57 : decode cX4_count 57 = .ok (.bipush 8, 2) := by decide +kernel
theorem dX4_count_59 : decode cX4_count 59 = .ok (.invokevirtual 36, 3) := by decide +kernel
theorem dX4_count_62 : decode cX4_count 62 = .ok (.ifCond .le 7, 3) := by decide +kernel
theorem dX4_count_65 : decode cX4_count 65 = .ok (.iconst 1, 1) := by decide +kernel
theorem dX4_count_66 : decode cX4_count 66 = .ok (.goto 4, 3) := by decide +kernel
theorem dX4_count_69 : decode cX4_count 69 = .ok (.iconst 0, 1) := by decide +kernel
theorem dX4_count_70 : decode cX4_count 70 = .ok (.iadd, 1) := by decide +kernel
theorem dX4_count_71 : decode cX4_count 71 = .ok (.istore_n 3, 1) := by decide +kernel
theorem dX4_count_72 : decode cX4_count 72 = .ok (.iinc 4 1, 3) := by decide +kernel
theorem dX4_count_75 : decode cX4_count 75 = .ok (.goto (-68), 3) := by decide +kernel
theorem dX4_count_78 : decode cX4_count 78 = .ok (.iload_n 1, 1) := by decide +kernel
theorem dX4_count_79 : decode cX4_count 79 = .ok (.tableswitch 151 0 14 #[73, 80, 91, 96, 101, 103, 105, 112, 120, 120, 129, 129, 129, 141, 146], 73) := by decide +kernel
theorem dX4_count_152 : decode cX4_count 152 = .ok (.aload_n 0, 1) := by decide +kernel
theorem dX4_count_153 : decode cX4_count 153 = .ok (.getfield 7, 3) := by decide +kernel
theorem dX4_count_156 : decode cX4_count 156 = .ok (.iconst 0, 1) := by decide +kernel
theorem dX4_count_157 : decode cX4_count 157 = .ok (.iaload, 1) := by decide +kernel
theorem dX4_count_158 : decode cX4_count 158 = .ok (.ireturn, 1) := by decide +kernel
theorem dX4_count_159 : decode cX4_count 159 = .ok (.aload_n 0, 1) := by decide +kernel
theorem dX4_count_160 : decode cX4_count 160 = .ok (.aload_n 0, 1) := by decide +kernel
theorem dX4_count_161 : decode cX4_count 161 = .ok (.getfield 7, 3) := by decide +kernel
theorem dX4_count_164 : decode cX4_count 164 = .ok (.iconst 0, 1) := by decide +kernel
theorem dX4_count_165 : decode cX4_count 165 = .ok (.iaload, 1) := by decide +kernel
theorem dX4_count_166 : decode cX4_count 166 = .ok (.invokevirtual 101, 3) := by decide +kernel
theorem dX4_count_169 : decode cX4_count 169 = .ok (.ireturn, 1) := by decide +kernel
theorem dX4_count_170 : decode cX4_count 170 = .ok (.aload_n 0, 1) := by decide +kernel
theorem dX4_count_171 : decode cX4_count 171 = .ok (.invokevirtual 110, 3) := by decide +kernel
theorem dX4_count_174 : decode cX4_count 174 = .ok (.ireturn, 1) := by decide +kernel
theorem dX4_count_175 : decode cX4_count 175 = .ok (.aload_n 0, 1) := by decide +kernel
theorem dX4_count_176 : decode cX4_count 176 = .ok (.invokevirtual 81, 3) := by decide +kernel
theorem dX4_count_179 : decode cX4_count 179 = .ok (.ireturn, 1) := by decide +kernel
theorem dX4_count_180 : decode cX4_count 180 = .ok (.iload_n 2, 1) := by decide +kernel
theorem dX4_count_181 : decode cX4_count 181 = .ok (.ireturn, 1) := by decide +kernel
theorem dX4_count_182 : decode cX4_count 182 = .ok (.iload_n 3, 1) := by decide +kernel
theorem dX4_count_183 : decode cX4_count 183 = .ok (.ireturn, 1) := by decide +kernel
theorem dX4_count_184 : decode cX4_count 184 = .ok (.aload_n 0, 1) := by decide +kernel
theorem dX4_count_185 : decode cX4_count 185 = .ok (.getfield 7, 3) := by decide +kernel
theorem dX4_count_188 : decode cX4_count 188 = .ok (.iconst 5, 1) := by decide +kernel
theorem dX4_count_189 : decode cX4_count 189 = .ok (.iaload, 1) := by decide +kernel
theorem dX4_count_190 : decode cX4_count 190 = .ok (.ireturn, 1) := by decide +kernel
theorem dX4_count_191 : decode cX4_count 191 = .ok (.aload_n 0, 1) := by decide +kernel
theorem dX4_count_192 : decode cX4_count 192 = .ok (.getfield 7, 3) := by decide +kernel
theorem dX4_count_195 : decode cX4_count 195 = .ok (.bipush 6, 2) := by decide +kernel
theorem dX4_count_197 : decode cX4_count 197 = .ok (.iaload, 1) := by decide +kernel
theorem dX4_count_198 : decode cX4_count 198 = .ok (.ireturn, 1) := by decide +kernel
theorem dX4_count_199 : decode cX4_count 199 = .ok (.aload_n 0, 1) := by decide +kernel
theorem dX4_count_200 : decode cX4_count 200 = .ok (.iload_n 1, 1) := by decide +kernel
theorem dX4_count_201 : decode cX4_count 201 = .ok (.bipush 8, 2) := by decide +kernel
theorem dX4_count_203 : decode cX4_count 203 = .ok (.isub, 1) := by decide +kernel
theorem dX4_count_204 : decode cX4_count 204 = .ok (.invokevirtual 147, 3) := by decide +kernel
theorem dX4_count_207 : decode cX4_count 207 = .ok (.ireturn, 1) := by decide +kernel
theorem dX4_count_208 : decode cX4_count 208 = .ok (.aload_n 0, 1) := by decide +kernel
theorem dX4_count_209 : decode cX4_count 209 = .ok (.getfield 7, 3) := by decide +kernel
theorem dX4_count_212 : decode cX4_count 212 = .ok (.iconst 2, 1) := by decide +kernel
theorem dX4_count_213 : decode cX4_count 213 = .ok (.iload_n 1, 1) := by decide +kernel
theorem dX4_count_214 : decode cX4_count 214 = .ok (.iadd, 1) := by decide +kernel
theorem dX4_count_215 : decode cX4_count 215 = .ok (.bipush 10, 2) := by decide +kernel
theorem dX4_count_217 : decode cX4_count 217 = .ok (.isub, 1) := by decide +kernel
theorem dX4_count_218 : decode cX4_count 218 = .ok (.iaload, 1) := by decide +kernel
theorem dX4_count_219 : decode cX4_count 219 = .ok (.ireturn, 1) := by decide +kernel
theorem dX4_count_220 : decode cX4_count 220 = .ok (.aload_n 0, 1) := by decide +kernel
theorem dX4_count_221 : decode cX4_count 221 = .ok (.getfield 74, 3) := by decide +kernel
theorem dX4_count_224 : decode cX4_count 224 = .ok (.ireturn, 1) := by decide +kernel
theorem dX4_count_225 : decode cX4_count 225 = .ok (.aload_n 0, 1) := by decide +kernel
theorem dX4_count_226 : decode cX4_count 226 = .ok (.getfield 166, 3) := by decide +kernel
theorem dX4_count_229 : decode cX4_count 229 = .ok (.ireturn, 1) := by decide +kernel
theorem dX4_count_230 : decode cX4_count 230 = .ok (.bipush (-2), 2) := by decide +kernel
theorem dX4_count_232 : decode cX4_count 232 = .ok (.ireturn, 1) := by decide +kernel
end
section
theorem dL_law_0 : decode cL_law 0 = .ok (.new 7, 3) := by decide +kernel
theorem dL_law_3 : decode cL_law 3 = .ok (.dup, 1) := by decide +kernel
theorem dL_law_4 : decode cL_law 4 = .ok (.invokespecial 9, 3) := by decide +kernel
theorem dL_law_7 : decode cL_law 7 = .ok (.astore_n 1, 1) := by decide +kernel
theorem dL_law_8 : decode cL_law 8 = .ok (.new 10, 3) := by decide +kernel
theorem dL_law_11 : decode cL_law 11 = .ok (.dup, 1) := by decide +kernel
theorem dL_law_12 : decode cL_law 12 = .ok (.invokespecial 12, 3) := by decide +kernel
theorem dL_law_15 : decode cL_law 15 = .ok (.astore_n 2, 1) := by decide +kernel
theorem dL_law_16 : decode cL_law 16 = .ok (.iconst 0, 1) := by decide +kernel
theorem dL_law_17 : decode cL_law 17 = .ok (.istore_n 3, 1) := by decide +kernel
theorem dL_law_18 : decode cL_law 18 = .ok (.iload_n 3, 1) := by decide +kernel
theorem dL_law_19 : decode cL_law 19 = .ok (.aload_n 0, 1) := by decide +kernel
theorem dL_law_20 : decode cL_law 20 = .ok (.arraylength, 1) := by decide +kernel
theorem dL_law_21 : decode cL_law 21 = .ok (.iconst 5, 1) := by decide +kernel
theorem dL_law_22 : decode cL_law 22 = .ok (.isub, 1) := by decide +kernel
theorem dL_law_23 : decode cL_law 23 = .ok (.if_icmp .gt 932, 3) := by decide +kernel
theorem dL_law_26 : decode cL_law 26 = .ok (.aload_n 0, 1) := by decide +kernel
theorem dL_law_27 : decode cL_law 27 = .ok (.iload_n 3, 1) := by decide +kernel
theorem dL_law_28 : decode cL_law 28 = .ok (.iaload, 1) := by decide +kernel
theorem dL_law_29 : decode cL_law 29 = .ok (.bipush 31, 2) := by decide +kernel
theorem dL_law_31 : decode cL_law 31 = .ok (.iand, 1) := by decide +kernel
theorem dL_law_32 : decode cL_law 32 = .ok (.tableswitch 917 0 28 #[132, 185, 208, 241, 274, 307, 340, 363, 396, 445, 478, 501, 526, 539, 552, 575, 588, 601, 614, 647, 680, 713, 746, 769, 802, 825, 848, 871, 894], 132) := by decide +kernel
theorem dL_law_164 : decode cL_law 164 = .ok (.aload_n 1, 1) := by decide +kernel
theorem dL_law_165 : decode cL_law 165 = .ok (.aload_n 0, 1) := by decide +kernel
theorem dL_law_166 : decode cL_law 166 = .ok (.iload_n 3, 1) := by decide +kernel
theorem dL_law_167 : decode cL_law 167 = .ok (.iconst 1, 1) := by decide +kernel
theorem dL_law_168 : decode cL_law 168 = .ok (.iadd, 1) := by decide +kernel
theorem dL_law_169 : decode cL_law 169 = .ok (.iaload, 1) := by decide +kernel
theorem dL_law_170 : decode cL_law 170 = .ok (.aload_n 0, 1) := by decide +kernel
theorem dL_law_171 : decode cL_law 171 = .ok (.iload_n 3, 1) := by decide +kernel
theorem dL_law_172 : decode cL_law 172 = .ok (.iconst 2, 1) := by decide +kernel
theorem dL_law_173 : decode cL_law 173 = .ok (.iadd, 1) := by decide +kernel
theorem dL_law_174 : decode cL_law 174 = .ok (.iaload, 1) := by decide +kernel
theorem dL_law_175 : decode cL_law 175 = .ok (.aload_n 0, 1) := by decide +kernel
theorem dL_law_176 : decode cL_law 176 = .ok (.iload_n 3, 1) := by decide +kernel
theorem dL_law_177 : decode cL_law 177 = .ok (.iconst 3, 1) := by decide +kernel
theorem dL_law_178 : decode cL_law 178 = .ok (.iadd, 1) := by decide +kernel
theorem dL_law_179 : decode cL_law 179 = .ok (.iaload, 1) := by decide +kernel
theorem dL_law_180 : decode cL_law 180 = .ok (.aload_n 0, 1) := by decide +kernel
theorem dL_law_181 : decode cL_law 181 = .ok (.iload_n 3, 1) := by decide +kernel
theorem dL_law_182 : decode cL_law 182 = .ok (.iconst 4, 1) := by decide +kernel
theorem dL_law_183 : decode cL_law 183 = .ok (.iadd, 1) := by decide +kernel
theorem dL_law_184 : decode cL_law 184 = .ok (.iaload, 1) := by decide +kernel
theorem dL_law_185 : decode cL_law 185 = .ok (.invokevirtual 13, 3) := by decide +kernel
theorem dL_law_188 : decode cL_law 188 = .ok (.aload_n 2, 1) := by decide +kernel
theorem dL_law_189 : decode cL_law 189 = .ok (.aload_n 0, 1) := by decide +kernel
theorem dL_law_190 : decode cL_law 190 = .ok (.iload_n 3, 1) := by decide +kernel
theorem dL_law_191 : decode cL_law 191 = .ok (.iconst 1, 1) := by decide +kernel
theorem dL_law_192 : decode cL_law 192 = .ok (.iadd, 1) := by decide +kernel
theorem dL_law_193 : decode cL_law 193 = .ok (.iaload, 1) := by decide +kernel
theorem dL_law_194 : decode cL_law 194 = .ok (.aload_n 0, 1) := by decide +kernel
theorem dL_law_195 : decode cL_law 195 = .ok (.iload_n 3, 1) := by decide +kernel
theorem dL_law_196 : decode cL_law 196 = .ok (.iconst 2, 1) := by decide +kernel
theorem dL_law_197 : decode cL_law 197 = .ok (.iadd, 1) := by decide +kernel
theorem dL_law_198 : decode cL_law 198 = .ok (.iaload, 1) := by decide +kernel
theorem dL_law_199 : decode cL_law 199 = .ok (.aload_n 0, 1) := by decide +kernel
theorem dL_law_200 : decode cL_law 200 = .ok (.iload_n 3, 1) := by decide +kernel
theorem dL_law_201 : decode cL_law 201 = .ok (.iconst 3, 1) := by decide +kernel
theorem dL_law_202 : decode cL_law 202 = .ok (.iadd, 1) := by decide +kernel
theorem dL_law_203 : decode cL_law 203 = .ok (.iaload, 1) := by decide +kernel
theorem dL_law_204 : decode cL_law 204 = .ok (.aload_n 0, 1) := by decide +kernel
theorem dL_law_205 : decode cL_law 205 = .ok (.iload_n 3, 1) := by decide +kernel
theorem dL_law_206 : decode cL_law 206 = .ok (.iconst 4, 1) := by decide +kernel
theorem dL_law_207 : decode cL_law 207 = .ok (.iadd, 1) := by decide +kernel
theorem dL_law_208 : decode cL_law 208 = .ok (.iaload, 1) := by decide +kernel
theorem dL_law_209 : decode cL_law 209 = .ok (.invokevirtual 17, 3) := by decide +kernel
theorem dL_law_212 : decode cL_law 212 = .ok (.if_icmp .eq 737, 3) := by decide +kernel
theorem dL_law_215 : decode cL_law 215 = .ok (.iconst 0, 1) := by decide +kernel
theorem dL_law_216 : decode cL_law 216 = .ok (.ireturn, 1) := by decide +kernel
theorem dL_law_217 : decode cL_law 217 = .ok (.aload_n 1, 1) := by decide +kernel
theorem dL_law_218 : decode cL_law 218 = .ok (.aload_n 0, 1) := by decide +kernel
theorem dL_law_219 : decode cL_law 219 = .ok (.iload_n 3, 1) := by decide +kernel
theorem dL_law_220 : decode cL_law 220 = .ok (.iconst 1, 1) := by decide +kernel
theorem dL_law_221 : decode cL_law 221 = .ok (.iadd, 1) := by decide +kernel
theorem dL_law_222 : decode cL_law 222 = .ok (.iaload, 1) := by decide +kernel
theorem dL_law_223 : decode cL_law 223 = .ok (.invokevirtual 18, 3) := by decide +kernel
theorem dL_law_226 : decode cL_law 226 = .ok (.aload_n 2, 1) := by decide +kernel
theorem dL_law_227 : decode cL_law 227 = .ok (.aload_n 0, 1) := by decide +kernel
theorem dL_law_228 : decode cL_law 228 = .ok (.iload_n 3, 1) := by decide +kernel
theorem dL_law_229 : decode cL_law 229 = .ok (.iconst 1, 1) := by decide +kernel
theorem dL_law_230 : decode cL_law 230 = .ok (.iadd, 1) := by decide +kernel
theorem dL_law_231 : decode cL_law 231 = .ok (.iaload, 1) := by decide +kernel
theorem dL_law_232 : decode cL_law 232 = .ok (.invokevirtual 22, 3) := by decide +kernel
theorem dL_law_235 : decode cL_law 235 = .ok (.if_icmp .eq 714, 3) := by decide +kernel
theorem dL_law_238 : decode cL_law 238 = .ok (.iconst 0, 1) := by decide +kernel
theorem dL_law_239 : decode cL_law 239 = .ok (.ireturn, 1) := by decide +kernel
theorem dL_law_240 : decode cL_law 240 = .ok (.aload_n 1, 1) := by decide +kernel
theorem dL_law_241 : decode cL_law 241 = .ok (.aload_n 0, 1) := by decide +kernel
theorem dL_law_242 : decode cL_law 242 = .ok (.iload_n 3, 1) := by decide +kernel
theorem dL_law_243 : decode cL_law 243 = .ok (.iconst 1, 1) := by decide +kernel
theorem dL_law_244 : decode cL_law 244 = .ok (.iadd, 1) := by decide +kernel
theorem dL_law_245 : decode cL_law 245 = .ok (.iaload, 1) := by decide +kernel
theorem dL_law_246 : decode cL_law 246 = .ok (.aload_n 0, 1) := by decide +kernel
theorem dL_law_247 : decode cL_law 247 = .ok (.iload_n 3, 1) := by decide +kernel
theorem dL_law_248 : decode cL_law 248 = .ok (.iconst 2, 1) := by decide +kernel
theorem dL_law_249 : decode cL_law 249 = .ok (.iadd, 1) := by decide +kernel
theorem dL_law_250 : decode cL_law 250 = .ok (.iaload, 1) := by decide +kernel
theorem dL_law_251 : decode cL_law 251 = .ok (.invokevirtual 23, 3) := by decide +kernel
theorem dL_law_254 : decode cL_law 254 = .ok (.aload_n 2, 1) := by decide +kernel
theorem dL_law_255 : decode cL_law 255 = .ok (.aload_n 0, 1) := by decide +kernel
theorem dL_law_256 : decode cL_law 256 = .ok (.iload_n 3, 1) := by decide +kernel
theorem dL_law_257 : decode cL_law 257 = .ok (.iconst 1, 1) := by decide +kernel
theorem dL_law_258 : decode cL_law 258 = .ok (.iadd, 1) := by decide +kernel
theorem dL_law_259 : decode cL_law 259 = .ok (.iaload, 1) := by decide +kernel
theorem dL_law_260 : decode cL_law 260 = .ok (.aload_n 0, 1) := by decide +kernel
theorem dL_law_261 : decode cL_law 261 = .ok (.iload_n 3, 1) := by decide +kernel
theorem dL_law_262 : decode cL_law 262 = .ok (.iconst 2, 1) := by decide +kernel
theorem dL_law_263 : decode cL_law 263 = .ok (.iadd, 1) := by decide +kernel
theorem dL_law_264 : decode cL_law 264 = .ok (.iaload, 1) := by decide +kernel
theorem dL_law_265 : decode cL_law 265 = .ok (.invokevirtual 27, 3) := by decide +kernel
theorem dL_law_268 : decode cL_law 268 = .ok (.if_icmp .eq 681, 3) := by decide +kernel
theorem dL_law_271 : decode cL_law 271 = .ok (.iconst 0, 1) := by decide +kernel
theorem dL_law_272 : decode cL_law 272 = .ok (.ireturn, 1) := by decide +kernel
theorem dL_law_273 : decode cL_law 273 = .ok (.aload_n 1, 1) := by decide +kernel
theorem dL_law_274 : decode cL_law 274 = .ok (.aload_n 0, 1) := by decide +kernel
theorem dL_law_275 : decode cL_law 275 = .ok (.iload_n 3, 1) := by decide +kernel
theorem dL_law_276 : decode cL_law 276 = .ok (.iconst 1, 1) := by decide +kernel
theorem dL_law_277 : decode cL_law 277 = .ok (.iadd, 1) := by decide +kernel
theorem dL_law_278 : decode cL_law 278 = .ok (.iaload, 1) := by decide +kernel
theorem dL_law_279 : decode cL_law 279 = .ok (.aload_n 0, 1) := by decide +kernel
theorem dL_law_280 : decode cL_law 280 = .ok (.iload_n 3, 1) := by decide +kernel
theorem dL_law_281 : decode cL_law 281 = .ok (.iconst 2, 1) := by decide +kernel
theorem dL_law_282 : decode cL_law 282 = .ok (.iadd, 1) := by decide +kernel
theorem dL_law_283 : decode cL_law 283 = .ok (.iaload, 1) := by decide +kernel
theorem dL_law_284 : decode cL_law 284 = .ok (.invokevirtual 28, 3) := by decide +kernel
theorem dL_law_287 : decode cL_law 287 = .ok (.aload_n 2, 1) := by decide +kernel
theorem dL_law_288 : decode cL_law 288 = .ok (.aload_n 0, 1) := by decide +kernel
theorem dL_law_289 : decode cL_law 289 = .ok (.iload_n 3, 1) := by decide +kernel
theorem dL_law_290 : decode cL_law 290 = .ok (.iconst 1, 1) := by decide +kernel
theorem dL_law_291 : decode cL_law 291 = .ok (.iadd, 1) := by decide +kernel
theorem dL_law_292 : decode cL_law 292 = .ok (.iaload, 1) := by decide +kernel
theorem dL_law_293 : decode cL_law 293 = .ok (.aload_n 0, 1) := by decide +kernel
theorem dL_law_294 : decode cL_law 294 = .ok (.iload_n 3, 1) := by decide +kernel
theorem dL_law_295 : decode cL_law 295 = .ok (.iconst 2, 1) := by decide +kernel
theorem dL_law_296 : decode cL_law 296 = .ok (.iadd, 1) := by decide +kernel
theorem dL_law_297 : decode cL_law 297 = .ok (.iaload, 1) := by decide +kernel
theorem dL_law_298 : decode cL_law 298 = .ok (.invokevirtual 31, 3) := by decide +kernel
theorem dL_law_301 : decode cL_law 301 = .ok (.if_icmp .eq 648, 3) := by decide +kernel
theorem dL_law_304 : decode cL_law 304 = .ok (.iconst 0, 1) := by decide +kernel
theorem dL_law_305 : decode cL_law 305 = .ok (.ireturn, 1) := by decide +kernel
theorem dL_law_306 : decode cL_law 306 = .ok (.aload_n 1, 1) := by decide +kernel
theorem dL_law_307 : decode cL_law 307 = .ok (.aload_n 0, 1) := by decide +kernel
theorem dL_law_308 : decode cL_law 308 = .ok (.iload_n 3, 1) := by decide +kernel
theorem dL_law_309 : decode cL_law 309 = .ok (.iconst 1, 1) := by decide +kernel
theorem dL_law_310 : decode cL_law 310 = .ok (.iadd, 1) := by decide +kernel
theorem dL_law_311 : decode cL_law 311 = .ok (.iaload, 1) := by decide +kernel
theorem dL_law_312 : decode cL_law 312 = .ok (.aload_n 0, 1) := by decide +kernel
theorem dL_law_313 : decode cL_law 313 = .ok (.iload_n 3, 1) := by decide +kernel
theorem dL_law_314 : decode cL_law 314 = .ok (.iconst 2, 1) := by decide +kernel
theorem dL_law_315 : decode cL_law 315 = .ok (.iadd, 1) := by decide +kernel
theorem dL_law_316 : decode cL_law 316 = .ok (.iaload, 1) := by decide +kernel
theorem dL_law_317 : decode cL_law 317 = .ok (.invokevirtual 32, 3) := by decide +kernel
theorem dL_law_320 : decode cL_law 320 = .ok (.aload_n 2, 1) := by decide +kernel
theorem dL_law_321 : decode cL_law 321 = .ok (.aload_n 0, 1) := by decide +kernel
theorem dL_law_322 : decode cL_law 322 = .ok (.iload_n 3, 1) := by decide +kernel
theorem dL_law_323 : decode cL_law 323 = .ok (.iconst 1, 1) := by decide +kernel
theorem dL_law_324 : decode cL_law 324 = .ok (.iadd, 1) := by decide +kernel
theorem dL_law_325 : decode cL_law 325 = .ok (.iaload, 1) := by decide +kernel
theorem dL_law_326 : decode cL_law 326 = .ok (.aload_n 0, 1) := by decide +kernel
theorem dL_law_327 : decode cL_law 327 = .ok (.iload_n 3, 1) := by decide +kernel
theorem dL_law_328 : decode cL_law 328 = .ok (.iconst 2, 1) := by decide +kernel
theorem dL_law_329 : decode cL_law 329 = .ok (.iadd, 1) := by decide +kernel
theorem dL_law_330 : decode cL_law 330 = .ok (.iaload, 1) := by decide +kernel
theorem dL_law_331 : decode cL_law 331 = .ok (.invokevirtual 35, 3) := by decide +kernel
theorem dL_law_334 : decode cL_law 334 = .ok (.if_icmp .eq 615, 3) := by decide +kernel
theorem dL_law_337 : decode cL_law 337 = .ok (.iconst 0, 1) := by decide +kernel
theorem dL_law_338 : decode cL_law 338 = .ok (.ireturn, 1) := by decide +kernel
theorem dL_law_339 : decode cL_law 339 = .ok (.aload_n 1, 1) := by decide +kernel
theorem dL_law_340 : decode cL_law 340 = .ok (.aload_n 0, 1) := by decide +kernel
theorem dL_law_341 : decode cL_law 341 = .ok (.iload_n 3, 1) := by decide +kernel
theorem dL_law_342 : decode cL_law 342 = .ok (.iconst 1, 1) := by decide +kernel
theorem dL_law_343 : decode cL_law 343 = .ok (.iadd, 1) := by decide +kernel
theorem dL_law_344 : decode cL_law 344 = .ok (.iaload, 1) := by decide +kernel
theorem dL_law_345 : decode cL_law 345 = .ok (.aload_n 0, 1) := by decide +kernel
theorem dL_law_346 : decode cL_law 346 = .ok (.iload_n 3, 1) := by decide +kernel
theorem dL_law_347 : decode cL_law 347 = .ok (.iconst 2, 1) := by decide +kernel
theorem dL_law_348 : decode cL_law 348 = .ok (.iadd, 1) := by decide +kernel
theorem dL_law_349 : decode cL_law 349 = .ok (.iaload, 1) := by decide +kernel
theorem dL_law_350 : decode cL_law 350 = .ok (.invokevirtual 36, 3) := by decide +kernel
theorem dL_law_353 : decode cL_law 353 = .ok (.aload_n 2, 1) := by decide +kernel
theorem dL_law_354 : decode cL_law 354 = .ok (.aload_n 0, 1) := by decide +kernel
theorem dL_law_355 : decode cL_law 355 = .ok (.iload_n 3, 1) := by decide +kernel
theorem dL_law_356 : decode cL_law 356 = .ok (.iconst 1, 1) := by decide +kernel
theorem dL_law_357 : decode cL_law 357 = .ok (.iadd, 1) := by decide +kernel
theorem dL_law_358 : decode cL_law 358 = .ok (.iaload, 1) := by decide +kernel
theorem dL_law_359 : decode cL_law 359 = .ok (.aload_n 0, 1) := by decide +kernel
theorem dL_law_360 : decode cL_law 360 = .ok (.iload_n 3, 1) := by decide +kernel
theorem dL_law_361 : decode cL_law 361 = .ok (.iconst 2, 1) := by decide +kernel
theorem dL_law_362 : decode cL_law 362 = .ok (.iadd, 1) := by decide +kernel
theorem dL_law_363 : decode cL_law 363 = .ok (.iaload, 1) := by decide +kernel
theorem dL_law_364 : decode cL_law 364 = .ok (.invokevirtual 39, 3) := by decide +kernel
theorem dL_law_367 : decode cL_law 367 = .ok (.if_icmp .eq 582, 3) := by decide +kernel
theorem dL_law_370 : decode cL_law 370 = .ok (.iconst 0, 1) := by decide +kernel
theorem dL_law_371 : decode cL_law 371 = .ok (.ireturn, 1) := by decide +kernel
theorem dL_law_372 : decode cL_law 372 = .ok (.aload_n 1, 1) := by decide +kernel
theorem dL_law_373 : decode cL_law 373 = .ok (.aload_n 0, 1) := by decide +kernel
theorem dL_law_374 : decode cL_law 374 = .ok (.iload_n 3, 1) := by decide +kernel
theorem dL_law_375 : decode cL_law 375 = .ok (.iconst 1, 1) := by decide +kernel
theorem dL_law_376 : decode cL_law 376 = .ok (.iadd, 1) := by decide +kernel
theorem dL_law_377 : decode cL_law 377 = .ok (.iaload, 1) := by decide +kernel
theorem dL_law_378 : decode cL_law 378 = .ok (.invokevirtual 40, 3) := by decide +kernel
theorem dL_law_381 : decode cL_law 381 = .ok (.aload_n 2, 1) := by decide +kernel
theorem dL_law_382 : decode cL_law 382 = .ok (.aload_n 0, 1) := by decide +kernel
theorem dL_law_383 : decode cL_law 383 = .ok (.iload_n 3, 1) := by decide +kernel
theorem dL_law_384 : decode cL_law 384 = .ok (.iconst 1, 1) := by decide +kernel
theorem dL_law_385 : decode cL_law 385 = .ok (.iadd, 1) := by decide +kernel
theorem dL_law_386 : decode cL_law 386 = .ok (.iaload, 1) := by decide +kernel
theorem dL_law_387 : decode cL_law 387 = .ok (.invokevirtual 43, 3) := by decide +kernel
theorem dL_law_390 : decode cL_law 390 = .ok (.if_icmp .eq 559, 3) := by decide +kernel
theorem dL_law_393 : decode cL_law 393 = .ok (.iconst 0, 1) := by decide +kernel
theorem dL_law_394 : decode cL_law 394 = .ok (.ireturn, 1) := by decide +kernel
theorem dL_law_395 : decode cL_law 395 = .ok (.aload_n 1, 1) := by decide +kernel
theorem dL_law_396 : decode cL_law 396 = .ok (.aload_n 0, 1) := by decide +kernel
theorem dL_law_397 : decode cL_law 397 = .ok (.iload_n 3, 1) := by decide +kernel
theorem dL_law_398 : decode cL_law 398 = .ok (.iconst 1, 1) := by decide +kernel
theorem dL_law_399 : decode cL_law 399 = .ok (.iadd, 1) := by decide +kernel
theorem dL_law_400 : decode cL_law 400 = .ok (.iaload, 1) := by decide +kernel
theorem dL_law_401 : decode cL_law 401 = .ok (.aload_n 0, 1) := by decide +kernel
theorem dL_law_402 : decode cL_law 402 = .ok (.iload_n 3, 1) := by decide +kernel
theorem dL_law_403 : decode cL_law 403 = .ok (.iconst 2, 1) := by decide +kernel
theorem dL_law_404 : decode cL_law 404 = .ok (.iadd, 1) := by decide +kernel
theorem dL_law_405 : decode cL_law 405 = .ok (.iaload, 1) := by decide +kernel
theorem dL_law_406 : decode cL_law 406 = .ok (.invokevirtual 44, 3) := by decide +kernel
theorem dL_law_409 : decode cL_law 409 = .ok (.aload_n 2, 1) := by decide +kernel
theorem dL_law_410 : decode cL_law 410 = .ok (.aload_n 0, 1) := by decide +kernel
theorem dL_law_411 : decode cL_law 411 = .ok (.iload_n 3, 1) := by decide +kernel
theorem dL_law_412 : decode cL_law 412 = .ok (.iconst 1, 1) := by decide +kernel
theorem dL_law_413 : decode cL_law 413 = .ok (.iadd, 1) := by decide +kernel
theorem dL_law_414 : decode cL_law 414 = .ok (.iaload, 1) := by decide +kernel
theorem dL_law_415 : decode cL_law 415 = .ok (.aload_n 0, 1) := by decide +kernel
theorem dL_law_416 : decode cL_law 416 = .ok (.iload_n 3, 1) := by decide +kernel
theorem dL_law_417 : decode cL_law 417 = .ok (.iconst 2, 1) := by decide +kernel
theorem dL_law_418 : decode cL_law 418 = .ok (.iadd, 1) := by decide +kernel
theorem dL_law_419 : decode cL_law 419 = .ok (.iaload, 1) := by decide +kernel
theorem dL_law_420 : decode cL_law 420 = .ok (.invokevirtual 47, 3) := by decide +kernel
theorem dL_law_423 : decode cL_law 423 = .ok (.if_icmp .eq 526, 3) := by decide +kernel
theorem dL_law_426 : decode cL_law 426 = .ok (.iconst 0, 1) := by decide +kernel
theorem dL_law_427 : decode cL_law 427 = .ok (.ireturn, 1) := by decide +kernel
theorem dL_law_428 : decode cL_law 428 = .ok (.aload_n 1, 1) := by decide +kernel
theorem dL_law_429 : decode cL_law 429 = .ok (.aload_n 0, 1) := by decide +kernel
theorem dL_law_430 : decode cL_law 430 = .ok (.iload_n 3, 1) := by decide +kernel
theorem dL_law_431 : decode cL_law 431 = .ok (.iconst 1, 1) := by decide +kernel
theorem dL_law_432 : decode cL_law 432 = .ok (.iadd, 1) := by decide +kernel
theorem dL_law_433 : decode cL_law 433 = .ok (.iaload, 1) := by decide +kernel
theorem dL_law_434 : decode cL_law 434 = .ok (.aload_n 0, 1) := by decide +kernel
theorem dL_law_435 : decode cL_law 435 = .ok (.iload_n 3, 1) := by decide +kernel
theorem dL_law_436 : decode cL_law 436 = .ok (.iconst 2, 1) := by decide +kernel
theorem dL_law_437 : decode cL_law 437 = .ok (.iadd, 1) := by decide +kernel
theorem dL_law_438 : decode cL_law 438 = .ok (.iaload, 1) := by decide +kernel
theorem dL_law_439 : decode cL_law 439 = .ok (.ifCond .eq 7, 3) := by decide +kernel
theorem dL_law_442 : decode cL_law 442 = .ok (.iconst 1, 1) := by decide +kernel
theorem dL_law_443 : decode cL_law 443 = .ok (.goto 4, 3) := by decide +kernel
theorem dL_law_446 : decode cL_law 446 = .ok (.iconst 0, 1) := by decide +kernel
theorem dL_law_447 : decode cL_law 447 = .ok (.invokevirtual 48, 3) := by decide +kernel
theorem dL_law_450 : decode cL_law 450 = .ok (.aload_n 2, 1) := by decide +kernel
theorem dL_law_451 : decode cL_law 451 = .ok (.aload_n 0, 1) := by decide +kernel
theorem dL_law_452 : decode cL_law 452 = .ok (.iload_n 3, 1) := by decide +kernel
theorem dL_law_453 : decode cL_law 453 = .ok (.iconst 1, 1) := by decide +kernel
theorem dL_law_454 : decode cL_law 454 = .ok (.iadd, 1) := by decide +kernel
theorem dL_law_455 : decode cL_law 455 = .ok (.iaload, 1) := by decide +kernel
theorem dL_law_456 : decode cL_law 456 = .ok (.aload_n 0, 1) := by decide +kernel
theorem dL_law_457 : decode cL_law 457 = .ok (.iload_n 3, 1) := by decide +kernel
theorem dL_law_458 : decode cL_law 458 = .ok (.iconst 2, 1) := by decide +kernel
theorem dL_law_459 : decode cL_law 459 = .ok (.iadd, 1) := by decide +kernel
theorem dL_law_460 : decode cL_law 460 = .ok (.iaload, 1) := by decide +kernel
theorem dL_law_461 : decode cL_law 461 = .ok (.ifCond .eq 7, 3) := by decide +kernel
theorem dL_law_464 : decode cL_law 464 = .ok (.iconst 1, 1) := by decide +kernel
theorem dL_law_465 : decode cL_law 465 = .ok (.goto 4, 3) := by decide +kernel
theorem dL_law_468 : decode cL_law 468 = .ok (.iconst 0, 1) := by decide +kernel
theorem dL_law_469 : decode cL_law 469 = .ok (.invokevirtual 52, 3) := by decide +kernel
theorem dL_law_472 : decode cL_law 472 = .ok (.if_icmp .eq 477, 3) := by decide +kernel
theorem dL_law_475 : decode cL_law 475 = .ok (.iconst 0, 1) := by decide +kernel
theorem dL_law_476 : decode cL_law 476 = .ok (.ireturn, 1) := by decide +kernel
theorem dL_law_477 : decode cL_law 477 = .ok (.aload_n 1, 1) := by decide +kernel
theorem dL_law_478 : decode cL_law 478 = .ok (.aload_n 0, 1) := by decide +kernel
theorem dL_law_479 : decode cL_law 479 = .ok (.iload_n 3, 1) := by decide +kernel
theorem dL_law_480 : decode cL_law 480 = .ok (.iconst 1, 1) := by decide +kernel
theorem dL_law_481 : decode cL_law 481 = .ok (.iadd, 1) := by decide +kernel
theorem dL_law_482 : decode cL_law 482 = .ok (.iaload, 1) := by decide +kernel
theorem dL_law_483 : decode cL_law 483 = .ok (.aload_n 0, 1) := by decide +kernel
theorem dL_law_484 : decode cL_law 484 = .ok (.iload_n 3, 1) := by decide +kernel
theorem dL_law_485 : decode cL_law 485 = .ok (.iconst 2, 1) := by decide +kernel
theorem dL_law_486 : decode cL_law 486 = .ok (.iadd, 1) := by decide +kernel
theorem dL_law_487 : decode cL_law 487 = .ok (.iaload, 1) := by decide +kernel
theorem dL_law_488 : decode cL_law 488 = .ok (.invokevirtual 53, 3) := by decide +kernel
theorem dL_law_491 : decode cL_law 491 = .ok (.aload_n 2, 1) := by decide +kernel
theorem dL_law_492 : decode cL_law 492 = .ok (.aload_n 0, 1) := by decide +kernel
theorem dL_law_493 : decode cL_law 493 = .ok (.iload_n 3, 1) := by decide +kernel
theorem dL_law_494 : decode cL_law 494 = .ok (.iconst 1, 1) := by decide +kernel
theorem dL_law_495 : decode cL_law 495 = .ok (.iadd, 1) := by decide +kernel
theorem dL_law_496 : decode cL_law 496 = .ok (.iaload, 1) := by decide +kernel
theorem dL_law_497 : decode cL_law 497 = .ok (.aload_n 0, 1) := by decide +kernel
theorem dL_law_498 : decode cL_law 498 = .ok (.iload_n 3, 1) := by decide +kernel
theorem dL_law_499 : decode cL_law 499 = .ok (.iconst 2, 1) := by decide +kernel
theorem dL_law_500 : decode cL_law 500 = .ok (.iadd, 1) := by decide +kernel
theorem dL_law_501 : decode cL_law 501 = .ok (.iaload, 1) := by decide +kernel
theorem dL_law_502 : decode cL_law 502 = .ok (.invokevirtual 56, 3) := by decide +kernel
theorem dL_law_505 : decode cL_law 505 = .ok (.if_icmp .eq 444, 3) := by decide +kernel
theorem dL_law_508 : decode cL_law 508 = .ok (.iconst 0, 1) := by decide +kernel
theorem dL_law_509 : decode cL_law 509 = .ok (.ireturn, 1) := by decide +kernel
theorem dL_law_510 : decode cL_law 510 = .ok (.aload_n 1, 1) := by decide +kernel
theorem dL_law_511 : decode cL_law 511 = .ok (.aload_n 0, 1) := by decide +kernel
theorem dL_law_512 : decode cL_law 512 = .ok (.iload_n 3, 1) := by decide +kernel
theorem dL_law_513 : decode cL_law 513 = .ok (.iconst 1, 1) := by decide +kernel
theorem dL_law_514 : decode cL_law 514 = .ok (.iadd, 1) := by decide +kernel
theorem dL_law_515 : decode cL_law 515 = .ok (.iaload, 1) := by decide +kernel
theorem dL_law_516 : decode cL_law 516 = .ok (.invokevirtual 57, 3) := by decide +kernel
theorem dL_law_519 : decode cL_law 519 = .ok (.aload_n 2, 1) := by decide +kernel
theorem dL_law_520 : decode cL_law 520 = .ok (.aload_n 0, 1) := by decide +kernel
theorem dL_law_521 : decode cL_law 521 = .ok (.iload_n 3, 1) := by decide +kernel
theorem dL_law_522 : decode cL_law 522 = .ok (.iconst 1, 1) := by decide +kernel
theorem dL_law_523 : decode cL_law 523 = .ok (.iadd, 1) := by decide +kernel
theorem dL_law_524 : decode cL_law 524 = .ok (.iaload, 1) := by decide +kernel
theorem dL_law_525 : decode cL_law 525 = .ok (.invokevirtual 60, 3) := by decide +kernel
theorem dL_law_528 : decode cL_law 528 = .ok (.if_icmp .eq 421, 3) := by decide +kernel
theorem dL_law_531 : decode cL_law 531 = .ok (.iconst 0, 1) := by decide +kernel
theorem dL_law_532 : decode cL_law 532 = .ok (.ireturn, 1) := by decide +kernel
theorem dL_law_533 : decode cL_law 533 = .ok (.aload_n 1, 1) := by decide +kernel
theorem dL_law_534 : decode cL_law 534 = .ok (.aload_n 0, 1) := by decide +kernel
theorem dL_law_535 : decode cL_law 535 = .ok (.iload_n 3, 1) := by decide +kernel
theorem dL_law_536 : decode cL_law 536 = .ok (.iconst 1, 1) := by decide +kernel
theorem dL_law_537 : decode cL_law 537 = .ok (.iadd, 1) := by decide +kernel
theorem dL_law_538 : decode cL_law 538 = .ok (.iaload, 1) := by decide +kernel
theorem dL_law_539 : decode cL_law 539 = .ok (.i2c, 1) := by decide +kernel
theorem dL_law_540 : decode cL_law 540 = .ok (.invokevirtual 61, 3) := by decide +kernel
theorem dL_law_543 : decode cL_law 543 = .ok (.aload_n 2, 1) := by decide +kernel
theorem dL_law_544 : decode cL_law 544 = .ok (.aload_n 0, 1) := by decide +kernel
theorem dL_law_545 : decode cL_law 545 = .ok (.iload_n 3, 1) := by decide +kernel
theorem dL_law_546 : decode cL_law 546 = .ok (.iconst 1, 1) := by decide +kernel
theorem dL_law_547 : decode cL_law 547 = .ok (.iadd, 1) := by decide +kernel
theorem dL_law_548 : decode cL_law 548 = .ok (.iaload, 1) := by decide +kernel
theorem dL_law_549 : decode cL_law 549 = .ok (.i2c, 1) := by decide +kernel
theorem dL_law_550 : decode cL_law 550 = .ok (.invokevirtual 65, 3) := by decide +kernel
theorem dL_law_553 : decode cL_law 553 = .ok (.if_icmp .eq 396, 3) := by decide +kernel
theorem dL_law_556 : decode cL_law 556 = .ok (.iconst 0, 1) := by decide +kernel
theorem dL_law_557 : decode cL_law 557 = .ok (.ireturn, 1) := by decide +kernel
theorem dL_law_558 : decode cL_law 558 = .ok (.aload_n 1, 1) := by decide +kernel
theorem dL_law_559 : decode cL_law 559 = .ok (.invokevirtual 66, 3) := by decide +kernel
theorem dL_law_562 : decode cL_law 562 = .ok (.aload_n 2, 1) := by decide +kernel
theorem dL_law_563 : decode cL_law 563 = .ok (.invokevirtual 70, 3) := by decide +kernel
theorem dL_law_566 : decode cL_law 566 = .ok (.if_icmp .eq 383, 3) := by decide +kernel
theorem dL_law_569 : decode cL_law 569 = .ok (.iconst 0, 1) := by decide +kernel
theorem dL_law_570 : decode cL_law 570 = .ok (.ireturn, 1) := by decide +kernel
theorem dL_law_571 : decode cL_law 571 = .ok (.aload_n 1, 1) := by decide +kernel
theorem dL_law_572 : decode cL_law 572 = .ok (.invokevirtual 71, 3) := by decide +kernel
theorem dL_law_575 : decode cL_law 575 = .ok (.aload_n 2, 1) := by decide +kernel
theorem dL_law_576 : decode cL_law 576 = .ok (.invokevirtual 74, 3) := by decide +kernel
theorem dL_law_579 : decode cL_law 579 = .ok (.if_icmp .eq 370, 3) := by decide +kernel
theorem dL_law_582 : decode cL_law 582 = .ok (.iconst 0, 1) := by decide +kernel
theorem dL_law_583 : decode cL_law 583 = .ok (.ireturn, 1) := by decide +kernel
theorem dL_law_584 : decode cL_law 584 = .ok (.aload_n 1, 1) := by decide +kernel
theorem dL_law_585 : decode cL_law 585 = .ok (.aload_n 0, 1) := by decide +kernel
theorem dL_law_586 : decode cL_law 586 = .ok (.iload_n 3, 1) := by decide +kernel
theorem dL_law_587 : decode cL_law 587 = .ok (.iconst 1, 1) := by decide +kernel
theorem dL_law_588 : decode cL_law 588 = .ok (.iadd, 1) := by decide +kernel
theorem dL_law_589 : decode cL_law 589 = .ok (.iaload, 1) := by decide +kernel
theorem dL_law_590 : decode cL_law 590 = .ok (.invokevirtual 75, 3) := by decide +kernel
theorem dL_law_593 : decode cL_law 593 = .ok (.aload_n 2, 1) := by decide +kernel
theorem dL_law_594 : decode cL_law 594 = .ok (.aload_n 0, 1) := by decide +kernel
theorem dL_law_595 : decode cL_law 595 = .ok (.iload_n 3, 1) := by decide +kernel
theorem dL_law_596 : decode cL_law 596 = .ok (.iconst 1, 1) := by decide +kernel
theorem dL_law_597 : decode cL_law 597 = .ok (.iadd, 1) := by decide +kernel
theorem dL_law_598 : decode cL_law 598 = .ok (.iaload, 1) := by decide +kernel
theorem dL_law_599 : decode cL_law 599 = .ok (.invokevirtual 78, 3) := by decide +kernel
theorem dL_law_602 : decode cL_law 602 = .ok (.if_icmp .eq 347, 3) := by decide +kernel
theorem dL_law_605 : decode cL_law 605 = .ok (.iconst 0, 1) := by decide +kernel
theorem dL_law_606 : decode cL_law 606 = .ok (.ireturn, 1) := by decide +kernel
theorem dL_law_607 : decode cL_law 607 = .ok (.aload_n 1, 1) := by decide +kernel
theorem dL_law_608 : decode cL_law 608 = .ok (.invokevirtual 79, 3) := by decide +kernel
theorem dL_law_611 : decode cL_law 611 = .ok (.aload_n 2, 1) := by decide +kernel
theorem dL_law_612 : decode cL_law 612 = .ok (.invokevirtual 82, 3) := by decide +kernel
theorem dL_law_615 : decode cL_law 615 = .ok (.if_icmp .eq 334, 3) := by decide +kernel
theorem dL_law_618 : decode cL_law 618 = .ok (.iconst 0, 1) := by decide +kernel
theorem dL_law_619 : decode cL_law 619 = .ok (.ireturn, 1) := by decide +kernel
theorem dL_law_620 : decode cL_law 620 = .ok (.aload_n 1, 1) := by decide +kernel
theorem dL_law_621 : decode cL_law 621 = .ok (.invokevirtual 83, 3) := by decide +kernel
theorem dL_law_624 : decode cL_law 624 = .ok (.aload_n 2, 1) := by decide +kernel
theorem dL_law_625 : decode cL_law 625 = .ok (.invokevirtual 86, 3) := by decide +kernel
theorem dL_law_628 : decode cL_law 628 = .ok (.if_icmp .eq 321, 3) := by decide +kernel
theorem dL_law_631 : decode cL_law 631 = .ok (.iconst 0, 1) := by decide +kernel
theorem dL_law_632 : decode cL_law 632 = .ok (.ireturn, 1) := by decide +kernel
theorem dL_law_633 : decode cL_law 633 = .ok (.aload_n 1, 1) := by decide +kernel
theorem dL_law_634 : decode cL_law 634 = .ok (.invokevirtual 87, 3) := by decide +kernel
theorem dL_law_637 : decode cL_law 637 = .ok (.aload_n 2, 1) := by decide +kernel
theorem dL_law_638 : decode cL_law 638 = .ok (.invokevirtual 90, 3) := by decide +kernel
theorem dL_law_641 : decode cL_law 641 = .ok (.if_icmp .eq 308, 3) := by decide +kernel
theorem dL_law_644 : decode cL_law 644 = .ok (.iconst 0, 1) := by decide +kernel
theorem dL_law_645 : decode cL_law 645 = .ok (.ireturn, 1) := by decide +kernel
theorem dL_law_646 : decode cL_law 646 = .ok (.aload_n 1, 1) := by decide +kernel
theorem dL_law_647 : decode cL_law 647 = .ok (.aload_n 0, 1) := by decide +kernel
theorem dL_law_648 : decode cL_law 648 = .ok (.iload_n 3, 1) := by decide +kernel
theorem dL_law_649 : decode cL_law 649 = .ok (.iconst 1, 1) := by decide +kernel
theorem dL_law_650 : decode cL_law 650 = .ok (.iadd, 1) := by decide +kernel
theorem dL_law_651 : decode cL_law 651 = .ok (.iaload, 1) := by decide +kernel
theorem dL_law_652 : decode cL_law 652 = .ok (.aload_n 0, 1) := by decide +kernel
theorem dL_law_653 : decode cL_law 653 = .ok (.iload_n 3, 1) := by decide +kernel
theorem dL_law_654 : decode cL_law 654 = .ok (.iconst 2, 1) := by decide +kernel
theorem dL_law_655 : decode cL_law 655 = .ok (.iadd, 1) := by decide +kernel
theorem dL_law_656 : decode cL_law 656 = .ok (.iaload, 1) := by decide +kernel
theorem dL_law_657 : decode cL_law 657 = .ok (.invokevirtual 91, 3) := by decide +kernel
theorem dL_law_660 : decode cL_law 660 = .ok (.aload_n 2, 1) := by decide +kernel
theorem dL_law_661 : decode cL_law 661 = .ok (.aload_n 0, 1) := by decide +kernel
theorem dL_law_662 : decode cL_law 662 = .ok (.iload_n 3, 1) := by decide +kernel
theorem dL_law_663 : decode cL_law 663 = .ok (.iconst 1, 1) := by decide +kernel
theorem dL_law_664 : decode cL_law 664 = .ok (.iadd, 1) := by decide +kernel
theorem dL_law_665 : decode cL_law 665 = .ok (.iaload, 1) := by decide +kernel
theorem dL_law_666 : decode cL_law 666 = .ok (.aload_n 0, 1) := by decide +kernel
theorem dL_law_667 : decode cL_law 667 = .ok (.iload_n 3, 1) := by decide +kernel
theorem dL_law_668 : decode cL_law 668 = .ok (.iconst 2, 1) := by decide +kernel
theorem dL_law_669 : decode cL_law 669 = .ok (.iadd, 1) := by decide +kernel
theorem dL_law_670 : decode cL_law 670 = .ok (.iaload, 1) := by decide +kernel
theorem dL_law_671 : decode cL_law 671 = .ok (.invokevirtual 94, 3) := by decide +kernel
theorem dL_law_674 : decode cL_law 674 = .ok (.if_icmp .eq 275, 3) := by decide +kernel
theorem dL_law_677 : decode cL_law 677 = .ok (.iconst 0, 1) := by decide +kernel
theorem dL_law_678 : decode cL_law 678 = .ok (.ireturn, 1) := by decide +kernel
theorem dL_law_679 : decode cL_law 679 = .ok (.aload_n 1, 1) := by decide +kernel
theorem dL_law_680 : decode cL_law 680 = .ok (.aload_n 0, 1) := by decide +kernel
theorem dL_law_681 : decode cL_law 681 = .ok (.iload_n 3, 1) := by decide +kernel
theorem dL_law_682 : decode cL_law 682 = .ok (.iconst 1, 1) := by decide +kernel
theorem dL_law_683 : decode cL_law 683 = .ok (.iadd, 1) := by decide +kernel
theorem dL_law_684 : decode cL_law 684 = .ok (.iaload, 1) := by decide +kernel
theorem dL_law_685 : decode cL_law 685 = .ok (.aload_n 0, 1) := by decide +kernel
theorem dL_law_686 : decode cL_law 686 = .ok (.iload_n 3, 1) := by decide +kernel
theorem dL_law_687 : decode cL_law 687 = .ok (.iconst 2, 1) := by decide +kernel
theorem dL_law_688 : decode cL_law 688 = .ok (.iadd, 1) := by decide +kernel
theorem dL_law_689 : decode cL_law 689 = .ok (.iaload, 1) := by decide +kernel
theorem dL_law_690 : decode cL_law 690 = .ok (.invokevirtual 95, 3) := by decide +kernel
theorem dL_law_693 : decode cL_law 693 = .ok (.aload_n 2, 1) := by decide +kernel
theorem dL_law_694 : decode cL_law 694 = .ok (.aload_n 0, 1) := by decide +kernel
theorem dL_law_695 : decode cL_law 695 = .ok (.iload_n 3, 1) := by decide +kernel
theorem dL_law_696 : decode cL_law 696 = .ok (.iconst 1, 1) := by decide +kernel
theorem dL_law_697 : decode cL_law 697 = .ok (.iadd, 1) := by decide +kernel
theorem dL_law_698 : decode cL_law 698 = .ok (.iaload, 1) := by decide +kernel
theorem dL_law_699 : decode cL_law 699 = .ok (.aload_n 0, 1) := by decide +kernel
theorem dL_law_700 : decode cL_law 700 = .ok (.iload_n 3, 1) := by decide +kernel
theorem dL_law_701 : decode cL_law 701 = .ok (.iconst 2, 1) := by decide +kernel
theorem dL_law_702 : decode cL_law 702 = .ok (.iadd, 1) := by decide +kernel
theorem dL_law_703 : decode cL_law 703 = .ok (.iaload, 1) := by decide +kernel
theorem dL_law_704 : decode cL_law 704 = .ok (.invokevirtual 98, 3) := by decide +kernel
theorem dL_law_707 : decode cL_law 707 = .ok (.if_icmp .eq 242, 3) := by decide +kernel
theorem dL_law_710 : decode cL_law 710 = .ok (.iconst 0, 1) := by decide +kernel
theorem dL_law_711 : decode cL_law 711 = .ok (.ireturn, 1) := by decide +kernel
theorem dL_law_712 : decode cL_law 712 = .ok (.aload_n 1, 1) := by decide +kernel
theorem dL_law_713 : decode cL_law 713 = .ok (.aload_n 0, 1) := by decide +kernel
theorem dL_law_714 : decode cL_law 714 = .ok (.iload_n 3, 1) := by decide +kernel
theorem dL_law_715 : decode cL_law 715 = .ok (.iconst 1, 1) := by decide +kernel
theorem dL_law_716 : decode cL_law 716 = .ok (.iadd, 1) := by decide +kernel
theorem dL_law_717 : decode cL_law 717 = .ok (.iaload, 1) := by decide +kernel
theorem dL_law_718 : decode cL_law 718 = .ok (.aload_n 0, 1) := by decide +kernel
theorem dL_law_719 : decode cL_law 719 = .ok (.iload_n 3, 1) := by decide +kernel
theorem dL_law_720 : decode cL_law 720 = .ok (.iconst 2, 1) := by decide +kernel
theorem dL_law_721 : decode cL_law 721 = .ok (.iadd, 1) := by decide +kernel
theorem dL_law_722 : decode cL_law 722 = .ok (.iaload, 1) := by decide +kernel
theorem dL_law_723 : decode cL_law 723 = .ok (.invokevirtual 99, 3) := by decide +kernel
theorem dL_law_726 : decode cL_law 726 = .ok (.aload_n 2, 1) := by decide +kernel
theorem dL_law_727 : decode cL_law 727 = .ok (.aload_n 0, 1) := by decide +kernel
theorem dL_law_728 : decode cL_law 728 = .ok (.iload_n 3, 1) := by decide +kernel
theorem dL_law_729 : decode cL_law 729 = .ok (.iconst 1, 1) := by decide +kernel
theorem dL_law_730 : decode cL_law 730 = .ok (.iadd, 1) := by decide +kernel
theorem dL_law_731 : decode cL_law 731 = .ok (.iaload, 1) := by decide +kernel
theorem dL_law_732 : decode cL_law 732 = .ok (.aload_n 0, 1) := by decide +kernel
theorem dL_law_733 : decode cL_law 733 = .ok (.iload_n 3, 1) := by decide +kernel
theorem dL_law_734 : decode cL_law 734 = .ok (.iconst 2, 1) := by decide +kernel
theorem dL_law_735 : decode cL_law 735 = .ok (.iadd, 1) := by decide +kernel
theorem dL_law_736 : decode cL_law 736 = .ok (.iaload, 1) := by decide +kernel
theorem dL_law_737 : decode cL_law 737 = .ok (.invokevirtual 102, 3) := by decide +kernel
theorem dL_law_740 : decode cL_law 740 = .ok (.if_icmp .eq 209, 3) := by decide +kernel
theorem dL_law_743 : decode cL_law 743 = .ok (.iconst 0, 1) := by decide +kernel
theorem dL_law_744 : decode cL_law 744 = .ok (.ireturn, 1) := by decide +kernel
theorem dL_law_745 : decode cL_law 745 = .ok (.aload_n 1, 1) := by decide +kernel
theorem dL_law_746 : decode cL_law 746 = .ok (.aload_n 0, 1) := by decide +kernel
theorem dL_law_747 : decode cL_law 747 = .ok (.iload_n 3, 1) := by decide +kernel
theorem dL_law_748 : decode cL_law 748 = .ok (.iconst 1, 1) := by decide +kernel
theorem dL_law_749 : decode cL_law 749 = .ok (.iadd, 1) := by decide +kernel
theorem dL_law_750 : decode cL_law 750 = .ok (.iaload, 1) := by decide +kernel
theorem dL_law_751 : decode cL_law 751 = .ok (.aload_n 0, 1) := by decide +kernel
theorem dL_law_752 : decode cL_law 752 = .ok (.iload_n 3, 1) := by decide +kernel
theorem dL_law_753 : decode cL_law 753 = .ok (.iconst 2, 1) := by decide +kernel
theorem dL_law_754 : decode cL_law 754 = .ok (.iadd, 1) := by decide +kernel
theorem dL_law_755 : decode cL_law 755 = .ok (.iaload, 1) := by decide +kernel
theorem dL_law_756 : decode cL_law 756 = .ok (.invokevirtual 103, 3) := by decide +kernel
theorem dL_law_759 : decode cL_law 759 = .ok (.aload_n 2, 1) := by decide +kernel
theorem dL_law_760 : decode cL_law 760 = .ok (.aload_n 0, 1) := by decide +kernel
theorem dL_law_761 : decode cL_law 761 = .ok (.iload_n 3, 1) := by decide +kernel
theorem dL_law_762 : decode cL_law 762 = .ok (.iconst 1, 1) := by decide +kernel
theorem dL_law_763 : decode cL_law 763 = .ok (.iadd, 1) := by decide +kernel
theorem dL_law_764 : decode cL_law 764 = .ok (.iaload, 1) := by decide +kernel
theorem dL_law_765 : decode cL_law 765 = .ok (.aload_n 0, 1) := by decide +kernel
theorem dL_law_766 : decode cL_law 766 = .ok (.iload_n 3, 1) := by decide +kernel
theorem dL_law_767 : decode cL_law 767 = .ok (.iconst 2, 1) := by decide +kernel
theorem dL_law_768 : decode cL_law 768 = .ok (.iadd, 1) := by decide +kernel
theorem dL_law_769 : decode cL_law 769 = .ok (.iaload, 1) := by decide +kernel
theorem dL_law_770 : decode cL_law 770 = .ok (.invokevirtual 106, 3) := by decide +kernel
theorem dL_law_773 : decode cL_law 773 = .ok (.if_icmp .eq 176, 3) := by decide +kernel
theorem dL_law_776 : decode cL_law 776 = .ok (.iconst 0, 1) := by decide +kernel
theorem dL_law_777 : decode cL_law 777 = .ok (.ireturn, 1) := by decide +kernel
theorem dL_law_778 : decode cL_law 778 = .ok (.aload_n 1, 1) := by decide +kernel
theorem dL_law_779 : decode cL_law 779 = .ok (.aload_n 0, 1) := by decide +kernel
theorem dL_law_780 : decode cL_law 780 = .ok (.iload_n 3, 1) := by decide +kernel
theorem dL_law_781 : decode cL_law 781 = .ok (.iconst 1, 1) := by decide +kernel
theorem dL_law_782 : decode cL_law 782 = .ok (.iadd, 1) := by decide +kernel
theorem dL_law_783 : decode cL_law 783 = .ok (.iaload, 1) := by decide +kernel
theorem dL_law_784 : decode cL_law 784 = .ok (.invokevirtual 107, 3) := by decide +kernel
theorem dL_law_787 : decode cL_law 787 = .ok (.aload_n 2, 1) := by decide +kernel
theorem dL_law_788 : decode cL_law 788 = .ok (.aload_n 0, 1) := by decide +kernel
theorem dL_law_789 : decode cL_law 789 = .ok (.iload_n 3, 1) := by decide +kernel
theorem dL_law_790 : decode cL_law 790 = .ok (.iconst 1, 1) := by decide +kernel
theorem dL_law_791 : decode cL_law 791 = .ok (.iadd, 1) := by decide +kernel
theorem dL_law_792 : decode cL_law 792 = .ok (.iaload, 1) := by decide +kernel
theorem dL_law_793 : decode cL_law 793 = .ok (.invokevirtual 110, 3) := by decide +kernel
theorem dL_law_796 : decode cL_law 796 = .ok (.if_icmp .eq 153, 3) := by decide +kernel
theorem dL_law_799 : decode cL_law 799 = .ok (.iconst 0, 1) := by decide +kernel
theorem dL_law_800 : decode cL_law 800 = .ok (.ireturn, 1) := by decide +kernel
theorem dL_law_801 : decode cL_law 801 = .ok (.aload_n 1, 1) := by decide +kernel
theorem dL_law_802 : decode cL_law 802 = .ok (.aload_n 0, 1) := by decide +kernel
theorem dL_law_803 : decode cL_law 803 = .ok (.iload_n 3, 1) := by decide +kernel
theorem dL_law_804 : decode cL_law 804 = .ok (.iconst 1, 1) := by decide +kernel
theorem dL_law_805 : decode cL_law 805 = .ok (.iadd, 1) := by decide +kernel
theorem dL_law_806 : decode cL_law 806 = .ok (.iaload, 1) := by decide +kernel
theorem dL_law_807 : decode cL_law 807 = .ok (.aload_n 0, 1) := by decide +kernel
theorem dL_law_808 : decode cL_law 808 = .ok (.iload_n 3, 1) := by decide +kernel
theorem dL_law_809 : decode cL_law 809 = .ok (.iconst 2, 1) := by decide +kernel
theorem dL_law_810 : decode cL_law 810 = .ok (.iadd, 1) := by decide +kernel
theorem dL_law_811 : decode cL_law 811 = .ok (.iaload, 1) := by decide +kernel
theorem dL_law_812 : decode cL_law 812 = .ok (.invokevirtual 111, 3) := by decide +kernel
theorem dL_law_815 : decode cL_law 815 = .ok (.aload_n 2, 1) := by decide +kernel
theorem dL_law_816 : decode cL_law 816 = .ok (.aload_n 0, 1) := by decide +kernel
theorem dL_law_817 : decode cL_law 817 = .ok (.iload_n 3, 1) := by decide +kernel
theorem dL_law_818 : decode cL_law 818 = .ok (.iconst 1, 1) := by decide +kernel
theorem dL_law_819 : decode cL_law 819 = .ok (.iadd, 1) := by decide +kernel
theorem dL_law_820 : decode cL_law 820 = .ok (.iaload, 1) := by decide +kernel
theorem dL_law_821 : decode cL_law 821 = .ok (.aload_n 0, 1) := by decide +kernel
theorem dL_law_822 : decode cL_law 822 = .ok (.iload_n 3, 1) := by decide +kernel
theorem dL_law_823 : decode cL_law 823 = .ok (.iconst 2, 1) := by decide +kernel
theorem dL_law_824 : decode cL_law 824 = .ok (.iadd, 1) := by decide +kernel
theorem dL_law_825 : decode cL_law 825 = .ok (.iaload, 1) := by decide +kernel
theorem dL_law_826 : decode cL_law 826 = .ok (.invokevirtual 114, 3) := by decide +kernel
theorem dL_law_829 : decode cL_law 829 = .ok (.if_icmp .eq 120, 3) := by decide +kernel
theorem dL_law_832 : decode cL_law 832 = .ok (.iconst 0, 1) := by decide +kernel
theorem dL_law_833 : decode cL_law 833 = .ok (.ireturn, 1) := by decide +kernel
theorem dL_law_834 : decode cL_law 834 = .ok (.aload_n 1, 1) := by decide +kernel
theorem dL_law_835 : decode cL_law 835 = .ok (.aload_n 0, 1) := by decide +kernel
theorem dL_law_836 : decode cL_law 836 = .ok (.iload_n 3, 1) := by decide +kernel
theorem dL_law_837 : decode cL_law 837 = .ok (.iconst 1, 1) := by decide +kernel
theorem dL_law_838 : decode cL_law 838 = .ok (.iadd, 1) := by decide +kernel
theorem dL_law_839 : decode cL_law 839 = .ok (.iaload, 1) := by decide +kernel
theorem dL_law_840 : decode cL_law 840 = .ok (.invokevirtual 115, 3) := by decide +kernel
theorem dL_law_843 : decode cL_law 843 = .ok (.aload_n 2, 1) := by decide +kernel
theorem dL_law_844 : decode cL_law 844 = .ok (.aload_n 0, 1) := by decide +kernel
theorem dL_law_845 : decode cL_law 845 = .ok (.iload_n 3, 1) := by decide +kernel
theorem dL_law_846 : decode cL_law 846 = .ok (.iconst 1, 1) := by decide +kernel
theorem dL_law_847 : decode cL_law 847 = .ok (.iadd, 1) := by decide +kernel
theorem dL_law_848 : decode cL_law 848 = .ok (.iaload, 1) := by decide +kernel
theorem dL_law_849 : decode cL_law 849 = .ok (.invokevirtual 118, 3) := by decide +kernel
theorem dL_law_852 : decode cL_law 852 = .ok (.if_icmp .eq 97, 3) := by decide +kernel
theorem dL_law_855 : decode cL_law 855 = .ok (.iconst 0, 1) := by decide +kernel
theorem dL_law_856 : decode cL_law 856 = .ok (.ireturn, 1) := by decide +kernel
theorem dL_law_857 : decode cL_law 857 = .ok (.aload_n 1, 1) := by decide +kernel
theorem dL_law_858 : decode cL_law 858 = .ok (.aload_n 0, 1) := by decide +kernel
theorem dL_law_859 : decode cL_law 859 = .ok (.iload_n 3, 1) := by decide +kernel
theorem dL_law_860 : decode cL_law 860 = .ok (.iconst 1, 1) := by decide +kernel
theorem dL_law_861 : decode cL_law 861 = .ok (.iadd, 1) := by decide +kernel
theorem dL_law_862 : decode cL_law 862 = .ok (.iaload, 1) := by decide +kernel
theorem dL_law_863 : decode cL_law 863 = .ok (.invokevirtual 119, 3) := by decide +kernel
theorem dL_law_866 : decode cL_law 866 = .ok (.aload_n 2, 1) := by decide +kernel
theorem dL_law_867 : decode cL_law 867 = .ok (.aload_n 0, 1) := by decide +kernel
theorem dL_law_868 : decode cL_law 868 = .ok (.iload_n 3, 1) := by decide +kernel
theorem dL_law_869 : decode cL_law 869 = .ok (.iconst 1, 1) := by decide +kernel
theorem dL_law_870 : decode cL_law 870 = .ok (.iadd, 1) := by decide +kernel
theorem dL_law_871 : decode cL_law 871 = .ok (.iaload, 1) := by decide +kernel
theorem dL_law_872 : decode cL_law 872 = .ok (.invokevirtual 122, 3) := by decide +kernel
theorem dL_law_875 : decode cL_law 875 = .ok (.if_icmp .eq 74, 3) := by decide +kernel
theorem dL_law_878 : decode cL_law 878 = .ok (.iconst 0, 1) := by decide +kernel
theorem dL_law_879 : decode cL_law 879 = .ok (.ireturn, 1) := by decide +kernel
theorem dL_law_880 : decode cL_law 880 = .ok (.aload_n 1, 1) := by decide +kernel
theorem dL_law_881 : decode cL_law 881 = .ok (.aload_n 0, 1) := by decide +kernel
theorem dL_law_882 : decode cL_law 882 = .ok (.iload_n 3, 1) := by decide +kernel
theorem dL_law_883 : decode cL_law 883 = .ok (.iconst 1, 1) := by decide +kernel
theorem dL_law_884 : decode cL_law 884 = .ok (.iadd, 1) := by decide +kernel
theorem dL_law_885 : decode cL_law 885 = .ok (.iaload, 1) := by decide +kernel
theorem dL_law_886 : decode cL_law 886 = .ok (.invokevirtual 123, 3) := by decide +kernel
theorem dL_law_889 : decode cL_law 889 = .ok (.aload_n 2, 1) := by decide +kernel
theorem dL_law_890 : decode cL_law 890 = .ok (.aload_n 0, 1) := by decide +kernel
theorem dL_law_891 : decode cL_law 891 = .ok (.iload_n 3, 1) := by decide +kernel
theorem dL_law_892 : decode cL_law 892 = .ok (.iconst 1, 1) := by decide +kernel
theorem dL_law_893 : decode cL_law 893 = .ok (.iadd, 1) := by decide +kernel
theorem dL_law_894 : decode cL_law 894 = .ok (.iaload, 1) := by decide +kernel
theorem dL_law_895 : decode cL_law 895 = .ok (.invokevirtual 126, 3) := by decide +kernel
theorem dL_law_898 : decode cL_law 898 = .ok (.if_icmp .eq 51, 3) := by decide +kernel
theorem dL_law_901 : decode cL_law 901 = .ok (.iconst 0, 1) := by decide +kernel
theorem dL_law_902 : decode cL_law 902 = .ok (.ireturn, 1) := by decide +kernel
theorem dL_law_903 : decode cL_law 903 = .ok (.aload_n 1, 1) := by decide +kernel
theorem dL_law_904 : decode cL_law 904 = .ok (.aload_n 0, 1) := by decide +kernel
theorem dL_law_905 : decode cL_law 905 = .ok (.iload_n 3, 1) := by decide +kernel
theorem dL_law_906 : decode cL_law 906 = .ok (.iconst 1, 1) := by decide +kernel
theorem dL_law_907 : decode cL_law 907 = .ok (.iadd, 1) := by decide +kernel
theorem dL_law_908 : decode cL_law 908 = .ok (.iaload, 1) := by decide +kernel
theorem dL_law_909 : decode cL_law 909 = .ok (.invokevirtual 127, 3) := by decide +kernel
theorem dL_law_912 : decode cL_law 912 = .ok (.aload_n 2, 1) := by decide +kernel
theorem dL_law_913 : decode cL_law 913 = .ok (.aload_n 0, 1) := by decide +kernel
theorem dL_law_914 : decode cL_law 914 = .ok (.iload_n 3, 1) := by decide +kernel
theorem dL_law_915 : decode cL_law 915 = .ok (.iconst 1, 1) := by decide +kernel
theorem dL_law_916 : decode cL_law 916 = .ok (.iadd, 1) := by decide +kernel
theorem dL_law_917 : decode cL_law 917 = .ok (.iaload, 1) := by decide +kernel
theorem dL_law_918 : decode cL_law 918 = .ok (.invokevirtual 130, 3) := by decide +kernel
theorem dL_law_921 : decode cL_law 921 = .ok (.if_icmp .eq 28, 3) := by decide +kernel
theorem dL_law_924 : decode cL_law 924 = .ok (.iconst 0, 1) := by decide +kernel
theorem dL_law_925 : decode cL_law 925 = .ok (.ireturn, 1) := by decide +kernel
theorem dL_law_926 : decode cL_law 926 = .ok (.aload_n 1, 1) := by decide +kernel
theorem dL_law_927 : decode cL_law 927 = .ok (.aload_n 0, 1) := by decide +kernel
theorem dL_law_928 : decode cL_law 928 = .ok (.iload_n 3, 1) := by decide +kernel
theorem dL_law_929 : decode cL_law 929 = .ok (.iconst 1, 1) := by decide +kernel
theorem dL_law_930 : decode cL_law 930 = .ok (.iadd, 1) := by decide +kernel
theorem dL_law_931 : decode cL_law 931 = .ok (.iaload, 1) := by decide +kernel
theorem dL_law_932 : decode cL_law 932 = .ok (.invokevirtual 131, 3) := by decide +kernel
theorem dL_law_935 : decode cL_law 935 = .ok (.aload_n 2, 1) := by decide +kernel
theorem dL_law_936 : decode cL_law 936 = .ok (.aload_n 0, 1) := by decide +kernel
theorem dL_law_937 : decode cL_law 937 = .ok (.iload_n 3, 1) := by decide +kernel
theorem dL_law_938 : decode cL_law 938 = .ok (.iconst 1, 1) := by decide +kernel
theorem dL_law_939 : decode cL_law 939 = .ok (.iadd, 1) := by decide +kernel
theorem dL_law_940 : decode cL_law 940 = .ok (.iaload, 1) := by decide +kernel
theorem dL_law_941 : decode cL_law 941 = .ok (.invokevirtual 134, 3) := by decide +kernel
theorem dL_law_944 : decode cL_law 944 = .ok (.if_icmp .eq 5, 3) := by decide +kernel
theorem dL_law_947 : decode cL_law 947 = .ok (.iconst 0, 1) := by decide +kernel
theorem dL_law_948 : decode cL_law 948 = .ok (.ireturn, 1) := by decide +kernel
theorem dL_law_949 : decode cL_law 949 = .ok (.iinc 3 5, 3) := by decide +kernel
theorem dL_law_952 : decode cL_law 952 = .ok (.goto (-934), 3) := by decide +kernel
theorem dL_law_955 : decode cL_law 955 = .ok (.iconst 1, 1) := by decide +kernel
theorem dL_law_956 : decode cL_law 956 = .ok (.ireturn, 1) := by decide +kernel
end
section
/-! one list of words for all methods: the good ones of the tables -/
def wB : List Cond := lw_tbl.filter goodWord
theorem inB {w : Cond} (h : w ∈ lw_tbl) (g : goodWord w = true) : w ∈ wB := List.mem_filter.mpr ⟨h, g⟩
theorem wB_tbl {w : Cond} (h : w ∈ wB) : w ∈ lw_tbl := (List.mem_filter.mp h).1
theorem wB_good {w : Cond} (h : w ∈ wB) : (w.onTables && w.keeps) = true ∨ ∃ ty, w = .arrayClass ty := good_of_word (List.mem_filter.mp h).2
theorem sel_X2_forget : Cond.selects RX2 yX2_forget yX2_forget ∈ wB := inB (List.mem_of_getElem? (i := 0) (by decide +kernel)) rfl
theorem sel_X2_note : Cond.selects RX2 yX2_note yX2_note ∈ wB := inB (List.mem_of_getElem? (i := 1) (by decide +kernel)) rfl
theorem sel_X0_behindLatest : Cond.selects RX0 yX0_behindLatest yX0_behindLatest ∈ wB := inB (List.mem_of_getElem? (i := 2) (by decide +kernel)) rfl
theorem sel_X2_lowestFreeNumber : Cond.selects RX2 yX2_lowestFreeNumber yX2_lowestFreeNumber ∈ wB := inB (List.mem_of_getElem? (i := 3) (by decide +kernel)) rfl
theorem sel_X2_noteAfloat : Cond.selects RX2 yX2_noteAfloat yX2_noteAfloat ∈ wB := inB (List.mem_of_getElem? (i := 4) (by decide +kernel)) rfl
theorem sel_X2_hasMast : Cond.selects RX2 yX2_hasMast yX2_hasMast ∈ wB := inB (List.mem_of_getElem? (i := 5) (by decide +kernel)) rfl
theorem sel_X2_boatsWith : Cond.selects RX2 yX2_boatsWith yX2_boatsWith ∈ wB := inB (List.mem_of_getElem? (i := 6) (by decide +kernel)) rfl
theorem sel_X2_isDeepEnough : Cond.selects RX2 yX2_isDeepEnough yX2_isDeepEnough ∈ wB := inB (List.mem_of_getElem? (i := 7) (by decide +kernel)) rfl
theorem sel_X2_craneBears : Cond.selects RX2 yX2_craneBears yX2_craneBears ∈ wB := inB (List.mem_of_getElem? (i := 8) (by decide +kernel)) rfl
theorem sel_X2_cradleFor : Cond.selects RX2 yX2_cradleFor yX2_cradleFor ∈ wB := inB (List.mem_of_getElem? (i := 9) (by decide +kernel)) rfl
theorem sel_X2_hasFreeCradle : Cond.selects RX2 yX2_hasFreeCradle yX2_hasFreeCradle ∈ wB := inB (List.mem_of_getElem? (i := 10) (by decide +kernel)) rfl
theorem sel_X2_hasRoom : Cond.selects RX2 yX2_hasRoom yX2_hasRoom ∈ wB := inB (List.mem_of_getElem? (i := 11) (by decide +kernel)) rfl
theorem sel_X2_metresLeft : Cond.selects RX2 yX2_metresLeft yX2_metresLeft ∈ wB := inB (List.mem_of_getElem? (i := 12) (by decide +kernel)) rfl
theorem sel_X2_putAtOuterEnd : Cond.selects RX2 yX2_putAtOuterEnd yX2_putAtOuterEnd ∈ wB := inB (List.mem_of_getElem? (i := 13) (by decide +kernel)) rfl
theorem sel_X2_takeLift : Cond.selects RX2 yX2_takeLift yX2_takeLift ∈ wB := inB (List.mem_of_getElem? (i := 14) (by decide +kernel)) rfl
theorem sel_X2_standsIn : Cond.selects RX2 yX2_standsIn yX2_standsIn ∈ wB := inB (List.mem_of_getElem? (i := 15) (by decide +kernel)) rfl
theorem sel_X2_rackFor : Cond.selects RX2 yX2_rackFor yX2_rackFor ∈ wB := inB (List.mem_of_getElem? (i := 16) (by decide +kernel)) rfl
theorem sel_X1_readThing : Cond.selects RX1 yX1_readThing yX1_readThing ∈ wB := inB (List.mem_of_getElem? (i := 17) (by decide +kernel)) rfl
theorem sel_X1_readNumber : Cond.selects RX1 yX1_readNumber yX1_readNumber ∈ wB := inB (List.mem_of_getElem? (i := 18) (by decide +kernel)) rfl
theorem sel_X1_digit : Cond.selects RX1 yX1_digit yX1_digit ∈ wB := inB (List.mem_of_getElem? (i := 19) (by decide +kernel)) rfl
theorem sel_X1_readCharacter : Cond.selects RX1 yX1_readCharacter yX1_readCharacter ∈ wB := inB (List.mem_of_getElem? (i := 20) (by decide +kernel)) rfl
theorem sel_X3_doThing : Cond.selects RX3 yX3_doThing yX3_doThing ∈ wB := inB (List.mem_of_getElem? (i := 21) (by decide +kernel)) rfl
theorem sel_X4_boats : Cond.selects RX4 yX4_boats yX4_boats ∈ wB := inB (List.mem_of_getElem? (i := 22) (by decide +kernel)) rfl
theorem sel_X4_of : Cond.selects RX4 yX4_of yX4_of ∈ wB := inB (List.mem_of_getElem? (i := 23) (by decide +kernel)) rfl
theorem sel_X4_push : Cond.selects RX4 yX4_push yX4_push ∈ wB := inB (List.mem_of_getElem? (i := 24) (by decide +kernel)) rfl
theorem sel_X4_put : Cond.selects RX4 yX4_put yX4_put ∈ wB := inB (List.mem_of_getElem? (i := 25) (by decide +kernel)) rfl
theorem sel_X4_isBoat : Cond.selects RX4 yX4_isBoat yX4_isBoat ∈ wB := inB (List.mem_of_getElem? (i := 26) (by decide +kernel)) rfl
theorem sel_X4_isAshore : Cond.selects RX4 yX4_isAshore yX4_isAshore ∈ wB := inB (List.mem_of_getElem? (i := 27) (by decide +kernel)) rfl
theorem sel_X4_taken : Cond.selects RX4 yX4_taken yX4_taken ∈ wB := inB (List.mem_of_getElem? (i := 28) (by decide +kernel)) rfl
theorem sel_X4_change : Cond.selects RX4 yX4_change yX4_change ∈ wB := inB (List.mem_of_getElem? (i := 29) (by decide +kernel)) rfl
theorem sel_X4_metresTaken : Cond.selects RX4 yX4_metresTaken yX4_metresTaken ∈ wB := inB (List.mem_of_getElem? (i := 30) (by decide +kernel)) rfl
theorem sel_X4_isIn : Cond.selects RX4 yX4_isIn yX4_isIn ∈ wB := inB (List.mem_of_getElem? (i := 31) (by decide +kernel)) rfl
theorem sel_X4_noLift : Cond.selects RX4 yX4_noLift yX4_noLift ∈ wB := inB (List.mem_of_getElem? (i := 32) (by decide +kernel)) rfl
theorem sel_X4_whyNoLift : Cond.selects RX4 yX4_whyNoLift yX4_whyNoLift ∈ wB := inB (List.mem_of_getElem? (i := 33) (by decide +kernel)) rfl
theorem sel_X4_tideAt : Cond.selects RX4 yX4_tideAt yX4_tideAt ∈ wB := inB (List.mem_of_getElem? (i := 34) (by decide +kernel)) rfl
theorem sel_X4_cradleFor : Cond.selects RX4 yX4_cradleFor yX4_cradleFor ∈ wB := inB (List.mem_of_getElem? (i := 35) (by decide +kernel)) rfl
theorem sel_X4_isFree : Cond.selects RX4 yX4_isFree yX4_isFree ∈ wB := inB (List.mem_of_getElem? (i := 36) (by decide +kernel)) rfl
theorem sel_X4_hasRoom : Cond.selects RX4 yX4_hasRoom yX4_hasRoom ∈ wB := inB (List.mem_of_getElem? (i := 37) (by decide +kernel)) rfl
theorem sel_X4_metresLeft : Cond.selects RX4 yX4_metresLeft yX4_metresLeft ∈ wB := inB (List.mem_of_getElem? (i := 38) (by decide +kernel)) rfl
theorem sel_X4_liftsLeft : Cond.selects RX4 yX4_liftsLeft yX4_liftsLeft ∈ wB := inB (List.mem_of_getElem? (i := 39) (by decide +kernel)) rfl
theorem sel_X4_doLift : Cond.selects RX4 yX4_doLift yX4_doLift ∈ wB := inB (List.mem_of_getElem? (i := 40) (by decide +kernel)) rfl
theorem sel_X4_stand : Cond.selects RX4 yX4_stand yX4_stand ∈ wB := inB (List.mem_of_getElem? (i := 41) (by decide +kernel)) rfl
theorem sel_X4_useCrane : Cond.selects RX4 yX4_useCrane yX4_useCrane ∈ wB := inB (List.mem_of_getElem? (i := 42) (by decide +kernel)) rfl
theorem sel_X4_boatsIn : Cond.selects RX4 yX4_boatsIn yX4_boatsIn ∈ wB := inB (List.mem_of_getElem? (i := 43) (by decide +kernel)) rfl
theorem sel_X4_noLaunch : Cond.selects RX4 yX4_noLaunch yX4_noLaunch ∈ wB := inB (List.mem_of_getElem? (i := 44) (by decide +kernel)) rfl
theorem sel_X4_whyNoLaunch : Cond.selects RX4 yX4_whyNoLaunch yX4_whyNoLaunch ∈ wB := inB (List.mem_of_getElem? (i := 45) (by decide +kernel)) rfl
theorem sel_X4_blockersOf : Cond.selects RX4 yX4_blockersOf yX4_blockersOf ∈ wB := inB (List.mem_of_getElem? (i := 46) (by decide +kernel)) rfl
theorem sel_X4_placeOf : Cond.selects RX4 yX4_placeOf yX4_placeOf ∈ wB := inB (List.mem_of_getElem? (i := 47) (by decide +kernel)) rfl
theorem sel_X4_doLaunch : Cond.selects RX4 yX4_doLaunch yX4_doLaunch ∈ wB := inB (List.mem_of_getElem? (i := 48) (by decide +kernel)) rfl
theorem sel_X4_noMove : Cond.selects RX4 yX4_noMove yX4_noMove ∈ wB := inB (List.mem_of_getElem? (i := 49) (by decide +kernel)) rfl
theorem sel_X4_doMove : Cond.selects RX4 yX4_doMove yX4_doMove ∈ wB := inB (List.mem_of_getElem? (i := 50) (by decide +kernel)) rfl
theorem sel_X4_noMast : Cond.selects RX4 yX4_noMast yX4_noMast ∈ wB := inB (List.mem_of_getElem? (i := 51) (by decide +kernel)) rfl
theorem sel_X4_rackFor : Cond.selects RX4 yX4_rackFor yX4_rackFor ∈ wB := inB (List.mem_of_getElem? (i := 52) (by decide +kernel)) rfl
theorem sel_X4_mastsIn : Cond.selects RX4 yX4_mastsIn yX4_mastsIn ∈ wB := inB (List.mem_of_getElem? (i := 53) (by decide +kernel)) rfl
theorem sel_X4_doMast : Cond.selects RX4 yX4_doMast yX4_doMast ∈ wB := inB (List.mem_of_getElem? (i := 54) (by decide +kernel)) rfl
theorem sel_X4_noPass : Cond.selects RX4 yX4_noPass yX4_noPass ∈ wB := inB (List.mem_of_getElem? (i := 55) (by decide +kernel)) rfl
theorem sel_X4_doPass : Cond.selects RX4 yX4_doPass yX4_doPass ∈ wB := inB (List.mem_of_getElem? (i := 56) (by decide +kernel)) rfl
theorem sel_X4_findFault : Cond.selects RX4 yX4_findFault yX4_findFault ∈ wB := inB (List.mem_of_getElem? (i := 57) (by decide +kernel)) rfl
theorem sel_X4_readCommand : Cond.selects RX4 yX4_readCommand yX4_readCommand ∈ wB := inB (List.mem_of_getElem? (i := 58) (by decide +kernel)) rfl
theorem sel_X4_at : Cond.selects RX4 yX4_at yX4_at ∈ wB := inB (List.mem_of_getElem? (i := 59) (by decide +kernel)) rfl
theorem sel_X4_readNumber : Cond.selects RX4 yX4_readNumber yX4_readNumber ∈ wB := inB (List.mem_of_getElem? (i := 60) (by decide +kernel)) rfl
theorem sel_X4_noCommand : Cond.selects RX4 yX4_noCommand yX4_noCommand ∈ wB := inB (List.mem_of_getElem? (i := 61) (by decide +kernel)) rfl
theorem sel_X4_doCommand : Cond.selects RX4 yX4_doCommand yX4_doCommand ∈ wB := inB (List.mem_of_getElem? (i := 62) (by decide +kernel)) rfl
theorem sel_X4_boatAt : Cond.selects RX4 yX4_boatAt yX4_boatAt ∈ wB := inB (List.mem_of_getElem? (i := 63) (by decide +kernel)) rfl
theorem ini_L : Cond.initialized RL ∈ wB := inB (List.mem_of_getElem? (i := 64) (by decide +kernel)) rfl
theorem ini_X3 : Cond.initialized RX3 ∈ wB := inB (List.mem_of_getElem? (i := 65) (by decide +kernel)) rfl
theorem ini_X2 : Cond.initialized RX2 ∈ wB := inB (List.mem_of_getElem? (i := 66) (by decide +kernel)) rfl
theorem ini_X0 : Cond.initialized RX0 ∈ wB := inB (List.mem_of_getElem? (i := 67) (by decide +kernel)) rfl
theorem ini_X1 : Cond.initialized RX1 ∈ wB := inB (List.mem_of_getElem? (i := 68) (by decide +kernel)) rfl
theorem ini_X4 : Cond.initialized RX4 ∈ wB := inB (List.mem_of_getElem? (i := 69) (by decide +kernel)) rfl
theorem ini_java_lang_System : Cond.initialized "java/lang/System" ∈ wB := inB (List.mem_of_getElem? (i := 70) (by decide +kernel)) rfl
theorem ini_java_lang_Math : Cond.initialized "java/lang/Math" ∈ wB := inB (List.mem_of_getElem? (i := 71) (by decide +kernel)) rfl
theorem cl_L_7 : Cond.classLink RL 7 RX3 ∈ wB := inB (List.mem_of_getElem? (i := 72) (by decide +kernel)) rfl
theorem inst_X3 : Cond.instantiable RX3 7 ∈ wB := inB (List.mem_of_getElem? (i := 73) (by decide +kernel)) rfl
theorem lk_L_9 : Cond.methodLink RL 9 yX3_init ∈ wB := inB (List.mem_of_getElem? (i := 74) (by decide +kernel)) rfl
theorem ins_X3_init : Cond.instanceMethod yX3_init ∈ wB := inB (List.mem_of_getElem? (i := 75) (by decide +kernel)) rfl
theorem cod_X3_init : Cond.code yX3_init cX3_init 1 none ∈ wB := inB (List.mem_of_getElem? (i := 76) (by decide +kernel)) rfl
theorem lk_X3_1 : Cond.methodLink RX3 1 objectInit ∈ wB := inB (List.mem_of_getElem? (i := 77) (by decide +kernel)) rfl
theorem ins_Object : Cond.instanceMethod objectInit ∈ wB := inB (List.mem_of_getElem? (i := 78) (by decide +kernel)) rfl
theorem cod_Object : Cond.code objectInit ⟨#[0xb1]⟩ 1 none ∈ wB := inB (List.mem_of_getElem? (i := 79) (by decide +kernel)) rfl
theorem cl_X3_7 : Cond.classLink RX3 7 RX2 ∈ wB := inB (List.mem_of_getElem? (i := 80) (by decide +kernel)) rfl
theorem inst_X2 : Cond.instantiable RX2 8 ∈ wB := inB (List.mem_of_getElem? (i := 81) (by decide +kernel)) rfl
theorem lk_X3_9 : Cond.methodLink RX3 9 yX2_init ∈ wB := inB (List.mem_of_getElem? (i := 82) (by decide +kernel)) rfl
theorem ins_X2_init : Cond.instanceMethod yX2_init ∈ wB := inB (List.mem_of_getElem? (i := 83) (by decide +kernel)) rfl
theorem cod_X2_init : Cond.code yX2_init cX2_init 2 none ∈ wB := inB (List.mem_of_getElem? (i := 84) (by decide +kernel)) rfl
theorem lk_X2_3 : Cond.methodLink RX2 3 objectInit ∈ wB := inB (List.mem_of_getElem? (i := 85) (by decide +kernel)) rfl
theorem lk_X2_37 : Cond.methodLink RX2 37 yX2_forget ∈ wB := inB (List.mem_of_getElem? (i := 86) (by decide +kernel)) rfl
theorem ins_X2_forget : Cond.instanceMethod yX2_forget ∈ wB := inB (List.mem_of_getElem? (i := 88) (by decide +kernel)) rfl
theorem cod_X2_forget : Cond.code yX2_forget cX2_forget 3 none ∈ wB := inB (List.mem_of_getElem? (i := 89) (by decide +kernel)) rfl
theorem lk_X2_55 : Cond.methodLink RX2 55 yX2_note ∈ wB := inB (List.mem_of_getElem? (i := 90) (by decide +kernel)) rfl
theorem ins_X2_note : Cond.instanceMethod yX2_note ∈ wB := inB (List.mem_of_getElem? (i := 92) (by decide +kernel)) rfl
theorem cod_X2_note : Cond.code yX2_note cX2_note 4 none ∈ wB := inB (List.mem_of_getElem? (i := 93) (by decide +kernel)) rfl
theorem fl_X2_11 : Cond.fieldLink RX2 11 "WinterYard$Yard" "facts" "[I" ∈ wB := inB (List.mem_of_getElem? (i := 94) (by decide +kernel)) rfl
theorem fl_X2_15 : Cond.fieldLink RX2 15 "WinterYard$Yard" "cradles" "[I" ∈ wB := inB (List.mem_of_getElem? (i := 95) (by decide +kernel)) rfl
theorem fl_X2_18 : Cond.fieldLink RX2 18 "WinterYard$Yard" "metres" "[I" ∈ wB := inB (List.mem_of_getElem? (i := 96) (by decide +kernel)) rfl
theorem fl_X2_21 : Cond.fieldLink RX2 21 "WinterYard$Yard" "settings" "[I" ∈ wB := inB (List.mem_of_getElem? (i := 97) (by decide +kernel)) rfl
theorem fl_X2_24 : Cond.fieldLink RX2 24 "WinterYard$Yard" "day" "I" ∈ wB := inB (List.mem_of_getElem? (i := 98) (by decide +kernel)) rfl
theorem fl_X2_28 : Cond.fieldLink RX2 28 "WinterYard$Yard" "liftsToday" "I" ∈ wB := inB (List.mem_of_getElem? (i := 99) (by decide +kernel)) rfl
theorem fl_X2_31 : Cond.fieldLink RX2 31 "WinterYard$Yard" "lifts" "I" ∈ wB := inB (List.mem_of_getElem? (i := 100) (by decide +kernel)) rfl
theorem fl_X2_34 : Cond.fieldLink RX2 34 "WinterYard$Yard" "launches" "I" ∈ wB := inB (List.mem_of_getElem? (i := 101) (by decide +kernel)) rfl
theorem arrc_int : Cond.arrayClass .int ∈ wB := inB (List.mem_of_getElem? (i := 119) (by decide +kernel)) rfl
theorem cl_X3_23 : Cond.classLink RX3 23 RX0 ∈ wB := inB (List.mem_of_getElem? (i := 120) (by decide +kernel)) rfl
theorem inst_X0 : Cond.instantiable RX0 3 ∈ wB := inB (List.mem_of_getElem? (i := 121) (by decide +kernel)) rfl
theorem lk_X3_25 : Cond.methodLink RX3 25 yX0_init ∈ wB := inB (List.mem_of_getElem? (i := 122) (by decide +kernel)) rfl
theorem ins_X0_init : Cond.instanceMethod yX0_init ∈ wB := inB (List.mem_of_getElem? (i := 123) (by decide +kernel)) rfl
theorem cod_X0_init : Cond.code yX0_init cX0_init 2 none ∈ wB := inB (List.mem_of_getElem? (i := 124) (by decide +kernel)) rfl
theorem lk_X0_5 : Cond.methodLink RX0 5 objectInit ∈ wB := inB (List.mem_of_getElem? (i := 125) (by decide +kernel)) rfl
theorem cl_X0_11 : Cond.classLink RX0 11 RX2 ∈ wB := inB (List.mem_of_getElem? (i := 126) (by decide +kernel)) rfl
theorem aov : Cond.arrayOver (.object "WinterYard$Yard") ∈ lw_tbl := List.mem_of_getElem? (i := 127) (by decide +kernel)
theorem lk_X0_24 : Cond.methodLink RX0 24 yX2_init ∈ wB := inB (List.mem_of_getElem? (i := 128) (by decide +kernel)) rfl
theorem fl_X0_13 : Cond.fieldLink RX0 13 "WinterYard$History" "slots" "[LWinterYard$Yard;" ∈ wB := inB (List.mem_of_getElem? (i := 129) (by decide +kernel)) rfl
theorem fl_X0_17 : Cond.fieldLink RX0 17 "WinterYard$History" "oldest" "I" ∈ wB := inB (List.mem_of_getElem? (i := 130) (by decide +kernel)) rfl
theorem fl_X0_21 : Cond.fieldLink RX0 21 "WinterYard$History" "recorded" "I" ∈ wB := inB (List.mem_of_getElem? (i := 131) (by decide +kernel)) rfl
theorem cl_X3_30 : Cond.classLink RX3 30 RX1 ∈ wB := inB (List.mem_of_getElem? (i := 139) (by decide +kernel)) rfl
theorem inst_X1 : Cond.instantiable RX1 7 ∈ wB := inB (List.mem_of_getElem? (i := 140) (by decide +kernel)) rfl
theorem nest_X3_32 : Cond.methodLinkNest RX3 32 yX1_init RX3 ∈ lw_tbl := List.mem_of_getElem? (i := 141) (by decide +kernel)
theorem ins_X1_init : Cond.instanceMethod yX1_init ∈ wB := inB (List.mem_of_getElem? (i := 142) (by decide +kernel)) rfl
theorem cod_X1_init : Cond.code yX1_init cX1_init 1 none ∈ wB := inB (List.mem_of_getElem? (i := 143) (by decide +kernel)) rfl
theorem lk_X1_5 : Cond.methodLink RX1 5 objectInit ∈ wB := inB (List.mem_of_getElem? (i := 144) (by decide +kernel)) rfl
theorem fl_X1_11 : Cond.fieldLink RX1 11 "WinterYard$Plan" "text" "[C" ∈ wB := inB (List.mem_of_getElem? (i := 145) (by decide +kernel)) rfl
theorem fl_X1_15 : Cond.fieldLink RX1 15 "WinterYard$Plan" "length" "I" ∈ wB := inB (List.mem_of_getElem? (i := 146) (by decide +kernel)) rfl
theorem fl_X1_19 : Cond.fieldLink RX1 19 "WinterYard$Plan" "at" "I" ∈ wB := inB (List.mem_of_getElem? (i := 147) (by decide +kernel)) rfl
theorem fl_X1_22 : Cond.fieldLink RX1 22 "WinterYard$Plan" "signs" "[C" ∈ wB := inB (List.mem_of_getElem? (i := 148) (by decide +kernel)) rfl
theorem fl_X1_25 : Cond.fieldLink RX1 25 "WinterYard$Plan" "firsts" "[I" ∈ wB := inB (List.mem_of_getElem? (i := 149) (by decide +kernel)) rfl
theorem fl_X1_29 : Cond.fieldLink RX1 29 "WinterYard$Plan" "seconds" "[I" ∈ wB := inB (List.mem_of_getElem? (i := 150) (by decide +kernel)) rfl
theorem fl_X1_32 : Cond.fieldLink RX1 32 "WinterYard$Plan" "things" "I" ∈ wB := inB (List.mem_of_getElem? (i := 151) (by decide +kernel)) rfl
theorem arrc_char : Cond.arrayClass .char ∈ wB := inB (List.mem_of_getElem? (i := 167) (by decide +kernel)) rfl
theorem fl_X3_10 : Cond.fieldLink RX3 10 "WinterYard" "yard" "LWinterYard$Yard;" ∈ wB := inB (List.mem_of_getElem? (i := 168) (by decide +kernel)) rfl
theorem fl_X3_16 : Cond.fieldLink RX3 16 "WinterYard" "snapshot" "LWinterYard$Yard;" ∈ wB := inB (List.mem_of_getElem? (i := 169) (by decide +kernel)) rfl
theorem fl_X3_19 : Cond.fieldLink RX3 19 "WinterYard" "hasSnapshot" "Z" ∈ wB := inB (List.mem_of_getElem? (i := 170) (by decide +kernel)) rfl
theorem fl_X3_26 : Cond.fieldLink RX3 26 "WinterYard" "history" "LWinterYard$History;" ∈ wB := inB (List.mem_of_getElem? (i := 171) (by decide +kernel)) rfl
theorem fl_X3_33 : Cond.fieldLink RX3 33 "WinterYard" "plan" "LWinterYard$Plan;" ∈ wB := inB (List.mem_of_getElem? (i := 172) (by decide +kernel)) rfl
theorem fl_X3_37 : Cond.fieldLink RX3 37 "WinterYard" "stopNumber" "I" ∈ wB := inB (List.mem_of_getElem? (i := 173) (by decide +kernel)) rfl
theorem fl_X3_41 : Cond.fieldLink RX3 41 "WinterYard" "stopError" "I" ∈ wB := inB (List.mem_of_getElem? (i := 174) (by decide +kernel)) rfl
theorem lk_L_13 : Cond.methodLink RL 13 yX3_come ∈ wB := inB (List.mem_of_getElem? (i := 190) (by decide +kernel)) rfl
theorem ins_X3_come : Cond.instanceMethod yX3_come ∈ wB := inB (List.mem_of_getElem? (i := 191) (by decide +kernel)) rfl
theorem sel_X3_come : Cond.selects RX3 yX3_come yX3_come ∈ wB := inB (List.mem_of_getElem? (i := 192) (by decide +kernel)) rfl
theorem cod_X3_come : Cond.code yX3_come cX3_come 5 (some .int) ∈ wB := inB (List.mem_of_getElem? (i := 193) (by decide +kernel)) rfl
theorem lk_X3_44 : Cond.methodLink RX3 44 yX0_prepare ∈ wB := inB (List.mem_of_getElem? (i := 194) (by decide +kernel)) rfl
theorem ins_X0_prepare : Cond.instanceMethod yX0_prepare ∈ wB := inB (List.mem_of_getElem? (i := 195) (by decide +kernel)) rfl
theorem sel_X0_prepare : Cond.selects RX0 yX0_prepare yX0_prepare ∈ wB := inB (List.mem_of_getElem? (i := 196) (by decide +kernel)) rfl
theorem cod_X0_prepare : Cond.code yX0_prepare cX0_prepare 2 none ∈ wB := inB (List.mem_of_getElem? (i := 197) (by decide +kernel)) rfl
theorem lk_X0_25 : Cond.methodLink RX0 25 yX0_behindLatest ∈ wB := inB (List.mem_of_getElem? (i := 198) (by decide +kernel)) rfl
theorem ins_X0_behindLatest : Cond.instanceMethod yX0_behindLatest ∈ wB := inB (List.mem_of_getElem? (i := 200) (by decide +kernel)) rfl
theorem cod_X0_behindLatest : Cond.code yX0_behindLatest cX0_behindLatest 1 (some (.object "WinterYard$Yard")) ∈ wB := inB (List.mem_of_getElem? (i := 201) (by decide +kernel)) rfl
theorem lk_X0_29 : Cond.methodLink RX0 29 yX2_copyFrom ∈ wB := inB (List.mem_of_getElem? (i := 202) (by decide +kernel)) rfl
theorem ins_X2_copyFrom : Cond.instanceMethod yX2_copyFrom ∈ wB := inB (List.mem_of_getElem? (i := 203) (by decide +kernel)) rfl
theorem sel_X2_copyFrom : Cond.selects RX2 yX2_copyFrom yX2_copyFrom ∈ wB := inB (List.mem_of_getElem? (i := 204) (by decide +kernel)) rfl
theorem cod_X2_copyFrom : Cond.code yX2_copyFrom cX2_copyFrom 2 none ∈ wB := inB (List.mem_of_getElem? (i := 205) (by decide +kernel)) rfl
theorem lk_X2_41 : Cond.methodLink RX2 41 arraycopyName ∈ wB := inB (List.mem_of_getElem? (i := 206) (by decide +kernel)) rfl
theorem stc_arraycopyName : Cond.static arraycopyName ∈ wB := inB (List.mem_of_getElem? (i := 207) (by decide +kernel)) rfl
theorem nat_arraycopy : Cond.native arraycopyName ∈ wB := inB (List.mem_of_getElem? (i := 208) (by decide +kernel)) rfl
theorem lk_X3_48 : Cond.methodLink RX3 48 yX2_addBoat ∈ wB := inB (List.mem_of_getElem? (i := 209) (by decide +kernel)) rfl
theorem ins_X2_addBoat : Cond.instanceMethod yX2_addBoat ∈ wB := inB (List.mem_of_getElem? (i := 210) (by decide +kernel)) rfl
theorem sel_X2_addBoat : Cond.selects RX2 yX2_addBoat yX2_addBoat ∈ wB := inB (List.mem_of_getElem? (i := 211) (by decide +kernel)) rfl
theorem cod_X2_addBoat : Cond.code yX2_addBoat cX2_addBoat 6 (some .int) ∈ wB := inB (List.mem_of_getElem? (i := 212) (by decide +kernel)) rfl
theorem lk_X2_59 : Cond.methodLink RX2 59 yX2_isKind ∈ wB := inB (List.mem_of_getElem? (i := 213) (by decide +kernel)) rfl
theorem stc_X2_isKind : Cond.static yX2_isKind ∈ wB := inB (List.mem_of_getElem? (i := 214) (by decide +kernel)) rfl
theorem cod_X2_isKind : Cond.code yX2_isKind cX2_isKind 1 (some .boolean) ∈ wB := inB (List.mem_of_getElem? (i := 215) (by decide +kernel)) rfl
theorem nest_X2_47 : Cond.methodLinkNest RX2 47 yX3_within RX3 ∈ lw_tbl := List.mem_of_getElem? (i := 216) (by decide +kernel)
theorem stc_X3_within : Cond.static yX3_within ∈ wB := inB (List.mem_of_getElem? (i := 217) (by decide +kernel)) rfl
theorem cod_X3_within : Cond.code yX3_within cX3_within 3 (some .boolean) ∈ wB := inB (List.mem_of_getElem? (i := 218) (by decide +kernel)) rfl
theorem lk_X2_63 : Cond.methodLink RX2 63 yX2_lowestFreeNumber ∈ wB := inB (List.mem_of_getElem? (i := 219) (by decide +kernel)) rfl
theorem ins_X2_lowestFreeNumber : Cond.instanceMethod yX2_lowestFreeNumber ∈ wB := inB (List.mem_of_getElem? (i := 221) (by decide +kernel)) rfl
theorem cod_X2_lowestFreeNumber : Cond.code yX2_lowestFreeNumber cX2_lowestFreeNumber 2 (some .int) ∈ wB := inB (List.mem_of_getElem? (i := 222) (by decide +kernel)) rfl
theorem lk_X2_70 : Cond.methodLink RX2 70 yX2_knows ∈ wB := inB (List.mem_of_getElem? (i := 223) (by decide +kernel)) rfl
theorem ins_X2_knows : Cond.instanceMethod yX2_knows ∈ wB := inB (List.mem_of_getElem? (i := 224) (by decide +kernel)) rfl
theorem sel_X2_knows : Cond.selects RX2 yX2_knows yX2_knows ∈ wB := inB (List.mem_of_getElem? (i := 225) (by decide +kernel)) rfl
theorem cod_X2_knows : Cond.code yX2_knows cX2_knows 2 (some .boolean) ∈ wB := inB (List.mem_of_getElem? (i := 226) (by decide +kernel)) rfl
theorem lk_X2_51 : Cond.methodLink RX2 51 yX2_fact ∈ wB := inB (List.mem_of_getElem? (i := 227) (by decide +kernel)) rfl
theorem ins_X2_fact : Cond.instanceMethod yX2_fact ∈ wB := inB (List.mem_of_getElem? (i := 228) (by decide +kernel)) rfl
theorem sel_X2_fact : Cond.selects RX2 yX2_fact yX2_fact ∈ wB := inB (List.mem_of_getElem? (i := 229) (by decide +kernel)) rfl
theorem cod_X2_fact : Cond.code yX2_fact cX2_fact 3 (some .int) ∈ wB := inB (List.mem_of_getElem? (i := 230) (by decide +kernel)) rfl
theorem lk_X2_67 : Cond.methodLink RX2 67 yX2_noteAfloat ∈ wB := inB (List.mem_of_getElem? (i := 231) (by decide +kernel)) rfl
theorem ins_X2_noteAfloat : Cond.instanceMethod yX2_noteAfloat ∈ wB := inB (List.mem_of_getElem? (i := 233) (by decide +kernel)) rfl
theorem cod_X2_noteAfloat : Cond.code yX2_noteAfloat cX2_noteAfloat 2 none ∈ wB := inB (List.mem_of_getElem? (i := 234) (by decide +kernel)) rfl
theorem lk_X3_52 : Cond.methodLink RX3 52 yX0_settle ∈ wB := inB (List.mem_of_getElem? (i := 235) (by decide +kernel)) rfl
theorem ins_X0_settle : Cond.instanceMethod yX0_settle ∈ wB := inB (List.mem_of_getElem? (i := 236) (by decide +kernel)) rfl
theorem sel_X0_settle : Cond.selects RX0 yX0_settle yX0_settle ∈ wB := inB (List.mem_of_getElem? (i := 237) (by decide +kernel)) rfl
theorem cod_X0_settle : Cond.code yX0_settle cX0_settle 2 (some .int) ∈ wB := inB (List.mem_of_getElem? (i := 238) (by decide +kernel)) rfl
theorem lk_L_18 : Cond.methodLink RL 18 yX3_goAway ∈ wB := inB (List.mem_of_getElem? (i := 239) (by decide +kernel)) rfl
theorem ins_X3_goAway : Cond.instanceMethod yX3_goAway ∈ wB := inB (List.mem_of_getElem? (i := 240) (by decide +kernel)) rfl
theorem sel_X3_goAway : Cond.selects RX3 yX3_goAway yX3_goAway ∈ wB := inB (List.mem_of_getElem? (i := 241) (by decide +kernel)) rfl
theorem cod_X3_goAway : Cond.code yX3_goAway cX3_goAway 2 (some .int) ∈ wB := inB (List.mem_of_getElem? (i := 242) (by decide +kernel)) rfl
theorem lk_X3_56 : Cond.methodLink RX3 56 yX2_removeBoat ∈ wB := inB (List.mem_of_getElem? (i := 243) (by decide +kernel)) rfl
theorem ins_X2_removeBoat : Cond.instanceMethod yX2_removeBoat ∈ wB := inB (List.mem_of_getElem? (i := 244) (by decide +kernel)) rfl
theorem sel_X2_removeBoat : Cond.selects RX2 yX2_removeBoat yX2_removeBoat ∈ wB := inB (List.mem_of_getElem? (i := 245) (by decide +kernel)) rfl
theorem cod_X2_removeBoat : Cond.code yX2_removeBoat cX2_removeBoat 2 (some .int) ∈ wB := inB (List.mem_of_getElem? (i := 246) (by decide +kernel)) rfl
theorem lk_X2_73 : Cond.methodLink RX2 73 yX2_isAshore ∈ wB := inB (List.mem_of_getElem? (i := 247) (by decide +kernel)) rfl
theorem ins_X2_isAshore : Cond.instanceMethod yX2_isAshore ∈ wB := inB (List.mem_of_getElem? (i := 248) (by decide +kernel)) rfl
theorem sel_X2_isAshore : Cond.selects RX2 yX2_isAshore yX2_isAshore ∈ wB := inB (List.mem_of_getElem? (i := 249) (by decide +kernel)) rfl
theorem cod_X2_isAshore : Cond.code yX2_isAshore cX2_isAshore 2 (some .boolean) ∈ wB := inB (List.mem_of_getElem? (i := 250) (by decide +kernel)) rfl
theorem lk_X2_76 : Cond.methodLink RX2 76 yX2_hasMast ∈ wB := inB (List.mem_of_getElem? (i := 251) (by decide +kernel)) rfl
theorem ins_X2_hasMast : Cond.instanceMethod yX2_hasMast ∈ wB := inB (List.mem_of_getElem? (i := 253) (by decide +kernel)) rfl
theorem cod_X2_hasMast : Cond.code yX2_hasMast cX2_hasMast 2 (some .boolean) ∈ wB := inB (List.mem_of_getElem? (i := 254) (by decide +kernel)) rfl
theorem lk_X2_79 : Cond.methodLink RX2 79 yX2_boats ∈ wB := inB (List.mem_of_getElem? (i := 255) (by decide +kernel)) rfl
theorem ins_X2_boats : Cond.instanceMethod yX2_boats ∈ wB := inB (List.mem_of_getElem? (i := 256) (by decide +kernel)) rfl
theorem sel_X2_boats : Cond.selects RX2 yX2_boats yX2_boats ∈ wB := inB (List.mem_of_getElem? (i := 257) (by decide +kernel)) rfl
theorem cod_X2_boats : Cond.code yX2_boats cX2_boats 1 (some .int) ∈ wB := inB (List.mem_of_getElem? (i := 258) (by decide +kernel)) rfl
theorem lk_X2_82 : Cond.methodLink RX2 82 yX2_boatsWith ∈ wB := inB (List.mem_of_getElem? (i := 259) (by decide +kernel)) rfl
theorem ins_X2_boatsWith : Cond.instanceMethod yX2_boatsWith ∈ wB := inB (List.mem_of_getElem? (i := 261) (by decide +kernel)) rfl
theorem cod_X2_boatsWith : Cond.code yX2_boatsWith cX2_boatsWith 5 (some .int) ∈ wB := inB (List.mem_of_getElem? (i := 262) (by decide +kernel)) rfl
theorem lk_L_23 : Cond.methodLink RL 23 yX3_setCradles ∈ wB := inB (List.mem_of_getElem? (i := 263) (by decide +kernel)) rfl
theorem ins_X3_setCradles : Cond.instanceMethod yX3_setCradles ∈ wB := inB (List.mem_of_getElem? (i := 264) (by decide +kernel)) rfl
theorem sel_X3_setCradles : Cond.selects RX3 yX3_setCradles yX3_setCradles ∈ wB := inB (List.mem_of_getElem? (i := 265) (by decide +kernel)) rfl
theorem cod_X3_setCradles : Cond.code yX3_setCradles cX3_setCradles 3 (some .int) ∈ wB := inB (List.mem_of_getElem? (i := 266) (by decide +kernel)) rfl
theorem lk_X3_59 : Cond.methodLink RX3 59 yX2_changeCradles ∈ wB := inB (List.mem_of_getElem? (i := 267) (by decide +kernel)) rfl
theorem ins_X2_changeCradles : Cond.instanceMethod yX2_changeCradles ∈ wB := inB (List.mem_of_getElem? (i := 268) (by decide +kernel)) rfl
theorem sel_X2_changeCradles : Cond.selects RX2 yX2_changeCradles yX2_changeCradles ∈ wB := inB (List.mem_of_getElem? (i := 269) (by decide +kernel)) rfl
theorem cod_X2_changeCradles : Cond.code yX2_changeCradles cX2_changeCradles 4 (some .int) ∈ wB := inB (List.mem_of_getElem? (i := 270) (by decide +kernel)) rfl
theorem lk_X2_88 : Cond.methodLink RX2 88 yX2_cradlesTaken ∈ wB := inB (List.mem_of_getElem? (i := 271) (by decide +kernel)) rfl
theorem ins_X2_cradlesTaken : Cond.instanceMethod yX2_cradlesTaken ∈ wB := inB (List.mem_of_getElem? (i := 272) (by decide +kernel)) rfl
theorem sel_X2_cradlesTaken : Cond.selects RX2 yX2_cradlesTaken yX2_cradlesTaken ∈ wB := inB (List.mem_of_getElem? (i := 273) (by decide +kernel)) rfl
theorem cod_X2_cradlesTaken : Cond.code yX2_cradlesTaken cX2_cradlesTaken 2 (some .int) ∈ wB := inB (List.mem_of_getElem? (i := 274) (by decide +kernel)) rfl
theorem lk_L_28 : Cond.methodLink RL 28 yX3_setRow ∈ wB := inB (List.mem_of_getElem? (i := 275) (by decide +kernel)) rfl
theorem ins_X3_setRow : Cond.instanceMethod yX3_setRow ∈ wB := inB (List.mem_of_getElem? (i := 276) (by decide +kernel)) rfl
theorem sel_X3_setRow : Cond.selects RX3 yX3_setRow yX3_setRow ∈ wB := inB (List.mem_of_getElem? (i := 277) (by decide +kernel)) rfl
theorem cod_X3_setRow : Cond.code yX3_setRow cX3_setRow 3 (some .int) ∈ wB := inB (List.mem_of_getElem? (i := 278) (by decide +kernel)) rfl
theorem lk_X3_63 : Cond.methodLink RX3 63 yX2_changeRow ∈ wB := inB (List.mem_of_getElem? (i := 279) (by decide +kernel)) rfl
theorem ins_X2_changeRow : Cond.instanceMethod yX2_changeRow ∈ wB := inB (List.mem_of_getElem? (i := 280) (by decide +kernel)) rfl
theorem sel_X2_changeRow : Cond.selects RX2 yX2_changeRow yX2_changeRow ∈ wB := inB (List.mem_of_getElem? (i := 281) (by decide +kernel)) rfl
theorem cod_X2_changeRow : Cond.code yX2_changeRow cX2_changeRow 4 (some .int) ∈ wB := inB (List.mem_of_getElem? (i := 282) (by decide +kernel)) rfl
theorem lk_X2_117 : Cond.methodLink RX2 117 yX2_isRow ∈ wB := inB (List.mem_of_getElem? (i := 283) (by decide +kernel)) rfl
theorem stc_X2_isRow : Cond.static yX2_isRow ∈ wB := inB (List.mem_of_getElem? (i := 284) (by decide +kernel)) rfl
theorem cod_X2_isRow : Cond.code yX2_isRow cX2_isRow 1 (some .boolean) ∈ wB := inB (List.mem_of_getElem? (i := 285) (by decide +kernel)) rfl
theorem lk_X2_104 : Cond.methodLink RX2 104 yX2_metresTaken ∈ wB := inB (List.mem_of_getElem? (i := 286) (by decide +kernel)) rfl
theorem ins_X2_metresTaken : Cond.instanceMethod yX2_metresTaken ∈ wB := inB (List.mem_of_getElem? (i := 287) (by decide +kernel)) rfl
theorem sel_X2_metresTaken : Cond.selects RX2 yX2_metresTaken yX2_metresTaken ∈ wB := inB (List.mem_of_getElem? (i := 288) (by decide +kernel)) rfl
theorem cod_X2_metresTaken : Cond.code yX2_metresTaken cX2_metresTaken 4 (some .int) ∈ wB := inB (List.mem_of_getElem? (i := 289) (by decide +kernel)) rfl
theorem lk_L_32 : Cond.methodLink RL 32 yX3_set ∈ wB := inB (List.mem_of_getElem? (i := 290) (by decide +kernel)) rfl
theorem ins_X3_set : Cond.instanceMethod yX3_set ∈ wB := inB (List.mem_of_getElem? (i := 291) (by decide +kernel)) rfl
theorem sel_X3_set : Cond.selects RX3 yX3_set yX3_set ∈ wB := inB (List.mem_of_getElem? (i := 292) (by decide +kernel)) rfl
theorem cod_X3_set : Cond.code yX3_set cX3_set 3 (some .int) ∈ wB := inB (List.mem_of_getElem? (i := 293) (by decide +kernel)) rfl
theorem lk_X3_66 : Cond.methodLink RX3 66 yX2_changeSetting ∈ wB := inB (List.mem_of_getElem? (i := 294) (by decide +kernel)) rfl
theorem ins_X2_changeSetting : Cond.instanceMethod yX2_changeSetting ∈ wB := inB (List.mem_of_getElem? (i := 295) (by decide +kernel)) rfl
theorem sel_X2_changeSetting : Cond.selects RX2 yX2_changeSetting yX2_changeSetting ∈ wB := inB (List.mem_of_getElem? (i := 296) (by decide +kernel)) rfl
theorem cod_X2_changeSetting : Cond.code yX2_changeSetting cX2_changeSetting 4 (some .int) ∈ wB := inB (List.mem_of_getElem? (i := 297) (by decide +kernel)) rfl
theorem fl_X2_123 : Cond.fieldLink RX2 123 "WinterYard$Yard" "LEAST_SETTING" "[I" ∈ wB := inB (List.mem_of_getElem? (i := 298) (by decide +kernel)) rfl
theorem lst_LEAST_SETTING : Cond.laysStatic RX2 "LEAST_SETTING" "[I" ∈ lw_tbl := List.mem_of_getElem? (i := 299) (by decide +kernel)
theorem fl_X2_126 : Cond.fieldLink RX2 126 "WinterYard$Yard" "GREATEST_SETTING" "[I" ∈ wB := inB (List.mem_of_getElem? (i := 300) (by decide +kernel)) rfl
theorem lst_GREATEST_SETTING : Cond.laysStatic RX2 "GREATEST_SETTING" "[I" ∈ lw_tbl := List.mem_of_getElem? (i := 301) (by decide +kernel)
theorem lk_L_36 : Cond.methodLink RL 36 yX3_lift ∈ wB := inB (List.mem_of_getElem? (i := 302) (by decide +kernel)) rfl
theorem ins_X3_lift : Cond.instanceMethod yX3_lift ∈ wB := inB (List.mem_of_getElem? (i := 303) (by decide +kernel)) rfl
theorem sel_X3_lift : Cond.selects RX3 yX3_lift yX3_lift ∈ wB := inB (List.mem_of_getElem? (i := 304) (by decide +kernel)) rfl
theorem cod_X3_lift : Cond.code yX3_lift cX3_lift 3 (some .int) ∈ wB := inB (List.mem_of_getElem? (i := 305) (by decide +kernel)) rfl
theorem lk_X3_69 : Cond.methodLink RX3 69 yX2_liftInto ∈ wB := inB (List.mem_of_getElem? (i := 306) (by decide +kernel)) rfl
theorem ins_X2_liftInto : Cond.instanceMethod yX2_liftInto ∈ wB := inB (List.mem_of_getElem? (i := 307) (by decide +kernel)) rfl
theorem sel_X2_liftInto : Cond.selects RX2 yX2_liftInto yX2_liftInto ∈ wB := inB (List.mem_of_getElem? (i := 308) (by decide +kernel)) rfl
theorem cod_X2_liftInto : Cond.code yX2_liftInto cX2_liftInto 4 (some .int) ∈ wB := inB (List.mem_of_getElem? (i := 309) (by decide +kernel)) rfl
theorem lk_X2_149 : Cond.methodLink RX2 149 yX2_whyNoLift ∈ wB := inB (List.mem_of_getElem? (i := 310) (by decide +kernel)) rfl
theorem ins_X2_whyNoLift : Cond.instanceMethod yX2_whyNoLift ∈ wB := inB (List.mem_of_getElem? (i := 311) (by decide +kernel)) rfl
theorem sel_X2_whyNoLift : Cond.selects RX2 yX2_whyNoLift yX2_whyNoLift ∈ wB := inB (List.mem_of_getElem? (i := 312) (by decide +kernel)) rfl
theorem cod_X2_whyNoLift : Cond.code yX2_whyNoLift cX2_whyNoLift 3 (some .int) ∈ wB := inB (List.mem_of_getElem? (i := 313) (by decide +kernel)) rfl
theorem lk_X2_137 : Cond.methodLink RX2 137 yX2_isDeepEnough ∈ wB := inB (List.mem_of_getElem? (i := 314) (by decide +kernel)) rfl
theorem ins_X2_isDeepEnough : Cond.instanceMethod yX2_isDeepEnough ∈ wB := inB (List.mem_of_getElem? (i := 316) (by decide +kernel)) rfl
theorem cod_X2_isDeepEnough : Cond.code yX2_isDeepEnough cX2_isDeepEnough 3 (some .boolean) ∈ wB := inB (List.mem_of_getElem? (i := 317) (by decide +kernel)) rfl
theorem lk_X2_134 : Cond.methodLink RX2 134 yX2_tideOn ∈ wB := inB (List.mem_of_getElem? (i := 318) (by decide +kernel)) rfl
theorem ins_X2_tideOn : Cond.instanceMethod yX2_tideOn ∈ wB := inB (List.mem_of_getElem? (i := 319) (by decide +kernel)) rfl
theorem sel_X2_tideOn : Cond.selects RX2 yX2_tideOn yX2_tideOn ∈ wB := inB (List.mem_of_getElem? (i := 320) (by decide +kernel)) rfl
theorem cod_X2_tideOn : Cond.code yX2_tideOn cX2_tideOn 2 (some .int) ∈ wB := inB (List.mem_of_getElem? (i := 321) (by decide +kernel)) rfl
theorem lk_X2_171 : Cond.methodLink RX2 171 Lib.Math.abs.name ∈ wB := inB (List.mem_of_getElem? (i := 322) (by decide +kernel)) rfl
theorem stc_Lib_Math_abs_name : Cond.static Lib.Math.abs.name ∈ wB := inB (List.mem_of_getElem? (i := 323) (by decide +kernel)) rfl
theorem cod_abs : Cond.code Lib.Math.abs.name Lib.Math.abs.code 1 (some .int) ∈ wB := inB (List.mem_of_getElem? (i := 324) (by decide +kernel)) rfl
theorem lk_X2_140 : Cond.methodLink RX2 140 yX2_craneBears ∈ wB := inB (List.mem_of_getElem? (i := 325) (by decide +kernel)) rfl
theorem ins_X2_craneBears : Cond.instanceMethod yX2_craneBears ∈ wB := inB (List.mem_of_getElem? (i := 327) (by decide +kernel)) rfl
theorem cod_X2_craneBears : Cond.code yX2_craneBears cX2_craneBears 2 (some .boolean) ∈ wB := inB (List.mem_of_getElem? (i := 328) (by decide +kernel)) rfl
theorem lk_X2_143 : Cond.methodLink RX2 143 yX2_cradleFor ∈ wB := inB (List.mem_of_getElem? (i := 329) (by decide +kernel)) rfl
theorem ins_X2_cradleFor : Cond.instanceMethod yX2_cradleFor ∈ wB := inB (List.mem_of_getElem? (i := 331) (by decide +kernel)) rfl
theorem cod_X2_cradleFor : Cond.code yX2_cradleFor cX2_cradleFor 5 (some .int) ∈ wB := inB (List.mem_of_getElem? (i := 332) (by decide +kernel)) rfl
theorem lk_X2_92 : Cond.methodLink RX2 92 yX2_hasFreeCradle ∈ wB := inB (List.mem_of_getElem? (i := 333) (by decide +kernel)) rfl
theorem ins_X2_hasFreeCradle : Cond.instanceMethod yX2_hasFreeCradle ∈ wB := inB (List.mem_of_getElem? (i := 335) (by decide +kernel)) rfl
theorem cod_X2_hasFreeCradle : Cond.code yX2_hasFreeCradle cX2_hasFreeCradle 2 (some .boolean) ∈ wB := inB (List.mem_of_getElem? (i := 336) (by decide +kernel)) rfl
theorem lk_X2_95 : Cond.methodLink RX2 95 yX2_bears ∈ wB := inB (List.mem_of_getElem? (i := 337) (by decide +kernel)) rfl
theorem stc_X2_bears : Cond.static yX2_bears ∈ wB := inB (List.mem_of_getElem? (i := 338) (by decide +kernel)) rfl
theorem cod_X2_bears : Cond.code yX2_bears cX2_bears 1 (some .int) ∈ wB := inB (List.mem_of_getElem? (i := 339) (by decide +kernel)) rfl
theorem fl_X2_85 : Cond.fieldLink RX2 85 "WinterYard$Yard" "BEARS" "[I" ∈ wB := inB (List.mem_of_getElem? (i := 340) (by decide +kernel)) rfl
theorem lst_BEARS : Cond.laysStatic RX2 "BEARS" "[I" ∈ lw_tbl := List.mem_of_getElem? (i := 341) (by decide +kernel)
theorem lk_X2_98 : Cond.methodLink RX2 98 yX2_otherKindFor ∈ wB := inB (List.mem_of_getElem? (i := 342) (by decide +kernel)) rfl
theorem stc_X2_otherKindFor : Cond.static yX2_otherKindFor ∈ wB := inB (List.mem_of_getElem? (i := 343) (by decide +kernel)) rfl
theorem cod_X2_otherKindFor : Cond.code yX2_otherKindFor cX2_otherKindFor 1 (some .int) ∈ wB := inB (List.mem_of_getElem? (i := 344) (by decide +kernel)) rfl
theorem lk_X2_120 : Cond.methodLink RX2 120 yX2_hasRoom ∈ wB := inB (List.mem_of_getElem? (i := 345) (by decide +kernel)) rfl
theorem ins_X2_hasRoom : Cond.instanceMethod yX2_hasRoom ∈ wB := inB (List.mem_of_getElem? (i := 347) (by decide +kernel)) rfl
theorem cod_X2_hasRoom : Cond.code yX2_hasRoom cX2_hasRoom 3 (some .boolean) ∈ wB := inB (List.mem_of_getElem? (i := 348) (by decide +kernel)) rfl
theorem lk_X2_107 : Cond.methodLink RX2 107 yX2_metresLeft ∈ wB := inB (List.mem_of_getElem? (i := 349) (by decide +kernel)) rfl
theorem ins_X2_metresLeft : Cond.instanceMethod yX2_metresLeft ∈ wB := inB (List.mem_of_getElem? (i := 351) (by decide +kernel)) rfl
theorem cod_X2_metresLeft : Cond.code yX2_metresLeft cX2_metresLeft 2 (some .int) ∈ wB := inB (List.mem_of_getElem? (i := 352) (by decide +kernel)) rfl
theorem lk_X2_101 : Cond.methodLink RX2 101 yX2_metresOf ∈ wB := inB (List.mem_of_getElem? (i := 353) (by decide +kernel)) rfl
theorem ins_X2_metresOf : Cond.instanceMethod yX2_metresOf ∈ wB := inB (List.mem_of_getElem? (i := 354) (by decide +kernel)) rfl
theorem sel_X2_metresOf : Cond.selects RX2 yX2_metresOf yX2_metresOf ∈ wB := inB (List.mem_of_getElem? (i := 355) (by decide +kernel)) rfl
theorem cod_X2_metresOf : Cond.code yX2_metresOf cX2_metresOf 2 (some .int) ∈ wB := inB (List.mem_of_getElem? (i := 356) (by decide +kernel)) rfl
theorem lk_X2_146 : Cond.methodLink RX2 146 yX2_liftsLeft ∈ wB := inB (List.mem_of_getElem? (i := 357) (by decide +kernel)) rfl
theorem ins_X2_liftsLeft : Cond.instanceMethod yX2_liftsLeft ∈ wB := inB (List.mem_of_getElem? (i := 358) (by decide +kernel)) rfl
theorem sel_X2_liftsLeft : Cond.selects RX2 yX2_liftsLeft yX2_liftsLeft ∈ wB := inB (List.mem_of_getElem? (i := 359) (by decide +kernel)) rfl
theorem cod_X2_liftsLeft : Cond.code yX2_liftsLeft cX2_liftsLeft 1 (some .int) ∈ wB := inB (List.mem_of_getElem? (i := 360) (by decide +kernel)) rfl
theorem lk_X2_129 : Cond.methodLink RX2 129 Lib.Math.max.name ∈ wB := inB (List.mem_of_getElem? (i := 361) (by decide +kernel)) rfl
theorem stc_Lib_Math_max_name : Cond.static Lib.Math.max.name ∈ wB := inB (List.mem_of_getElem? (i := 362) (by decide +kernel)) rfl
theorem cod_max : Cond.code Lib.Math.max.name Lib.Math.max.code 2 (some .int) ∈ wB := inB (List.mem_of_getElem? (i := 363) (by decide +kernel)) rfl
theorem lk_X2_152 : Cond.methodLink RX2 152 yX2_putAtOuterEnd ∈ wB := inB (List.mem_of_getElem? (i := 364) (by decide +kernel)) rfl
theorem ins_X2_putAtOuterEnd : Cond.instanceMethod yX2_putAtOuterEnd ∈ wB := inB (List.mem_of_getElem? (i := 366) (by decide +kernel)) rfl
theorem cod_X2_putAtOuterEnd : Cond.code yX2_putAtOuterEnd cX2_putAtOuterEnd 3 none ∈ wB := inB (List.mem_of_getElem? (i := 367) (by decide +kernel)) rfl
theorem lk_X2_114 : Cond.methodLink RX2 114 yX2_boatsIn ∈ wB := inB (List.mem_of_getElem? (i := 368) (by decide +kernel)) rfl
theorem ins_X2_boatsIn : Cond.instanceMethod yX2_boatsIn ∈ wB := inB (List.mem_of_getElem? (i := 369) (by decide +kernel)) rfl
theorem sel_X2_boatsIn : Cond.selects RX2 yX2_boatsIn yX2_boatsIn ∈ wB := inB (List.mem_of_getElem? (i := 370) (by decide +kernel)) rfl
theorem cod_X2_boatsIn : Cond.code yX2_boatsIn cX2_boatsIn 2 (some .int) ∈ wB := inB (List.mem_of_getElem? (i := 371) (by decide +kernel)) rfl
theorem lk_X2_156 : Cond.methodLink RX2 156 yX2_takeLift ∈ wB := inB (List.mem_of_getElem? (i := 372) (by decide +kernel)) rfl
theorem ins_X2_takeLift : Cond.instanceMethod yX2_takeLift ∈ wB := inB (List.mem_of_getElem? (i := 374) (by decide +kernel)) rfl
theorem cod_X2_takeLift : Cond.code yX2_takeLift cX2_takeLift 1 none ∈ wB := inB (List.mem_of_getElem? (i := 375) (by decide +kernel)) rfl
theorem lk_L_40 : Cond.methodLink RL 40 yX3_launch ∈ wB := inB (List.mem_of_getElem? (i := 376) (by decide +kernel)) rfl
theorem ins_X3_launch : Cond.instanceMethod yX3_launch ∈ wB := inB (List.mem_of_getElem? (i := 377) (by decide +kernel)) rfl
theorem sel_X3_launch : Cond.selects RX3 yX3_launch yX3_launch ∈ wB := inB (List.mem_of_getElem? (i := 378) (by decide +kernel)) rfl
theorem cod_X3_launch : Cond.code yX3_launch cX3_launch 2 (some .int) ∈ wB := inB (List.mem_of_getElem? (i := 379) (by decide +kernel)) rfl
theorem lk_X3_72 : Cond.methodLink RX3 72 yX2_putAfloat ∈ wB := inB (List.mem_of_getElem? (i := 380) (by decide +kernel)) rfl
theorem ins_X2_putAfloat : Cond.instanceMethod yX2_putAfloat ∈ wB := inB (List.mem_of_getElem? (i := 381) (by decide +kernel)) rfl
theorem sel_X2_putAfloat : Cond.selects RX2 yX2_putAfloat yX2_putAfloat ∈ wB := inB (List.mem_of_getElem? (i := 382) (by decide +kernel)) rfl
theorem cod_X2_putAfloat : Cond.code yX2_putAfloat cX2_putAfloat 4 (some .int) ∈ wB := inB (List.mem_of_getElem? (i := 383) (by decide +kernel)) rfl
theorem lk_X2_162 : Cond.methodLink RX2 162 yX2_whyNoLaunch ∈ wB := inB (List.mem_of_getElem? (i := 384) (by decide +kernel)) rfl
theorem ins_X2_whyNoLaunch : Cond.instanceMethod yX2_whyNoLaunch ∈ wB := inB (List.mem_of_getElem? (i := 385) (by decide +kernel)) rfl
theorem sel_X2_whyNoLaunch : Cond.selects RX2 yX2_whyNoLaunch yX2_whyNoLaunch ∈ wB := inB (List.mem_of_getElem? (i := 386) (by decide +kernel)) rfl
theorem cod_X2_whyNoLaunch : Cond.code yX2_whyNoLaunch cX2_whyNoLaunch 2 (some .int) ∈ wB := inB (List.mem_of_getElem? (i := 387) (by decide +kernel)) rfl
theorem lk_X2_159 : Cond.methodLink RX2 159 yX2_boatsFartherOut ∈ wB := inB (List.mem_of_getElem? (i := 388) (by decide +kernel)) rfl
theorem ins_X2_boatsFartherOut : Cond.instanceMethod yX2_boatsFartherOut ∈ wB := inB (List.mem_of_getElem? (i := 389) (by decide +kernel)) rfl
theorem sel_X2_boatsFartherOut : Cond.selects RX2 yX2_boatsFartherOut yX2_boatsFartherOut ∈ wB := inB (List.mem_of_getElem? (i := 390) (by decide +kernel)) rfl
theorem cod_X2_boatsFartherOut : Cond.code yX2_boatsFartherOut cX2_boatsFartherOut 2 (some .int) ∈ wB := inB (List.mem_of_getElem? (i := 391) (by decide +kernel)) rfl
theorem lk_L_44 : Cond.methodLink RL 44 yX3_move ∈ wB := inB (List.mem_of_getElem? (i := 392) (by decide +kernel)) rfl
theorem ins_X3_move : Cond.instanceMethod yX3_move ∈ wB := inB (List.mem_of_getElem? (i := 393) (by decide +kernel)) rfl
theorem sel_X3_move : Cond.selects RX3 yX3_move yX3_move ∈ wB := inB (List.mem_of_getElem? (i := 394) (by decide +kernel)) rfl
theorem cod_X3_move : Cond.code yX3_move cX3_move 3 (some .int) ∈ wB := inB (List.mem_of_getElem? (i := 395) (by decide +kernel)) rfl
theorem lk_X3_75 : Cond.methodLink RX3 75 yX2_moveTo ∈ wB := inB (List.mem_of_getElem? (i := 396) (by decide +kernel)) rfl
theorem ins_X2_moveTo : Cond.instanceMethod yX2_moveTo ∈ wB := inB (List.mem_of_getElem? (i := 397) (by decide +kernel)) rfl
theorem sel_X2_moveTo : Cond.selects RX2 yX2_moveTo yX2_moveTo ∈ wB := inB (List.mem_of_getElem? (i := 398) (by decide +kernel)) rfl
theorem cod_X2_moveTo : Cond.code yX2_moveTo cX2_moveTo 3 (some .int) ∈ wB := inB (List.mem_of_getElem? (i := 399) (by decide +kernel)) rfl
theorem lk_X2_110 : Cond.methodLink RX2 110 yX2_standsIn ∈ wB := inB (List.mem_of_getElem? (i := 400) (by decide +kernel)) rfl
theorem ins_X2_standsIn : Cond.instanceMethod yX2_standsIn ∈ wB := inB (List.mem_of_getElem? (i := 402) (by decide +kernel)) rfl
theorem cod_X2_standsIn : Cond.code yX2_standsIn cX2_standsIn 3 (some .boolean) ∈ wB := inB (List.mem_of_getElem? (i := 403) (by decide +kernel)) rfl
theorem lk_L_48 : Cond.methodLink RL 48 yX3_mast ∈ wB := inB (List.mem_of_getElem? (i := 404) (by decide +kernel)) rfl
theorem ins_X3_mast : Cond.instanceMethod yX3_mast ∈ wB := inB (List.mem_of_getElem? (i := 405) (by decide +kernel)) rfl
theorem sel_X3_mast : Cond.selects RX3 yX3_mast yX3_mast ∈ wB := inB (List.mem_of_getElem? (i := 406) (by decide +kernel)) rfl
theorem cod_X3_mast : Cond.code yX3_mast cX3_mast 3 (some .int) ∈ wB := inB (List.mem_of_getElem? (i := 407) (by decide +kernel)) rfl
theorem lk_X3_78 : Cond.methodLink RX3 78 yX2_putMastUp ∈ wB := inB (List.mem_of_getElem? (i := 408) (by decide +kernel)) rfl
theorem ins_X2_putMastUp : Cond.instanceMethod yX2_putMastUp ∈ wB := inB (List.mem_of_getElem? (i := 409) (by decide +kernel)) rfl
theorem sel_X2_putMastUp : Cond.selects RX2 yX2_putMastUp yX2_putMastUp ∈ wB := inB (List.mem_of_getElem? (i := 410) (by decide +kernel)) rfl
theorem cod_X2_putMastUp : Cond.code yX2_putMastUp cX2_putMastUp 3 (some .int) ∈ wB := inB (List.mem_of_getElem? (i := 411) (by decide +kernel)) rfl
theorem lk_X3_81 : Cond.methodLink RX3 81 yX2_takeMastOff ∈ wB := inB (List.mem_of_getElem? (i := 412) (by decide +kernel)) rfl
theorem ins_X2_takeMastOff : Cond.instanceMethod yX2_takeMastOff ∈ wB := inB (List.mem_of_getElem? (i := 413) (by decide +kernel)) rfl
theorem sel_X2_takeMastOff : Cond.selects RX2 yX2_takeMastOff yX2_takeMastOff ∈ wB := inB (List.mem_of_getElem? (i := 414) (by decide +kernel)) rfl
theorem cod_X2_takeMastOff : Cond.code yX2_takeMastOff cX2_takeMastOff 3 (some .int) ∈ wB := inB (List.mem_of_getElem? (i := 415) (by decide +kernel)) rfl
theorem lk_X2_168 : Cond.methodLink RX2 168 yX2_rackFor ∈ wB := inB (List.mem_of_getElem? (i := 416) (by decide +kernel)) rfl
theorem ins_X2_rackFor : Cond.instanceMethod yX2_rackFor ∈ wB := inB (List.mem_of_getElem? (i := 418) (by decide +kernel)) rfl
theorem cod_X2_rackFor : Cond.code yX2_rackFor cX2_rackFor 3 (some .int) ∈ wB := inB (List.mem_of_getElem? (i := 419) (by decide +kernel)) rfl
theorem lk_X2_165 : Cond.methodLink RX2 165 yX2_mastsIn ∈ wB := inB (List.mem_of_getElem? (i := 420) (by decide +kernel)) rfl
theorem ins_X2_mastsIn : Cond.instanceMethod yX2_mastsIn ∈ wB := inB (List.mem_of_getElem? (i := 421) (by decide +kernel)) rfl
theorem sel_X2_mastsIn : Cond.selects RX2 yX2_mastsIn yX2_mastsIn ∈ wB := inB (List.mem_of_getElem? (i := 422) (by decide +kernel)) rfl
theorem cod_X2_mastsIn : Cond.code yX2_mastsIn cX2_mastsIn 2 (some .int) ∈ wB := inB (List.mem_of_getElem? (i := 423) (by decide +kernel)) rfl
theorem lk_L_53 : Cond.methodLink RL 53 yX3_work ∈ wB := inB (List.mem_of_getElem? (i := 424) (by decide +kernel)) rfl
theorem ins_X3_work : Cond.instanceMethod yX3_work ∈ wB := inB (List.mem_of_getElem? (i := 425) (by decide +kernel)) rfl
theorem sel_X3_work : Cond.selects RX3 yX3_work yX3_work ∈ wB := inB (List.mem_of_getElem? (i := 426) (by decide +kernel)) rfl
theorem cod_X3_work : Cond.code yX3_work cX3_work 3 (some .int) ∈ wB := inB (List.mem_of_getElem? (i := 427) (by decide +kernel)) rfl
theorem lk_X3_84 : Cond.methodLink RX3 84 yX2_orderWork ∈ wB := inB (List.mem_of_getElem? (i := 428) (by decide +kernel)) rfl
theorem ins_X2_orderWork : Cond.instanceMethod yX2_orderWork ∈ wB := inB (List.mem_of_getElem? (i := 429) (by decide +kernel)) rfl
theorem sel_X2_orderWork : Cond.selects RX2 yX2_orderWork yX2_orderWork ∈ wB := inB (List.mem_of_getElem? (i := 430) (by decide +kernel)) rfl
theorem cod_X2_orderWork : Cond.code yX2_orderWork cX2_orderWork 4 (some .int) ∈ wB := inB (List.mem_of_getElem? (i := 431) (by decide +kernel)) rfl
theorem lk_L_57 : Cond.methodLink RL 57 yX3_pass ∈ wB := inB (List.mem_of_getElem? (i := 432) (by decide +kernel)) rfl
theorem ins_X3_pass : Cond.instanceMethod yX3_pass ∈ wB := inB (List.mem_of_getElem? (i := 433) (by decide +kernel)) rfl
theorem sel_X3_pass : Cond.selects RX3 yX3_pass yX3_pass ∈ wB := inB (List.mem_of_getElem? (i := 434) (by decide +kernel)) rfl
theorem cod_X3_pass : Cond.code yX3_pass cX3_pass 2 (some .int) ∈ wB := inB (List.mem_of_getElem? (i := 435) (by decide +kernel)) rfl
theorem lk_X3_87 : Cond.methodLink RX3 87 yX2_letPass ∈ wB := inB (List.mem_of_getElem? (i := 436) (by decide +kernel)) rfl
theorem ins_X2_letPass : Cond.instanceMethod yX2_letPass ∈ wB := inB (List.mem_of_getElem? (i := 437) (by decide +kernel)) rfl
theorem sel_X2_letPass : Cond.selects RX2 yX2_letPass yX2_letPass ∈ wB := inB (List.mem_of_getElem? (i := 438) (by decide +kernel)) rfl
theorem cod_X2_letPass : Cond.code yX2_letPass cX2_letPass 3 (some .int) ∈ wB := inB (List.mem_of_getElem? (i := 439) (by decide +kernel)) rfl
theorem lk_L_61 : Cond.methodLink RL 61 yX3_type ∈ wB := inB (List.mem_of_getElem? (i := 440) (by decide +kernel)) rfl
theorem ins_X3_type : Cond.instanceMethod yX3_type ∈ wB := inB (List.mem_of_getElem? (i := 441) (by decide +kernel)) rfl
theorem sel_X3_type : Cond.selects RX3 yX3_type yX3_type ∈ wB := inB (List.mem_of_getElem? (i := 442) (by decide +kernel)) rfl
theorem cod_X3_type : Cond.code yX3_type cX3_type 2 (some .int) ∈ wB := inB (List.mem_of_getElem? (i := 443) (by decide +kernel)) rfl
theorem lk_X3_90 : Cond.methodLink RX3 90 yX1_append ∈ wB := inB (List.mem_of_getElem? (i := 444) (by decide +kernel)) rfl
theorem ins_X1_append : Cond.instanceMethod yX1_append ∈ wB := inB (List.mem_of_getElem? (i := 445) (by decide +kernel)) rfl
theorem sel_X1_append : Cond.selects RX1 yX1_append yX1_append ∈ wB := inB (List.mem_of_getElem? (i := 446) (by decide +kernel)) rfl
theorem cod_X1_append : Cond.code yX1_append cX1_append 2 (some .int) ∈ wB := inB (List.mem_of_getElem? (i := 447) (by decide +kernel)) rfl
theorem lk_L_66 : Cond.methodLink RL 66 yX3_clearText ∈ wB := inB (List.mem_of_getElem? (i := 448) (by decide +kernel)) rfl
theorem ins_X3_clearText : Cond.instanceMethod yX3_clearText ∈ wB := inB (List.mem_of_getElem? (i := 449) (by decide +kernel)) rfl
theorem sel_X3_clearText : Cond.selects RX3 yX3_clearText yX3_clearText ∈ wB := inB (List.mem_of_getElem? (i := 450) (by decide +kernel)) rfl
theorem cod_X3_clearText : Cond.code yX3_clearText cX3_clearText 1 (some .int) ∈ wB := inB (List.mem_of_getElem? (i := 451) (by decide +kernel)) rfl
theorem lk_X3_94 : Cond.methodLink RX3 94 yX1_empty ∈ wB := inB (List.mem_of_getElem? (i := 452) (by decide +kernel)) rfl
theorem ins_X1_empty : Cond.instanceMethod yX1_empty ∈ wB := inB (List.mem_of_getElem? (i := 453) (by decide +kernel)) rfl
theorem sel_X1_empty : Cond.selects RX1 yX1_empty yX1_empty ∈ wB := inB (List.mem_of_getElem? (i := 454) (by decide +kernel)) rfl
theorem cod_X1_empty : Cond.code yX1_empty cX1_empty 2 (some .int) ∈ wB := inB (List.mem_of_getElem? (i := 455) (by decide +kernel)) rfl
theorem lk_L_71 : Cond.methodLink RL 71 yX3_perform ∈ wB := inB (List.mem_of_getElem? (i := 456) (by decide +kernel)) rfl
theorem ins_X3_perform : Cond.instanceMethod yX3_perform ∈ wB := inB (List.mem_of_getElem? (i := 457) (by decide +kernel)) rfl
theorem sel_X3_perform : Cond.selects RX3 yX3_perform yX3_perform ∈ wB := inB (List.mem_of_getElem? (i := 458) (by decide +kernel)) rfl
theorem cod_X3_perform : Cond.code yX3_perform cX3_perform 5 (some .int) ∈ wB := inB (List.mem_of_getElem? (i := 459) (by decide +kernel)) rfl
theorem lk_X3_98 : Cond.methodLink RX3 98 yX1_read ∈ wB := inB (List.mem_of_getElem? (i := 460) (by decide +kernel)) rfl
theorem ins_X1_read : Cond.instanceMethod yX1_read ∈ wB := inB (List.mem_of_getElem? (i := 461) (by decide +kernel)) rfl
theorem sel_X1_read : Cond.selects RX1 yX1_read yX1_read ∈ wB := inB (List.mem_of_getElem? (i := 462) (by decide +kernel)) rfl
theorem cod_X1_read : Cond.code yX1_read cX1_read 1 (some .int) ∈ wB := inB (List.mem_of_getElem? (i := 463) (by decide +kernel)) rfl
theorem lk_X1_35 : Cond.methodLink RX1 35 yX1_readThing ∈ wB := inB (List.mem_of_getElem? (i := 464) (by decide +kernel)) rfl
theorem ins_X1_readThing : Cond.instanceMethod yX1_readThing ∈ wB := inB (List.mem_of_getElem? (i := 466) (by decide +kernel)) rfl
theorem cod_X1_readThing : Cond.code yX1_readThing cX1_readThing 4 (some .boolean) ∈ wB := inB (List.mem_of_getElem? (i := 467) (by decide +kernel)) rfl
theorem lk_X1_43 : Cond.methodLink RX1 43 yX1_readNumber ∈ wB := inB (List.mem_of_getElem? (i := 468) (by decide +kernel)) rfl
theorem ins_X1_readNumber : Cond.instanceMethod yX1_readNumber ∈ wB := inB (List.mem_of_getElem? (i := 470) (by decide +kernel)) rfl
theorem cod_X1_readNumber : Cond.code yX1_readNumber cX1_readNumber 5 (some .int) ∈ wB := inB (List.mem_of_getElem? (i := 471) (by decide +kernel)) rfl
theorem lk_X1_47 : Cond.methodLink RX1 47 yX1_digit ∈ wB := inB (List.mem_of_getElem? (i := 472) (by decide +kernel)) rfl
theorem ins_X1_digit : Cond.instanceMethod yX1_digit ∈ wB := inB (List.mem_of_getElem? (i := 474) (by decide +kernel)) rfl
theorem cod_X1_digit : Cond.code yX1_digit cX1_digit 1 (some .int) ∈ wB := inB (List.mem_of_getElem? (i := 475) (by decide +kernel)) rfl
theorem lk_X1_39 : Cond.methodLink RX1 39 yX1_readCharacter ∈ wB := inB (List.mem_of_getElem? (i := 476) (by decide +kernel)) rfl
theorem ins_X1_readCharacter : Cond.instanceMethod yX1_readCharacter ∈ wB := inB (List.mem_of_getElem? (i := 478) (by decide +kernel)) rfl
theorem cod_X1_readCharacter : Cond.code yX1_readCharacter cX1_readCharacter 2 (some .boolean) ∈ wB := inB (List.mem_of_getElem? (i := 479) (by decide +kernel)) rfl
theorem lk_X3_101 : Cond.methodLink RX3 101 yX1_things ∈ wB := inB (List.mem_of_getElem? (i := 480) (by decide +kernel)) rfl
theorem ins_X1_things : Cond.instanceMethod yX1_things ∈ wB := inB (List.mem_of_getElem? (i := 481) (by decide +kernel)) rfl
theorem sel_X1_things : Cond.selects RX1 yX1_things yX1_things ∈ wB := inB (List.mem_of_getElem? (i := 482) (by decide +kernel)) rfl
theorem cod_X1_things : Cond.code yX1_things cX1_things 1 (some .int) ∈ wB := inB (List.mem_of_getElem? (i := 483) (by decide +kernel)) rfl
theorem lk_X3_104 : Cond.methodLink RX3 104 yX1_sign ∈ wB := inB (List.mem_of_getElem? (i := 484) (by decide +kernel)) rfl
theorem ins_X1_sign : Cond.instanceMethod yX1_sign ∈ wB := inB (List.mem_of_getElem? (i := 485) (by decide +kernel)) rfl
theorem sel_X1_sign : Cond.selects RX1 yX1_sign yX1_sign ∈ wB := inB (List.mem_of_getElem? (i := 486) (by decide +kernel)) rfl
theorem cod_X1_sign : Cond.code yX1_sign cX1_sign 2 (some .char) ∈ wB := inB (List.mem_of_getElem? (i := 487) (by decide +kernel)) rfl
theorem lk_X3_108 : Cond.methodLink RX3 108 yX1_first ∈ wB := inB (List.mem_of_getElem? (i := 488) (by decide +kernel)) rfl
theorem ins_X1_first : Cond.instanceMethod yX1_first ∈ wB := inB (List.mem_of_getElem? (i := 489) (by decide +kernel)) rfl
theorem sel_X1_first : Cond.selects RX1 yX1_first yX1_first ∈ wB := inB (List.mem_of_getElem? (i := 490) (by decide +kernel)) rfl
theorem cod_X1_first : Cond.code yX1_first cX1_first 2 (some .int) ∈ wB := inB (List.mem_of_getElem? (i := 491) (by decide +kernel)) rfl
theorem lk_X3_111 : Cond.methodLink RX3 111 yX1_second ∈ wB := inB (List.mem_of_getElem? (i := 492) (by decide +kernel)) rfl
theorem ins_X1_second : Cond.instanceMethod yX1_second ∈ wB := inB (List.mem_of_getElem? (i := 493) (by decide +kernel)) rfl
theorem sel_X1_second : Cond.selects RX1 yX1_second yX1_second ∈ wB := inB (List.mem_of_getElem? (i := 494) (by decide +kernel)) rfl
theorem cod_X1_second : Cond.code yX1_second cX1_second 2 (some .int) ∈ wB := inB (List.mem_of_getElem? (i := 495) (by decide +kernel)) rfl
theorem lk_X3_114 : Cond.methodLink RX3 114 yX3_doThing ∈ wB := inB (List.mem_of_getElem? (i := 496) (by decide +kernel)) rfl
theorem ins_X3_doThing : Cond.instanceMethod yX3_doThing ∈ wB := inB (List.mem_of_getElem? (i := 498) (by decide +kernel)) rfl
theorem cod_X3_doThing : Cond.code yX3_doThing cX3_doThing 4 (some .int) ∈ wB := inB (List.mem_of_getElem? (i := 499) (by decide +kernel)) rfl
theorem lk_X3_118 : Cond.methodLink RX3 118 yX0_takeBack ∈ wB := inB (List.mem_of_getElem? (i := 500) (by decide +kernel)) rfl
theorem ins_X0_takeBack : Cond.instanceMethod yX0_takeBack ∈ wB := inB (List.mem_of_getElem? (i := 501) (by decide +kernel)) rfl
theorem sel_X0_takeBack : Cond.selects RX0 yX0_takeBack yX0_takeBack ∈ wB := inB (List.mem_of_getElem? (i := 502) (by decide +kernel)) rfl
theorem cod_X0_takeBack : Cond.code yX0_takeBack cX0_takeBack 2 none ∈ wB := inB (List.mem_of_getElem? (i := 503) (by decide +kernel)) rfl
theorem lk_L_75 : Cond.methodLink RL 75 yX3_stopped ∈ wB := inB (List.mem_of_getElem? (i := 504) (by decide +kernel)) rfl
theorem ins_X3_stopped : Cond.instanceMethod yX3_stopped ∈ wB := inB (List.mem_of_getElem? (i := 505) (by decide +kernel)) rfl
theorem sel_X3_stopped : Cond.selects RX3 yX3_stopped yX3_stopped ∈ wB := inB (List.mem_of_getElem? (i := 506) (by decide +kernel)) rfl
theorem cod_X3_stopped : Cond.code yX3_stopped cX3_stopped 2 (some .int) ∈ wB := inB (List.mem_of_getElem? (i := 507) (by decide +kernel)) rfl
theorem lk_L_79 : Cond.methodLink RL 79 yX3_undo ∈ wB := inB (List.mem_of_getElem? (i := 508) (by decide +kernel)) rfl
theorem ins_X3_undo : Cond.instanceMethod yX3_undo ∈ wB := inB (List.mem_of_getElem? (i := 509) (by decide +kernel)) rfl
theorem sel_X3_undo : Cond.selects RX3 yX3_undo yX3_undo ∈ wB := inB (List.mem_of_getElem? (i := 510) (by decide +kernel)) rfl
theorem cod_X3_undo : Cond.code yX3_undo cX3_undo 1 (some .int) ∈ wB := inB (List.mem_of_getElem? (i := 511) (by decide +kernel)) rfl
theorem lk_X3_121 : Cond.methodLink RX3 121 yX0_stepBack ∈ wB := inB (List.mem_of_getElem? (i := 512) (by decide +kernel)) rfl
theorem ins_X0_stepBack : Cond.instanceMethod yX0_stepBack ∈ wB := inB (List.mem_of_getElem? (i := 513) (by decide +kernel)) rfl
theorem sel_X0_stepBack : Cond.selects RX0 yX0_stepBack yX0_stepBack ∈ wB := inB (List.mem_of_getElem? (i := 514) (by decide +kernel)) rfl
theorem cod_X0_stepBack : Cond.code yX0_stepBack cX0_stepBack 2 (some .int) ∈ wB := inB (List.mem_of_getElem? (i := 515) (by decide +kernel)) rfl
theorem lk_X0_33 : Cond.methodLink RX0 33 yX0_takeBack ∈ wB := inB (List.mem_of_getElem? (i := 516) (by decide +kernel)) rfl
theorem lk_L_83 : Cond.methodLink RL 83 yX3_keep ∈ wB := inB (List.mem_of_getElem? (i := 517) (by decide +kernel)) rfl
theorem ins_X3_keep : Cond.instanceMethod yX3_keep ∈ wB := inB (List.mem_of_getElem? (i := 518) (by decide +kernel)) rfl
theorem sel_X3_keep : Cond.selects RX3 yX3_keep yX3_keep ∈ wB := inB (List.mem_of_getElem? (i := 519) (by decide +kernel)) rfl
theorem cod_X3_keep : Cond.code yX3_keep cX3_keep 1 (some .int) ∈ wB := inB (List.mem_of_getElem? (i := 520) (by decide +kernel)) rfl
theorem lk_X3_125 : Cond.methodLink RX3 125 yX2_copyFrom ∈ wB := inB (List.mem_of_getElem? (i := 521) (by decide +kernel)) rfl
theorem lk_X3_128 : Cond.methodLink RX3 128 yX2_boats ∈ wB := inB (List.mem_of_getElem? (i := 522) (by decide +kernel)) rfl
theorem lk_L_87 : Cond.methodLink RL 87 yX3_restore ∈ wB := inB (List.mem_of_getElem? (i := 523) (by decide +kernel)) rfl
theorem ins_X3_restore : Cond.instanceMethod yX3_restore ∈ wB := inB (List.mem_of_getElem? (i := 524) (by decide +kernel)) rfl
theorem sel_X3_restore : Cond.selects RX3 yX3_restore yX3_restore ∈ wB := inB (List.mem_of_getElem? (i := 525) (by decide +kernel)) rfl
theorem cod_X3_restore : Cond.code yX3_restore cX3_restore 1 (some .int) ∈ wB := inB (List.mem_of_getElem? (i := 526) (by decide +kernel)) rfl
theorem lk_L_91 : Cond.methodLink RL 91 yX3_boat ∈ wB := inB (List.mem_of_getElem? (i := 527) (by decide +kernel)) rfl
theorem ins_X3_boat : Cond.instanceMethod yX3_boat ∈ wB := inB (List.mem_of_getElem? (i := 528) (by decide +kernel)) rfl
theorem sel_X3_boat : Cond.selects RX3 yX3_boat yX3_boat ∈ wB := inB (List.mem_of_getElem? (i := 529) (by decide +kernel)) rfl
theorem cod_X3_boat : Cond.code yX3_boat cX3_boat 3 (some .int) ∈ wB := inB (List.mem_of_getElem? (i := 530) (by decide +kernel)) rfl
theorem lk_X3_131 : Cond.methodLink RX3 131 yX2_knows ∈ wB := inB (List.mem_of_getElem? (i := 531) (by decide +kernel)) rfl
theorem lk_X3_135 : Cond.methodLink RX3 135 yX2_isFact ∈ wB := inB (List.mem_of_getElem? (i := 532) (by decide +kernel)) rfl
theorem stc_X2_isFact : Cond.static yX2_isFact ∈ wB := inB (List.mem_of_getElem? (i := 533) (by decide +kernel)) rfl
theorem cod_X2_isFact : Cond.code yX2_isFact cX2_isFact 1 (some .boolean) ∈ wB := inB (List.mem_of_getElem? (i := 534) (by decide +kernel)) rfl
theorem lk_X3_138 : Cond.methodLink RX3 138 yX2_fact ∈ wB := inB (List.mem_of_getElem? (i := 535) (by decide +kernel)) rfl
theorem lk_L_95 : Cond.methodLink RL 95 yX3_row ∈ wB := inB (List.mem_of_getElem? (i := 536) (by decide +kernel)) rfl
theorem ins_X3_row : Cond.instanceMethod yX3_row ∈ wB := inB (List.mem_of_getElem? (i := 537) (by decide +kernel)) rfl
theorem sel_X3_row : Cond.selects RX3 yX3_row yX3_row ∈ wB := inB (List.mem_of_getElem? (i := 538) (by decide +kernel)) rfl
theorem cod_X3_row : Cond.code yX3_row cX3_row 3 (some .int) ∈ wB := inB (List.mem_of_getElem? (i := 539) (by decide +kernel)) rfl
theorem lk_X3_141 : Cond.methodLink RX3 141 yX2_isRow ∈ wB := inB (List.mem_of_getElem? (i := 540) (by decide +kernel)) rfl
theorem lk_X3_144 : Cond.methodLink RX3 144 yX2_metresOf ∈ wB := inB (List.mem_of_getElem? (i := 541) (by decide +kernel)) rfl
theorem lk_X3_147 : Cond.methodLink RX3 147 yX2_metresTaken ∈ wB := inB (List.mem_of_getElem? (i := 542) (by decide +kernel)) rfl
theorem lk_X3_150 : Cond.methodLink RX3 150 yX2_boatsIn ∈ wB := inB (List.mem_of_getElem? (i := 543) (by decide +kernel)) rfl
theorem lk_X3_153 : Cond.methodLink RX3 153 yX2_boatAt ∈ wB := inB (List.mem_of_getElem? (i := 544) (by decide +kernel)) rfl
theorem ins_X2_boatAt : Cond.instanceMethod yX2_boatAt ∈ wB := inB (List.mem_of_getElem? (i := 545) (by decide +kernel)) rfl
theorem sel_X2_boatAt : Cond.selects RX2 yX2_boatAt yX2_boatAt ∈ wB := inB (List.mem_of_getElem? (i := 546) (by decide +kernel)) rfl
theorem cod_X2_boatAt : Cond.code yX2_boatAt cX2_boatAt 4 (some .int) ∈ wB := inB (List.mem_of_getElem? (i := 547) (by decide +kernel)) rfl
theorem lk_L_99 : Cond.methodLink RL 99 yX3_stands ∈ wB := inB (List.mem_of_getElem? (i := 548) (by decide +kernel)) rfl
theorem ins_X3_stands : Cond.instanceMethod yX3_stands ∈ wB := inB (List.mem_of_getElem? (i := 549) (by decide +kernel)) rfl
theorem sel_X3_stands : Cond.selects RX3 yX3_stands yX3_stands ∈ wB := inB (List.mem_of_getElem? (i := 550) (by decide +kernel)) rfl
theorem cod_X3_stands : Cond.code yX3_stands cX3_stands 3 (some .int) ∈ wB := inB (List.mem_of_getElem? (i := 551) (by decide +kernel)) rfl
theorem lk_L_103 : Cond.methodLink RL 103 yX3_cradle ∈ wB := inB (List.mem_of_getElem? (i := 552) (by decide +kernel)) rfl
theorem ins_X3_cradle : Cond.instanceMethod yX3_cradle ∈ wB := inB (List.mem_of_getElem? (i := 553) (by decide +kernel)) rfl
theorem sel_X3_cradle : Cond.selects RX3 yX3_cradle yX3_cradle ∈ wB := inB (List.mem_of_getElem? (i := 554) (by decide +kernel)) rfl
theorem cod_X3_cradle : Cond.code yX3_cradle cX3_cradle 3 (some .int) ∈ wB := inB (List.mem_of_getElem? (i := 555) (by decide +kernel)) rfl
theorem lk_X3_156 : Cond.methodLink RX3 156 yX2_isKind ∈ wB := inB (List.mem_of_getElem? (i := 556) (by decide +kernel)) rfl
theorem lk_X3_159 : Cond.methodLink RX3 159 yX2_cradlesOf ∈ wB := inB (List.mem_of_getElem? (i := 557) (by decide +kernel)) rfl
theorem ins_X2_cradlesOf : Cond.instanceMethod yX2_cradlesOf ∈ wB := inB (List.mem_of_getElem? (i := 558) (by decide +kernel)) rfl
theorem sel_X2_cradlesOf : Cond.selects RX2 yX2_cradlesOf yX2_cradlesOf ∈ wB := inB (List.mem_of_getElem? (i := 559) (by decide +kernel)) rfl
theorem cod_X2_cradlesOf : Cond.code yX2_cradlesOf cX2_cradlesOf 2 (some .int) ∈ wB := inB (List.mem_of_getElem? (i := 560) (by decide +kernel)) rfl
theorem lk_X3_162 : Cond.methodLink RX3 162 yX2_cradlesTaken ∈ wB := inB (List.mem_of_getElem? (i := 561) (by decide +kernel)) rfl
theorem lk_X3_165 : Cond.methodLink RX3 165 yX2_bears ∈ wB := inB (List.mem_of_getElem? (i := 562) (by decide +kernel)) rfl
theorem lk_L_107 : Cond.methodLink RL 107 yX3_tide ∈ wB := inB (List.mem_of_getElem? (i := 563) (by decide +kernel)) rfl
theorem ins_X3_tide : Cond.instanceMethod yX3_tide ∈ wB := inB (List.mem_of_getElem? (i := 564) (by decide +kernel)) rfl
theorem sel_X3_tide : Cond.selects RX3 yX3_tide yX3_tide ∈ wB := inB (List.mem_of_getElem? (i := 565) (by decide +kernel)) rfl
theorem cod_X3_tide : Cond.code yX3_tide cX3_tide 2 (some .int) ∈ wB := inB (List.mem_of_getElem? (i := 566) (by decide +kernel)) rfl
theorem lk_X3_168 : Cond.methodLink RX3 168 yX3_within ∈ wB := inB (List.mem_of_getElem? (i := 567) (by decide +kernel)) rfl
theorem lk_X3_172 : Cond.methodLink RX3 172 yX2_tideOn ∈ wB := inB (List.mem_of_getElem? (i := 568) (by decide +kernel)) rfl
theorem lk_L_111 : Cond.methodLink RL 111 yX3_liftReason ∈ wB := inB (List.mem_of_getElem? (i := 569) (by decide +kernel)) rfl
theorem ins_X3_liftReason : Cond.instanceMethod yX3_liftReason ∈ wB := inB (List.mem_of_getElem? (i := 570) (by decide +kernel)) rfl
theorem sel_X3_liftReason : Cond.selects RX3 yX3_liftReason yX3_liftReason ∈ wB := inB (List.mem_of_getElem? (i := 571) (by decide +kernel)) rfl
theorem cod_X3_liftReason : Cond.code yX3_liftReason cX3_liftReason 3 (some .int) ∈ wB := inB (List.mem_of_getElem? (i := 572) (by decide +kernel)) rfl
theorem lk_X3_175 : Cond.methodLink RX3 175 yX2_whyNoLift ∈ wB := inB (List.mem_of_getElem? (i := 573) (by decide +kernel)) rfl
theorem lk_L_115 : Cond.methodLink RL 115 yX3_launchReason ∈ wB := inB (List.mem_of_getElem? (i := 574) (by decide +kernel)) rfl
theorem ins_X3_launchReason : Cond.instanceMethod yX3_launchReason ∈ wB := inB (List.mem_of_getElem? (i := 575) (by decide +kernel)) rfl
theorem sel_X3_launchReason : Cond.selects RX3 yX3_launchReason yX3_launchReason ∈ wB := inB (List.mem_of_getElem? (i := 576) (by decide +kernel)) rfl
theorem cod_X3_launchReason : Cond.code yX3_launchReason cX3_launchReason 2 (some .int) ∈ wB := inB (List.mem_of_getElem? (i := 577) (by decide +kernel)) rfl
theorem lk_X3_178 : Cond.methodLink RX3 178 yX2_whyNoLaunch ∈ wB := inB (List.mem_of_getElem? (i := 578) (by decide +kernel)) rfl
theorem lk_L_119 : Cond.methodLink RL 119 yX3_blockers ∈ wB := inB (List.mem_of_getElem? (i := 579) (by decide +kernel)) rfl
theorem ins_X3_blockers : Cond.instanceMethod yX3_blockers ∈ wB := inB (List.mem_of_getElem? (i := 580) (by decide +kernel)) rfl
theorem sel_X3_blockers : Cond.selects RX3 yX3_blockers yX3_blockers ∈ wB := inB (List.mem_of_getElem? (i := 581) (by decide +kernel)) rfl
theorem cod_X3_blockers : Cond.code yX3_blockers cX3_blockers 2 (some .int) ∈ wB := inB (List.mem_of_getElem? (i := 582) (by decide +kernel)) rfl
theorem lk_X3_181 : Cond.methodLink RX3 181 yX2_isAshore ∈ wB := inB (List.mem_of_getElem? (i := 583) (by decide +kernel)) rfl
theorem lk_X3_184 : Cond.methodLink RX3 184 yX2_boatsFartherOut ∈ wB := inB (List.mem_of_getElem? (i := 584) (by decide +kernel)) rfl
theorem lk_L_123 : Cond.methodLink RL 123 yX3_launchDay ∈ wB := inB (List.mem_of_getElem? (i := 585) (by decide +kernel)) rfl
theorem ins_X3_launchDay : Cond.instanceMethod yX3_launchDay ∈ wB := inB (List.mem_of_getElem? (i := 586) (by decide +kernel)) rfl
theorem sel_X3_launchDay : Cond.selects RX3 yX3_launchDay yX3_launchDay ∈ wB := inB (List.mem_of_getElem? (i := 587) (by decide +kernel)) rfl
theorem cod_X3_launchDay : Cond.code yX3_launchDay cX3_launchDay 2 (some .int) ∈ wB := inB (List.mem_of_getElem? (i := 588) (by decide +kernel)) rfl
theorem lk_X3_187 : Cond.methodLink RX3 187 yX2_firstLaunchDay ∈ wB := inB (List.mem_of_getElem? (i := 589) (by decide +kernel)) rfl
theorem ins_X2_firstLaunchDay : Cond.instanceMethod yX2_firstLaunchDay ∈ wB := inB (List.mem_of_getElem? (i := 590) (by decide +kernel)) rfl
theorem sel_X2_firstLaunchDay : Cond.selects RX2 yX2_firstLaunchDay yX2_firstLaunchDay ∈ wB := inB (List.mem_of_getElem? (i := 591) (by decide +kernel)) rfl
theorem cod_X2_firstLaunchDay : Cond.code yX2_firstLaunchDay cX2_firstLaunchDay 4 (some .int) ∈ wB := inB (List.mem_of_getElem? (i := 592) (by decide +kernel)) rfl
theorem lk_L_127 : Cond.methodLink RL 127 yX3_bestRow ∈ wB := inB (List.mem_of_getElem? (i := 593) (by decide +kernel)) rfl
theorem ins_X3_bestRow : Cond.instanceMethod yX3_bestRow ∈ wB := inB (List.mem_of_getElem? (i := 594) (by decide +kernel)) rfl
theorem sel_X3_bestRow : Cond.selects RX3 yX3_bestRow yX3_bestRow ∈ wB := inB (List.mem_of_getElem? (i := 595) (by decide +kernel)) rfl
theorem cod_X3_bestRow : Cond.code yX3_bestRow cX3_bestRow 2 (some .int) ∈ wB := inB (List.mem_of_getElem? (i := 596) (by decide +kernel)) rfl
theorem lk_X3_190 : Cond.methodLink RX3 190 yX2_tightestRow ∈ wB := inB (List.mem_of_getElem? (i := 597) (by decide +kernel)) rfl
theorem ins_X2_tightestRow : Cond.instanceMethod yX2_tightestRow ∈ wB := inB (List.mem_of_getElem? (i := 598) (by decide +kernel)) rfl
theorem sel_X2_tightestRow : Cond.selects RX2 yX2_tightestRow yX2_tightestRow ∈ wB := inB (List.mem_of_getElem? (i := 599) (by decide +kernel)) rfl
theorem cod_X2_tightestRow : Cond.code yX2_tightestRow cX2_tightestRow 5 (some .int) ∈ wB := inB (List.mem_of_getElem? (i := 600) (by decide +kernel)) rfl
theorem lk_L_131 : Cond.methodLink RL 131 yX3_count ∈ wB := inB (List.mem_of_getElem? (i := 601) (by decide +kernel)) rfl
theorem ins_X3_count : Cond.instanceMethod yX3_count ∈ wB := inB (List.mem_of_getElem? (i := 602) (by decide +kernel)) rfl
theorem sel_X3_count : Cond.selects RX3 yX3_count yX3_count ∈ wB := inB (List.mem_of_getElem? (i := 603) (by decide +kernel)) rfl
theorem cod_X3_count : Cond.code yX3_count cX3_count 2 (some .int) ∈ wB := inB (List.mem_of_getElem? (i := 604) (by decide +kernel)) rfl
theorem lk_X3_193 : Cond.methodLink RX3 193 yX2_today ∈ wB := inB (List.mem_of_getElem? (i := 605) (by decide +kernel)) rfl
theorem ins_X2_today : Cond.instanceMethod yX2_today ∈ wB := inB (List.mem_of_getElem? (i := 606) (by decide +kernel)) rfl
theorem sel_X2_today : Cond.selects RX2 yX2_today yX2_today ∈ wB := inB (List.mem_of_getElem? (i := 607) (by decide +kernel)) rfl
theorem cod_X2_today : Cond.code yX2_today cX2_today 1 (some .int) ∈ wB := inB (List.mem_of_getElem? (i := 608) (by decide +kernel)) rfl
theorem lk_X3_196 : Cond.methodLink RX3 196 yX2_liftsLeft ∈ wB := inB (List.mem_of_getElem? (i := 609) (by decide +kernel)) rfl
theorem lk_X3_199 : Cond.methodLink RX3 199 yX2_boatsAshore ∈ wB := inB (List.mem_of_getElem? (i := 610) (by decide +kernel)) rfl
theorem ins_X2_boatsAshore : Cond.instanceMethod yX2_boatsAshore ∈ wB := inB (List.mem_of_getElem? (i := 611) (by decide +kernel)) rfl
theorem sel_X2_boatsAshore : Cond.selects RX2 yX2_boatsAshore yX2_boatsAshore ∈ wB := inB (List.mem_of_getElem? (i := 612) (by decide +kernel)) rfl
theorem cod_X2_boatsAshore : Cond.code yX2_boatsAshore cX2_boatsAshore 1 (some .int) ∈ wB := inB (List.mem_of_getElem? (i := 613) (by decide +kernel)) rfl
theorem lk_X3_202 : Cond.methodLink RX3 202 yX2_boatsWithWork ∈ wB := inB (List.mem_of_getElem? (i := 614) (by decide +kernel)) rfl
theorem ins_X2_boatsWithWork : Cond.instanceMethod yX2_boatsWithWork ∈ wB := inB (List.mem_of_getElem? (i := 615) (by decide +kernel)) rfl
theorem sel_X2_boatsWithWork : Cond.selects RX2 yX2_boatsWithWork yX2_boatsWithWork ∈ wB := inB (List.mem_of_getElem? (i := 616) (by decide +kernel)) rfl
theorem cod_X2_boatsWithWork : Cond.code yX2_boatsWithWork cX2_boatsWithWork 3 (some .int) ∈ wB := inB (List.mem_of_getElem? (i := 617) (by decide +kernel)) rfl
theorem lk_X3_205 : Cond.methodLink RX3 205 yX2_liftsSoFar ∈ wB := inB (List.mem_of_getElem? (i := 618) (by decide +kernel)) rfl
theorem ins_X2_liftsSoFar : Cond.instanceMethod yX2_liftsSoFar ∈ wB := inB (List.mem_of_getElem? (i := 619) (by decide +kernel)) rfl
theorem sel_X2_liftsSoFar : Cond.selects RX2 yX2_liftsSoFar yX2_liftsSoFar ∈ wB := inB (List.mem_of_getElem? (i := 620) (by decide +kernel)) rfl
theorem cod_X2_liftsSoFar : Cond.code yX2_liftsSoFar cX2_liftsSoFar 1 (some .int) ∈ wB := inB (List.mem_of_getElem? (i := 621) (by decide +kernel)) rfl
theorem lk_X3_208 : Cond.methodLink RX3 208 yX2_launchesSoFar ∈ wB := inB (List.mem_of_getElem? (i := 622) (by decide +kernel)) rfl
theorem ins_X2_launchesSoFar : Cond.instanceMethod yX2_launchesSoFar ∈ wB := inB (List.mem_of_getElem? (i := 623) (by decide +kernel)) rfl
theorem sel_X2_launchesSoFar : Cond.selects RX2 yX2_launchesSoFar yX2_launchesSoFar ∈ wB := inB (List.mem_of_getElem? (i := 624) (by decide +kernel)) rfl
theorem cod_X2_launchesSoFar : Cond.code yX2_launchesSoFar cX2_launchesSoFar 1 (some .int) ∈ wB := inB (List.mem_of_getElem? (i := 625) (by decide +kernel)) rfl
theorem lk_X3_211 : Cond.methodLink RX3 211 yX2_mastsIn ∈ wB := inB (List.mem_of_getElem? (i := 626) (by decide +kernel)) rfl
theorem lk_X3_214 : Cond.methodLink RX3 214 yX2_setting ∈ wB := inB (List.mem_of_getElem? (i := 627) (by decide +kernel)) rfl
theorem ins_X2_setting : Cond.instanceMethod yX2_setting ∈ wB := inB (List.mem_of_getElem? (i := 628) (by decide +kernel)) rfl
theorem sel_X2_setting : Cond.selects RX2 yX2_setting yX2_setting ∈ wB := inB (List.mem_of_getElem? (i := 629) (by decide +kernel)) rfl
theorem cod_X2_setting : Cond.code yX2_setting cX2_setting 2 (some .int) ∈ wB := inB (List.mem_of_getElem? (i := 630) (by decide +kernel)) rfl
theorem lk_X3_217 : Cond.methodLink RX3 217 yX0_states ∈ wB := inB (List.mem_of_getElem? (i := 631) (by decide +kernel)) rfl
theorem ins_X0_states : Cond.instanceMethod yX0_states ∈ wB := inB (List.mem_of_getElem? (i := 632) (by decide +kernel)) rfl
theorem sel_X0_states : Cond.selects RX0 yX0_states yX0_states ∈ wB := inB (List.mem_of_getElem? (i := 633) (by decide +kernel)) rfl
theorem cod_X0_states : Cond.code yX0_states cX0_states 1 (some .int) ∈ wB := inB (List.mem_of_getElem? (i := 634) (by decide +kernel)) rfl
theorem lk_X3_220 : Cond.methodLink RX3 220 yX1_length ∈ wB := inB (List.mem_of_getElem? (i := 635) (by decide +kernel)) rfl
theorem ins_X1_length : Cond.instanceMethod yX1_length ∈ wB := inB (List.mem_of_getElem? (i := 636) (by decide +kernel)) rfl
theorem sel_X1_length : Cond.selects RX1 yX1_length yX1_length ∈ wB := inB (List.mem_of_getElem? (i := 637) (by decide +kernel)) rfl
theorem cod_X1_length : Cond.code yX1_length cX1_length 1 (some .int) ∈ wB := inB (List.mem_of_getElem? (i := 638) (by decide +kernel)) rfl
theorem cl_L_10 : Cond.classLink RL 10 RX4 ∈ wB := inB (List.mem_of_getElem? (i := 639) (by decide +kernel)) rfl
theorem inst_X4 : Cond.instantiable RX4 13 ∈ wB := inB (List.mem_of_getElem? (i := 640) (by decide +kernel)) rfl
theorem lk_L_12 : Cond.methodLink RL 12 yX4_init ∈ wB := inB (List.mem_of_getElem? (i := 641) (by decide +kernel)) rfl
theorem ins_X4_init : Cond.instanceMethod yX4_init ∈ wB := inB (List.mem_of_getElem? (i := 642) (by decide +kernel)) rfl
theorem cod_X4_init : Cond.code yX4_init cX4_init 2 none ∈ wB := inB (List.mem_of_getElem? (i := 643) (by decide +kernel)) rfl
theorem lk_X4_1 : Cond.methodLink RX4 1 objectInit ∈ wB := inB (List.mem_of_getElem? (i := 644) (by decide +kernel)) rfl
theorem fl_X4_7 : Cond.fieldLink RX4 7 "WinterYardModel" "z" "[I" ∈ wB := inB (List.mem_of_getElem? (i := 645) (by decide +kernel)) rfl
theorem fl_X4_13 : Cond.fieldLink RX4 13 "WinterYardModel" "aside" "[I" ∈ wB := inB (List.mem_of_getElem? (i := 646) (by decide +kernel)) rfl
theorem fl_X4_16 : Cond.fieldLink RX4 16 "WinterYardModel" "old" "[I" ∈ wB := inB (List.mem_of_getElem? (i := 647) (by decide +kernel)) rfl
theorem fl_X4_74 : Cond.fieldLink RX4 74 "WinterYardModel" "states" "I" ∈ wB := inB (List.mem_of_getElem? (i := 648) (by decide +kernel)) rfl
theorem fl_X4_19 : Cond.fieldLink RX4 19 "WinterYardModel" "kept" "[I" ∈ wB := inB (List.mem_of_getElem? (i := 649) (by decide +kernel)) rfl
theorem fl_X4_77 : Cond.fieldLink RX4 77 "WinterYardModel" "isKept" "Z" ∈ wB := inB (List.mem_of_getElem? (i := 650) (by decide +kernel)) rfl
theorem fl_X4_22 : Cond.fieldLink RX4 22 "WinterYardModel" "text" "[I" ∈ wB := inB (List.mem_of_getElem? (i := 651) (by decide +kernel)) rfl
theorem fl_X4_166 : Cond.fieldLink RX4 166 "WinterYardModel" "length" "I" ∈ wB := inB (List.mem_of_getElem? (i := 652) (by decide +kernel)) rfl
theorem fl_X4_25 : Cond.fieldLink RX4 25 "WinterYardModel" "stopNumber" "I" ∈ wB := inB (List.mem_of_getElem? (i := 653) (by decide +kernel)) rfl
theorem fl_X4_29 : Cond.fieldLink RX4 29 "WinterYardModel" "stopError" "I" ∈ wB := inB (List.mem_of_getElem? (i := 654) (by decide +kernel)) rfl
theorem fl_X4_181 : Cond.fieldLink RX4 181 "WinterYardModel" "sign" "I" ∈ wB := inB (List.mem_of_getElem? (i := 655) (by decide +kernel)) rfl
theorem fl_X4_175 : Cond.fieldLink RX4 175 "WinterYardModel" "first" "I" ∈ wB := inB (List.mem_of_getElem? (i := 656) (by decide +kernel)) rfl
theorem fl_X4_178 : Cond.fieldLink RX4 178 "WinterYardModel" "second" "I" ∈ wB := inB (List.mem_of_getElem? (i := 657) (by decide +kernel)) rfl
theorem lk_L_82 : Cond.methodLink RL 82 yX4_undo ∈ wB := inB (List.mem_of_getElem? (i := 685) (by decide +kernel)) rfl
theorem ins_X4_undo : Cond.instanceMethod yX4_undo ∈ wB := inB (List.mem_of_getElem? (i := 686) (by decide +kernel)) rfl
theorem sel_X4_undo : Cond.selects RX4 yX4_undo yX4_undo ∈ wB := inB (List.mem_of_getElem? (i := 687) (by decide +kernel)) rfl
theorem cod_X4_undo : Cond.code yX4_undo cX4_undo 2 (some .int) ∈ wB := inB (List.mem_of_getElem? (i := 688) (by decide +kernel)) rfl
theorem lk_L_86 : Cond.methodLink RL 86 yX4_keep ∈ wB := inB (List.mem_of_getElem? (i := 689) (by decide +kernel)) rfl
theorem ins_X4_keep : Cond.instanceMethod yX4_keep ∈ wB := inB (List.mem_of_getElem? (i := 690) (by decide +kernel)) rfl
theorem sel_X4_keep : Cond.selects RX4 yX4_keep yX4_keep ∈ wB := inB (List.mem_of_getElem? (i := 691) (by decide +kernel)) rfl
theorem cod_X4_keep : Cond.code yX4_keep cX4_keep 2 (some .int) ∈ wB := inB (List.mem_of_getElem? (i := 692) (by decide +kernel)) rfl
theorem lk_X4_81 : Cond.methodLink RX4 81 yX4_boats ∈ wB := inB (List.mem_of_getElem? (i := 693) (by decide +kernel)) rfl
theorem ins_X4_boats : Cond.instanceMethod yX4_boats ∈ wB := inB (List.mem_of_getElem? (i := 695) (by decide +kernel)) rfl
theorem cod_X4_boats : Cond.code yX4_boats cX4_boats 3 (some .int) ∈ wB := inB (List.mem_of_getElem? (i := 696) (by decide +kernel)) rfl
theorem lk_X4_36 : Cond.methodLink RX4 36 yX4_of ∈ wB := inB (List.mem_of_getElem? (i := 697) (by decide +kernel)) rfl
theorem ins_X4_of : Cond.instanceMethod yX4_of ∈ wB := inB (List.mem_of_getElem? (i := 699) (by decide +kernel)) rfl
theorem cod_X4_of : Cond.code yX4_of cX4_of 3 (some .int) ∈ wB := inB (List.mem_of_getElem? (i := 700) (by decide +kernel)) rfl
theorem lk_L_90 : Cond.methodLink RL 90 yX4_restore ∈ wB := inB (List.mem_of_getElem? (i := 701) (by decide +kernel)) rfl
theorem ins_X4_restore : Cond.instanceMethod yX4_restore ∈ wB := inB (List.mem_of_getElem? (i := 702) (by decide +kernel)) rfl
theorem sel_X4_restore : Cond.selects RX4 yX4_restore yX4_restore ∈ wB := inB (List.mem_of_getElem? (i := 703) (by decide +kernel)) rfl
theorem cod_X4_restore : Cond.code yX4_restore cX4_restore 2 (some .int) ∈ wB := inB (List.mem_of_getElem? (i := 704) (by decide +kernel)) rfl
theorem lk_X4_85 : Cond.methodLink RX4 85 yX4_push ∈ wB := inB (List.mem_of_getElem? (i := 705) (by decide +kernel)) rfl
theorem ins_X4_push : Cond.instanceMethod yX4_push ∈ wB := inB (List.mem_of_getElem? (i := 707) (by decide +kernel)) rfl
theorem cod_X4_push : Cond.code yX4_push cX4_push 3 none ∈ wB := inB (List.mem_of_getElem? (i := 708) (by decide +kernel)) rfl
theorem lk_L_17 : Cond.methodLink RL 17 yX4_come ∈ wB := inB (List.mem_of_getElem? (i := 709) (by decide +kernel)) rfl
theorem ins_X4_come : Cond.instanceMethod yX4_come ∈ wB := inB (List.mem_of_getElem? (i := 710) (by decide +kernel)) rfl
theorem sel_X4_come : Cond.selects RX4 yX4_come yX4_come ∈ wB := inB (List.mem_of_getElem? (i := 711) (by decide +kernel)) rfl
theorem cod_X4_come : Cond.code yX4_come cX4_come 6 (some .int) ∈ wB := inB (List.mem_of_getElem? (i := 712) (by decide +kernel)) rfl
theorem lk_X4_89 : Cond.methodLink RX4 89 yX4_isKind ∈ wB := inB (List.mem_of_getElem? (i := 713) (by decide +kernel)) rfl
theorem stc_X4_isKind : Cond.static yX4_isKind ∈ wB := inB (List.mem_of_getElem? (i := 714) (by decide +kernel)) rfl
theorem cod_X4_isKind : Cond.code yX4_isKind cX4_isKind 1 (some .boolean) ∈ wB := inB (List.mem_of_getElem? (i := 715) (by decide +kernel)) rfl
theorem lk_X4_32 : Cond.methodLink RX4 32 yX4_in ∈ wB := inB (List.mem_of_getElem? (i := 716) (by decide +kernel)) rfl
theorem stc_X4_in : Cond.static yX4_in ∈ wB := inB (List.mem_of_getElem? (i := 717) (by decide +kernel)) rfl
theorem cod_X4_in : Cond.code yX4_in cX4_in 3 (some .boolean) ∈ wB := inB (List.mem_of_getElem? (i := 718) (by decide +kernel)) rfl
theorem lk_X4_70 : Cond.methodLink RX4 70 yX4_put ∈ wB := inB (List.mem_of_getElem? (i := 719) (by decide +kernel)) rfl
theorem ins_X4_put : Cond.instanceMethod yX4_put ∈ wB := inB (List.mem_of_getElem? (i := 721) (by decide +kernel)) rfl
theorem cod_X4_put : Cond.code yX4_put cX4_put 4 none ∈ wB := inB (List.mem_of_getElem? (i := 722) (by decide +kernel)) rfl
theorem lk_L_22 : Cond.methodLink RL 22 yX4_goAway ∈ wB := inB (List.mem_of_getElem? (i := 723) (by decide +kernel)) rfl
theorem ins_X4_goAway : Cond.instanceMethod yX4_goAway ∈ wB := inB (List.mem_of_getElem? (i := 724) (by decide +kernel)) rfl
theorem sel_X4_goAway : Cond.selects RX4 yX4_goAway yX4_goAway ∈ wB := inB (List.mem_of_getElem? (i := 725) (by decide +kernel)) rfl
theorem cod_X4_goAway : Cond.code yX4_goAway cX4_goAway 2 (some .int) ∈ wB := inB (List.mem_of_getElem? (i := 726) (by decide +kernel)) rfl
theorem lk_X4_92 : Cond.methodLink RX4 92 yX4_isBoat ∈ wB := inB (List.mem_of_getElem? (i := 727) (by decide +kernel)) rfl
theorem ins_X4_isBoat : Cond.instanceMethod yX4_isBoat ∈ wB := inB (List.mem_of_getElem? (i := 729) (by decide +kernel)) rfl
theorem cod_X4_isBoat : Cond.code yX4_isBoat cX4_isBoat 2 (some .boolean) ∈ wB := inB (List.mem_of_getElem? (i := 730) (by decide +kernel)) rfl
theorem lk_X4_40 : Cond.methodLink RX4 40 yX4_isAshore ∈ wB := inB (List.mem_of_getElem? (i := 731) (by decide +kernel)) rfl
theorem ins_X4_isAshore : Cond.instanceMethod yX4_isAshore ∈ wB := inB (List.mem_of_getElem? (i := 733) (by decide +kernel)) rfl
theorem cod_X4_isAshore : Cond.code yX4_isAshore cX4_isAshore 2 (some .boolean) ∈ wB := inB (List.mem_of_getElem? (i := 734) (by decide +kernel)) rfl
theorem lk_L_27 : Cond.methodLink RL 27 yX4_setCradles ∈ wB := inB (List.mem_of_getElem? (i := 735) (by decide +kernel)) rfl
theorem ins_X4_setCradles : Cond.instanceMethod yX4_setCradles ∈ wB := inB (List.mem_of_getElem? (i := 736) (by decide +kernel)) rfl
theorem sel_X4_setCradles : Cond.selects RX4 yX4_setCradles yX4_setCradles ∈ wB := inB (List.mem_of_getElem? (i := 737) (by decide +kernel)) rfl
theorem cod_X4_setCradles : Cond.code yX4_setCradles cX4_setCradles 3 (some .int) ∈ wB := inB (List.mem_of_getElem? (i := 738) (by decide +kernel)) rfl
theorem lk_X4_44 : Cond.methodLink RX4 44 yX4_taken ∈ wB := inB (List.mem_of_getElem? (i := 739) (by decide +kernel)) rfl
theorem ins_X4_taken : Cond.instanceMethod yX4_taken ∈ wB := inB (List.mem_of_getElem? (i := 741) (by decide +kernel)) rfl
theorem cod_X4_taken : Cond.code yX4_taken cX4_taken 4 (some .int) ∈ wB := inB (List.mem_of_getElem? (i := 742) (by decide +kernel)) rfl
theorem lk_X4_95 : Cond.methodLink RX4 95 yX4_change ∈ wB := inB (List.mem_of_getElem? (i := 743) (by decide +kernel)) rfl
theorem ins_X4_change : Cond.instanceMethod yX4_change ∈ wB := inB (List.mem_of_getElem? (i := 745) (by decide +kernel)) rfl
theorem cod_X4_change : Cond.code yX4_change cX4_change 4 (some .int) ∈ wB := inB (List.mem_of_getElem? (i := 746) (by decide +kernel)) rfl
theorem lk_L_31 : Cond.methodLink RL 31 yX4_setRow ∈ wB := inB (List.mem_of_getElem? (i := 747) (by decide +kernel)) rfl
theorem ins_X4_setRow : Cond.instanceMethod yX4_setRow ∈ wB := inB (List.mem_of_getElem? (i := 748) (by decide +kernel)) rfl
theorem sel_X4_setRow : Cond.selects RX4 yX4_setRow yX4_setRow ∈ wB := inB (List.mem_of_getElem? (i := 749) (by decide +kernel)) rfl
theorem cod_X4_setRow : Cond.code yX4_setRow cX4_setRow 3 (some .int) ∈ wB := inB (List.mem_of_getElem? (i := 750) (by decide +kernel)) rfl
theorem lk_X4_98 : Cond.methodLink RX4 98 yX4_isRow ∈ wB := inB (List.mem_of_getElem? (i := 751) (by decide +kernel)) rfl
theorem stc_X4_isRow : Cond.static yX4_isRow ∈ wB := inB (List.mem_of_getElem? (i := 752) (by decide +kernel)) rfl
theorem cod_X4_isRow : Cond.code yX4_isRow cX4_isRow 1 (some .boolean) ∈ wB := inB (List.mem_of_getElem? (i := 753) (by decide +kernel)) rfl
theorem lk_X4_58 : Cond.methodLink RX4 58 yX4_metresTaken ∈ wB := inB (List.mem_of_getElem? (i := 754) (by decide +kernel)) rfl
theorem ins_X4_metresTaken : Cond.instanceMethod yX4_metresTaken ∈ wB := inB (List.mem_of_getElem? (i := 756) (by decide +kernel)) rfl
theorem cod_X4_metresTaken : Cond.code yX4_metresTaken cX4_metresTaken 4 (some .int) ∈ wB := inB (List.mem_of_getElem? (i := 757) (by decide +kernel)) rfl
theorem lk_X4_54 : Cond.methodLink RX4 54 yX4_isIn ∈ wB := inB (List.mem_of_getElem? (i := 758) (by decide +kernel)) rfl
theorem ins_X4_isIn : Cond.instanceMethod yX4_isIn ∈ wB := inB (List.mem_of_getElem? (i := 760) (by decide +kernel)) rfl
theorem cod_X4_isIn : Cond.code yX4_isIn cX4_isIn 3 (some .boolean) ∈ wB := inB (List.mem_of_getElem? (i := 761) (by decide +kernel)) rfl
theorem lk_L_35 : Cond.methodLink RL 35 yX4_set ∈ wB := inB (List.mem_of_getElem? (i := 762) (by decide +kernel)) rfl
theorem ins_X4_set : Cond.instanceMethod yX4_set ∈ wB := inB (List.mem_of_getElem? (i := 763) (by decide +kernel)) rfl
theorem sel_X4_set : Cond.selects RX4 yX4_set yX4_set ∈ wB := inB (List.mem_of_getElem? (i := 764) (by decide +kernel)) rfl
theorem cod_X4_set : Cond.code yX4_set cX4_set 4 (some .int) ∈ wB := inB (List.mem_of_getElem? (i := 765) (by decide +kernel)) rfl
theorem lk_L_39 : Cond.methodLink RL 39 yX4_lift ∈ wB := inB (List.mem_of_getElem? (i := 766) (by decide +kernel)) rfl
theorem ins_X4_lift : Cond.instanceMethod yX4_lift ∈ wB := inB (List.mem_of_getElem? (i := 767) (by decide +kernel)) rfl
theorem sel_X4_lift : Cond.selects RX4 yX4_lift yX4_lift ∈ wB := inB (List.mem_of_getElem? (i := 768) (by decide +kernel)) rfl
theorem cod_X4_lift : Cond.code yX4_lift cX4_lift 4 (some .int) ∈ wB := inB (List.mem_of_getElem? (i := 769) (by decide +kernel)) rfl
theorem lk_X4_123 : Cond.methodLink RX4 123 yX4_noLift ∈ wB := inB (List.mem_of_getElem? (i := 770) (by decide +kernel)) rfl
theorem ins_X4_noLift : Cond.instanceMethod yX4_noLift ∈ wB := inB (List.mem_of_getElem? (i := 772) (by decide +kernel)) rfl
theorem cod_X4_noLift : Cond.code yX4_noLift cX4_noLift 4 (some .int) ∈ wB := inB (List.mem_of_getElem? (i := 773) (by decide +kernel)) rfl
theorem lk_X4_113 : Cond.methodLink RX4 113 yX4_whyNoLift ∈ wB := inB (List.mem_of_getElem? (i := 774) (by decide +kernel)) rfl
theorem ins_X4_whyNoLift : Cond.instanceMethod yX4_whyNoLift ∈ wB := inB (List.mem_of_getElem? (i := 776) (by decide +kernel)) rfl
theorem cod_X4_whyNoLift : Cond.code yX4_whyNoLift cX4_whyNoLift 3 (some .int) ∈ wB := inB (List.mem_of_getElem? (i := 777) (by decide +kernel)) rfl
theorem lk_X4_101 : Cond.methodLink RX4 101 yX4_tideAt ∈ wB := inB (List.mem_of_getElem? (i := 778) (by decide +kernel)) rfl
theorem ins_X4_tideAt : Cond.instanceMethod yX4_tideAt ∈ wB := inB (List.mem_of_getElem? (i := 780) (by decide +kernel)) rfl
theorem cod_X4_tideAt : Cond.code yX4_tideAt cX4_tideAt 3 (some .int) ∈ wB := inB (List.mem_of_getElem? (i := 781) (by decide +kernel)) rfl
theorem lk_X4_104 : Cond.methodLink RX4 104 yX4_cradleFor ∈ wB := inB (List.mem_of_getElem? (i := 782) (by decide +kernel)) rfl
theorem ins_X4_cradleFor : Cond.instanceMethod yX4_cradleFor ∈ wB := inB (List.mem_of_getElem? (i := 784) (by decide +kernel)) rfl
theorem cod_X4_cradleFor : Cond.code yX4_cradleFor cX4_cradleFor 5 (some .int) ∈ wB := inB (List.mem_of_getElem? (i := 785) (by decide +kernel)) rfl
theorem lk_X4_48 : Cond.methodLink RX4 48 yX4_isFree ∈ wB := inB (List.mem_of_getElem? (i := 786) (by decide +kernel)) rfl
theorem ins_X4_isFree : Cond.instanceMethod yX4_isFree ∈ wB := inB (List.mem_of_getElem? (i := 788) (by decide +kernel)) rfl
theorem cod_X4_isFree : Cond.code yX4_isFree cX4_isFree 2 (some .boolean) ∈ wB := inB (List.mem_of_getElem? (i := 789) (by decide +kernel)) rfl
theorem lk_X4_51 : Cond.methodLink RX4 51 yX4_bears ∈ wB := inB (List.mem_of_getElem? (i := 790) (by decide +kernel)) rfl
theorem stc_X4_bears : Cond.static yX4_bears ∈ wB := inB (List.mem_of_getElem? (i := 791) (by decide +kernel)) rfl
theorem cod_X4_bears : Cond.code yX4_bears cX4_bears 1 (some .int) ∈ wB := inB (List.mem_of_getElem? (i := 792) (by decide +kernel)) rfl
theorem lk_X4_107 : Cond.methodLink RX4 107 yX4_hasRoom ∈ wB := inB (List.mem_of_getElem? (i := 793) (by decide +kernel)) rfl
theorem ins_X4_hasRoom : Cond.instanceMethod yX4_hasRoom ∈ wB := inB (List.mem_of_getElem? (i := 795) (by decide +kernel)) rfl
theorem cod_X4_hasRoom : Cond.code yX4_hasRoom cX4_hasRoom 3 (some .boolean) ∈ wB := inB (List.mem_of_getElem? (i := 796) (by decide +kernel)) rfl
theorem lk_X4_61 : Cond.methodLink RX4 61 yX4_metresLeft ∈ wB := inB (List.mem_of_getElem? (i := 797) (by decide +kernel)) rfl
theorem ins_X4_metresLeft : Cond.instanceMethod yX4_metresLeft ∈ wB := inB (List.mem_of_getElem? (i := 799) (by decide +kernel)) rfl
theorem cod_X4_metresLeft : Cond.code yX4_metresLeft cX4_metresLeft 2 (some .int) ∈ wB := inB (List.mem_of_getElem? (i := 800) (by decide +kernel)) rfl
theorem lk_X4_110 : Cond.methodLink RX4 110 yX4_liftsLeft ∈ wB := inB (List.mem_of_getElem? (i := 801) (by decide +kernel)) rfl
theorem ins_X4_liftsLeft : Cond.instanceMethod yX4_liftsLeft ∈ wB := inB (List.mem_of_getElem? (i := 803) (by decide +kernel)) rfl
theorem cod_X4_liftsLeft : Cond.code yX4_liftsLeft cX4_liftsLeft 1 (some .int) ∈ wB := inB (List.mem_of_getElem? (i := 804) (by decide +kernel)) rfl
theorem lk_X4_126 : Cond.methodLink RX4 126 yX4_doLift ∈ wB := inB (List.mem_of_getElem? (i := 805) (by decide +kernel)) rfl
theorem ins_X4_doLift : Cond.instanceMethod yX4_doLift ∈ wB := inB (List.mem_of_getElem? (i := 807) (by decide +kernel)) rfl
theorem cod_X4_doLift : Cond.code yX4_doLift cX4_doLift 3 (some .int) ∈ wB := inB (List.mem_of_getElem? (i := 808) (by decide +kernel)) rfl
theorem lk_X4_116 : Cond.methodLink RX4 116 yX4_stand ∈ wB := inB (List.mem_of_getElem? (i := 809) (by decide +kernel)) rfl
theorem ins_X4_stand : Cond.instanceMethod yX4_stand ∈ wB := inB (List.mem_of_getElem? (i := 811) (by decide +kernel)) rfl
theorem cod_X4_stand : Cond.code yX4_stand cX4_stand 3 none ∈ wB := inB (List.mem_of_getElem? (i := 812) (by decide +kernel)) rfl
theorem lk_X4_120 : Cond.methodLink RX4 120 yX4_useCrane ∈ wB := inB (List.mem_of_getElem? (i := 813) (by decide +kernel)) rfl
theorem ins_X4_useCrane : Cond.instanceMethod yX4_useCrane ∈ wB := inB (List.mem_of_getElem? (i := 815) (by decide +kernel)) rfl
theorem cod_X4_useCrane : Cond.code yX4_useCrane cX4_useCrane 1 none ∈ wB := inB (List.mem_of_getElem? (i := 816) (by decide +kernel)) rfl
theorem lk_X4_64 : Cond.methodLink RX4 64 yX4_boatsIn ∈ wB := inB (List.mem_of_getElem? (i := 817) (by decide +kernel)) rfl
theorem ins_X4_boatsIn : Cond.instanceMethod yX4_boatsIn ∈ wB := inB (List.mem_of_getElem? (i := 819) (by decide +kernel)) rfl
theorem cod_X4_boatsIn : Cond.code yX4_boatsIn cX4_boatsIn 4 (some .int) ∈ wB := inB (List.mem_of_getElem? (i := 820) (by decide +kernel)) rfl
theorem lk_L_43 : Cond.methodLink RL 43 yX4_launch ∈ wB := inB (List.mem_of_getElem? (i := 821) (by decide +kernel)) rfl
theorem ins_X4_launch : Cond.instanceMethod yX4_launch ∈ wB := inB (List.mem_of_getElem? (i := 822) (by decide +kernel)) rfl
theorem sel_X4_launch : Cond.selects RX4 yX4_launch yX4_launch ∈ wB := inB (List.mem_of_getElem? (i := 823) (by decide +kernel)) rfl
theorem cod_X4_launch : Cond.code yX4_launch cX4_launch 3 (some .int) ∈ wB := inB (List.mem_of_getElem? (i := 824) (by decide +kernel)) rfl
theorem lk_X4_135 : Cond.methodLink RX4 135 yX4_noLaunch ∈ wB := inB (List.mem_of_getElem? (i := 825) (by decide +kernel)) rfl
theorem ins_X4_noLaunch : Cond.instanceMethod yX4_noLaunch ∈ wB := inB (List.mem_of_getElem? (i := 827) (by decide +kernel)) rfl
theorem cod_X4_noLaunch : Cond.code yX4_noLaunch cX4_noLaunch 3 (some .int) ∈ wB := inB (List.mem_of_getElem? (i := 828) (by decide +kernel)) rfl
theorem lk_X4_132 : Cond.methodLink RX4 132 yX4_whyNoLaunch ∈ wB := inB (List.mem_of_getElem? (i := 829) (by decide +kernel)) rfl
theorem ins_X4_whyNoLaunch : Cond.instanceMethod yX4_whyNoLaunch ∈ wB := inB (List.mem_of_getElem? (i := 831) (by decide +kernel)) rfl
theorem cod_X4_whyNoLaunch : Cond.code yX4_whyNoLaunch cX4_whyNoLaunch 2 (some .int) ∈ wB := inB (List.mem_of_getElem? (i := 832) (by decide +kernel)) rfl
theorem lk_X4_129 : Cond.methodLink RX4 129 yX4_blockersOf ∈ wB := inB (List.mem_of_getElem? (i := 833) (by decide +kernel)) rfl
theorem ins_X4_blockersOf : Cond.instanceMethod yX4_blockersOf ∈ wB := inB (List.mem_of_getElem? (i := 835) (by decide +kernel)) rfl
theorem cod_X4_blockersOf : Cond.code yX4_blockersOf cX4_blockersOf 2 (some .int) ∈ wB := inB (List.mem_of_getElem? (i := 836) (by decide +kernel)) rfl
theorem lk_X4_67 : Cond.methodLink RX4 67 yX4_placeOf ∈ wB := inB (List.mem_of_getElem? (i := 837) (by decide +kernel)) rfl
theorem ins_X4_placeOf : Cond.instanceMethod yX4_placeOf ∈ wB := inB (List.mem_of_getElem? (i := 839) (by decide +kernel)) rfl
theorem cod_X4_placeOf : Cond.code yX4_placeOf cX4_placeOf 4 (some .int) ∈ wB := inB (List.mem_of_getElem? (i := 840) (by decide +kernel)) rfl
theorem lk_X4_138 : Cond.methodLink RX4 138 yX4_doLaunch ∈ wB := inB (List.mem_of_getElem? (i := 841) (by decide +kernel)) rfl
theorem ins_X4_doLaunch : Cond.instanceMethod yX4_doLaunch ∈ wB := inB (List.mem_of_getElem? (i := 843) (by decide +kernel)) rfl
theorem cod_X4_doLaunch : Cond.code yX4_doLaunch cX4_doLaunch 3 (some .int) ∈ wB := inB (List.mem_of_getElem? (i := 844) (by decide +kernel)) rfl
theorem lk_L_47 : Cond.methodLink RL 47 yX4_move ∈ wB := inB (List.mem_of_getElem? (i := 845) (by decide +kernel)) rfl
theorem ins_X4_move : Cond.instanceMethod yX4_move ∈ wB := inB (List.mem_of_getElem? (i := 846) (by decide +kernel)) rfl
theorem sel_X4_move : Cond.selects RX4 yX4_move yX4_move ∈ wB := inB (List.mem_of_getElem? (i := 847) (by decide +kernel)) rfl
theorem cod_X4_move : Cond.code yX4_move cX4_move 4 (some .int) ∈ wB := inB (List.mem_of_getElem? (i := 848) (by decide +kernel)) rfl
theorem lk_X4_141 : Cond.methodLink RX4 141 yX4_noMove ∈ wB := inB (List.mem_of_getElem? (i := 849) (by decide +kernel)) rfl
theorem ins_X4_noMove : Cond.instanceMethod yX4_noMove ∈ wB := inB (List.mem_of_getElem? (i := 851) (by decide +kernel)) rfl
theorem cod_X4_noMove : Cond.code yX4_noMove cX4_noMove 3 (some .int) ∈ wB := inB (List.mem_of_getElem? (i := 852) (by decide +kernel)) rfl
theorem lk_X4_144 : Cond.methodLink RX4 144 yX4_doMove ∈ wB := inB (List.mem_of_getElem? (i := 853) (by decide +kernel)) rfl
theorem ins_X4_doMove : Cond.instanceMethod yX4_doMove ∈ wB := inB (List.mem_of_getElem? (i := 855) (by decide +kernel)) rfl
theorem cod_X4_doMove : Cond.code yX4_doMove cX4_doMove 3 (some .int) ∈ wB := inB (List.mem_of_getElem? (i := 856) (by decide +kernel)) rfl
theorem lk_L_52 : Cond.methodLink RL 52 yX4_mast ∈ wB := inB (List.mem_of_getElem? (i := 857) (by decide +kernel)) rfl
theorem ins_X4_mast : Cond.instanceMethod yX4_mast ∈ wB := inB (List.mem_of_getElem? (i := 858) (by decide +kernel)) rfl
theorem sel_X4_mast : Cond.selects RX4 yX4_mast yX4_mast ∈ wB := inB (List.mem_of_getElem? (i := 859) (by decide +kernel)) rfl
theorem cod_X4_mast : Cond.code yX4_mast cX4_mast 4 (some .int) ∈ wB := inB (List.mem_of_getElem? (i := 860) (by decide +kernel)) rfl
theorem lk_X4_153 : Cond.methodLink RX4 153 yX4_noMast ∈ wB := inB (List.mem_of_getElem? (i := 861) (by decide +kernel)) rfl
theorem ins_X4_noMast : Cond.instanceMethod yX4_noMast ∈ wB := inB (List.mem_of_getElem? (i := 863) (by decide +kernel)) rfl
theorem cod_X4_noMast : Cond.code yX4_noMast cX4_noMast 3 (some .int) ∈ wB := inB (List.mem_of_getElem? (i := 864) (by decide +kernel)) rfl
theorem lk_X4_150 : Cond.methodLink RX4 150 yX4_rackFor ∈ wB := inB (List.mem_of_getElem? (i := 865) (by decide +kernel)) rfl
theorem ins_X4_rackFor : Cond.instanceMethod yX4_rackFor ∈ wB := inB (List.mem_of_getElem? (i := 867) (by decide +kernel)) rfl
theorem cod_X4_rackFor : Cond.code yX4_rackFor cX4_rackFor 2 (some .int) ∈ wB := inB (List.mem_of_getElem? (i := 868) (by decide +kernel)) rfl
theorem lk_X4_147 : Cond.methodLink RX4 147 yX4_mastsIn ∈ wB := inB (List.mem_of_getElem? (i := 869) (by decide +kernel)) rfl
theorem ins_X4_mastsIn : Cond.instanceMethod yX4_mastsIn ∈ wB := inB (List.mem_of_getElem? (i := 871) (by decide +kernel)) rfl
theorem cod_X4_mastsIn : Cond.code yX4_mastsIn cX4_mastsIn 4 (some .int) ∈ wB := inB (List.mem_of_getElem? (i := 872) (by decide +kernel)) rfl
theorem lk_X4_157 : Cond.methodLink RX4 157 yX4_doMast ∈ wB := inB (List.mem_of_getElem? (i := 873) (by decide +kernel)) rfl
theorem ins_X4_doMast : Cond.instanceMethod yX4_doMast ∈ wB := inB (List.mem_of_getElem? (i := 875) (by decide +kernel)) rfl
theorem cod_X4_doMast : Cond.code yX4_doMast cX4_doMast 4 (some .int) ∈ wB := inB (List.mem_of_getElem? (i := 876) (by decide +kernel)) rfl
theorem lk_L_56 : Cond.methodLink RL 56 yX4_work ∈ wB := inB (List.mem_of_getElem? (i := 877) (by decide +kernel)) rfl
theorem ins_X4_work : Cond.instanceMethod yX4_work ∈ wB := inB (List.mem_of_getElem? (i := 878) (by decide +kernel)) rfl
theorem sel_X4_work : Cond.selects RX4 yX4_work yX4_work ∈ wB := inB (List.mem_of_getElem? (i := 879) (by decide +kernel)) rfl
theorem cod_X4_work : Cond.code yX4_work cX4_work 3 (some .int) ∈ wB := inB (List.mem_of_getElem? (i := 880) (by decide +kernel)) rfl
theorem lk_L_60 : Cond.methodLink RL 60 yX4_pass ∈ wB := inB (List.mem_of_getElem? (i := 881) (by decide +kernel)) rfl
theorem ins_X4_pass : Cond.instanceMethod yX4_pass ∈ wB := inB (List.mem_of_getElem? (i := 882) (by decide +kernel)) rfl
theorem sel_X4_pass : Cond.selects RX4 yX4_pass yX4_pass ∈ wB := inB (List.mem_of_getElem? (i := 883) (by decide +kernel)) rfl
theorem cod_X4_pass : Cond.code yX4_pass cX4_pass 3 (some .int) ∈ wB := inB (List.mem_of_getElem? (i := 884) (by decide +kernel)) rfl
theorem lk_X4_160 : Cond.methodLink RX4 160 yX4_noPass ∈ wB := inB (List.mem_of_getElem? (i := 885) (by decide +kernel)) rfl
theorem ins_X4_noPass : Cond.instanceMethod yX4_noPass ∈ wB := inB (List.mem_of_getElem? (i := 887) (by decide +kernel)) rfl
theorem cod_X4_noPass : Cond.code yX4_noPass cX4_noPass 2 (some .int) ∈ wB := inB (List.mem_of_getElem? (i := 888) (by decide +kernel)) rfl
theorem lk_X4_163 : Cond.methodLink RX4 163 yX4_doPass ∈ wB := inB (List.mem_of_getElem? (i := 889) (by decide +kernel)) rfl
theorem ins_X4_doPass : Cond.instanceMethod yX4_doPass ∈ wB := inB (List.mem_of_getElem? (i := 891) (by decide +kernel)) rfl
theorem cod_X4_doPass : Cond.code yX4_doPass cX4_doPass 3 (some .int) ∈ wB := inB (List.mem_of_getElem? (i := 892) (by decide +kernel)) rfl
theorem lk_L_65 : Cond.methodLink RL 65 yX4_type ∈ wB := inB (List.mem_of_getElem? (i := 893) (by decide +kernel)) rfl
theorem ins_X4_type : Cond.instanceMethod yX4_type ∈ wB := inB (List.mem_of_getElem? (i := 894) (by decide +kernel)) rfl
theorem sel_X4_type : Cond.selects RX4 yX4_type yX4_type ∈ wB := inB (List.mem_of_getElem? (i := 895) (by decide +kernel)) rfl
theorem cod_X4_type : Cond.code yX4_type cX4_type 2 (some .int) ∈ wB := inB (List.mem_of_getElem? (i := 896) (by decide +kernel)) rfl
theorem lk_L_70 : Cond.methodLink RL 70 yX4_clearText ∈ wB := inB (List.mem_of_getElem? (i := 897) (by decide +kernel)) rfl
theorem ins_X4_clearText : Cond.instanceMethod yX4_clearText ∈ wB := inB (List.mem_of_getElem? (i := 898) (by decide +kernel)) rfl
theorem sel_X4_clearText : Cond.selects RX4 yX4_clearText yX4_clearText ∈ wB := inB (List.mem_of_getElem? (i := 899) (by decide +kernel)) rfl
theorem cod_X4_clearText : Cond.code yX4_clearText cX4_clearText 2 (some .int) ∈ wB := inB (List.mem_of_getElem? (i := 900) (by decide +kernel)) rfl
theorem lk_L_74 : Cond.methodLink RL 74 yX4_perform ∈ wB := inB (List.mem_of_getElem? (i := 901) (by decide +kernel)) rfl
theorem ins_X4_perform : Cond.instanceMethod yX4_perform ∈ wB := inB (List.mem_of_getElem? (i := 902) (by decide +kernel)) rfl
theorem sel_X4_perform : Cond.selects RX4 yX4_perform yX4_perform ∈ wB := inB (List.mem_of_getElem? (i := 903) (by decide +kernel)) rfl
theorem cod_X4_perform : Cond.code yX4_perform cX4_perform 5 (some .int) ∈ wB := inB (List.mem_of_getElem? (i := 904) (by decide +kernel)) rfl
theorem lk_X4_191 : Cond.methodLink RX4 191 yX4_findFault ∈ wB := inB (List.mem_of_getElem? (i := 905) (by decide +kernel)) rfl
theorem ins_X4_findFault : Cond.instanceMethod yX4_findFault ∈ wB := inB (List.mem_of_getElem? (i := 907) (by decide +kernel)) rfl
theorem cod_X4_findFault : Cond.code yX4_findFault cX4_findFault 2 (some .int) ∈ wB := inB (List.mem_of_getElem? (i := 908) (by decide +kernel)) rfl
theorem lk_X4_188 : Cond.methodLink RX4 188 yX4_readCommand ∈ wB := inB (List.mem_of_getElem? (i := 909) (by decide +kernel)) rfl
theorem ins_X4_readCommand : Cond.instanceMethod yX4_readCommand ∈ wB := inB (List.mem_of_getElem? (i := 911) (by decide +kernel)) rfl
theorem cod_X4_readCommand : Cond.code yX4_readCommand cX4_readCommand 3 (some .int) ∈ wB := inB (List.mem_of_getElem? (i := 912) (by decide +kernel)) rfl
theorem lk_X4_169 : Cond.methodLink RX4 169 yX4_at ∈ wB := inB (List.mem_of_getElem? (i := 913) (by decide +kernel)) rfl
theorem ins_X4_at : Cond.instanceMethod yX4_at ∈ wB := inB (List.mem_of_getElem? (i := 915) (by decide +kernel)) rfl
theorem cod_X4_at : Cond.code yX4_at cX4_at 2 (some .int) ∈ wB := inB (List.mem_of_getElem? (i := 916) (by decide +kernel)) rfl
theorem lk_X4_184 : Cond.methodLink RX4 184 yX4_readNumber ∈ wB := inB (List.mem_of_getElem? (i := 917) (by decide +kernel)) rfl
theorem ins_X4_readNumber : Cond.instanceMethod yX4_readNumber ∈ wB := inB (List.mem_of_getElem? (i := 919) (by decide +kernel)) rfl
theorem cod_X4_readNumber : Cond.code yX4_readNumber cX4_readNumber 6 (some .int) ∈ wB := inB (List.mem_of_getElem? (i := 920) (by decide +kernel)) rfl
theorem lk_X4_172 : Cond.methodLink RX4 172 yX4_isDigit ∈ wB := inB (List.mem_of_getElem? (i := 921) (by decide +kernel)) rfl
theorem stc_X4_isDigit : Cond.static yX4_isDigit ∈ wB := inB (List.mem_of_getElem? (i := 922) (by decide +kernel)) rfl
theorem cod_X4_isDigit : Cond.code yX4_isDigit cX4_isDigit 1 (some .boolean) ∈ wB := inB (List.mem_of_getElem? (i := 923) (by decide +kernel)) rfl
theorem lk_X4_194 : Cond.methodLink RX4 194 yX4_noCommand ∈ wB := inB (List.mem_of_getElem? (i := 924) (by decide +kernel)) rfl
theorem ins_X4_noCommand : Cond.instanceMethod yX4_noCommand ∈ wB := inB (List.mem_of_getElem? (i := 926) (by decide +kernel)) rfl
theorem cod_X4_noCommand : Cond.code yX4_noCommand cX4_noCommand 1 (some .int) ∈ wB := inB (List.mem_of_getElem? (i := 927) (by decide +kernel)) rfl
theorem lk_X4_197 : Cond.methodLink RX4 197 yX4_doCommand ∈ wB := inB (List.mem_of_getElem? (i := 928) (by decide +kernel)) rfl
theorem ins_X4_doCommand : Cond.instanceMethod yX4_doCommand ∈ wB := inB (List.mem_of_getElem? (i := 930) (by decide +kernel)) rfl
theorem cod_X4_doCommand : Cond.code yX4_doCommand cX4_doCommand 1 (some .int) ∈ wB := inB (List.mem_of_getElem? (i := 931) (by decide +kernel)) rfl
theorem lk_L_78 : Cond.methodLink RL 78 yX4_stopped ∈ wB := inB (List.mem_of_getElem? (i := 932) (by decide +kernel)) rfl
theorem ins_X4_stopped : Cond.instanceMethod yX4_stopped ∈ wB := inB (List.mem_of_getElem? (i := 933) (by decide +kernel)) rfl
theorem sel_X4_stopped : Cond.selects RX4 yX4_stopped yX4_stopped ∈ wB := inB (List.mem_of_getElem? (i := 934) (by decide +kernel)) rfl
theorem cod_X4_stopped : Cond.code yX4_stopped cX4_stopped 2 (some .int) ∈ wB := inB (List.mem_of_getElem? (i := 935) (by decide +kernel)) rfl
theorem lk_L_94 : Cond.methodLink RL 94 yX4_boat ∈ wB := inB (List.mem_of_getElem? (i := 936) (by decide +kernel)) rfl
theorem ins_X4_boat : Cond.instanceMethod yX4_boat ∈ wB := inB (List.mem_of_getElem? (i := 937) (by decide +kernel)) rfl
theorem sel_X4_boat : Cond.selects RX4 yX4_boat yX4_boat ∈ wB := inB (List.mem_of_getElem? (i := 938) (by decide +kernel)) rfl
theorem cod_X4_boat : Cond.code yX4_boat cX4_boat 3 (some .int) ∈ wB := inB (List.mem_of_getElem? (i := 939) (by decide +kernel)) rfl
theorem lk_L_98 : Cond.methodLink RL 98 yX4_row ∈ wB := inB (List.mem_of_getElem? (i := 940) (by decide +kernel)) rfl
theorem ins_X4_row : Cond.instanceMethod yX4_row ∈ wB := inB (List.mem_of_getElem? (i := 941) (by decide +kernel)) rfl
theorem sel_X4_row : Cond.selects RX4 yX4_row yX4_row ∈ wB := inB (List.mem_of_getElem? (i := 942) (by decide +kernel)) rfl
theorem cod_X4_row : Cond.code yX4_row cX4_row 3 (some .int) ∈ wB := inB (List.mem_of_getElem? (i := 943) (by decide +kernel)) rfl
theorem lk_X4_200 : Cond.methodLink RX4 200 yX4_boatAt ∈ wB := inB (List.mem_of_getElem? (i := 944) (by decide +kernel)) rfl
theorem ins_X4_boatAt : Cond.instanceMethod yX4_boatAt ∈ wB := inB (List.mem_of_getElem? (i := 946) (by decide +kernel)) rfl
theorem cod_X4_boatAt : Cond.code yX4_boatAt cX4_boatAt 5 (some .int) ∈ wB := inB (List.mem_of_getElem? (i := 947) (by decide +kernel)) rfl
theorem lk_L_102 : Cond.methodLink RL 102 yX4_stands ∈ wB := inB (List.mem_of_getElem? (i := 948) (by decide +kernel)) rfl
theorem ins_X4_stands : Cond.instanceMethod yX4_stands ∈ wB := inB (List.mem_of_getElem? (i := 949) (by decide +kernel)) rfl
theorem sel_X4_stands : Cond.selects RX4 yX4_stands yX4_stands ∈ wB := inB (List.mem_of_getElem? (i := 950) (by decide +kernel)) rfl
theorem cod_X4_stands : Cond.code yX4_stands cX4_stands 3 (some .int) ∈ wB := inB (List.mem_of_getElem? (i := 951) (by decide +kernel)) rfl
theorem lk_L_106 : Cond.methodLink RL 106 yX4_cradle ∈ wB := inB (List.mem_of_getElem? (i := 952) (by decide +kernel)) rfl
theorem ins_X4_cradle : Cond.instanceMethod yX4_cradle ∈ wB := inB (List.mem_of_getElem? (i := 953) (by decide +kernel)) rfl
theorem sel_X4_cradle : Cond.selects RX4 yX4_cradle yX4_cradle ∈ wB := inB (List.mem_of_getElem? (i := 954) (by decide +kernel)) rfl
theorem cod_X4_cradle : Cond.code yX4_cradle cX4_cradle 3 (some .int) ∈ wB := inB (List.mem_of_getElem? (i := 955) (by decide +kernel)) rfl
theorem lk_L_110 : Cond.methodLink RL 110 yX4_tide ∈ wB := inB (List.mem_of_getElem? (i := 956) (by decide +kernel)) rfl
theorem ins_X4_tide : Cond.instanceMethod yX4_tide ∈ wB := inB (List.mem_of_getElem? (i := 957) (by decide +kernel)) rfl
theorem sel_X4_tide : Cond.selects RX4 yX4_tide yX4_tide ∈ wB := inB (List.mem_of_getElem? (i := 958) (by decide +kernel)) rfl
theorem cod_X4_tide : Cond.code yX4_tide cX4_tide 2 (some .int) ∈ wB := inB (List.mem_of_getElem? (i := 959) (by decide +kernel)) rfl
theorem lk_L_114 : Cond.methodLink RL 114 yX4_liftReason ∈ wB := inB (List.mem_of_getElem? (i := 960) (by decide +kernel)) rfl
theorem ins_X4_liftReason : Cond.instanceMethod yX4_liftReason ∈ wB := inB (List.mem_of_getElem? (i := 961) (by decide +kernel)) rfl
theorem sel_X4_liftReason : Cond.selects RX4 yX4_liftReason yX4_liftReason ∈ wB := inB (List.mem_of_getElem? (i := 962) (by decide +kernel)) rfl
theorem cod_X4_liftReason : Cond.code yX4_liftReason cX4_liftReason 3 (some .int) ∈ wB := inB (List.mem_of_getElem? (i := 963) (by decide +kernel)) rfl
theorem lk_L_118 : Cond.methodLink RL 118 yX4_launchReason ∈ wB := inB (List.mem_of_getElem? (i := 964) (by decide +kernel)) rfl
theorem ins_X4_launchReason : Cond.instanceMethod yX4_launchReason ∈ wB := inB (List.mem_of_getElem? (i := 965) (by decide +kernel)) rfl
theorem sel_X4_launchReason : Cond.selects RX4 yX4_launchReason yX4_launchReason ∈ wB := inB (List.mem_of_getElem? (i := 966) (by decide +kernel)) rfl
theorem cod_X4_launchReason : Cond.code yX4_launchReason cX4_launchReason 2 (some .int) ∈ wB := inB (List.mem_of_getElem? (i := 967) (by decide +kernel)) rfl
theorem lk_L_122 : Cond.methodLink RL 122 yX4_blockers ∈ wB := inB (List.mem_of_getElem? (i := 968) (by decide +kernel)) rfl
theorem ins_X4_blockers : Cond.instanceMethod yX4_blockers ∈ wB := inB (List.mem_of_getElem? (i := 969) (by decide +kernel)) rfl
theorem sel_X4_blockers : Cond.selects RX4 yX4_blockers yX4_blockers ∈ wB := inB (List.mem_of_getElem? (i := 970) (by decide +kernel)) rfl
theorem cod_X4_blockers : Cond.code yX4_blockers cX4_blockers 2 (some .int) ∈ wB := inB (List.mem_of_getElem? (i := 971) (by decide +kernel)) rfl
theorem lk_L_126 : Cond.methodLink RL 126 yX4_launchDay ∈ wB := inB (List.mem_of_getElem? (i := 972) (by decide +kernel)) rfl
theorem ins_X4_launchDay : Cond.instanceMethod yX4_launchDay ∈ wB := inB (List.mem_of_getElem? (i := 973) (by decide +kernel)) rfl
theorem sel_X4_launchDay : Cond.selects RX4 yX4_launchDay yX4_launchDay ∈ wB := inB (List.mem_of_getElem? (i := 974) (by decide +kernel)) rfl
theorem cod_X4_launchDay : Cond.code yX4_launchDay cX4_launchDay 6 (some .int) ∈ wB := inB (List.mem_of_getElem? (i := 975) (by decide +kernel)) rfl
theorem lk_L_130 : Cond.methodLink RL 130 yX4_bestRow ∈ wB := inB (List.mem_of_getElem? (i := 976) (by decide +kernel)) rfl
theorem ins_X4_bestRow : Cond.instanceMethod yX4_bestRow ∈ wB := inB (List.mem_of_getElem? (i := 977) (by decide +kernel)) rfl
theorem sel_X4_bestRow : Cond.selects RX4 yX4_bestRow yX4_bestRow ∈ wB := inB (List.mem_of_getElem? (i := 978) (by decide +kernel)) rfl
theorem cod_X4_bestRow : Cond.code yX4_bestRow cX4_bestRow 5 (some .int) ∈ wB := inB (List.mem_of_getElem? (i := 979) (by decide +kernel)) rfl
theorem lk_L_134 : Cond.methodLink RL 134 yX4_count ∈ wB := inB (List.mem_of_getElem? (i := 980) (by decide +kernel)) rfl
theorem ins_X4_count : Cond.instanceMethod yX4_count ∈ wB := inB (List.mem_of_getElem? (i := 981) (by decide +kernel)) rfl
theorem sel_X4_count : Cond.selects RX4 yX4_count yX4_count ∈ wB := inB (List.mem_of_getElem? (i := 982) (by decide +kernel)) rfl
theorem cod_X4_count : Cond.code yX4_count cX4_count 5 (some .int) ∈ wB := inB (List.mem_of_getElem? (i := 983) (by decide +kernel)) rfl
theorem uw_X0 : ∀ w ∈ u_ws RX0 TX0 3, w ∈ wB := fun w h => inB ((by decide +kernel : ∀ w ∈ u_ws RX0 TX0 3, w ∈ lw_tbl) w h) ((by decide +kernel : ∀ w ∈ u_ws RX0 TX0 3, goodWord w = true) w h)
theorem uw_X1 : ∀ w ∈ u_ws RX1 TX1 7, w ∈ wB := fun w h => inB ((by decide +kernel : ∀ w ∈ u_ws RX1 TX1 7, w ∈ lw_tbl) w h) ((by decide +kernel : ∀ w ∈ u_ws RX1 TX1 7, goodWord w = true) w h)
theorem uw_X2 : ∀ w ∈ u_ws RX2 TX2 8, w ∈ wB := fun w h => inB ((by decide +kernel : ∀ w ∈ u_ws RX2 TX2 8, w ∈ lw_tbl) w h) ((by decide +kernel : ∀ w ∈ u_ws RX2 TX2 8, goodWord w = true) w h)
theorem uw_X3 : ∀ w ∈ u_ws RX3 TX3 7, w ∈ wB := fun w h => inB ((by decide +kernel : ∀ w ∈ u_ws RX3 TX3 7, w ∈ lw_tbl) w h) ((by decide +kernel : ∀ w ∈ u_ws RX3 TX3 7, goodWord w = true) w h)
theorem uw_X4 : ∀ w ∈ u_ws RX4 TX4 13, w ∈ wB := fun w h => inB ((by decide +kernel : ∀ w ∈ u_ws RX4 TX4 13, w ∈ lw_tbl) w h) ((by decide +kernel : ∀ w ∈ u_ws RX4 TX4 13, goodWord w = true) w h)
/-- what a call needs of the callee -/
def CIv (y : MethodName) (b : ByteArray) (n : Nat) (rt : Option FieldType) (np : Nat) : Prop := (y.cls ≠ "java/lang/invoke/MethodHandle" ∧ y.cls ≠ "java/lang/invoke/VarHandle" ∧ (parseMethodDescriptor y.desc).map (fun d => d.parameters.length) = some np) ∧ n ≤ 21 ∧ Cond.code y b n rt ∈ wB ∧ Cond.initialized y.cls ∈ wB ∧ Cond.instanceMethod y ∈ wB ∧ Cond.selects y.cls y y ∈ wB
def CIs (y : MethodName) (b : ByteArray) (n : Nat) (rt : Option FieldType) (np : Nat) : Prop := (y.cls ≠ "java/lang/invoke/MethodHandle" ∧ y.cls ≠ "java/lang/invoke/VarHandle" ∧ (parseMethodDescriptor y.desc).map (fun d => d.parameters.length) = some np) ∧ n ≤ 21 ∧ Cond.code y b n rt ∈ wB ∧ Cond.initialized y.cls ∈ wB ∧ Cond.static y ∈ wB
theorem ci_X2_forget : CIv yX2_forget cX2_forget 3 none 1 := ⟨by decide +kernel, by decide, cod_X2_forget, ini_X2, ins_X2_forget, sel_X2_forget⟩
theorem ci_X2_note : CIv yX2_note cX2_note 4 none 3 := ⟨by decide +kernel, by decide, cod_X2_note, ini_X2, ins_X2_note, sel_X2_note⟩
theorem ci_X3_come : CIv yX3_come cX3_come 5 (some .int) 4 := ⟨by decide +kernel, by decide, cod_X3_come, ini_X3, ins_X3_come, sel_X3_come⟩
theorem ci_X0_prepare : CIv yX0_prepare cX0_prepare 2 none 1 := ⟨by decide +kernel, by decide, cod_X0_prepare, ini_X0, ins_X0_prepare, sel_X0_prepare⟩
theorem ci_X0_behindLatest : CIv yX0_behindLatest cX0_behindLatest 1 (some (.object "WinterYard$Yard")) 0 := ⟨by decide +kernel, by decide, cod_X0_behindLatest, ini_X0, ins_X0_behindLatest, sel_X0_behindLatest⟩
theorem ci_X2_copyFrom : CIv yX2_copyFrom cX2_copyFrom 2 none 1 := ⟨by decide +kernel, by decide, cod_X2_copyFrom, ini_X2, ins_X2_copyFrom, sel_X2_copyFrom⟩
theorem ci_X2_addBoat : CIv yX2_addBoat cX2_addBoat 6 (some .int) 4 := ⟨by decide +kernel, by decide, cod_X2_addBoat, ini_X2, ins_X2_addBoat, sel_X2_addBoat⟩
theorem ci_X2_isKind : CIs yX2_isKind cX2_isKind 1 (some .boolean) 1 := ⟨by decide +kernel, by decide, cod_X2_isKind, ini_X2, stc_X2_isKind⟩
theorem ci_X3_within : CIs yX3_within cX3_within 3 (some .boolean) 3 := ⟨by decide +kernel, by decide, cod_X3_within, ini_X3, stc_X3_within⟩
theorem ci_X2_lowestFreeNumber : CIv yX2_lowestFreeNumber cX2_lowestFreeNumber 2 (some .int) 0 := ⟨by decide +kernel, by decide, cod_X2_lowestFreeNumber, ini_X2, ins_X2_lowestFreeNumber, sel_X2_lowestFreeNumber⟩
theorem ci_X2_knows : CIv yX2_knows cX2_knows 2 (some .boolean) 1 := ⟨by decide +kernel, by decide, cod_X2_knows, ini_X2, ins_X2_knows, sel_X2_knows⟩
theorem ci_X2_fact : CIv yX2_fact cX2_fact 3 (some .int) 2 := ⟨by decide +kernel, by decide, cod_X2_fact, ini_X2, ins_X2_fact, sel_X2_fact⟩
theorem ci_X2_noteAfloat : CIv yX2_noteAfloat cX2_noteAfloat 2 none 1 := ⟨by decide +kernel, by decide, cod_X2_noteAfloat, ini_X2, ins_X2_noteAfloat, sel_X2_noteAfloat⟩
theorem ci_X0_settle : CIv yX0_settle cX0_settle 2 (some .int) 1 := ⟨by decide +kernel, by decide, cod_X0_settle, ini_X0, ins_X0_settle, sel_X0_settle⟩
theorem ci_X3_goAway : CIv yX3_goAway cX3_goAway 2 (some .int) 1 := ⟨by decide +kernel, by decide, cod_X3_goAway, ini_X3, ins_X3_goAway, sel_X3_goAway⟩
theorem ci_X2_removeBoat : CIv yX2_removeBoat cX2_removeBoat 2 (some .int) 1 := ⟨by decide +kernel, by decide, cod_X2_removeBoat, ini_X2, ins_X2_removeBoat, sel_X2_removeBoat⟩
theorem ci_X2_isAshore : CIv yX2_isAshore cX2_isAshore 2 (some .boolean) 1 := ⟨by decide +kernel, by decide, cod_X2_isAshore, ini_X2, ins_X2_isAshore, sel_X2_isAshore⟩
theorem ci_X2_hasMast : CIv yX2_hasMast cX2_hasMast 2 (some .boolean) 1 := ⟨by decide +kernel, by decide, cod_X2_hasMast, ini_X2, ins_X2_hasMast, sel_X2_hasMast⟩
theorem ci_X2_boats : CIv yX2_boats cX2_boats 1 (some .int) 0 := ⟨by decide +kernel, by decide, cod_X2_boats, ini_X2, ins_X2_boats, sel_X2_boats⟩
theorem ci_X2_boatsWith : CIv yX2_boatsWith cX2_boatsWith 5 (some .int) 2 := ⟨by decide +kernel, by decide, cod_X2_boatsWith, ini_X2, ins_X2_boatsWith, sel_X2_boatsWith⟩
theorem ci_X3_setCradles : CIv yX3_setCradles cX3_setCradles 3 (some .int) 2 := ⟨by decide +kernel, by decide, cod_X3_setCradles, ini_X3, ins_X3_setCradles, sel_X3_setCradles⟩
theorem ci_X2_changeCradles : CIv yX2_changeCradles cX2_changeCradles 4 (some .int) 2 := ⟨by decide +kernel, by decide, cod_X2_changeCradles, ini_X2, ins_X2_changeCradles, sel_X2_changeCradles⟩
theorem ci_X2_cradlesTaken : CIv yX2_cradlesTaken cX2_cradlesTaken 2 (some .int) 1 := ⟨by decide +kernel, by decide, cod_X2_cradlesTaken, ini_X2, ins_X2_cradlesTaken, sel_X2_cradlesTaken⟩
theorem ci_X3_setRow : CIv yX3_setRow cX3_setRow 3 (some .int) 2 := ⟨by decide +kernel, by decide, cod_X3_setRow, ini_X3, ins_X3_setRow, sel_X3_setRow⟩
theorem ci_X2_changeRow : CIv yX2_changeRow cX2_changeRow 4 (some .int) 2 := ⟨by decide +kernel, by decide, cod_X2_changeRow, ini_X2, ins_X2_changeRow, sel_X2_changeRow⟩
theorem ci_X2_isRow : CIs yX2_isRow cX2_isRow 1 (some .boolean) 1 := ⟨by decide +kernel, by decide, cod_X2_isRow, ini_X2, stc_X2_isRow⟩
theorem ci_X2_metresTaken : CIv yX2_metresTaken cX2_metresTaken 4 (some .int) 1 := ⟨by decide +kernel, by decide, cod_X2_metresTaken, ini_X2, ins_X2_metresTaken, sel_X2_metresTaken⟩
theorem ci_X3_set : CIv yX3_set cX3_set 3 (some .int) 2 := ⟨by decide +kernel, by decide, cod_X3_set, ini_X3, ins_X3_set, sel_X3_set⟩
theorem ci_X2_changeSetting : CIv yX2_changeSetting cX2_changeSetting 4 (some .int) 2 := ⟨by decide +kernel, by decide, cod_X2_changeSetting, ini_X2, ins_X2_changeSetting, sel_X2_changeSetting⟩
theorem ci_X3_lift : CIv yX3_lift cX3_lift 3 (some .int) 2 := ⟨by decide +kernel, by decide, cod_X3_lift, ini_X3, ins_X3_lift, sel_X3_lift⟩
theorem ci_X2_liftInto : CIv yX2_liftInto cX2_liftInto 4 (some .int) 2 := ⟨by decide +kernel, by decide, cod_X2_liftInto, ini_X2, ins_X2_liftInto, sel_X2_liftInto⟩
theorem ci_X2_whyNoLift : CIv yX2_whyNoLift cX2_whyNoLift 3 (some .int) 2 := ⟨by decide +kernel, by decide, cod_X2_whyNoLift, ini_X2, ins_X2_whyNoLift, sel_X2_whyNoLift⟩
theorem ci_X2_isDeepEnough : CIv yX2_isDeepEnough cX2_isDeepEnough 3 (some .boolean) 2 := ⟨by decide +kernel, by decide, cod_X2_isDeepEnough, ini_X2, ins_X2_isDeepEnough, sel_X2_isDeepEnough⟩
theorem ci_X2_tideOn : CIv yX2_tideOn cX2_tideOn 2 (some .int) 1 := ⟨by decide +kernel, by decide, cod_X2_tideOn, ini_X2, ins_X2_tideOn, sel_X2_tideOn⟩
theorem ci_X2_craneBears : CIv yX2_craneBears cX2_craneBears 2 (some .boolean) 1 := ⟨by decide +kernel, by decide, cod_X2_craneBears, ini_X2, ins_X2_craneBears, sel_X2_craneBears⟩
theorem ci_X2_cradleFor : CIv yX2_cradleFor cX2_cradleFor 5 (some .int) 1 := ⟨by decide +kernel, by decide, cod_X2_cradleFor, ini_X2, ins_X2_cradleFor, sel_X2_cradleFor⟩
theorem ci_X2_hasFreeCradle : CIv yX2_hasFreeCradle cX2_hasFreeCradle 2 (some .boolean) 1 := ⟨by decide +kernel, by decide, cod_X2_hasFreeCradle, ini_X2, ins_X2_hasFreeCradle, sel_X2_hasFreeCradle⟩
theorem ci_X2_bears : CIs yX2_bears cX2_bears 1 (some .int) 1 := ⟨by decide +kernel, by decide, cod_X2_bears, ini_X2, stc_X2_bears⟩
theorem ci_X2_otherKindFor : CIs yX2_otherKindFor cX2_otherKindFor 1 (some .int) 1 := ⟨by decide +kernel, by decide, cod_X2_otherKindFor, ini_X2, stc_X2_otherKindFor⟩
theorem ci_X2_hasRoom : CIv yX2_hasRoom cX2_hasRoom 3 (some .boolean) 2 := ⟨by decide +kernel, by decide, cod_X2_hasRoom, ini_X2, ins_X2_hasRoom, sel_X2_hasRoom⟩
theorem ci_X2_metresLeft : CIv yX2_metresLeft cX2_metresLeft 2 (some .int) 1 := ⟨by decide +kernel, by decide, cod_X2_metresLeft, ini_X2, ins_X2_metresLeft, sel_X2_metresLeft⟩
theorem ci_X2_metresOf : CIv yX2_metresOf cX2_metresOf 2 (some .int) 1 := ⟨by decide +kernel, by decide, cod_X2_metresOf, ini_X2, ins_X2_metresOf, sel_X2_metresOf⟩
theorem ci_X2_liftsLeft : CIv yX2_liftsLeft cX2_liftsLeft 1 (some .int) 0 := ⟨by decide +kernel, by decide, cod_X2_liftsLeft, ini_X2, ins_X2_liftsLeft, sel_X2_liftsLeft⟩
theorem ci_X2_putAtOuterEnd : CIv yX2_putAtOuterEnd cX2_putAtOuterEnd 3 none 2 := ⟨by decide +kernel, by decide, cod_X2_putAtOuterEnd, ini_X2, ins_X2_putAtOuterEnd, sel_X2_putAtOuterEnd⟩
theorem ci_X2_boatsIn : CIv yX2_boatsIn cX2_boatsIn 2 (some .int) 1 := ⟨by decide +kernel, by decide, cod_X2_boatsIn, ini_X2, ins_X2_boatsIn, sel_X2_boatsIn⟩
theorem ci_X2_takeLift : CIv yX2_takeLift cX2_takeLift 1 none 0 := ⟨by decide +kernel, by decide, cod_X2_takeLift, ini_X2, ins_X2_takeLift, sel_X2_takeLift⟩
theorem ci_X3_launch : CIv yX3_launch cX3_launch 2 (some .int) 1 := ⟨by decide +kernel, by decide, cod_X3_launch, ini_X3, ins_X3_launch, sel_X3_launch⟩
theorem ci_X2_putAfloat : CIv yX2_putAfloat cX2_putAfloat 4 (some .int) 1 := ⟨by decide +kernel, by decide, cod_X2_putAfloat, ini_X2, ins_X2_putAfloat, sel_X2_putAfloat⟩
theorem ci_X2_whyNoLaunch : CIv yX2_whyNoLaunch cX2_whyNoLaunch 2 (some .int) 1 := ⟨by decide +kernel, by decide, cod_X2_whyNoLaunch, ini_X2, ins_X2_whyNoLaunch, sel_X2_whyNoLaunch⟩
theorem ci_X2_boatsFartherOut : CIv yX2_boatsFartherOut cX2_boatsFartherOut 2 (some .int) 1 := ⟨by decide +kernel, by decide, cod_X2_boatsFartherOut, ini_X2, ins_X2_boatsFartherOut, sel_X2_boatsFartherOut⟩
theorem ci_X3_move : CIv yX3_move cX3_move 3 (some .int) 2 := ⟨by decide +kernel, by decide, cod_X3_move, ini_X3, ins_X3_move, sel_X3_move⟩
theorem ci_X2_moveTo : CIv yX2_moveTo cX2_moveTo 3 (some .int) 2 := ⟨by decide +kernel, by decide, cod_X2_moveTo, ini_X2, ins_X2_moveTo, sel_X2_moveTo⟩
theorem ci_X2_standsIn : CIv yX2_standsIn cX2_standsIn 3 (some .boolean) 2 := ⟨by decide +kernel, by decide, cod_X2_standsIn, ini_X2, ins_X2_standsIn, sel_X2_standsIn⟩
theorem ci_X3_mast : CIv yX3_mast cX3_mast 3 (some .int) 2 := ⟨by decide +kernel, by decide, cod_X3_mast, ini_X3, ins_X3_mast, sel_X3_mast⟩
theorem ci_X2_putMastUp : CIv yX2_putMastUp cX2_putMastUp 3 (some .int) 1 := ⟨by decide +kernel, by decide, cod_X2_putMastUp, ini_X2, ins_X2_putMastUp, sel_X2_putMastUp⟩
theorem ci_X2_takeMastOff : CIv yX2_takeMastOff cX2_takeMastOff 3 (some .int) 1 := ⟨by decide +kernel, by decide, cod_X2_takeMastOff, ini_X2, ins_X2_takeMastOff, sel_X2_takeMastOff⟩
theorem ci_X2_rackFor : CIv yX2_rackFor cX2_rackFor 3 (some .int) 1 := ⟨by decide +kernel, by decide, cod_X2_rackFor, ini_X2, ins_X2_rackFor, sel_X2_rackFor⟩
theorem ci_X2_mastsIn : CIv yX2_mastsIn cX2_mastsIn 2 (some .int) 1 := ⟨by decide +kernel, by decide, cod_X2_mastsIn, ini_X2, ins_X2_mastsIn, sel_X2_mastsIn⟩
theorem ci_X3_work : CIv yX3_work cX3_work 3 (some .int) 2 := ⟨by decide +kernel, by decide, cod_X3_work, ini_X3, ins_X3_work, sel_X3_work⟩
theorem ci_X2_orderWork : CIv yX2_orderWork cX2_orderWork 4 (some .int) 2 := ⟨by decide +kernel, by decide, cod_X2_orderWork, ini_X2, ins_X2_orderWork, sel_X2_orderWork⟩
theorem ci_X3_pass : CIv yX3_pass cX3_pass 2 (some .int) 1 := ⟨by decide +kernel, by decide, cod_X3_pass, ini_X3, ins_X3_pass, sel_X3_pass⟩
theorem ci_X2_letPass : CIv yX2_letPass cX2_letPass 3 (some .int) 1 := ⟨by decide +kernel, by decide, cod_X2_letPass, ini_X2, ins_X2_letPass, sel_X2_letPass⟩
theorem ci_X3_type : CIv yX3_type cX3_type 2 (some .int) 1 := ⟨by decide +kernel, by decide, cod_X3_type, ini_X3, ins_X3_type, sel_X3_type⟩
theorem ci_X1_append : CIv yX1_append cX1_append 2 (some .int) 1 := ⟨by decide +kernel, by decide, cod_X1_append, ini_X1, ins_X1_append, sel_X1_append⟩
theorem ci_X3_clearText : CIv yX3_clearText cX3_clearText 1 (some .int) 0 := ⟨by decide +kernel, by decide, cod_X3_clearText, ini_X3, ins_X3_clearText, sel_X3_clearText⟩
theorem ci_X1_empty : CIv yX1_empty cX1_empty 2 (some .int) 0 := ⟨by decide +kernel, by decide, cod_X1_empty, ini_X1, ins_X1_empty, sel_X1_empty⟩
theorem ci_X3_perform : CIv yX3_perform cX3_perform 5 (some .int) 0 := ⟨by decide +kernel, by decide, cod_X3_perform, ini_X3, ins_X3_perform, sel_X3_perform⟩
theorem ci_X1_read : CIv yX1_read cX1_read 1 (some .int) 0 := ⟨by decide +kernel, by decide, cod_X1_read, ini_X1, ins_X1_read, sel_X1_read⟩
theorem ci_X1_readThing : CIv yX1_readThing cX1_readThing 4 (some .boolean) 0 := ⟨by decide +kernel, by decide, cod_X1_readThing, ini_X1, ins_X1_readThing, sel_X1_readThing⟩
theorem ci_X1_readNumber : CIv yX1_readNumber cX1_readNumber 5 (some .int) 2 := ⟨by decide +kernel, by decide, cod_X1_readNumber, ini_X1, ins_X1_readNumber, sel_X1_readNumber⟩
theorem ci_X1_digit : CIv yX1_digit cX1_digit 1 (some .int) 0 := ⟨by decide +kernel, by decide, cod_X1_digit, ini_X1, ins_X1_digit, sel_X1_digit⟩
theorem ci_X1_readCharacter : CIv yX1_readCharacter cX1_readCharacter 2 (some .boolean) 1 := ⟨by decide +kernel, by decide, cod_X1_readCharacter, ini_X1, ins_X1_readCharacter, sel_X1_readCharacter⟩
theorem ci_X1_things : CIv yX1_things cX1_things 1 (some .int) 0 := ⟨by decide +kernel, by decide, cod_X1_things, ini_X1, ins_X1_things, sel_X1_things⟩
theorem ci_X1_sign : CIv yX1_sign cX1_sign 2 (some .char) 1 := ⟨by decide +kernel, by decide, cod_X1_sign, ini_X1, ins_X1_sign, sel_X1_sign⟩
theorem ci_X1_first : CIv yX1_first cX1_first 2 (some .int) 1 := ⟨by decide +kernel, by decide, cod_X1_first, ini_X1, ins_X1_first, sel_X1_first⟩
theorem ci_X1_second : CIv yX1_second cX1_second 2 (some .int) 1 := ⟨by decide +kernel, by decide, cod_X1_second, ini_X1, ins_X1_second, sel_X1_second⟩
theorem ci_X3_doThing : CIv yX3_doThing cX3_doThing 4 (some .int) 3 := ⟨by decide +kernel, by decide, cod_X3_doThing, ini_X3, ins_X3_doThing, sel_X3_doThing⟩
theorem ci_X0_takeBack : CIv yX0_takeBack cX0_takeBack 2 none 1 := ⟨by decide +kernel, by decide, cod_X0_takeBack, ini_X0, ins_X0_takeBack, sel_X0_takeBack⟩
theorem ci_X3_stopped : CIv yX3_stopped cX3_stopped 2 (some .int) 1 := ⟨by decide +kernel, by decide, cod_X3_stopped, ini_X3, ins_X3_stopped, sel_X3_stopped⟩
theorem ci_X3_undo : CIv yX3_undo cX3_undo 1 (some .int) 0 := ⟨by decide +kernel, by decide, cod_X3_undo, ini_X3, ins_X3_undo, sel_X3_undo⟩
theorem ci_X0_stepBack : CIv yX0_stepBack cX0_stepBack 2 (some .int) 1 := ⟨by decide +kernel, by decide, cod_X0_stepBack, ini_X0, ins_X0_stepBack, sel_X0_stepBack⟩
theorem ci_X3_keep : CIv yX3_keep cX3_keep 1 (some .int) 0 := ⟨by decide +kernel, by decide, cod_X3_keep, ini_X3, ins_X3_keep, sel_X3_keep⟩
theorem ci_X3_restore : CIv yX3_restore cX3_restore 1 (some .int) 0 := ⟨by decide +kernel, by decide, cod_X3_restore, ini_X3, ins_X3_restore, sel_X3_restore⟩
theorem ci_X3_boat : CIv yX3_boat cX3_boat 3 (some .int) 2 := ⟨by decide +kernel, by decide, cod_X3_boat, ini_X3, ins_X3_boat, sel_X3_boat⟩
theorem ci_X2_isFact : CIs yX2_isFact cX2_isFact 1 (some .boolean) 1 := ⟨by decide +kernel, by decide, cod_X2_isFact, ini_X2, stc_X2_isFact⟩
theorem ci_X3_row : CIv yX3_row cX3_row 3 (some .int) 2 := ⟨by decide +kernel, by decide, cod_X3_row, ini_X3, ins_X3_row, sel_X3_row⟩
theorem ci_X2_boatAt : CIv yX2_boatAt cX2_boatAt 4 (some .int) 2 := ⟨by decide +kernel, by decide, cod_X2_boatAt, ini_X2, ins_X2_boatAt, sel_X2_boatAt⟩
theorem ci_X3_stands : CIv yX3_stands cX3_stands 3 (some .int) 2 := ⟨by decide +kernel, by decide, cod_X3_stands, ini_X3, ins_X3_stands, sel_X3_stands⟩
theorem ci_X3_cradle : CIv yX3_cradle cX3_cradle 3 (some .int) 2 := ⟨by decide +kernel, by decide, cod_X3_cradle, ini_X3, ins_X3_cradle, sel_X3_cradle⟩
theorem ci_X2_cradlesOf : CIv yX2_cradlesOf cX2_cradlesOf 2 (some .int) 1 := ⟨by decide +kernel, by decide, cod_X2_cradlesOf, ini_X2, ins_X2_cradlesOf, sel_X2_cradlesOf⟩
theorem ci_X3_tide : CIv yX3_tide cX3_tide 2 (some .int) 1 := ⟨by decide +kernel, by decide, cod_X3_tide, ini_X3, ins_X3_tide, sel_X3_tide⟩
theorem ci_X3_liftReason : CIv yX3_liftReason cX3_liftReason 3 (some .int) 2 := ⟨by decide +kernel, by decide, cod_X3_liftReason, ini_X3, ins_X3_liftReason, sel_X3_liftReason⟩
theorem ci_X3_launchReason : CIv yX3_launchReason cX3_launchReason 2 (some .int) 1 := ⟨by decide +kernel, by decide, cod_X3_launchReason, ini_X3, ins_X3_launchReason, sel_X3_launchReason⟩
theorem ci_X3_blockers : CIv yX3_blockers cX3_blockers 2 (some .int) 1 := ⟨by decide +kernel, by decide, cod_X3_blockers, ini_X3, ins_X3_blockers, sel_X3_blockers⟩
theorem ci_X3_launchDay : CIv yX3_launchDay cX3_launchDay 2 (some .int) 1 := ⟨by decide +kernel, by decide, cod_X3_launchDay, ini_X3, ins_X3_launchDay, sel_X3_launchDay⟩
theorem ci_X2_firstLaunchDay : CIv yX2_firstLaunchDay cX2_firstLaunchDay 4 (some .int) 1 := ⟨by decide +kernel, by decide, cod_X2_firstLaunchDay, ini_X2, ins_X2_firstLaunchDay, sel_X2_firstLaunchDay⟩
theorem ci_X3_bestRow : CIv yX3_bestRow cX3_bestRow 2 (some .int) 1 := ⟨by decide +kernel, by decide, cod_X3_bestRow, ini_X3, ins_X3_bestRow, sel_X3_bestRow⟩
theorem ci_X2_tightestRow : CIv yX2_tightestRow cX2_tightestRow 5 (some .int) 1 := ⟨by decide +kernel, by decide, cod_X2_tightestRow, ini_X2, ins_X2_tightestRow, sel_X2_tightestRow⟩
theorem ci_X3_count : CIv yX3_count cX3_count 2 (some .int) 1 := ⟨by decide +kernel, by decide, cod_X3_count, ini_X3, ins_X3_count, sel_X3_count⟩
theorem ci_X2_today : CIv yX2_today cX2_today 1 (some .int) 0 := ⟨by decide +kernel, by decide, cod_X2_today, ini_X2, ins_X2_today, sel_X2_today⟩
theorem ci_X2_boatsAshore : CIv yX2_boatsAshore cX2_boatsAshore 1 (some .int) 0 := ⟨by decide +kernel, by decide, cod_X2_boatsAshore, ini_X2, ins_X2_boatsAshore, sel_X2_boatsAshore⟩
theorem ci_X2_boatsWithWork : CIv yX2_boatsWithWork cX2_boatsWithWork 3 (some .int) 0 := ⟨by decide +kernel, by decide, cod_X2_boatsWithWork, ini_X2, ins_X2_boatsWithWork, sel_X2_boatsWithWork⟩
theorem ci_X2_liftsSoFar : CIv yX2_liftsSoFar cX2_liftsSoFar 1 (some .int) 0 := ⟨by decide +kernel, by decide, cod_X2_liftsSoFar, ini_X2, ins_X2_liftsSoFar, sel_X2_liftsSoFar⟩
theorem ci_X2_launchesSoFar : CIv yX2_launchesSoFar cX2_launchesSoFar 1 (some .int) 0 := ⟨by decide +kernel, by decide, cod_X2_launchesSoFar, ini_X2, ins_X2_launchesSoFar, sel_X2_launchesSoFar⟩
theorem ci_X2_setting : CIv yX2_setting cX2_setting 2 (some .int) 1 := ⟨by decide +kernel, by decide, cod_X2_setting, ini_X2, ins_X2_setting, sel_X2_setting⟩
theorem ci_X0_states : CIv yX0_states cX0_states 1 (some .int) 0 := ⟨by decide +kernel, by decide, cod_X0_states, ini_X0, ins_X0_states, sel_X0_states⟩
theorem ci_X1_length : CIv yX1_length cX1_length 1 (some .int) 0 := ⟨by decide +kernel, by decide, cod_X1_length, ini_X1, ins_X1_length, sel_X1_length⟩
theorem ci_X4_undo : CIv yX4_undo cX4_undo 2 (some .int) 0 := ⟨by decide +kernel, by decide, cod_X4_undo, ini_X4, ins_X4_undo, sel_X4_undo⟩
theorem ci_X4_keep : CIv yX4_keep cX4_keep 2 (some .int) 0 := ⟨by decide +kernel, by decide, cod_X4_keep, ini_X4, ins_X4_keep, sel_X4_keep⟩
theorem ci_X4_boats : CIv yX4_boats cX4_boats 3 (some .int) 0 := ⟨by decide +kernel, by decide, cod_X4_boats, ini_X4, ins_X4_boats, sel_X4_boats⟩
theorem ci_X4_of : CIv yX4_of cX4_of 3 (some .int) 2 := ⟨by decide +kernel, by decide, cod_X4_of, ini_X4, ins_X4_of, sel_X4_of⟩
theorem ci_X4_restore : CIv yX4_restore cX4_restore 2 (some .int) 0 := ⟨by decide +kernel, by decide, cod_X4_restore, ini_X4, ins_X4_restore, sel_X4_restore⟩
theorem ci_X4_push : CIv yX4_push cX4_push 3 none 1 := ⟨by decide +kernel, by decide, cod_X4_push, ini_X4, ins_X4_push, sel_X4_push⟩
theorem ci_X4_come : CIv yX4_come cX4_come 6 (some .int) 4 := ⟨by decide +kernel, by decide, cod_X4_come, ini_X4, ins_X4_come, sel_X4_come⟩
theorem ci_X4_isKind : CIs yX4_isKind cX4_isKind 1 (some .boolean) 1 := ⟨by decide +kernel, by decide, cod_X4_isKind, ini_X4, stc_X4_isKind⟩
theorem ci_X4_in : CIs yX4_in cX4_in 3 (some .boolean) 3 := ⟨by decide +kernel, by decide, cod_X4_in, ini_X4, stc_X4_in⟩
theorem ci_X4_put : CIv yX4_put cX4_put 4 none 3 := ⟨by decide +kernel, by decide, cod_X4_put, ini_X4, ins_X4_put, sel_X4_put⟩
theorem ci_X4_goAway : CIv yX4_goAway cX4_goAway 2 (some .int) 1 := ⟨by decide +kernel, by decide, cod_X4_goAway, ini_X4, ins_X4_goAway, sel_X4_goAway⟩
theorem ci_X4_isBoat : CIv yX4_isBoat cX4_isBoat 2 (some .boolean) 1 := ⟨by decide +kernel, by decide, cod_X4_isBoat, ini_X4, ins_X4_isBoat, sel_X4_isBoat⟩
theorem ci_X4_isAshore : CIv yX4_isAshore cX4_isAshore 2 (some .boolean) 1 := ⟨by decide +kernel, by decide, cod_X4_isAshore, ini_X4, ins_X4_isAshore, sel_X4_isAshore⟩
theorem ci_X4_setCradles : CIv yX4_setCradles cX4_setCradles 3 (some .int) 2 := ⟨by decide +kernel, by decide, cod_X4_setCradles, ini_X4, ins_X4_setCradles, sel_X4_setCradles⟩
theorem ci_X4_taken : CIv yX4_taken cX4_taken 4 (some .int) 1 := ⟨by decide +kernel, by decide, cod_X4_taken, ini_X4, ins_X4_taken, sel_X4_taken⟩
theorem ci_X4_change : CIv yX4_change cX4_change 4 (some .int) 2 := ⟨by decide +kernel, by decide, cod_X4_change, ini_X4, ins_X4_change, sel_X4_change⟩
theorem ci_X4_setRow : CIv yX4_setRow cX4_setRow 3 (some .int) 2 := ⟨by decide +kernel, by decide, cod_X4_setRow, ini_X4, ins_X4_setRow, sel_X4_setRow⟩
theorem ci_X4_isRow : CIs yX4_isRow cX4_isRow 1 (some .boolean) 1 := ⟨by decide +kernel, by decide, cod_X4_isRow, ini_X4, stc_X4_isRow⟩
theorem ci_X4_metresTaken : CIv yX4_metresTaken cX4_metresTaken 4 (some .int) 1 := ⟨by decide +kernel, by decide, cod_X4_metresTaken, ini_X4, ins_X4_metresTaken, sel_X4_metresTaken⟩
theorem ci_X4_isIn : CIv yX4_isIn cX4_isIn 3 (some .boolean) 2 := ⟨by decide +kernel, by decide, cod_X4_isIn, ini_X4, ins_X4_isIn, sel_X4_isIn⟩
theorem ci_X4_set : CIv yX4_set cX4_set 4 (some .int) 2 := ⟨by decide +kernel, by decide, cod_X4_set, ini_X4, ins_X4_set, sel_X4_set⟩
theorem ci_X4_lift : CIv yX4_lift cX4_lift 4 (some .int) 2 := ⟨by decide +kernel, by decide, cod_X4_lift, ini_X4, ins_X4_lift, sel_X4_lift⟩
theorem ci_X4_noLift : CIv yX4_noLift cX4_noLift 4 (some .int) 2 := ⟨by decide +kernel, by decide, cod_X4_noLift, ini_X4, ins_X4_noLift, sel_X4_noLift⟩
theorem ci_X4_whyNoLift : CIv yX4_whyNoLift cX4_whyNoLift 3 (some .int) 2 := ⟨by decide +kernel, by decide, cod_X4_whyNoLift, ini_X4, ins_X4_whyNoLift, sel_X4_whyNoLift⟩
theorem ci_X4_tideAt : CIv yX4_tideAt cX4_tideAt 3 (some .int) 1 := ⟨by decide +kernel, by decide, cod_X4_tideAt, ini_X4, ins_X4_tideAt, sel_X4_tideAt⟩
theorem ci_X4_cradleFor : CIv yX4_cradleFor cX4_cradleFor 5 (some .int) 1 := ⟨by decide +kernel, by decide, cod_X4_cradleFor, ini_X4, ins_X4_cradleFor, sel_X4_cradleFor⟩
theorem ci_X4_isFree : CIv yX4_isFree cX4_isFree 2 (some .boolean) 1 := ⟨by decide +kernel, by decide, cod_X4_isFree, ini_X4, ins_X4_isFree, sel_X4_isFree⟩
theorem ci_X4_bears : CIs yX4_bears cX4_bears 1 (some .int) 1 := ⟨by decide +kernel, by decide, cod_X4_bears, ini_X4, stc_X4_bears⟩
theorem ci_X4_hasRoom : CIv yX4_hasRoom cX4_hasRoom 3 (some .boolean) 2 := ⟨by decide +kernel, by decide, cod_X4_hasRoom, ini_X4, ins_X4_hasRoom, sel_X4_hasRoom⟩
theorem ci_X4_metresLeft : CIv yX4_metresLeft cX4_metresLeft 2 (some .int) 1 := ⟨by decide +kernel, by decide, cod_X4_metresLeft, ini_X4, ins_X4_metresLeft, sel_X4_metresLeft⟩
theorem ci_X4_liftsLeft : CIv yX4_liftsLeft cX4_liftsLeft 1 (some .int) 0 := ⟨by decide +kernel, by decide, cod_X4_liftsLeft, ini_X4, ins_X4_liftsLeft, sel_X4_liftsLeft⟩
theorem ci_X4_doLift : CIv yX4_doLift cX4_doLift 3 (some .int) 2 := ⟨by decide +kernel, by decide, cod_X4_doLift, ini_X4, ins_X4_doLift, sel_X4_doLift⟩
theorem ci_X4_stand : CIv yX4_stand cX4_stand 3 none 2 := ⟨by decide +kernel, by decide, cod_X4_stand, ini_X4, ins_X4_stand, sel_X4_stand⟩
theorem ci_X4_useCrane : CIv yX4_useCrane cX4_useCrane 1 none 0 := ⟨by decide +kernel, by decide, cod_X4_useCrane, ini_X4, ins_X4_useCrane, sel_X4_useCrane⟩
theorem ci_X4_boatsIn : CIv yX4_boatsIn cX4_boatsIn 4 (some .int) 1 := ⟨by decide +kernel, by decide, cod_X4_boatsIn, ini_X4, ins_X4_boatsIn, sel_X4_boatsIn⟩
theorem ci_X4_launch : CIv yX4_launch cX4_launch 3 (some .int) 1 := ⟨by decide +kernel, by decide, cod_X4_launch, ini_X4, ins_X4_launch, sel_X4_launch⟩
theorem ci_X4_noLaunch : CIv yX4_noLaunch cX4_noLaunch 3 (some .int) 1 := ⟨by decide +kernel, by decide, cod_X4_noLaunch, ini_X4, ins_X4_noLaunch, sel_X4_noLaunch⟩
theorem ci_X4_whyNoLaunch : CIv yX4_whyNoLaunch cX4_whyNoLaunch 2 (some .int) 1 := ⟨by decide +kernel, by decide, cod_X4_whyNoLaunch, ini_X4, ins_X4_whyNoLaunch, sel_X4_whyNoLaunch⟩
theorem ci_X4_blockersOf : CIv yX4_blockersOf cX4_blockersOf 2 (some .int) 1 := ⟨by decide +kernel, by decide, cod_X4_blockersOf, ini_X4, ins_X4_blockersOf, sel_X4_blockersOf⟩
theorem ci_X4_placeOf : CIv yX4_placeOf cX4_placeOf 4 (some .int) 1 := ⟨by decide +kernel, by decide, cod_X4_placeOf, ini_X4, ins_X4_placeOf, sel_X4_placeOf⟩
theorem ci_X4_doLaunch : CIv yX4_doLaunch cX4_doLaunch 3 (some .int) 1 := ⟨by decide +kernel, by decide, cod_X4_doLaunch, ini_X4, ins_X4_doLaunch, sel_X4_doLaunch⟩
theorem ci_X4_move : CIv yX4_move cX4_move 4 (some .int) 2 := ⟨by decide +kernel, by decide, cod_X4_move, ini_X4, ins_X4_move, sel_X4_move⟩
theorem ci_X4_noMove : CIv yX4_noMove cX4_noMove 3 (some .int) 2 := ⟨by decide +kernel, by decide, cod_X4_noMove, ini_X4, ins_X4_noMove, sel_X4_noMove⟩
theorem ci_X4_doMove : CIv yX4_doMove cX4_doMove 3 (some .int) 2 := ⟨by decide +kernel, by decide, cod_X4_doMove, ini_X4, ins_X4_doMove, sel_X4_doMove⟩
theorem ci_X4_mast : CIv yX4_mast cX4_mast 4 (some .int) 2 := ⟨by decide +kernel, by decide, cod_X4_mast, ini_X4, ins_X4_mast, sel_X4_mast⟩
theorem ci_X4_noMast : CIv yX4_noMast cX4_noMast 3 (some .int) 2 := ⟨by decide +kernel, by decide, cod_X4_noMast, ini_X4, ins_X4_noMast, sel_X4_noMast⟩
theorem ci_X4_rackFor : CIv yX4_rackFor cX4_rackFor 2 (some .int) 1 := ⟨by decide +kernel, by decide, cod_X4_rackFor, ini_X4, ins_X4_rackFor, sel_X4_rackFor⟩
theorem ci_X4_mastsIn : CIv yX4_mastsIn cX4_mastsIn 4 (some .int) 1 := ⟨by decide +kernel, by decide, cod_X4_mastsIn, ini_X4, ins_X4_mastsIn, sel_X4_mastsIn⟩
theorem ci_X4_doMast : CIv yX4_doMast cX4_doMast 4 (some .int) 2 := ⟨by decide +kernel, by decide, cod_X4_doMast, ini_X4, ins_X4_doMast, sel_X4_doMast⟩
theorem ci_X4_work : CIv yX4_work cX4_work 3 (some .int) 2 := ⟨by decide +kernel, by decide, cod_X4_work, ini_X4, ins_X4_work, sel_X4_work⟩
theorem ci_X4_pass : CIv yX4_pass cX4_pass 3 (some .int) 1 := ⟨by decide +kernel, by decide, cod_X4_pass, ini_X4, ins_X4_pass, sel_X4_pass⟩
theorem ci_X4_noPass : CIv yX4_noPass cX4_noPass 2 (some .int) 1 := ⟨by decide +kernel, by decide, cod_X4_noPass, ini_X4, ins_X4_noPass, sel_X4_noPass⟩
theorem ci_X4_doPass : CIv yX4_doPass cX4_doPass 3 (some .int) 1 := ⟨by decide +kernel, by decide, cod_X4_doPass, ini_X4, ins_X4_doPass, sel_X4_doPass⟩
theorem ci_X4_type : CIv yX4_type cX4_type 2 (some .int) 1 := ⟨by decide +kernel, by decide, cod_X4_type, ini_X4, ins_X4_type, sel_X4_type⟩
theorem ci_X4_clearText : CIv yX4_clearText cX4_clearText 2 (some .int) 0 := ⟨by decide +kernel, by decide, cod_X4_clearText, ini_X4, ins_X4_clearText, sel_X4_clearText⟩
theorem ci_X4_perform : CIv yX4_perform cX4_perform 5 (some .int) 0 := ⟨by decide +kernel, by decide, cod_X4_perform, ini_X4, ins_X4_perform, sel_X4_perform⟩
theorem ci_X4_findFault : CIv yX4_findFault cX4_findFault 2 (some .int) 0 := ⟨by decide +kernel, by decide, cod_X4_findFault, ini_X4, ins_X4_findFault, sel_X4_findFault⟩
theorem ci_X4_readCommand : CIv yX4_readCommand cX4_readCommand 3 (some .int) 1 := ⟨by decide +kernel, by decide, cod_X4_readCommand, ini_X4, ins_X4_readCommand, sel_X4_readCommand⟩
theorem ci_X4_at : CIv yX4_at cX4_at 2 (some .int) 1 := ⟨by decide +kernel, by decide, cod_X4_at, ini_X4, ins_X4_at, sel_X4_at⟩
theorem ci_X4_readNumber : CIv yX4_readNumber cX4_readNumber 6 (some .int) 3 := ⟨by decide +kernel, by decide, cod_X4_readNumber, ini_X4, ins_X4_readNumber, sel_X4_readNumber⟩
theorem ci_X4_isDigit : CIs yX4_isDigit cX4_isDigit 1 (some .boolean) 1 := ⟨by decide +kernel, by decide, cod_X4_isDigit, ini_X4, stc_X4_isDigit⟩
theorem ci_X4_noCommand : CIv yX4_noCommand cX4_noCommand 1 (some .int) 0 := ⟨by decide +kernel, by decide, cod_X4_noCommand, ini_X4, ins_X4_noCommand, sel_X4_noCommand⟩
theorem ci_X4_doCommand : CIv yX4_doCommand cX4_doCommand 1 (some .int) 0 := ⟨by decide +kernel, by decide, cod_X4_doCommand, ini_X4, ins_X4_doCommand, sel_X4_doCommand⟩
theorem ci_X4_stopped : CIv yX4_stopped cX4_stopped 2 (some .int) 1 := ⟨by decide +kernel, by decide, cod_X4_stopped, ini_X4, ins_X4_stopped, sel_X4_stopped⟩
theorem ci_X4_boat : CIv yX4_boat cX4_boat 3 (some .int) 2 := ⟨by decide +kernel, by decide, cod_X4_boat, ini_X4, ins_X4_boat, sel_X4_boat⟩
theorem ci_X4_row : CIv yX4_row cX4_row 3 (some .int) 2 := ⟨by decide +kernel, by decide, cod_X4_row, ini_X4, ins_X4_row, sel_X4_row⟩
theorem ci_X4_boatAt : CIv yX4_boatAt cX4_boatAt 5 (some .int) 2 := ⟨by decide +kernel, by decide, cod_X4_boatAt, ini_X4, ins_X4_boatAt, sel_X4_boatAt⟩
theorem ci_X4_stands : CIv yX4_stands cX4_stands 3 (some .int) 2 := ⟨by decide +kernel, by decide, cod_X4_stands, ini_X4, ins_X4_stands, sel_X4_stands⟩
theorem ci_X4_cradle : CIv yX4_cradle cX4_cradle 3 (some .int) 2 := ⟨by decide +kernel, by decide, cod_X4_cradle, ini_X4, ins_X4_cradle, sel_X4_cradle⟩
theorem ci_X4_tide : CIv yX4_tide cX4_tide 2 (some .int) 1 := ⟨by decide +kernel, by decide, cod_X4_tide, ini_X4, ins_X4_tide, sel_X4_tide⟩
theorem ci_X4_liftReason : CIv yX4_liftReason cX4_liftReason 3 (some .int) 2 := ⟨by decide +kernel, by decide, cod_X4_liftReason, ini_X4, ins_X4_liftReason, sel_X4_liftReason⟩
theorem ci_X4_launchReason : CIv yX4_launchReason cX4_launchReason 2 (some .int) 1 := ⟨by decide +kernel, by decide, cod_X4_launchReason, ini_X4, ins_X4_launchReason, sel_X4_launchReason⟩
theorem ci_X4_blockers : CIv yX4_blockers cX4_blockers 2 (some .int) 1 := ⟨by decide +kernel, by decide, cod_X4_blockers, ini_X4, ins_X4_blockers, sel_X4_blockers⟩
theorem ci_X4_launchDay : CIv yX4_launchDay cX4_launchDay 6 (some .int) 1 := ⟨by decide +kernel, by decide, cod_X4_launchDay, ini_X4, ins_X4_launchDay, sel_X4_launchDay⟩
theorem ci_X4_bestRow : CIv yX4_bestRow cX4_bestRow 5 (some .int) 1 := ⟨by decide +kernel, by decide, cod_X4_bestRow, ini_X4, ins_X4_bestRow, sel_X4_bestRow⟩
theorem ci_X4_count : CIv yX4_count cX4_count 5 (some .int) 1 := ⟨by decide +kernel, by decide, cod_X4_count, ini_X4, ins_X4_count, sel_X4_count⟩
end
section
/-! what all methods stand on: the context of a walk, the worlds, contracts of readers and writers, calls -/
abbrev rk (k : Nat) : Room := { frames := k, cells := 0, slots := 0, locals := 40 * k }
abbrev WG : Type := va_G × ClassId × ClassId × ClassId
abbrev tysW (g : WG) : List (ClassId × FieldType) := [(g.2.1, .int), (g.2.2.1, .char), (g.2.2.2, .object "WinterYard$Yard")]
def tbL : Nat → Value := fun j => .int (if j = 0 then 0 else 1)
def tbG : Nat → Value := fun j => .int (if j = 2 then 30 else 9)
def tbB : Nat → Value := fun j => .int (if j = 0 then 30 else if j = 1 then 12 else 20)
/-- what else is known of a state: two links to a nest mate's method, three static tables -/
def Ex (A : Nat → Prop) (U : State) (H : Heap) : Prop := va_Nw (.methodLinkNest RX3 32 yX1_init RX3) U ∧ va_Nw (.methodLinkNest RX2 47 yX3_within RX3) U ∧ (∃ t, va_Z RX2 "LEAST_SETTING" "[I" (.ref t) A U H ∧ va_T .int t 3 tbL A U H) ∧ (∃ t, va_Z RX2 "GREATEST_SETTING" "[I" (.ref t) A U H ∧ va_T .int t 3 tbG A U H) ∧ (∃ t, va_Z RX2 "BEARS" "[I" (.ref t) A U H ∧ va_T .int t 3 tbB A U H)
theorem Ex.warm {A : Nat → Prop} {s U : State} {H : Heap} (hW : s.WarmedH U.vm) (h : Ex A s H) : Ex A U H := by
  obtain ⟨h1, h2, ⟨t1, a1, b1⟩, ⟨t2, a2, b2⟩, ⟨t3, a3, b3⟩⟩ := h
  exact ⟨va_Nw.warmM hW h1, va_Nw.warmM hW h2, ⟨t1, a1.moved hW.alike, b1.moved hW.alike⟩, ⟨t2, a2.moved hW.alike, b2.moved hW.alike⟩, ⟨t3, a3.moved hW.alike, b3.moved hW.alike⟩⟩
theorem Ex.call {A : Nat → Prop} {U : State} {g : JFrame} {mk : MethodId} {a : Array Value} (h : Ex A U U.heap) : Ex A (U.calling g mk a) (U.calling g mk a).heap := by
  obtain ⟨h1, h2, ⟨t1, a1, b1⟩, ⟨t2, a2, b2⟩, ⟨t3, a3, b3⟩⟩ := h
  have hv : U.vm.Alike (U.calling g mk a).vm := Vm.Alike.refl U.vm
  exact ⟨va_Nw.same rfl rfl h1, va_Nw.same rfl rfl h2, ⟨t1, va_Z.moved hv a1, va_T.moved hv b1⟩, ⟨t2, va_Z.moved hv a2, va_T.moved hv b2⟩, ⟨t3, va_Z.moved hv a3, va_T.moved hv b3⟩⟩
theorem Ex.kept {A : Nat → Prop} {s : State} {H H1 : Heap} (h : Ex A s H) (hq : ∀ a : Nat, a < H.size → ¬ A a → H1[a]? = H[a]?) : Ex A s H1 := by
  obtain ⟨h1, h2, ⟨t1, a1, b1⟩, ⟨t2, a2, b2⟩, ⟨t3, a3, b3⟩⟩ := h
  exact ⟨h1, h2, ⟨t1, a1.kept hq, b1.kept hq⟩, ⟨t2, a2.kept hq, b2.kept hq⟩, ⟨t3, a3.kept hq, b3.kept hq⟩⟩
theorem Ex.narrow {A B : Nat → Prop} {s : State} {H : Heap} (h : Ex A s H) (hAB : ∀ q, B q → A q) : Ex B s H := by
  obtain ⟨h1, h2, ⟨t1, a1, b1⟩, ⟨t2, a2, b2⟩, ⟨t3, a3, b3⟩⟩ := h
  exact ⟨h1, h2, ⟨t1, a1.narrow hAB, b1.narrow hAB⟩, ⟨t2, a2.narrow hAB, b2.narrow hAB⟩, ⟨t3, a3.narrow hAB, b3.narrow hAB⟩⟩
theorem Ex.S {A : Nat → Prop} {s : State} {H : Heap} {locs : List Loc} (h : Ex A s s.heap) (hS : va_S A s.heap H locs) : Ex A s H := h.kept (fun a h1 h2 => hS.2.1 a h1 h2)
theorem Ex.none {A : Nat → Prop} {s : State} {H : Heap} (h : Ex A s H) : Ex (fun _ => False) s H := h.narrow (fun _ h => h.elim)
/-- a world: cells, the tables, the rest -/
def Wl (g : WG) (ws : va_W) (A : Nat → Prop) (U : State) : Prop := va_P g.1 vwCl ws U.heap ∧ va_K g.1 vwCl (tysW g) U ∧ Ex A U U.heap
theorem Wl.call {g : WG} {ws : va_W} {A : Nat → Prop} {U : State} {f : JFrame} {mk : MethodId} {a : Array Value} (h : Wl g ws A U) : Wl g ws A (U.calling f mk a) :=
  ⟨h.1, va_K.moved (u := U) (U := U.calling f mk a) (Vm.Alike.refl U.vm) h.2.1, h.2.2.call⟩
/-- the context of a walk: the machine, the code, the words -/
def Cx (p : Program) (s : State) (m : MethodId) (args : Array Value) (meth : Method) (c : Code) (y : MethodName) (b : ByteArray) (n : Nat) (rt : Option FieldType) : Prop :=
  p.tables.exec = Jvm.exec ∧ c.code = b ∧ c.maxLocals = n ∧ meth.sig.returnType = rt ∧ s.vm.findClass y.cls = some m.cls ∧ (∀ w ∈ wB, w.before args s = true) ∧ meth.locks = false ∧ meth.name = y.name
/-- a method that changes nothing: it answers r -/
def Rd (l : Launch) (y : MethodName) (b : ByteArray) (n : Nat) (rt : Option FieldType) (k : Nat) (Pre : State → Prop) (av : List Value) (r : Int32) : Prop :=
  Met l y (Cond.code y b n rt :: wB) (rk k) (va_Pc av Pre) (vp_Si (fun x => x = r)) 0 0 (fun _ => False)
/-- a method that answers r and leaves the cells ws' where ws were -/
def Pw (g : WG) (ws : va_W) (sz : Nat) (U : State) : Prop := U.heap.size = sz ∧ va_D (fun _ => True) ws ∧ Wl g ws (va_A ws sz) U
theorem Pw.call {g : WG} {ws : va_W} {sz : Nat} {U : State} {f : JFrame} {mk : MethodId} {a : Array Value} (h : Pw g ws sz U) : Pw g ws sz (U.calling f mk a) := ⟨h.1, h.2.1, h.2.2.call⟩
def Bw (g : WG) (ws ws' : va_W) (sz : Nat) : Unit → State → Prop := fun _ t => va_P g.1 vwCl ws' t.heap ∧ va_D (va_A ws sz) ws'
def Wr (l : Launch) (y : MethodName) (b : ByteArray) (n : Nat) (rt : Option FieldType) (k : Nat) (g : WG) (ws ws' : va_W) (av : List Value) (r : Int32) : Prop :=
  ∀ sz : Nat, Met l y (Cond.code y b n rt :: wB) (rk k) (va_Pc av (Pw g ws sz)) (va_Qi (fun x _ => x = r) (Bw g ws ws' sz) (va_A ws sz)) 0 0 (va_A ws sz)
def Wv (l : Launch) (y : MethodName) (b : ByteArray) (n : Nat) (k : Nat) (g : WG) (ws ws' : va_W) (av : List Value) : Prop :=
  ∀ sz : Nat, Met l y (Cond.code y b n none :: wB) (rk k) (va_Pc av (Pw g ws sz)) (va_Qv (fun _ => True) (Bw g ws ws' sz) (va_A ws sz)) 0 0 (va_A ws sz)
section BASE
variable {p : Program} {l : Launch} {e : Env} {R : Room} {s : State} {m : MethodId} {args : Array Value} {below : List Frame} {meth : Method} {c : Code} {H : Heap} {locs : List Loc} {cells slots : Nat} {Q : State → Prop}
variable {pc : Nat} {ls : Array Slot} {rest : List Value}
theorem cx_of {y : MethodName} {ws' : List Cond} {rm : Room} {b : ByteArray} {n : Nat} {rt : Option FieldType} {s₁ : State} (B : BodyLoose p l y (headSpec (Cond.code y b n rt :: wB) rm) b n rt e s m args below meth c s₁) (hml : c.maxLocals = n) : Cx p s m args meth c y b n rt :=
  ⟨B.exec, B.bytes, hml, B.returns, findClass_of_methodNamed B.named, fun w hw => atoms_spec (ws := Cond.code y b n rt :: wB) B.pre w (List.mem_cons_of_mem _ hw), B.notSynchronized, (name_of_methodNamed B.named B.method).1⟩
/-- a reader's contract out of a walk of its body -/
theorem rd_of {y : MethodName} {b : ByteArray} {n : Nat} {rt : Option FieldType} {k : Nat} {Pre : State → Prop} {av : List Value} {r : Int32} (hy : plainName y.cls = true) (hn : (lg_sl av).length ≤ n)
    (body : ∀ (p : Program) (e : Env) (s : State) (m : MethodId) (args : Array Value) (below : List Frame) (meth : Method) (c : Code) (ls : Array Slot), Cx p s m args meth c y b n rt → Pre s → lv_has ls n (lv_args 0 av) → W p l e (rk k) s m args below meth c s.heap [] 0 0 (MQ below (vp_Si (fun x => x = r)) args s 0 0 (fun _ => False)) (F0 m 0 ls [])) : Rd l y b n rt k Pre av r := by
  refine Met.ofW (cc := b) (maxL := n) (ret := rt) hy rfl ?_
  intro p e s m args below meth c s₁ B hml hv
  obtain ⟨rfl, hv⟩ := hv
  have hl := lv_entry av (n := n) hn
  rw [lg_entry_eq]
  generalize (lg_sl av ++ List.replicate (n - (lg_sl av).length) Slot.unset).toArray = ls at hl ⊢
  exact body p e s m av.toArray below meth c ls (cx_of (ws' := []) B hml) hv hl
theorem wr_of {y : MethodName} {b : ByteArray} {n : Nat} {rt : Option FieldType} {k : Nat} {g : WG} {ws ws' : va_W} {av : List Value} {r : Int32} (hy : plainName y.cls = true) (hn : (lg_sl av).length ≤ n)
    (body : ∀ (p : Program) (e : Env) (s : State) (m : MethodId) (args : Array Value) (below : List Frame) (meth : Method) (c : Code) (ls : Array Slot) (A : Nat → Prop), Cx p s m args meth c y b n rt → A = va_A ws s.heap.size → va_P g.1 vwCl ws s.heap → va_D A ws → va_K g.1 vwCl (tysW g) s → Ex A s s.heap → (∀ q : Nat, s.heap.size ≤ q → A q) → va_S A s.heap s.heap [] → lv_has ls n (lv_args 0 av) → W p l e (rk k) s m args below meth c s.heap [] 0 0 (MQ below (va_Qi (fun x _ => x = r) (Bw g ws ws' s.heap.size) (va_A ws s.heap.size)) args s 0 0 (va_A ws s.heap.size)) (F0 m 0 ls [])) : Wr l y b n rt k g ws ws' av r := by
  intro sz
  refine Met.ofW (cc := b) (maxL := n) (ret := rt) hy rfl ?_
  intro p e s m args below meth c s₁ B hml hv
  obtain ⟨rfl, rfl, hD, hP, hK, hE⟩ := hv
  have hl := lv_entry av (n := n) hn
  rw [lg_entry_eq]
  generalize (lg_sl av ++ List.replicate (n - (lg_sl av).length) Slot.unset).toArray = ls at hl ⊢
  exact body p e s m av.toArray below meth c ls (va_A ws s.heap.size) (cx_of (ws' := []) B hml) rfl hP hD.self hK hE (fun q h => Or.inr h) va_S.rf hl
theorem wv_of {y : MethodName} {b : ByteArray} {n : Nat} {k : Nat} {g : WG} {ws ws' : va_W} {av : List Value} (hy : plainName y.cls = true) (hn : (lg_sl av).length ≤ n)
    (body : ∀ (p : Program) (e : Env) (s : State) (m : MethodId) (args : Array Value) (below : List Frame) (meth : Method) (c : Code) (ls : Array Slot) (A : Nat → Prop), Cx p s m args meth c y b n none → A = va_A ws s.heap.size → va_P g.1 vwCl ws s.heap → va_D A ws → va_K g.1 vwCl (tysW g) s → Ex A s s.heap → (∀ q : Nat, s.heap.size ≤ q → A q) → va_S A s.heap s.heap [] → lv_has ls n (lv_args 0 av) → W p l e (rk k) s m args below meth c s.heap [] 0 0 (MQ below (va_Qv (fun _ => True) (Bw g ws ws' s.heap.size) (va_A ws s.heap.size)) args s 0 0 (va_A ws s.heap.size)) (F0 m 0 ls [])) : Wv l y b n k g ws ws' av := by
  intro sz
  refine Met.ofW (cc := b) (maxL := n) (ret := none) hy rfl ?_
  intro p e s m args below meth c s₁ B hml hv
  obtain ⟨rfl, rfl, hD, hP, hK, hE⟩ := hv
  have hl := lv_entry av (n := n) hn
  rw [lg_entry_eq]
  generalize (lg_sl av ++ List.replicate (n - (lg_sl av).length) Slot.unset).toArray = ls at hl ⊢
  exact body p e s m av.toArray below meth c ls (va_A ws s.heap.size) (cx_of (ws' := []) B hml) rfl hP hD.self hK hE (fun q h => Or.inr h) va_S.rf hl
/-- the ends -/
theorem rd_ret {y : MethodName} {b : ByteArray} {n : Nat} {r v : Int32} {free : Addr → Prop} (hC : Cx p s m args meth c y b n (some .int)) (hdg : decode b pc = .ok (.ireturn, 1)) (hv : v = r) : W p l e R s m args below meth c s.heap [] 0 0 (MQ below (vp_Si (fun x => x = r)) args s 0 0 free) (F0 m pc ls [.int v]) := by
  have hlocks : meth.locks = false := hC.2.2.2.2.2.2.1
  exact W.iret hC.1 hC.2.1 hC.2.2.2.1 (fun t ht _ => ⟨v, rfl, hv, ht⟩) (fun q h => by cases h) hdg hlocks
theorem rd_zret {y : MethodName} {b : ByteArray} {n : Nat} {ty : FieldType} {r v : Int32} {free : Addr → Prop} (hC : Cx p s m args meth c y b n (some ty)) (hdg : decode b pc = .ok (.ireturn, 1)) (hn : narrow ty (.int v) = .int v) (hv : v = r) : W p l e R s m args below meth c s.heap [] 0 0 (MQ below (vp_Si (fun x => x = r)) args s 0 0 free) (F0 m pc ls [.int v]) := by
  have hlocks : meth.locks = false := hC.2.2.2.2.2.2.1
  exact W.zret hC.1 hC.2.1 hC.2.2.2.1 hn (fun t ht _ => ⟨v, rfl, hv, ht⟩) (fun q h => by cases h) hdg hlocks
theorem wr_ret {y : MethodName} {b : ByteArray} {n : Nat} {g : WG} {ws ws' w1 : va_W} {r v : Int32} (hC : Cx p s m args meth c y b n (some .int)) (hP : va_P g.1 vwCl w1 H) (hD : va_D (va_A ws s.heap.size) w1) (hS : va_S (va_A ws s.heap.size) s.heap H locs) (hdg : decode b pc = .ok (.ireturn, 1)) (hv : v = r) (hw : w1 = ws') : W p l e R s m args below meth c H locs 0 0 (MQ below (va_Qi (fun x _ => x = r) (Bw g ws ws' s.heap.size) (va_A ws s.heap.size)) args s 0 0 (va_A ws s.heap.size)) (F0 m pc ls [.int v]) := by
  have hlocks : meth.locks = false := hC.2.2.2.2.2.2.1
  subst hw
  exact W.iret hC.1 hC.2.1 hC.2.2.2.1 (fun t ht _ => ⟨⟨v, (), rfl, hv, by rw [ht]; exact hP, hD⟩, hS.F ht⟩) hS.2.2 hdg hlocks
theorem wr_zret {y : MethodName} {b : ByteArray} {n : Nat} {ty : FieldType} {g : WG} {ws ws' w1 : va_W} {r v : Int32} (hC : Cx p s m args meth c y b n (some ty)) (hP : va_P g.1 vwCl w1 H) (hD : va_D (va_A ws s.heap.size) w1) (hS : va_S (va_A ws s.heap.size) s.heap H locs) (hdg : decode b pc = .ok (.ireturn, 1)) (hn : narrow ty (.int v) = .int v) (hv : v = r) (hw : w1 = ws') : W p l e R s m args below meth c H locs 0 0 (MQ below (va_Qi (fun x _ => x = r) (Bw g ws ws' s.heap.size) (va_A ws s.heap.size)) args s 0 0 (va_A ws s.heap.size)) (F0 m pc ls [.int v]) := by
  have hlocks : meth.locks = false := hC.2.2.2.2.2.2.1
  subst hw
  exact W.zret hC.1 hC.2.1 hC.2.2.2.1 hn (fun t ht _ => ⟨⟨v, (), rfl, hv, by rw [ht]; exact hP, hD⟩, hS.F ht⟩) hS.2.2 hdg hlocks
theorem wv_ret {y : MethodName} {b : ByteArray} {n : Nat} {g : WG} {ws ws' w1 : va_W} (hC : Cx p s m args meth c y b n none) (hP : va_P g.1 vwCl w1 H) (hD : va_D (va_A ws s.heap.size) w1) (hS : va_S (va_A ws s.heap.size) s.heap H locs) (hdg : decode b pc = .ok (.return_, 1)) (hw : w1 = ws') : W p l e R s m args below meth c H locs 0 0 (MQ below (va_Qv (fun _ => True) (Bw g ws ws' s.heap.size) (va_A ws s.heap.size)) args s 0 0 (va_A ws s.heap.size)) (F0 m pc ls []) := by
  have hlocks : meth.locks = false := hC.2.2.2.2.2.2.1
  subst hw
  exact W.vret hC.1 hC.2.1 hC.2.2.2.1 (fun t ht _ => ⟨⟨(), rfl, trivial, by rw [ht]; exact hP, hD⟩, hS.F ht⟩) hS.2.2 hdg hlocks
/-- words of a callee -/
theorem gd_V {own : String} {idx : Nat} {y : MethodName} {b : ByteArray} {n np : Nat} {rt : Option FieldType} (ci : CIv y b n rt np) (hl : Cond.methodLink own idx y ∈ wB) : GoodIn wB (wsV own idx y.cls y (Cond.code y b n rt :: wB)) := by
  intro w hw
  have key : w ∈ wB := by
    simp only [wsV, List.mem_append, List.mem_cons, List.not_mem_nil, or_false] at hw
    rcases hw with (h | h | h | h) | h | h
    · exact h ▸ hl
    · exact h ▸ ci.2.2.2.2.1
    · exact h ▸ ci.2.2.2.2.2
    · exact h ▸ ci.2.2.2.1
    · exact h ▸ ci.2.2.1
    · exact h
  exact ⟨key, wB_good key⟩
theorem gd_S {own : String} {idx : Nat} {y : MethodName} {b : ByteArray} {n np : Nat} {rt : Option FieldType} (ci : CIs y b n rt np) (hl : Cond.methodLink own idx y ∈ wB) : GoodIn wB (va_wsS own idx y (Cond.code y b n rt :: wB)) := by
  intro w hw
  have key : w ∈ wB := by
    simp only [va_wsS, List.mem_append, List.mem_cons, List.not_mem_nil, or_false] at hw
    rcases hw with (h | h | h) | h | h
    · exact h ▸ hl
    · exact h ▸ ci.2.2.2.2
    · exact h ▸ ci.2.2.2.1
    · exact h ▸ ci.2.2.1
    · exact h
  exact ⟨key, wB_good key⟩
theorem gd_B {y : MethodName} {b : ByteArray} {n : Nat} {rt : Option FieldType} (hc : Cond.code y b n rt ∈ wB) : GoodIn wB (Cond.code y b n rt :: wB) := by
  intro w hw
  have key : w ∈ wB := by
    rcases List.mem_cons.mp hw with h | h
    · exact h ▸ hc
    · exact h
  exact ⟨key, wB_good key⟩
theorem rmk {k n : Nat} (hn : n ≤ 21) (hR : k + 1 ≤ R.frames ∧ 40 * (k + 1) ≤ R.locals) : (rk k).frames + 1 ≤ R.frames ∧ 8 + (n + 11) + (rk k).locals ≤ R.locals := ⟨hR.1, by have := hR.2; show 8 + (n + 11) + 40 * k ≤ R.locals; omega⟩
/-- a call of a reader, by a receiver -/
theorem callRd {yo : MethodName} {cc : ByteArray} {nL : Nat} {ro : Option FieldType} {y : MethodName} {b : ByteArray} {n np k idx : Nat} {rt : Option FieldType} {g : WG} {wc : va_W} {a : Nat} {As : List Value} {r : Int32} {st : List Value}
    (hC : Cx p s m args meth c yo cc nL ro) (hM : Rd l y b n rt k (Wl g wc (fun _ => False)) (.ref a :: As) r) (ci : CIv y b n rt np) (hl : Cond.methodLink yo.cls idx y ∈ wB) (hR : k + 1 ≤ R.frames ∧ 40 * (k + 1) ≤ R.locals)
    (hP : va_P g.1 vwCl wc H) (hK : va_K g.1 vwCl (tysW g) s) (hE : Ex (fun _ => False) s H) {q0 cix : Nat} {q : vw_C} {fs : List Value} (he : wc[q0]? = some (a, .inr (cix, fs))) (hc : vwCl[cix]? = some q) (hq : q.1 = y.cls) (hn : As.length = np) (hsz : ls.size = nL) (hst : st = As.reverse ++ .ref a :: rest) (hW : (rest.map fun v => v.category).sum ≤ 8) (hdg : decode cc pc = .ok (.invokevirtual idx, 3)) (hf : cells ≤ R.cells ∧ slots ≤ R.slots)
    (kk : W p l e R s m args below meth c H locs cells slots Q (F0 m (pc + 3) ls (.int r :: rest))) : W p l e R s m args below meth c H locs cells slots Q (F0 m pc ls st) := by
  obtain ⟨hx, hb, hml, hr, hown, hts, hlk, hnm⟩ := hC
  have hrecv := va_recv hK hP hc he
  rw [hq] at hrecv
  refine vp_callSi (post := fun x => x = r) (W.runV (As := As) (rest := rest) (C := y.cls) ⟨hx, hb, hml, hown, hts⟩ hM (cwV np hts (gd_V ci hl) rfl rfl rfl ⟨rfl, ci.1⟩ (rmk ci.2.1 hR)) ⟨fun a U g mk q => ⟨q.1, q.2.call⟩, hrecv, fun U hU hW => ⟨rfl, by rw [hU]; exact hP, va_K.moved hW.alike hK, by rw [hU]; exact Ex.warm hW hE⟩⟩ rfl hn hsz hst (lv_room hW) hdg hf) (fun r' e' => by subst e'; exact kk)
/-- a call of a static reader -/
theorem callRs {yo : MethodName} {cc : ByteArray} {nL : Nat} {ro : Option FieldType} {y : MethodName} {b : ByteArray} {n np k idx : Nat} {rt : Option FieldType} {g : WG} {As : List Value} {r : Int32} {st : List Value}
    (hC : Cx p s m args meth c yo cc nL ro) (hM : Rd l y b n rt k (Wl g [] (fun _ => False)) As r) (ci : CIs y b n rt np) (hl : Cond.methodLink yo.cls idx y ∈ wB) (hR : k + 1 ≤ R.frames ∧ 40 * (k + 1) ≤ R.locals)
    (hK : va_K g.1 vwCl (tysW g) s) (hE : Ex (fun _ => False) s H) (hn : As.length = np) (hsz : ls.size = nL) (hst : st = As.reverse ++ rest) (hW : (rest.map fun v => v.category).sum ≤ 8) (hdg : decode cc pc = .ok (.invokestatic idx, 3)) (hf : cells ≤ R.cells ∧ slots ≤ R.slots)
    (kk : W p l e R s m args below meth c H locs cells slots Q (F0 m (pc + 3) ls (.int r :: rest))) : W p l e R s m args below meth c H locs cells slots Q (F0 m pc ls st) := by
  obtain ⟨hx, hb, hml, hr, hown, hts, hlk, hnm⟩ := hC
  refine vp_callSi (post := fun x => x = r) (W.runS (As := As) (rest := rest) ⟨hx, hb, hml, hown, hts⟩ hM (va_cwS np hts (gd_S ci hl) rfl rfl rfl ci.1 (rmk ci.2.1 hR)) ⟨fun a U g mk q => ⟨q.1, q.2.call⟩, fun U hU hW => ⟨rfl, fun k q h => by simp at h, va_K.moved hW.alike hK, by rw [hU]; exact Ex.warm hW hE⟩⟩ rfl hn hsz hst (lv_room hW) hdg hf) (fun r' e' => by subst e'; exact kk)
/-- a call of the private static method of the nest's host -/
theorem callRn {yo : MethodName} {cc : ByteArray} {nL : Nat} {ro : Option FieldType} {y : MethodName} {b : ByteArray} {n np k idx : Nat} {rt : Option FieldType} {g : WG} {As : List Value} {r : Int32} {st : List Value} {host : String}
    (hC : Cx p s m args meth c yo cc nL ro) (hM : Rd l y b n rt k (Wl g [] (fun _ => False)) As r) (ci : CIs y b n rt np) (hl : va_Nw (.methodLinkNest yo.cls idx y host) s) (hR : k + 1 ≤ R.frames ∧ 40 * (k + 1) ≤ R.locals)
    (hK : va_K g.1 vwCl (tysW g) s) (hE : Ex (fun _ => False) s H) (hn : As.length = np) (hsz : ls.size = nL) (hst : st = As.reverse ++ rest) (hW : (rest.map fun v => v.category).sum ≤ 8) (hdg : decode cc pc = .ok (.invokestatic idx, 3)) (hf : cells ≤ R.cells ∧ slots ≤ R.slots)
    (kk : W p l e R s m args below meth c H locs cells slots Q (F0 m (pc + 3) ls (.int r :: rest))) : W p l e R s m args below meth c H locs cells slots Q (F0 m pc ls st) := by
  obtain ⟨hx, hb, hml, hr, hown, hts, hlk, hnm⟩ := hC
  refine vp_callSi (post := fun x => x = r) (va_runSN (As := As) (rest := rest) ⟨hx, hb, hml, hown, hts⟩ hM ⟨va_cnB np hts (gd_B ci.2.2.1) rfl rfl rfl hl (hts _ ci.2.2.2.1) ci.1 (rmk ci.2.1 hR), hts _ ci.2.2.2.2, trivial⟩ ⟨fun a U g mk q => ⟨q.1, q.2.call⟩, fun U hU hW => ⟨rfl, fun k q h => by simp at h, va_K.moved hW.alike hK, by rw [hU]; exact Ex.warm hW hE⟩⟩ rfl hn hsz hst (lv_room hW) hdg hf).run (fun r' e' => by subst e'; exact kk)
/-- a call of a writer: its cells wc are the walk's whole world -/
theorem callWr {yo : MethodName} {cc : ByteArray} {nL : Nat} {ro : Option FieldType} {y : MethodName} {b : ByteArray} {n np k idx : Nat} {rt : Option FieldType} {g : WG} {wc wc' : va_W} {A : Nat → Prop} {a : Nat} {As : List Value} {r : Int32} {st : List Value}
    (hC : Cx p s m args meth c yo cc nL ro) (hM : Wr l y b n rt k g wc wc' (.ref a :: As) r) (ci : CIv y b n rt np) (hl : Cond.methodLink yo.cls idx y ∈ wB) (hR : k + 1 ≤ R.frames ∧ 40 * (k + 1) ≤ R.locals)
    (hP : va_P g.1 vwCl wc H) (hD : va_D A wc) (hK : va_K g.1 vwCl (tysW g) s) (hE : Ex A s s.heap) (hS : va_S A s.heap H locs) (hA : ∀ q : Nat, s.heap.size ≤ q → A q) {q0 cix : Nat} {q : vw_C} {fs : List Value} (he : wc[q0]? = some (a, .inr (cix, fs))) (hc : vwCl[cix]? = some q) (hq : q.1 = y.cls) (hn : As.length = np) (hsz : ls.size = nL) (hst : st = As.reverse ++ .ref a :: rest) (hW : (rest.map fun v => v.category).sum ≤ 8) (hdg : decode cc pc = .ok (.invokevirtual idx, 3)) (hf : cells ≤ R.cells ∧ slots ≤ R.slots)
    (kk : ∀ (H1 : Heap) (locs1 : List Loc), va_P g.1 vwCl wc' H1 → va_D (va_A wc H.size) wc' → va_D A wc' → va_S A s.heap H1 locs1 → H.size ≤ H1.size → (∀ q : Nat, q < H.size → ¬ va_A wc H.size q → H1[q]? = H[q]?) → W p l e R s m args below meth c H1 locs1 cells slots Q (F0 m (pc + 3) ls (.int r :: rest))) : W p l e R s m args below meth c H locs cells slots Q (F0 m pc ls st) := by
  obtain ⟨hx, hb, hml, hr, hown, hts, hlk, hnm⟩ := hC
  have hrecv := va_recv hK hP hc he
  rw [hq] at hrecv
  have hF : ∀ q, va_A wc H.size q → A q := by
    intro q h
    rcases h with ⟨k, e, h⟩ | h
    · exact hD.2 k (q, e) h
    · exact hA q (Nat.le_trans hS.1 h)
  refine va_calli (va_runV (As := As) (rest := rest) (C := y.cls) ⟨hx, hb, hml, hown, hts⟩ (hM H.size) (cwV np hts (gd_V ci hl) rfl rfl rfl ⟨rfl, ci.1⟩ (rmk ci.2.1 hR)) ⟨fun a U g mk q => ⟨q.1, q.2.call⟩, hrecv, fun U hU hW => ⟨rfl, by rw [hU], hD.weaken (fun _ _ _ _ => trivial), by rw [hU]; exact hP, va_K.moved hW.alike hK, by rw [hU]; exact (Ex.warm hW (hE.S hS)).narrow hF⟩⟩ rfl hn hsz hst (lv_room hW) hdg hf) hS (fun q _ h => hF q h) hF (fun r' u t H1 locs1 ht hvm hr' hB hz hk hS1 => ?_)
  subst hr'
  obtain ⟨hP1, hD1⟩ := hB
  rw [ht] at hP1
  exact kk H1 locs1 hP1 hD1 (hD1.weaken (fun _ q _ h => hF q.1 h)) hS1 hz hk
theorem callWv {yo : MethodName} {cc : ByteArray} {nL : Nat} {ro : Option FieldType} {y : MethodName} {b : ByteArray} {n np k idx : Nat} {g : WG} {wc wc' : va_W} {A : Nat → Prop} {a : Nat} {As : List Value} {st : List Value}
    (hC : Cx p s m args meth c yo cc nL ro) (hM : Wv l y b n k g wc wc' (.ref a :: As)) (ci : CIv y b n none np) (hl : Cond.methodLink yo.cls idx y ∈ wB) (hR : k + 1 ≤ R.frames ∧ 40 * (k + 1) ≤ R.locals)
    (hP : va_P g.1 vwCl wc H) (hD : va_D A wc) (hK : va_K g.1 vwCl (tysW g) s) (hE : Ex A s s.heap) (hS : va_S A s.heap H locs) (hA : ∀ q : Nat, s.heap.size ≤ q → A q) {q0 cix : Nat} {q : vw_C} {fs : List Value} (he : wc[q0]? = some (a, .inr (cix, fs))) (hc : vwCl[cix]? = some q) (hq : q.1 = y.cls) (hn : As.length = np) (hsz : ls.size = nL) (hst : st = As.reverse ++ .ref a :: rest) (hW : (rest.map fun v => v.category).sum ≤ 8) (hdg : decode cc pc = .ok (.invokevirtual idx, 3)) (hf : cells ≤ R.cells ∧ slots ≤ R.slots)
    (kk : ∀ (H1 : Heap) (locs1 : List Loc), va_P g.1 vwCl wc' H1 → va_D (va_A wc H.size) wc' → va_D A wc' → va_S A s.heap H1 locs1 → H.size ≤ H1.size → (∀ q : Nat, q < H.size → ¬ va_A wc H.size q → H1[q]? = H[q]?) → W p l e R s m args below meth c H1 locs1 cells slots Q (F0 m (pc + 3) ls rest)) : W p l e R s m args below meth c H locs cells slots Q (F0 m pc ls st) := by
  obtain ⟨hx, hb, hml, hr, hown, hts, hlk, hnm⟩ := hC
  have hrecv := va_recv hK hP hc he
  rw [hq] at hrecv
  have hF : ∀ q, va_A wc H.size q → A q := by
    intro q h
    rcases h with ⟨k, e, h⟩ | h
    · exact hD.2 k (q, e) h
    · exact hA q (Nat.le_trans hS.1 h)
  refine va_callv (va_runV (As := As) (rest := rest) (C := y.cls) ⟨hx, hb, hml, hown, hts⟩ (hM H.size) (cwV np hts (gd_V ci hl) rfl rfl rfl ⟨rfl, ci.1⟩ (rmk ci.2.1 hR)) ⟨fun a U g mk q => ⟨q.1, q.2.call⟩, hrecv, fun U hU hW => ⟨rfl, by rw [hU], hD.weaken (fun _ _ _ _ => trivial), by rw [hU]; exact hP, va_K.moved hW.alike hK, by rw [hU]; exact (Ex.warm hW (hE.S hS)).narrow hF⟩⟩ rfl hn hsz hst (lv_room hW) hdg hf) hS (fun q _ h => hF q h) hF (fun u t H1 locs1 ht hvm hr' hB hz hk hS1 => ?_)
  obtain ⟨hP1, hD1⟩ := hB
  rw [ht] at hP1
  exact kk H1 locs1 hP1 hD1 (hD1.weaken (fun _ q _ h => hF q.1 h)) hS1 hz hk
end BASE
end
section
/-! numbers in range -/
theorem in_iff {x : Int32} {n : Nat} : vp_in x n ↔ 0 ≤ x.toInt ∧ x.toInt < n := vp_in_iff
theorem in_mono {x : Int32} {n k : Nat} (h : vp_in x n) (hk : n ≤ k) : vp_in x k := in_iff.mpr ⟨(in_iff.mp h).1, by have := (in_iff.mp h).2; omega⟩
theorem ti_rng (x : Int32) : -2147483648 ≤ x.toInt ∧ x.toInt < 2147483648 := ⟨Int32.le_toInt x, Int32.toInt_lt x⟩
theorem ti_bmod {z : Int} (h1 : -2147483648 ≤ z) (h2 : z < 2147483648) : z.bmod (2 ^ 32) = z := by
  rw [Int.bmod_def]
  have e : ((2 ^ 32 : Nat) : Int) = 4294967296 := rfl
  rw [e]
  rcases Int.lt_or_le z 0 with h | h
  · rw [if_neg (by omega)]; omega
  · rw [if_pos (by omega)]; omega
theorem ti_add {x y : Int32} (h1 : -2147483648 ≤ x.toInt + y.toInt) (h2 : x.toInt + y.toInt < 2147483648) : (x + y).toInt = x.toInt + y.toInt := by rw [Int32.toInt_add]; exact ti_bmod h1 h2
theorem ti_sub {x y : Int32} (h1 : -2147483648 ≤ x.toInt - y.toInt) (h2 : x.toInt - y.toInt < 2147483648) : (x - y).toInt = x.toInt - y.toInt := by rw [Int32.toInt_sub]; exact ti_bmod h1 h2
theorem ti_mul {x y : Int32} (h1 : -2147483648 ≤ x.toInt * y.toInt) (h2 : x.toInt * y.toInt < 2147483648) : (x * y).toInt = x.toInt * y.toInt := by rw [Int32.toInt_mul]; exact ti_bmod h1 h2
theorem le_ti {x y : Int32} : x ≤ y ↔ x.toInt ≤ y.toInt := Int32.le_iff_toInt_le
theorem lt_ti {x y : Int32} : x < y ↔ x.toInt < y.toInt := Int32.lt_iff_toInt_lt
theorem eq_ti {x y : Int32} : x = y ↔ x.toInt = y.toInt := Int32.toInt_inj.symm
theorem nle_ti {x N : Int32} {k : Int} (hN : N.toInt = k) (c : ¬ N ≤ x) : x.toInt < k := by rw [le_ti] at c; omega
theorem nlt_ti {x N : Int32} {k : Int} (hN : N.toInt = k) (c : ¬ N < x) : x.toInt ≤ k := by rw [lt_ti] at c; omega
theorem up_add {x d : Int32} {k M : Int} (hd : d.toInt = k) (h0 : 0 ≤ x.toInt) (h1 : x.toInt ≤ M) (hk : 0 ≤ k) (hM : M + k < 2147483648) : (x + d).toInt = x.toInt + k := by rw [ti_add (by omega) (by omega), hd]
/-- x in range, under an upper test -/
theorem in_up {x N : Int32} {n : Nat} (hN : N.toInt = n) (h0 : 0 ≤ x.toInt) (c : ¬ N ≤ x) : vp_in x n := in_iff.mpr ⟨h0, nle_ti hN c⟩
theorem ix_c {k c : Int32} {n N : Nat} {z : Int} (hc : c.toInt = z) (hz : 0 ≤ z) (h : vp_in k n) (hN : z + n ≤ N) (hb : (N : Int) < 2147483648) : vp_in (c + k) N := by
  obtain ⟨h1, h2⟩ := in_iff.mp h
  refine in_iff.mpr ?_
  rw [ti_add (by omega) (by omega), hc]
  omega
theorem ix_c' {k c : Int32} {n N : Nat} {z : Int} (hc : c.toInt = z) (hz : 0 ≤ z) (h : vp_in k n) (hN : z + n ≤ N) (hb : (N : Int) < 2147483648) : vp_in (k + c) N := by
  obtain ⟨h1, h2⟩ := in_iff.mp h
  refine in_iff.mpr ?_
  rw [ti_add (by omega) (by omega), hc]
  omega
theorem ix_11 {b w : Int32} (hb : vp_in b 20) (hw : vp_in w 11) : vp_in ((b * 11) + w) 220 := by
  obtain ⟨h1, h2⟩ := in_iff.mp hb
  obtain ⟨h3, h4⟩ := in_iff.mp hw
  have e : (b * 11).toInt = b.toInt * 11 := ti_mul (y := 11) (by show _ ≤ b.toInt * 11; omega) (by show b.toInt * 11 < _; omega)
  refine in_iff.mpr ?_
  rw [ti_add (by omega) (by omega), e]
  omega
theorem ix_12 {b w : Int32} (hb : vp_in b 20) (hw : vp_in w 12) : vp_in ((15 + (12 * b)) + w) 255 := by
  obtain ⟨h1, h2⟩ := in_iff.mp hb
  obtain ⟨h3, h4⟩ := in_iff.mp hw
  have e : ((12 : Int32) * b).toInt = 12 * b.toInt := ti_mul (x := 12) (by show _ ≤ 12 * b.toInt; omega) (by show 12 * b.toInt < _; omega)
  have e2 : ((15 : Int32) + (12 * b)).toInt = 15 + 12 * b.toInt := by rw [ti_add (x := 15) (by rw [e]; show _ ≤ 15 + _; omega) (by rw [e]; show 15 + _ < _; omega), e]; rfl
  refine in_iff.mpr ?_
  rw [ti_add (by omega) (by omega), e2]
  omega
end
section
/-! the yard: a state, its cells, its fields -/
abbrev YS : Type := (Nat → Int32) × (Nat → Int32) × (Nat → Int32) × (Nat → Int32) × Int32 × Int32 × Int32 × Int32
def Y_facts (σ : YS) : Nat → Int32 := σ.1
def Y_set_facts (σ : YS) (v : Nat → Int32) : YS := (v, σ.2.1, σ.2.2.1, σ.2.2.2.1, σ.2.2.2.2.1, σ.2.2.2.2.2.1, σ.2.2.2.2.2.2.1, σ.2.2.2.2.2.2.2)
def Y_cradles (σ : YS) : Nat → Int32 := σ.2.1
def Y_set_cradles (σ : YS) (v : Nat → Int32) : YS := (σ.1, v, σ.2.2.1, σ.2.2.2.1, σ.2.2.2.2.1, σ.2.2.2.2.2.1, σ.2.2.2.2.2.2.1, σ.2.2.2.2.2.2.2)
def Y_metres (σ : YS) : Nat → Int32 := σ.2.2.1
def Y_set_metres (σ : YS) (v : Nat → Int32) : YS := (σ.1, σ.2.1, v, σ.2.2.2.1, σ.2.2.2.2.1, σ.2.2.2.2.2.1, σ.2.2.2.2.2.2.1, σ.2.2.2.2.2.2.2)
def Y_settings (σ : YS) : Nat → Int32 := σ.2.2.2.1
def Y_set_settings (σ : YS) (v : Nat → Int32) : YS := (σ.1, σ.2.1, σ.2.2.1, v, σ.2.2.2.2.1, σ.2.2.2.2.2.1, σ.2.2.2.2.2.2.1, σ.2.2.2.2.2.2.2)
def Y_day (σ : YS) : Int32 := σ.2.2.2.2.1
def Y_set_day (σ : YS) (v : Int32) : YS := (σ.1, σ.2.1, σ.2.2.1, σ.2.2.2.1, v, σ.2.2.2.2.2.1, σ.2.2.2.2.2.2.1, σ.2.2.2.2.2.2.2)
def Y_liftsToday (σ : YS) : Int32 := σ.2.2.2.2.2.1
def Y_set_liftsToday (σ : YS) (v : Int32) : YS := (σ.1, σ.2.1, σ.2.2.1, σ.2.2.2.1, σ.2.2.2.2.1, v, σ.2.2.2.2.2.2.1, σ.2.2.2.2.2.2.2)
def Y_lifts (σ : YS) : Int32 := σ.2.2.2.2.2.2.1
def Y_set_lifts (σ : YS) (v : Int32) : YS := (σ.1, σ.2.1, σ.2.2.1, σ.2.2.2.1, σ.2.2.2.2.1, σ.2.2.2.2.2.1, v, σ.2.2.2.2.2.2.2)
def Y_launches (σ : YS) : Int32 := σ.2.2.2.2.2.2.2
def Y_set_launches (σ : YS) (v : Int32) : YS := (σ.1, σ.2.1, σ.2.2.1, σ.2.2.2.1, σ.2.2.2.2.1, σ.2.2.2.2.2.1, σ.2.2.2.2.2.2.1, v)
abbrev AY : Type := Nat × Nat × Nat × Nat × Nat
abbrev cY (g : WG) (ad : AY) (σ : YS) : va_W := [(ad.1, .inr (2, [.ref ad.2.1, .ref ad.2.2.1, .ref ad.2.2.2.1, .ref ad.2.2.2.2, .int (Y_day σ), .int (Y_liftsToday σ), .int (Y_lifts σ), .int (Y_launches σ)])), (ad.2.1, .inl (g.2.1, 220, .inl (Y_facts σ))), (ad.2.2.1, .inl (g.2.1, 3, .inl (Y_cradles σ))), (ad.2.2.2.1, .inl (g.2.1, 4, .inl (Y_metres σ))), (ad.2.2.2.2, .inl (g.2.1, 3, .inl (Y_settings σ)))]
section FR
variable {p : Program} {l : Launch} {e : Env} {R : Room} {s : State} {m : MethodId} {args : Array Value} {below : List Frame} {meth : Method} {c : Code} {H : Heap} {locs : List Loc} {cells slots : Nat} {Q : State → Prop}
variable {pc : Nat} {ls : Array Slot} {rest : List Value}
theorem gt_X2_facts {y : MethodName} {cc : ByteArray} {nL : Nat} {ro : Option FieldType} {g : WG} {ws : va_W} {a : Nat} {fs : List Value} {v : Value} (hC : Cx p s m args meth c y cc nL ro) (hy : y.cls = RX2) (hK : va_K g.1 vwCl (tysW g) s) (hP : va_P g.1 vwCl ws H) (q0 : Nat) (he : ws[q0]? = some (a, .inr (2, fs))) (hv : fs[0]? = some v) (hdg : decode cc pc = .ok (.getfield 11, 3)) (kk : W p l e R s m args below meth c H locs cells slots Q (F0 m (pc + 3) ls (v :: rest))) : W p l e R s m args below meth c H locs cells slots Q (F0 m pc ls (.ref a :: rest)) := by
  obtain ⟨hx, hb, hml, hr, hown, hts, hlk, hnm⟩ := hC
  rw [hy] at hown
  exact va_get (C := RX2) (T := TX2) (N := 8) hx hb hts uw_X2 hown hK hP q0 he rfl 0 (by decide) (hts _ fl_X2_11) (fun _ h => h) hv hdg kk
theorem gt_X2_cradles {y : MethodName} {cc : ByteArray} {nL : Nat} {ro : Option FieldType} {g : WG} {ws : va_W} {a : Nat} {fs : List Value} {v : Value} (hC : Cx p s m args meth c y cc nL ro) (hy : y.cls = RX2) (hK : va_K g.1 vwCl (tysW g) s) (hP : va_P g.1 vwCl ws H) (q0 : Nat) (he : ws[q0]? = some (a, .inr (2, fs))) (hv : fs[1]? = some v) (hdg : decode cc pc = .ok (.getfield 15, 3)) (kk : W p l e R s m args below meth c H locs cells slots Q (F0 m (pc + 3) ls (v :: rest))) : W p l e R s m args below meth c H locs cells slots Q (F0 m pc ls (.ref a :: rest)) := by
  obtain ⟨hx, hb, hml, hr, hown, hts, hlk, hnm⟩ := hC
  rw [hy] at hown
  exact va_get (C := RX2) (T := TX2) (N := 8) hx hb hts uw_X2 hown hK hP q0 he rfl 1 (by decide) (hts _ fl_X2_15) (fun _ h => h) hv hdg kk
theorem gt_X2_metres {y : MethodName} {cc : ByteArray} {nL : Nat} {ro : Option FieldType} {g : WG} {ws : va_W} {a : Nat} {fs : List Value} {v : Value} (hC : Cx p s m args meth c y cc nL ro) (hy : y.cls = RX2) (hK : va_K g.1 vwCl (tysW g) s) (hP : va_P g.1 vwCl ws H) (q0 : Nat) (he : ws[q0]? = some (a, .inr (2, fs))) (hv : fs[2]? = some v) (hdg : decode cc pc = .ok (.getfield 18, 3)) (kk : W p l e R s m args below meth c H locs cells slots Q (F0 m (pc + 3) ls (v :: rest))) : W p l e R s m args below meth c H locs cells slots Q (F0 m pc ls (.ref a :: rest)) := by
  obtain ⟨hx, hb, hml, hr, hown, hts, hlk, hnm⟩ := hC
  rw [hy] at hown
  exact va_get (C := RX2) (T := TX2) (N := 8) hx hb hts uw_X2 hown hK hP q0 he rfl 2 (by decide) (hts _ fl_X2_18) (fun _ h => h) hv hdg kk
theorem gt_X2_settings {y : MethodName} {cc : ByteArray} {nL : Nat} {ro : Option FieldType} {g : WG} {ws : va_W} {a : Nat} {fs : List Value} {v : Value} (hC : Cx p s m args meth c y cc nL ro) (hy : y.cls = RX2) (hK : va_K g.1 vwCl (tysW g) s) (hP : va_P g.1 vwCl ws H) (q0 : Nat) (he : ws[q0]? = some (a, .inr (2, fs))) (hv : fs[3]? = some v) (hdg : decode cc pc = .ok (.getfield 21, 3)) (kk : W p l e R s m args below meth c H locs cells slots Q (F0 m (pc + 3) ls (v :: rest))) : W p l e R s m args below meth c H locs cells slots Q (F0 m pc ls (.ref a :: rest)) := by
  obtain ⟨hx, hb, hml, hr, hown, hts, hlk, hnm⟩ := hC
  rw [hy] at hown
  exact va_get (C := RX2) (T := TX2) (N := 8) hx hb hts uw_X2 hown hK hP q0 he rfl 3 (by decide) (hts _ fl_X2_21) (fun _ h => h) hv hdg kk
theorem gt_X2_day {y : MethodName} {cc : ByteArray} {nL : Nat} {ro : Option FieldType} {g : WG} {ws : va_W} {a : Nat} {fs : List Value} {v : Value} (hC : Cx p s m args meth c y cc nL ro) (hy : y.cls = RX2) (hK : va_K g.1 vwCl (tysW g) s) (hP : va_P g.1 vwCl ws H) (q0 : Nat) (he : ws[q0]? = some (a, .inr (2, fs))) (hv : fs[4]? = some v) (hdg : decode cc pc = .ok (.getfield 24, 3)) (kk : W p l e R s m args below meth c H locs cells slots Q (F0 m (pc + 3) ls (v :: rest))) : W p l e R s m args below meth c H locs cells slots Q (F0 m pc ls (.ref a :: rest)) := by
  obtain ⟨hx, hb, hml, hr, hown, hts, hlk, hnm⟩ := hC
  rw [hy] at hown
  exact va_get (C := RX2) (T := TX2) (N := 8) hx hb hts uw_X2 hown hK hP q0 he rfl 4 (by decide) (hts _ fl_X2_24) (fun _ h => h) hv hdg kk
theorem pt_X2_day {y : MethodName} {cc : ByteArray} {nL : Nat} {ro : Option FieldType} {g : WG} {ws : va_W} {A : Nat → Prop} {H0 : Heap} {a : Nat} {fs : List Value} {v : Int32} (hC : Cx p s m args meth c y cc nL ro) (hy : y.cls = RX2) (hK : va_K g.1 vwCl (tysW g) s) (hP : va_P g.1 vwCl ws H) (hD : va_D A ws) (hS : va_S A H0 H locs) (q0 : Nat) (he : ws[q0]? = some (a, .inr (2, fs))) (hl : 4 < fs.length) (hdg : decode cc pc = .ok (.putfield 24, 3)) (kk : ∀ (H1 : Heap) (locs1 : List Loc), va_P g.1 vwCl (ws.set q0 (a, .inr (2, fs.set 4 (.int v)))) H1 → va_D A (ws.set q0 (a, .inr (2, fs.set 4 (.int v)))) → va_S A H0 H1 locs1 → W p l e R s m args below meth c H1 locs1 cells slots Q (F0 m (pc + 3) ls rest)) : W p l e R s m args below meth c H locs cells slots Q (F0 m pc ls (.int v :: .ref a :: rest)) := by
  obtain ⟨hx, hb, hml, hr, hown, hts, hlk, hnm⟩ := hC
  rw [hy] at hown
  exact va_put (C := RX2) (T := TX2) (N := 8) (ty := .int) hx hb hts uw_X2 tyX2 tyX2_ok nmX2 hown hK hP hD hS q0 he rfl 4 (by decide) (hts _ fl_X2_24) (fun _ h => h) rfl (by decide +kernel) rfl rfl hl hdg kk
theorem gt_X2_liftsToday {y : MethodName} {cc : ByteArray} {nL : Nat} {ro : Option FieldType} {g : WG} {ws : va_W} {a : Nat} {fs : List Value} {v : Value} (hC : Cx p s m args meth c y cc nL ro) (hy : y.cls = RX2) (hK : va_K g.1 vwCl (tysW g) s) (hP : va_P g.1 vwCl ws H) (q0 : Nat) (he : ws[q0]? = some (a, .inr (2, fs))) (hv : fs[5]? = some v) (hdg : decode cc pc = .ok (.getfield 28, 3)) (kk : W p l e R s m args below meth c H locs cells slots Q (F0 m (pc + 3) ls (v :: rest))) : W p l e R s m args below meth c H locs cells slots Q (F0 m pc ls (.ref a :: rest)) := by
  obtain ⟨hx, hb, hml, hr, hown, hts, hlk, hnm⟩ := hC
  rw [hy] at hown
  exact va_get (C := RX2) (T := TX2) (N := 8) hx hb hts uw_X2 hown hK hP q0 he rfl 5 (by decide) (hts _ fl_X2_28) (fun _ h => h) hv hdg kk
theorem pt_X2_liftsToday {y : MethodName} {cc : ByteArray} {nL : Nat} {ro : Option FieldType} {g : WG} {ws : va_W} {A : Nat → Prop} {H0 : Heap} {a : Nat} {fs : List Value} {v : Int32} (hC : Cx p s m args meth c y cc nL ro) (hy : y.cls = RX2) (hK : va_K g.1 vwCl (tysW g) s) (hP : va_P g.1 vwCl ws H) (hD : va_D A ws) (hS : va_S A H0 H locs) (q0 : Nat) (he : ws[q0]? = some (a, .inr (2, fs))) (hl : 5 < fs.length) (hdg : decode cc pc = .ok (.putfield 28, 3)) (kk : ∀ (H1 : Heap) (locs1 : List Loc), va_P g.1 vwCl (ws.set q0 (a, .inr (2, fs.set 5 (.int v)))) H1 → va_D A (ws.set q0 (a, .inr (2, fs.set 5 (.int v)))) → va_S A H0 H1 locs1 → W p l e R s m args below meth c H1 locs1 cells slots Q (F0 m (pc + 3) ls rest)) : W p l e R s m args below meth c H locs cells slots Q (F0 m pc ls (.int v :: .ref a :: rest)) := by
  obtain ⟨hx, hb, hml, hr, hown, hts, hlk, hnm⟩ := hC
  rw [hy] at hown
  exact va_put (C := RX2) (T := TX2) (N := 8) (ty := .int) hx hb hts uw_X2 tyX2 tyX2_ok nmX2 hown hK hP hD hS q0 he rfl 5 (by decide) (hts _ fl_X2_28) (fun _ h => h) rfl (by decide +kernel) rfl rfl hl hdg kk
theorem gt_X2_lifts {y : MethodName} {cc : ByteArray} {nL : Nat} {ro : Option FieldType} {g : WG} {ws : va_W} {a : Nat} {fs : List Value} {v : Value} (hC : Cx p s m args meth c y cc nL ro) (hy : y.cls = RX2) (hK : va_K g.1 vwCl (tysW g) s) (hP : va_P g.1 vwCl ws H) (q0 : Nat) (he : ws[q0]? = some (a, .inr (2, fs))) (hv : fs[6]? = some v) (hdg : decode cc pc = .ok (.getfield 31, 3)) (kk : W p l e R s m args below meth c H locs cells slots Q (F0 m (pc + 3) ls (v :: rest))) : W p l e R s m args below meth c H locs cells slots Q (F0 m pc ls (.ref a :: rest)) := by
  obtain ⟨hx, hb, hml, hr, hown, hts, hlk, hnm⟩ := hC
  rw [hy] at hown
  exact va_get (C := RX2) (T := TX2) (N := 8) hx hb hts uw_X2 hown hK hP q0 he rfl 6 (by decide) (hts _ fl_X2_31) (fun _ h => h) hv hdg kk
theorem pt_X2_lifts {y : MethodName} {cc : ByteArray} {nL : Nat} {ro : Option FieldType} {g : WG} {ws : va_W} {A : Nat → Prop} {H0 : Heap} {a : Nat} {fs : List Value} {v : Int32} (hC : Cx p s m args meth c y cc nL ro) (hy : y.cls = RX2) (hK : va_K g.1 vwCl (tysW g) s) (hP : va_P g.1 vwCl ws H) (hD : va_D A ws) (hS : va_S A H0 H locs) (q0 : Nat) (he : ws[q0]? = some (a, .inr (2, fs))) (hl : 6 < fs.length) (hdg : decode cc pc = .ok (.putfield 31, 3)) (kk : ∀ (H1 : Heap) (locs1 : List Loc), va_P g.1 vwCl (ws.set q0 (a, .inr (2, fs.set 6 (.int v)))) H1 → va_D A (ws.set q0 (a, .inr (2, fs.set 6 (.int v)))) → va_S A H0 H1 locs1 → W p l e R s m args below meth c H1 locs1 cells slots Q (F0 m (pc + 3) ls rest)) : W p l e R s m args below meth c H locs cells slots Q (F0 m pc ls (.int v :: .ref a :: rest)) := by
  obtain ⟨hx, hb, hml, hr, hown, hts, hlk, hnm⟩ := hC
  rw [hy] at hown
  exact va_put (C := RX2) (T := TX2) (N := 8) (ty := .int) hx hb hts uw_X2 tyX2 tyX2_ok nmX2 hown hK hP hD hS q0 he rfl 6 (by decide) (hts _ fl_X2_31) (fun _ h => h) rfl (by decide +kernel) rfl rfl hl hdg kk
theorem gt_X2_launches {y : MethodName} {cc : ByteArray} {nL : Nat} {ro : Option FieldType} {g : WG} {ws : va_W} {a : Nat} {fs : List Value} {v : Value} (hC : Cx p s m args meth c y cc nL ro) (hy : y.cls = RX2) (hK : va_K g.1 vwCl (tysW g) s) (hP : va_P g.1 vwCl ws H) (q0 : Nat) (he : ws[q0]? = some (a, .inr (2, fs))) (hv : fs[7]? = some v) (hdg : decode cc pc = .ok (.getfield 34, 3)) (kk : W p l e R s m args below meth c H locs cells slots Q (F0 m (pc + 3) ls (v :: rest))) : W p l e R s m args below meth c H locs cells slots Q (F0 m pc ls (.ref a :: rest)) := by
  obtain ⟨hx, hb, hml, hr, hown, hts, hlk, hnm⟩ := hC
  rw [hy] at hown
  exact va_get (C := RX2) (T := TX2) (N := 8) hx hb hts uw_X2 hown hK hP q0 he rfl 7 (by decide) (hts _ fl_X2_34) (fun _ h => h) hv hdg kk
theorem pt_X2_launches {y : MethodName} {cc : ByteArray} {nL : Nat} {ro : Option FieldType} {g : WG} {ws : va_W} {A : Nat → Prop} {H0 : Heap} {a : Nat} {fs : List Value} {v : Int32} (hC : Cx p s m args meth c y cc nL ro) (hy : y.cls = RX2) (hK : va_K g.1 vwCl (tysW g) s) (hP : va_P g.1 vwCl ws H) (hD : va_D A ws) (hS : va_S A H0 H locs) (q0 : Nat) (he : ws[q0]? = some (a, .inr (2, fs))) (hl : 7 < fs.length) (hdg : decode cc pc = .ok (.putfield 34, 3)) (kk : ∀ (H1 : Heap) (locs1 : List Loc), va_P g.1 vwCl (ws.set q0 (a, .inr (2, fs.set 7 (.int v)))) H1 → va_D A (ws.set q0 (a, .inr (2, fs.set 7 (.int v)))) → va_S A H0 H1 locs1 → W p l e R s m args below meth c H1 locs1 cells slots Q (F0 m (pc + 3) ls rest)) : W p l e R s m args below meth c H locs cells slots Q (F0 m pc ls (.int v :: .ref a :: rest)) := by
  obtain ⟨hx, hb, hml, hr, hown, hts, hlk, hnm⟩ := hC
  rw [hy] at hown
  exact va_put (C := RX2) (T := TX2) (N := 8) (ty := .int) hx hb hts uw_X2 tyX2 tyX2_ok nmX2 hown hK hP hD hS q0 he rfl 7 (by decide) (hts _ fl_X2_34) (fun _ h => h) rfl (by decide +kernel) rfl rfl hl hdg kk
theorem gY_facts {y : MethodName} {cc : ByteArray} {nL : Nat} {ro : Option FieldType} {g : WG} {ad : AY} {σ : YS} (hC : Cx p s m args meth c y cc nL ro) (hy : y.cls = RX2) (hK : va_K g.1 vwCl (tysW g) s) (hP : va_P g.1 vwCl (cY g ad σ) H) (hdg : decode cc pc = .ok (.getfield 11, 3)) (kk : W p l e R s m args below meth c H locs cells slots Q (F0 m (pc + 3) ls (.ref ad.2.1 :: rest))) : W p l e R s m args below meth c H locs cells slots Q (F0 m pc ls (.ref ad.1 :: rest)) := gt_X2_facts hC hy hK hP 0 rfl rfl hdg kk
theorem gY_cradles {y : MethodName} {cc : ByteArray} {nL : Nat} {ro : Option FieldType} {g : WG} {ad : AY} {σ : YS} (hC : Cx p s m args meth c y cc nL ro) (hy : y.cls = RX2) (hK : va_K g.1 vwCl (tysW g) s) (hP : va_P g.1 vwCl (cY g ad σ) H) (hdg : decode cc pc = .ok (.getfield 15, 3)) (kk : W p l e R s m args below meth c H locs cells slots Q (F0 m (pc + 3) ls (.ref ad.2.2.1 :: rest))) : W p l e R s m args below meth c H locs cells slots Q (F0 m pc ls (.ref ad.1 :: rest)) := gt_X2_cradles hC hy hK hP 0 rfl rfl hdg kk
theorem gY_metres {y : MethodName} {cc : ByteArray} {nL : Nat} {ro : Option FieldType} {g : WG} {ad : AY} {σ : YS} (hC : Cx p s m args meth c y cc nL ro) (hy : y.cls = RX2) (hK : va_K g.1 vwCl (tysW g) s) (hP : va_P g.1 vwCl (cY g ad σ) H) (hdg : decode cc pc = .ok (.getfield 18, 3)) (kk : W p l e R s m args below meth c H locs cells slots Q (F0 m (pc + 3) ls (.ref ad.2.2.2.1 :: rest))) : W p l e R s m args below meth c H locs cells slots Q (F0 m pc ls (.ref ad.1 :: rest)) := gt_X2_metres hC hy hK hP 0 rfl rfl hdg kk
theorem gY_settings {y : MethodName} {cc : ByteArray} {nL : Nat} {ro : Option FieldType} {g : WG} {ad : AY} {σ : YS} (hC : Cx p s m args meth c y cc nL ro) (hy : y.cls = RX2) (hK : va_K g.1 vwCl (tysW g) s) (hP : va_P g.1 vwCl (cY g ad σ) H) (hdg : decode cc pc = .ok (.getfield 21, 3)) (kk : W p l e R s m args below meth c H locs cells slots Q (F0 m (pc + 3) ls (.ref ad.2.2.2.2 :: rest))) : W p l e R s m args below meth c H locs cells slots Q (F0 m pc ls (.ref ad.1 :: rest)) := gt_X2_settings hC hy hK hP 0 rfl rfl hdg kk
theorem gY_day {y : MethodName} {cc : ByteArray} {nL : Nat} {ro : Option FieldType} {g : WG} {ad : AY} {σ : YS} (hC : Cx p s m args meth c y cc nL ro) (hy : y.cls = RX2) (hK : va_K g.1 vwCl (tysW g) s) (hP : va_P g.1 vwCl (cY g ad σ) H) (hdg : decode cc pc = .ok (.getfield 24, 3)) (kk : W p l e R s m args below meth c H locs cells slots Q (F0 m (pc + 3) ls (.int (Y_day σ) :: rest))) : W p l e R s m args below meth c H locs cells slots Q (F0 m pc ls (.ref ad.1 :: rest)) := gt_X2_day hC hy hK hP 0 rfl rfl hdg kk
theorem pY_day {y : MethodName} {cc : ByteArray} {nL : Nat} {ro : Option FieldType} {g : WG} {ad : AY} {σ : YS} {A : Nat → Prop} {H0 : Heap} {v : Int32} (hC : Cx p s m args meth c y cc nL ro) (hy : y.cls = RX2) (hK : va_K g.1 vwCl (tysW g) s) (hP : va_P g.1 vwCl (cY g ad σ) H) (hD : va_D A (cY g ad σ)) (hS : va_S A H0 H locs) (hdg : decode cc pc = .ok (.putfield 24, 3)) (kk : ∀ (H1 : Heap) (locs1 : List Loc), va_P g.1 vwCl (cY g ad (Y_set_day σ v)) H1 → va_D A (cY g ad (Y_set_day σ v)) → va_S A H0 H1 locs1 → W p l e R s m args below meth c H1 locs1 cells slots Q (F0 m (pc + 3) ls (rest))) : W p l e R s m args below meth c H locs cells slots Q (F0 m pc ls (.int v :: .ref ad.1 :: rest)) := pt_X2_day hC hy hK hP hD hS 0 rfl (Nat.le_of_ble_eq_true rfl) hdg kk
theorem gY_liftsToday {y : MethodName} {cc : ByteArray} {nL : Nat} {ro : Option FieldType} {g : WG} {ad : AY} {σ : YS} (hC : Cx p s m args meth c y cc nL ro) (hy : y.cls = RX2) (hK : va_K g.1 vwCl (tysW g) s) (hP : va_P g.1 vwCl (cY g ad σ) H) (hdg : decode cc pc = .ok (.getfield 28, 3)) (kk : W p l e R s m args below meth c H locs cells slots Q (F0 m (pc + 3) ls (.int (Y_liftsToday σ) :: rest))) : W p l e R s m args below meth c H locs cells slots Q (F0 m pc ls (.ref ad.1 :: rest)) := gt_X2_liftsToday hC hy hK hP 0 rfl rfl hdg kk
theorem pY_liftsToday {y : MethodName} {cc : ByteArray} {nL : Nat} {ro : Option FieldType} {g : WG} {ad : AY} {σ : YS} {A : Nat → Prop} {H0 : Heap} {v : Int32} (hC : Cx p s m args meth c y cc nL ro) (hy : y.cls = RX2) (hK : va_K g.1 vwCl (tysW g) s) (hP : va_P g.1 vwCl (cY g ad σ) H) (hD : va_D A (cY g ad σ)) (hS : va_S A H0 H locs) (hdg : decode cc pc = .ok (.putfield 28, 3)) (kk : ∀ (H1 : Heap) (locs1 : List Loc), va_P g.1 vwCl (cY g ad (Y_set_liftsToday σ v)) H1 → va_D A (cY g ad (Y_set_liftsToday σ v)) → va_S A H0 H1 locs1 → W p l e R s m args below meth c H1 locs1 cells slots Q (F0 m (pc + 3) ls (rest))) : W p l e R s m args below meth c H locs cells slots Q (F0 m pc ls (.int v :: .ref ad.1 :: rest)) := pt_X2_liftsToday hC hy hK hP hD hS 0 rfl (Nat.le_of_ble_eq_true rfl) hdg kk
theorem gY_lifts {y : MethodName} {cc : ByteArray} {nL : Nat} {ro : Option FieldType} {g : WG} {ad : AY} {σ : YS} (hC : Cx p s m args meth c y cc nL ro) (hy : y.cls = RX2) (hK : va_K g.1 vwCl (tysW g) s) (hP : va_P g.1 vwCl (cY g ad σ) H) (hdg : decode cc pc = .ok (.getfield 31, 3)) (kk : W p l e R s m args below meth c H locs cells slots Q (F0 m (pc + 3) ls (.int (Y_lifts σ) :: rest))) : W p l e R s m args below meth c H locs cells slots Q (F0 m pc ls (.ref ad.1 :: rest)) := gt_X2_lifts hC hy hK hP 0 rfl rfl hdg kk
theorem pY_lifts {y : MethodName} {cc : ByteArray} {nL : Nat} {ro : Option FieldType} {g : WG} {ad : AY} {σ : YS} {A : Nat → Prop} {H0 : Heap} {v : Int32} (hC : Cx p s m args meth c y cc nL ro) (hy : y.cls = RX2) (hK : va_K g.1 vwCl (tysW g) s) (hP : va_P g.1 vwCl (cY g ad σ) H) (hD : va_D A (cY g ad σ)) (hS : va_S A H0 H locs) (hdg : decode cc pc = .ok (.putfield 31, 3)) (kk : ∀ (H1 : Heap) (locs1 : List Loc), va_P g.1 vwCl (cY g ad (Y_set_lifts σ v)) H1 → va_D A (cY g ad (Y_set_lifts σ v)) → va_S A H0 H1 locs1 → W p l e R s m args below meth c H1 locs1 cells slots Q (F0 m (pc + 3) ls (rest))) : W p l e R s m args below meth c H locs cells slots Q (F0 m pc ls (.int v :: .ref ad.1 :: rest)) := pt_X2_lifts hC hy hK hP hD hS 0 rfl (Nat.le_of_ble_eq_true rfl) hdg kk
theorem gY_launches {y : MethodName} {cc : ByteArray} {nL : Nat} {ro : Option FieldType} {g : WG} {ad : AY} {σ : YS} (hC : Cx p s m args meth c y cc nL ro) (hy : y.cls = RX2) (hK : va_K g.1 vwCl (tysW g) s) (hP : va_P g.1 vwCl (cY g ad σ) H) (hdg : decode cc pc = .ok (.getfield 34, 3)) (kk : W p l e R s m args below meth c H locs cells slots Q (F0 m (pc + 3) ls (.int (Y_launches σ) :: rest))) : W p l e R s m args below meth c H locs cells slots Q (F0 m pc ls (.ref ad.1 :: rest)) := gt_X2_launches hC hy hK hP 0 rfl rfl hdg kk
theorem pY_launches {y : MethodName} {cc : ByteArray} {nL : Nat} {ro : Option FieldType} {g : WG} {ad : AY} {σ : YS} {A : Nat → Prop} {H0 : Heap} {v : Int32} (hC : Cx p s m args meth c y cc nL ro) (hy : y.cls = RX2) (hK : va_K g.1 vwCl (tysW g) s) (hP : va_P g.1 vwCl (cY g ad σ) H) (hD : va_D A (cY g ad σ)) (hS : va_S A H0 H locs) (hdg : decode cc pc = .ok (.putfield 34, 3)) (kk : ∀ (H1 : Heap) (locs1 : List Loc), va_P g.1 vwCl (cY g ad (Y_set_launches σ v)) H1 → va_D A (cY g ad (Y_set_launches σ v)) → va_S A H0 H1 locs1 → W p l e R s m args below meth c H1 locs1 cells slots Q (F0 m (pc + 3) ls (rest))) : W p l e R s m args below meth c H locs cells slots Q (F0 m pc ls (.int v :: .ref ad.1 :: rest)) := pt_X2_launches hC hy hK hP hD hS 0 rfl (Nat.le_of_ble_eq_true rfl) hdg kk
theorem lY_facts {y : MethodName} {cc : ByteArray} {nL : Nat} {ro : Option FieldType} {g : WG} {ad : AY} {σ : YS} (hC : Cx p s m args meth c y cc nL ro) (hK : va_K g.1 vwCl (tysW g) s) (hP : va_P g.1 vwCl (cY g ad σ) H) {i : Int32} (hin : vp_in i 220) (hdg : decode cc pc = .ok (.iaload, 1)) (kk : W p l e R s m args below meth c H locs cells slots Q (F0 m (pc + 1) ls (.int ((Y_facts σ) i.toNatClampNeg) :: rest))) : W p l e R s m args below meth c H locs cells slots Q (F0 m pc ls (.int i :: .ref ad.2.1 :: rest)) := va_iald hC.1 hC.2.1 hK hP 1 0 rfl rfl hin hdg kk
theorem nY_facts {y : MethodName} {cc : ByteArray} {nL : Nat} {ro : Option FieldType} {g : WG} {ad : AY} {σ : YS} (hC : Cx p s m args meth c y cc nL ro) (hK : va_K g.1 vwCl (tysW g) s) (hP : va_P g.1 vwCl (cY g ad σ) H) (hdg : decode cc pc = .ok (.arraylength, 1)) (kk : W p l e R s m args below meth c H locs cells slots Q (F0 m (pc + 1) ls (.int 220 :: rest))) : W p l e R s m args below meth c H locs cells slots Q (F0 m pc ls (.ref ad.2.1 :: rest)) := va_alen (v := 220) hC.1 hC.2.1 hK hP 1 0 rfl rfl rfl hdg kk
theorem sY_facts {y : MethodName} {cc : ByteArray} {nL : Nat} {ro : Option FieldType} {g : WG} {ad : AY} {σ : YS} {A : Nat → Prop} {H0 : Heap} {i x : Int32} (hC : Cx p s m args meth c y cc nL ro) (hK : va_K g.1 vwCl (tysW g) s) (hP : va_P g.1 vwCl (cY g ad σ) H) (hD : va_D A (cY g ad σ)) (hS : va_S A H0 H locs) (hin : vp_in i 220) (hdg : decode cc pc = .ok (.iastore, 1)) (kk : ∀ (H1 : Heap) (locs1 : List Loc), va_P g.1 vwCl (cY g ad (Y_set_facts σ (upd (Y_facts σ) i.toNatClampNeg x))) H1 → va_D A (cY g ad (Y_set_facts σ (upd (Y_facts σ) i.toNatClampNeg x))) → va_S A H0 H1 locs1 → W p l e R s m args below meth c H1 locs1 cells slots Q (F0 m (pc + 1) ls (rest))) : W p l e R s m args below meth c H locs cells slots Q (F0 m pc ls (.int x :: .int i :: .ref ad.2.1 :: rest)) := va_iast hC.1 hC.2.1 hK hP hD hS 1 0 rfl rfl hin hdg kk
theorem lY_cradles {y : MethodName} {cc : ByteArray} {nL : Nat} {ro : Option FieldType} {g : WG} {ad : AY} {σ : YS} (hC : Cx p s m args meth c y cc nL ro) (hK : va_K g.1 vwCl (tysW g) s) (hP : va_P g.1 vwCl (cY g ad σ) H) {i : Int32} (hin : vp_in i 3) (hdg : decode cc pc = .ok (.iaload, 1)) (kk : W p l e R s m args below meth c H locs cells slots Q (F0 m (pc + 1) ls (.int ((Y_cradles σ) i.toNatClampNeg) :: rest))) : W p l e R s m args below meth c H locs cells slots Q (F0 m pc ls (.int i :: .ref ad.2.2.1 :: rest)) := va_iald hC.1 hC.2.1 hK hP 2 0 rfl rfl hin hdg kk
theorem nY_cradles {y : MethodName} {cc : ByteArray} {nL : Nat} {ro : Option FieldType} {g : WG} {ad : AY} {σ : YS} (hC : Cx p s m args meth c y cc nL ro) (hK : va_K g.1 vwCl (tysW g) s) (hP : va_P g.1 vwCl (cY g ad σ) H) (hdg : decode cc pc = .ok (.arraylength, 1)) (kk : W p l e R s m args below meth c H locs cells slots Q (F0 m (pc + 1) ls (.int 3 :: rest))) : W p l e R s m args below meth c H locs cells slots Q (F0 m pc ls (.ref ad.2.2.1 :: rest)) := va_alen (v := 3) hC.1 hC.2.1 hK hP 2 0 rfl rfl rfl hdg kk
theorem sY_cradles {y : MethodName} {cc : ByteArray} {nL : Nat} {ro : Option FieldType} {g : WG} {ad : AY} {σ : YS} {A : Nat → Prop} {H0 : Heap} {i x : Int32} (hC : Cx p s m args meth c y cc nL ro) (hK : va_K g.1 vwCl (tysW g) s) (hP : va_P g.1 vwCl (cY g ad σ) H) (hD : va_D A (cY g ad σ)) (hS : va_S A H0 H locs) (hin : vp_in i 3) (hdg : decode cc pc = .ok (.iastore, 1)) (kk : ∀ (H1 : Heap) (locs1 : List Loc), va_P g.1 vwCl (cY g ad (Y_set_cradles σ (upd (Y_cradles σ) i.toNatClampNeg x))) H1 → va_D A (cY g ad (Y_set_cradles σ (upd (Y_cradles σ) i.toNatClampNeg x))) → va_S A H0 H1 locs1 → W p l e R s m args below meth c H1 locs1 cells slots Q (F0 m (pc + 1) ls (rest))) : W p l e R s m args below meth c H locs cells slots Q (F0 m pc ls (.int x :: .int i :: .ref ad.2.2.1 :: rest)) := va_iast hC.1 hC.2.1 hK hP hD hS 2 0 rfl rfl hin hdg kk
theorem lY_metres {y : MethodName} {cc : ByteArray} {nL : Nat} {ro : Option FieldType} {g : WG} {ad : AY} {σ : YS} (hC : Cx p s m args meth c y cc nL ro) (hK : va_K g.1 vwCl (tysW g) s) (hP : va_P g.1 vwCl (cY g ad σ) H) {i : Int32} (hin : vp_in i 4) (hdg : decode cc pc = .ok (.iaload, 1)) (kk : W p l e R s m args below meth c H locs cells slots Q (F0 m (pc + 1) ls (.int ((Y_metres σ) i.toNatClampNeg) :: rest))) : W p l e R s m args below meth c H locs cells slots Q (F0 m pc ls (.int i :: .ref ad.2.2.2.1 :: rest)) := va_iald hC.1 hC.2.1 hK hP 3 0 rfl rfl hin hdg kk
theorem nY_metres {y : MethodName} {cc : ByteArray} {nL : Nat} {ro : Option FieldType} {g : WG} {ad : AY} {σ : YS} (hC : Cx p s m args meth c y cc nL ro) (hK : va_K g.1 vwCl (tysW g) s) (hP : va_P g.1 vwCl (cY g ad σ) H) (hdg : decode cc pc = .ok (.arraylength, 1)) (kk : W p l e R s m args below meth c H locs cells slots Q (F0 m (pc + 1) ls (.int 4 :: rest))) : W p l e R s m args below meth c H locs cells slots Q (F0 m pc ls (.ref ad.2.2.2.1 :: rest)) := va_alen (v := 4) hC.1 hC.2.1 hK hP 3 0 rfl rfl rfl hdg kk
theorem sY_metres {y : MethodName} {cc : ByteArray} {nL : Nat} {ro : Option FieldType} {g : WG} {ad : AY} {σ : YS} {A : Nat → Prop} {H0 : Heap} {i x : Int32} (hC : Cx p s m args meth c y cc nL ro) (hK : va_K g.1 vwCl (tysW g) s) (hP : va_P g.1 vwCl (cY g ad σ) H) (hD : va_D A (cY g ad σ)) (hS : va_S A H0 H locs) (hin : vp_in i 4) (hdg : decode cc pc = .ok (.iastore, 1)) (kk : ∀ (H1 : Heap) (locs1 : List Loc), va_P g.1 vwCl (cY g ad (Y_set_metres σ (upd (Y_metres σ) i.toNatClampNeg x))) H1 → va_D A (cY g ad (Y_set_metres σ (upd (Y_metres σ) i.toNatClampNeg x))) → va_S A H0 H1 locs1 → W p l e R s m args below meth c H1 locs1 cells slots Q (F0 m (pc + 1) ls (rest))) : W p l e R s m args below meth c H locs cells slots Q (F0 m pc ls (.int x :: .int i :: .ref ad.2.2.2.1 :: rest)) := va_iast hC.1 hC.2.1 hK hP hD hS 3 0 rfl rfl hin hdg kk
theorem lY_settings {y : MethodName} {cc : ByteArray} {nL : Nat} {ro : Option FieldType} {g : WG} {ad : AY} {σ : YS} (hC : Cx p s m args meth c y cc nL ro) (hK : va_K g.1 vwCl (tysW g) s) (hP : va_P g.1 vwCl (cY g ad σ) H) {i : Int32} (hin : vp_in i 3) (hdg : decode cc pc = .ok (.iaload, 1)) (kk : W p l e R s m args below meth c H locs cells slots Q (F0 m (pc + 1) ls (.int ((Y_settings σ) i.toNatClampNeg) :: rest))) : W p l e R s m args below meth c H locs cells slots Q (F0 m pc ls (.int i :: .ref ad.2.2.2.2 :: rest)) := va_iald hC.1 hC.2.1 hK hP 4 0 rfl rfl hin hdg kk
theorem nY_settings {y : MethodName} {cc : ByteArray} {nL : Nat} {ro : Option FieldType} {g : WG} {ad : AY} {σ : YS} (hC : Cx p s m args meth c y cc nL ro) (hK : va_K g.1 vwCl (tysW g) s) (hP : va_P g.1 vwCl (cY g ad σ) H) (hdg : decode cc pc = .ok (.arraylength, 1)) (kk : W p l e R s m args below meth c H locs cells slots Q (F0 m (pc + 1) ls (.int 3 :: rest))) : W p l e R s m args below meth c H locs cells slots Q (F0 m pc ls (.ref ad.2.2.2.2 :: rest)) := va_alen (v := 3) hC.1 hC.2.1 hK hP 4 0 rfl rfl rfl hdg kk
theorem sY_settings {y : MethodName} {cc : ByteArray} {nL : Nat} {ro : Option FieldType} {g : WG} {ad : AY} {σ : YS} {A : Nat → Prop} {H0 : Heap} {i x : Int32} (hC : Cx p s m args meth c y cc nL ro) (hK : va_K g.1 vwCl (tysW g) s) (hP : va_P g.1 vwCl (cY g ad σ) H) (hD : va_D A (cY g ad σ)) (hS : va_S A H0 H locs) (hin : vp_in i 3) (hdg : decode cc pc = .ok (.iastore, 1)) (kk : ∀ (H1 : Heap) (locs1 : List Loc), va_P g.1 vwCl (cY g ad (Y_set_settings σ (upd (Y_settings σ) i.toNatClampNeg x))) H1 → va_D A (cY g ad (Y_set_settings σ (upd (Y_settings σ) i.toNatClampNeg x))) → va_S A H0 H1 locs1 → W p l e R s m args below meth c H1 locs1 cells slots Q (F0 m (pc + 1) ls (rest))) : W p l e R s m args below meth c H locs cells slots Q (F0 m pc ls (.int x :: .int i :: .ref ad.2.2.2.2 :: rest)) := va_iast hC.1 hC.2.1 hK hP hD hS 4 0 rfl rfl hin hdg kk
end FR
def tvL (j : Nat) : Int32 := if j = 0 then 0 else 1
def tvG (j : Nat) : Int32 := if j = 2 then 30 else 9
def tvB (j : Nat) : Int32 := if j = 0 then 30 else if j = 1 then 12 else 20
end
section
def mX2_note (σ : YS) (x1 : Int32) (x2 : Int32) (x3 : Int32) : YS := (Y_set_facts σ (upd (Y_facts σ) ((x1 * 11) + x2).toNatClampNeg x3))
set_option maxHeartbeats 4000000 in
set_option maxRecDepth 100000 in
theorem k_X2_note (l : Launch) (g : WG) (ad : AY) (σ : YS) (x1 : Int32) (x2 : Int32) (x3 : Int32) (h_1 : vp_in x1 20) (h_2 : vp_in x2 11) : Wv l yX2_note cX2_note 4 0 g (cY g ad σ) (cY g ad (mX2_note σ x1 x2 x3)) [.ref ad.1, .int x1, .int x2, .int x3] := by
  refine wv_of (by decide) (Nat.le_of_ble_eq_true rfl) ?_
  intro p e s m args below meth c ls A hC hAe hP hD hK hE hA hS hl
  obtain ⟨hx, hb, hml, hr, hown, hts, hlk, hnm⟩ := id hC
  have hl : lv_has ls 4 [(0, .ref ad.1), (1, .int x1), (2, .int x2), (3, .int x3)] := hl
  refine lv_aload_n hx hb dX2_note_0 rfl (lv_at hl 0 rfl) ?_
  refine gY_facts hC rfl hK hP dX2_note_1 ?_
  refine lv_iload_n hx hb dX2_note_4 rfl (lv_at hl 1 rfl) ?_
  refine lv_bipush (v := 11) hx hb dX2_note_5 (by decide) ?_
  refine lv_imul hx hb dX2_note_7 ?_
  refine lv_iload_n hx hb dX2_note_8 rfl (lv_at hl 2 rfl) ?_
  refine lv_iadd hx hb dX2_note_9 ?_
  refine lv_iload_n hx hb dX2_note_10 rfl (lv_at hl 3 rfl) ?_
  refine sY_facts hC hK hP hD hS (ix_11 h_1 h_2) dX2_note_11 (fun H locs hP hD hS => ?_)
  have hm : mX2_note σ x1 x2 x3 = (Y_set_facts σ (upd (Y_facts σ) ((x1 * 11) + x2).toNatClampNeg x3)) := by unfold mX2_note; rfl
  exact wv_ret hC hP (hAe ▸ hD) (hAe ▸ hS) dX2_note_12 (by rw [hm])
def mX2_forget_L2 (x1 : Int32) : Nat → YS → Int32 → YS
  | 0, σ, _ => σ
  | n + 1, σ, u2 => (if 11 ≤ u2 then σ else (mX2_forget_L2 x1 n (mX2_note σ x1 u2 (-5)) (u2 + 1)))
set_option maxHeartbeats 4000000 in
set_option maxRecDepth 100000 in
theorem q_X2_forget_2 {p : Program} {e : Env} {s : State} {m : MethodId} {args : Array Value} {below : List Frame} {meth : Method} {c : Code} (l : Launch) (g : WG) (ad : AY) (x1 : Int32) (h_1 : vp_in x1 20) (hC : Cx p s m args meth c yX2_forget cX2_forget 3 none) (hK : va_K g.1 vwCl (tysW g) s) {A : Nat → Prop} {ws0 : va_W} (hE : Ex A s s.heap) (hA : ∀ q : Nat, s.heap.size ≤ q → A q) (hAe : A = va_A ws0 s.heap.size) {r : YS} : ∀ (n : Nat) (σ : YS) (H : Heap) (locs : List Loc) (hP : va_P g.1 vwCl (cY g ad σ) H) (hD : va_D A (cY g ad σ)) (hS : va_S A s.heap H locs) (u2 : Int32) (hi0 : 0 ≤ u2.toInt) (hi1 : u2.toInt ≤ 11) (hm : ((12 : Int) - u2.toInt).toNat < n) (hR : r = mX2_forget_L2 x1 n σ u2) (ls : Array Slot) (hl : lv_has ls 3 [(2, .int u2), (0, .ref ad.1), (1, .int x1)]), W p l e (rk 1) s m args below meth c H locs 0 0 (MQ below (va_Qv (fun _ => True) (Bw g ws0 (cY g ad r) s.heap.size) (va_A ws0 s.heap.size)) args s 0 0 (va_A ws0 s.heap.size)) (F0 m 2 ls []) := by
  obtain ⟨hx, hb, hml, hr, hown, hts, hlk, hnm⟩ := id hC
  intro n
  induction n with
  | zero => intro σ H locs hP hD hS u2 hi0 hi1 hm hR ls hl; exact absurd hm (Nat.not_lt_zero _)
  | succ n ih =>
    intro σ H locs hP hD hS u2 hi0 hi1 hm hR ls hl
    refine lv_iload_n hx hb dX2_forget_2 rfl (lv_at hl 0 rfl) ?_
    refine lv_bipush (v := 11) hx hb dX2_forget_3 (by decide) ?_
    refine lv_icmp_ge (tgt := 22) hx hb dX2_forget_5 (by decide) (fun c_1 => ?_) (fun c_1 => ?_)
    · have hm : r = σ := by rw [hR, mX2_forget_L2, if_pos c_1]
      exact wv_ret hC hP (hAe ▸ hD) (hAe ▸ hS) dX2_forget_22 (by rw [hm])
    · refine lv_aload_n hx hb dX2_forget_8 rfl (lv_at hl 1 rfl) ?_
      refine lv_iload_n hx hb dX2_forget_9 rfl (lv_at hl 2 rfl) ?_
      refine lv_iload_n hx hb dX2_forget_10 rfl (lv_at hl 0 rfl) ?_
      refine lv_bipush (v := (-5)) hx hb dX2_forget_11 (by decide) ?_
      refine callWv hC (k_X2_note l g ad σ x1 u2 (-5) h_1 (in_up (n := 11) rfl hi0 c_1)) ci_X2_note lk_X2_55 ⟨Nat.le_of_ble_eq_true rfl, Nat.le_of_ble_eq_true rfl⟩ hP hD hK hE hS hA (q0 := 0) rfl rfl rfl rfl hl.1 rfl (Nat.le_of_ble_eq_true rfl) dX2_forget_13 ⟨Nat.zero_le _, Nat.zero_le _⟩ (fun H locs hP _ hD hS _ _ => ?_)
      refine lv_iinc (v := (u2 + 1)) (lv' := [(2, .int (u2 + 1)), (0, .ref ad.1), (1, .int x1)]) hx hb dX2_forget_16 hl (k := 0) rfl rfl (by decide) rfl (fun ls hl => ?_)
      refine lv_goto (tgt := 2) hx hb dX2_forget_19 (by decide) ?_
      have e9 := up_add (d := 1) (k := 1) (M := 11) rfl hi0 hi1 (by decide) (by decide)
      have e8 := nle_ti (k := 11) rfl c_1
      exact ih (mX2_note σ x1 u2 (-5)) _ _ hP hD hS (u2 + 1) (by rw [e9]; omega) (by rw [e9]; omega) (by rw [e9]; omega) (by rw [hR, mX2_forget_L2, if_neg c_1]) _ (lv_sub hl [0, 1, 2] rfl)
def mX2_forget (σ : YS) (x1 : Int32) : YS := (mX2_forget_L2 x1 13 σ 0)
set_option maxHeartbeats 4000000 in
set_option maxRecDepth 100000 in
theorem k_X2_forget (l : Launch) (g : WG) (ad : AY) (σ : YS) (x1 : Int32) (h_1 : vp_in x1 20) : Wv l yX2_forget cX2_forget 3 1 g (cY g ad σ) (cY g ad (mX2_forget σ x1)) [.ref ad.1, .int x1] := by
  refine wv_of (by decide) (Nat.le_of_ble_eq_true rfl) ?_
  intro p e s m args below meth c ls A hC hAe hP hD hK hE hA hS hl
  obtain ⟨hx, hb, hml, hr, hown, hts, hlk, hnm⟩ := id hC
  have hl : lv_has ls 3 [(0, .ref ad.1), (1, .int x1)] := hl
  refine lv_iconst (v := 0) hx hb dX2_forget_0 (by decide) ?_
  refine lv_istore_n (lv' := [(2, .int 0), (0, .ref ad.1), (1, .int x1)]) hx hb dX2_forget_1 rfl hl (by decide) rfl (fun ls hl => ?_)
  refine q_X2_forget_2 l g ad x1 h_1 hC hK hE hA hAe 13 σ _ _ hP hD hS 0 (by decide) (by decide) (by decide) ?_ _ (lv_sub hl [0, 1, 2] rfl)
  exact by unfold mX2_forget; rfl
def mX3_within (x1 : Int32) (x2 : Int32) (x3 : Int32) : Int32 := (if x1 < x2 then 0 else (if x3 < x1 then 0 else 1))
theorem in_within {x hi : Int32} {k : Nat} (hk : hi.toInt = k) (c : ¬ mX3_within x 0 hi = 0) : vp_in x (k + 1) := by
  unfold mX3_within at c
  rw [in_iff]
  split at c
  · exact absurd rfl c
  · split at c
    · exact absurd rfl c
    · rename_i h1 h2
      rw [lt_ti] at h1 h2
      have : (0 : Int32).toInt = 0 := rfl
      omega
theorem bz_X3_within {x lo hi : Int32} : narrow .boolean (.int (mX3_within x lo hi)) = .int (mX3_within x lo hi) := by
  unfold mX3_within
  split
  · rfl
  · split <;> rfl
set_option maxHeartbeats 4000000 in
set_option maxRecDepth 100000 in
theorem k_X3_within (l : Launch) (g : WG) (x1 : Int32) (x2 : Int32) (x3 : Int32) : Rd l yX3_within cX3_within 3 (some .boolean) 0 (Wl g [] (fun _ => False)) [.int x1, .int x2, .int x3] (mX3_within x1 x2 x3) := by
  refine rd_of (by decide) (Nat.le_of_ble_eq_true rfl) ?_
  intro p e s m args below meth c ls hC hW hl
  obtain ⟨hP, hK, hE⟩ := hW
  obtain ⟨hx, hb, hml, hr, hown, hts, hlk, hnm⟩ := id hC
  have hl : lv_has ls 3 [(0, .int x1), (1, .int x2), (2, .int x3)] := hl
  refine lv_iload_n hx hb dX3_within_0 rfl (lv_at hl 0 rfl) ?_
  refine lv_iload_n hx hb dX3_within_1 rfl (lv_at hl 1 rfl) ?_
  refine lv_icmp_lt (tgt := 14) hx hb dX3_within_2 (by decide) (fun c_1 => ?_) (fun c_1 => ?_)
  · refine lv_iconst (v := 0) hx hb dX3_within_14 (by decide) ?_
    exact rd_zret hC dX3_within_15 rfl (Eq.symm (by unfold mX3_within; rw [if_pos c_1]))
  · refine lv_iload_n hx hb dX3_within_5 rfl (lv_at hl 0 rfl) ?_
    refine lv_iload_n hx hb dX3_within_6 rfl (lv_at hl 2 rfl) ?_
    refine lv_icmp_gt (tgt := 14) hx hb dX3_within_7 (by decide) (fun c_2 => ?_) (fun c_2 => ?_)
    · refine lv_iconst (v := 0) hx hb dX3_within_14 (by decide) ?_
      exact rd_zret hC dX3_within_15 rfl (Eq.symm (by unfold mX3_within; rw [if_neg c_1, if_pos c_2]))
    · refine lv_iconst (v := 1) hx hb dX3_within_10 (by decide) ?_
      refine lv_goto (tgt := 15) hx hb dX3_within_11 (by decide) ?_
      exact rd_zret hC dX3_within_15 rfl (Eq.symm (by unfold mX3_within; rw [if_neg c_1, if_neg c_2]))
def mX2_isFact (x1 : Int32) : Int32 := (mX3_within x1 0 10)
theorem in_X2_isFact {x : Int32} (c : ¬ mX2_isFact x = 0) : vp_in x 11 := in_within (k := 10) rfl c
set_option maxHeartbeats 4000000 in
set_option maxRecDepth 100000 in
theorem k_X2_isFact (l : Launch) (g : WG) (x1 : Int32) : Rd l yX2_isFact cX2_isFact 1 (some .boolean) 1 (Wl g [] (fun _ => False)) [.int x1] (mX2_isFact x1) := by
  refine rd_of (by decide) (Nat.le_of_ble_eq_true rfl) ?_
  intro p e s m args below meth c ls hC hW hl
  obtain ⟨hP, hK, hE⟩ := hW
  obtain ⟨hx, hb, hml, hr, hown, hts, hlk, hnm⟩ := id hC
  have hl : lv_has ls 1 [(0, .int x1)] := hl
  refine lv_iload_n hx hb dX2_isFact_0 rfl (lv_at hl 0 rfl) ?_
  refine lv_iconst (v := 0) hx hb dX2_isFact_1 (by decide) ?_
  refine lv_bipush (v := 10) hx hb dX2_isFact_2 (by decide) ?_
  refine callRn hC (k_X3_within l g x1 0 10) ci_X3_within hE.2.1 ⟨Nat.le_of_ble_eq_true rfl, Nat.le_of_ble_eq_true rfl⟩ hK hE rfl hl.1 rfl (Nat.le_of_ble_eq_true rfl) dX2_isFact_4 ⟨Nat.zero_le _, Nat.zero_le _⟩ ?_
  exact rd_zret hC dX2_isFact_7 (bz_X3_within ..) (Eq.symm (by unfold mX2_isFact; rfl))
def mX2_isRow (x1 : Int32) : Int32 := (mX3_within x1 0 3)
theorem in_X2_isRow {x : Int32} (c : ¬ mX2_isRow x = 0) : vp_in x 4 := in_within (k := 3) rfl c
set_option maxHeartbeats 4000000 in
set_option maxRecDepth 100000 in
theorem k_X2_isRow (l : Launch) (g : WG) (x1 : Int32) : Rd l yX2_isRow cX2_isRow 1 (some .boolean) 1 (Wl g [] (fun _ => False)) [.int x1] (mX2_isRow x1) := by
  refine rd_of (by decide) (Nat.le_of_ble_eq_true rfl) ?_
  intro p e s m args below meth c ls hC hW hl
  obtain ⟨hP, hK, hE⟩ := hW
  obtain ⟨hx, hb, hml, hr, hown, hts, hlk, hnm⟩ := id hC
  have hl : lv_has ls 1 [(0, .int x1)] := hl
  refine lv_iload_n hx hb dX2_isRow_0 rfl (lv_at hl 0 rfl) ?_
  refine lv_iconst (v := 0) hx hb dX2_isRow_1 (by decide) ?_
  refine lv_iconst (v := 3) hx hb dX2_isRow_2 (by decide) ?_
  refine callRn hC (k_X3_within l g x1 0 3) ci_X3_within hE.2.1 ⟨Nat.le_of_ble_eq_true rfl, Nat.le_of_ble_eq_true rfl⟩ hK hE rfl hl.1 rfl (Nat.le_of_ble_eq_true rfl) dX2_isRow_3 ⟨Nat.zero_le _, Nat.zero_le _⟩ ?_
  exact rd_zret hC dX2_isRow_6 (bz_X3_within ..) (Eq.symm (by unfold mX2_isRow; rfl))
def mX2_isKind (x1 : Int32) : Int32 := (mX3_within x1 0 2)
theorem in_X2_isKind {x : Int32} (c : ¬ mX2_isKind x = 0) : vp_in x 3 := in_within (k := 2) rfl c
set_option maxHeartbeats 4000000 in
set_option maxRecDepth 100000 in
theorem k_X2_isKind (l : Launch) (g : WG) (x1 : Int32) : Rd l yX2_isKind cX2_isKind 1 (some .boolean) 1 (Wl g [] (fun _ => False)) [.int x1] (mX2_isKind x1) := by
  refine rd_of (by decide) (Nat.le_of_ble_eq_true rfl) ?_
  intro p e s m args below meth c ls hC hW hl
  obtain ⟨hP, hK, hE⟩ := hW
  obtain ⟨hx, hb, hml, hr, hown, hts, hlk, hnm⟩ := id hC
  have hl : lv_has ls 1 [(0, .int x1)] := hl
  refine lv_iload_n hx hb dX2_isKind_0 rfl (lv_at hl 0 rfl) ?_
  refine lv_iconst (v := 0) hx hb dX2_isKind_1 (by decide) ?_
  refine lv_iconst (v := 2) hx hb dX2_isKind_2 (by decide) ?_
  refine callRn hC (k_X3_within l g x1 0 2) ci_X3_within hE.2.1 ⟨Nat.le_of_ble_eq_true rfl, Nat.le_of_ble_eq_true rfl⟩ hK hE rfl hl.1 rfl (Nat.le_of_ble_eq_true rfl) dX2_isKind_3 ⟨Nat.zero_le _, Nat.zero_le _⟩ ?_
  exact rd_zret hC dX2_isKind_6 (bz_X3_within ..) (Eq.symm (by unfold mX2_isKind; rfl))
def mX2_fact (σ : YS) (x1 : Int32) (x2 : Int32) : Int32 := ((Y_facts σ) ((x1 * 11) + x2).toNatClampNeg)
set_option maxHeartbeats 4000000 in
set_option maxRecDepth 100000 in
theorem k_X2_fact (l : Launch) (g : WG) (ad : AY) (σ : YS) (x1 : Int32) (x2 : Int32) (h_1 : vp_in x1 20) (h_2 : vp_in x2 11) : Rd l yX2_fact cX2_fact 3 (some .int) 0 (Wl g (cY g ad σ) (fun _ => False)) [.ref ad.1, .int x1, .int x2] (mX2_fact σ x1 x2) := by
  refine rd_of (by decide) (Nat.le_of_ble_eq_true rfl) ?_
  intro p e s m args below meth c ls hC hW hl
  obtain ⟨hP, hK, hE⟩ := hW
  obtain ⟨hx, hb, hml, hr, hown, hts, hlk, hnm⟩ := id hC
  have hl : lv_has ls 3 [(0, .ref ad.1), (1, .int x1), (2, .int x2)] := hl
  refine lv_aload_n hx hb dX2_fact_0 rfl (lv_at hl 0 rfl) ?_
  refine gY_facts hC rfl hK hP dX2_fact_1 ?_
  refine lv_iload_n hx hb dX2_fact_4 rfl (lv_at hl 1 rfl) ?_
  refine lv_bipush (v := 11) hx hb dX2_fact_5 (by decide) ?_
  refine lv_imul hx hb dX2_fact_7 ?_
  refine lv_iload_n hx hb dX2_fact_8 rfl (lv_at hl 2 rfl) ?_
  refine lv_iadd hx hb dX2_fact_9 ?_
  refine lY_facts hC hK hP (ix_11 h_1 h_2) dX2_fact_10 ?_
  exact rd_ret hC dX2_fact_11 (Eq.symm (by unfold mX2_fact; rfl))
def mX2_knows (σ : YS) (x1 : Int32) : Int32 := (if (mX3_within x1 0 19) = 0 then 0 else (if (mX2_fact σ x1 0) = (-5) then 0 else 1))
theorem in_X2_knows {σ : YS} {x : Int32} (c : ¬ mX2_knows σ x = 0) : vp_in x 20 := by
  unfold mX2_knows at c
  split at c
  · exact absurd rfl c
  · rename_i h
    exact in_within (k := 19) rfl h
set_option maxHeartbeats 4000000 in
set_option maxRecDepth 100000 in
theorem k_X2_knows (l : Launch) (g : WG) (ad : AY) (σ : YS) (x1 : Int32) : Rd l yX2_knows cX2_knows 2 (some .boolean) 1 (Wl g (cY g ad σ) (fun _ => False)) [.ref ad.1, .int x1] (mX2_knows σ x1) := by
  refine rd_of (by decide) (Nat.le_of_ble_eq_true rfl) ?_
  intro p e s m args below meth c ls hC hW hl
  obtain ⟨hP, hK, hE⟩ := hW
  obtain ⟨hx, hb, hml, hr, hown, hts, hlk, hnm⟩ := id hC
  have hl : lv_has ls 2 [(0, .ref ad.1), (1, .int x1)] := hl
  refine lv_iload_n hx hb dX2_knows_0 rfl (lv_at hl 1 rfl) ?_
  refine lv_iconst (v := 0) hx hb dX2_knows_1 (by decide) ?_
  refine lv_bipush (v := 19) hx hb dX2_knows_2 (by decide) ?_
  refine callRn hC (k_X3_within l g x1 0 19) ci_X3_within hE.2.1 ⟨Nat.le_of_ble_eq_true rfl, Nat.le_of_ble_eq_true rfl⟩ hK hE rfl hl.1 rfl (Nat.le_of_ble_eq_true rfl) dX2_knows_4 ⟨Nat.zero_le _, Nat.zero_le _⟩ ?_
  refine lv_if_eq (tgt := 25) hx hb dX2_knows_7 (by decide) (fun c_1 => ?_) (fun c_1 => ?_)
  · refine lv_iconst (v := 0) hx hb dX2_knows_25 (by decide) ?_
    exact rd_zret hC dX2_knows_26 rfl (Eq.symm (by unfold mX2_knows; rw [if_pos c_1]))
  · refine lv_aload_n hx hb dX2_knows_10 rfl (lv_at hl 0 rfl) ?_
    refine lv_iload_n hx hb dX2_knows_11 rfl (lv_at hl 1 rfl) ?_
    refine lv_iconst (v := 0) hx hb dX2_knows_12 (by decide) ?_
    refine callRd hC (k_X2_fact l g ad σ x1 0 (in_within (k := 19) rfl c_1) (in_iff.mpr (by decide))) ci_X2_fact lk_X2_51 ⟨Nat.le_of_ble_eq_true rfl, Nat.le_of_ble_eq_true rfl⟩ hP hK hE (q0 := 0) rfl rfl rfl rfl hl.1 rfl (Nat.le_of_ble_eq_true rfl) dX2_knows_13 ⟨Nat.zero_le _, Nat.zero_le _⟩ ?_
    refine lv_bipush (v := (-5)) hx hb dX2_knows_16 (by decide) ?_
    refine lv_icmp_eq (tgt := 25) hx hb dX2_knows_18 (by decide) (fun c_2 => ?_) (fun c_2 => ?_)
    · refine lv_iconst (v := 0) hx hb dX2_knows_25 (by decide) ?_
      exact rd_zret hC dX2_knows_26 rfl (Eq.symm (by unfold mX2_knows; rw [if_neg c_1, if_pos c_2]))
    · refine lv_iconst (v := 1) hx hb dX2_knows_21 (by decide) ?_
      refine lv_goto (tgt := 26) hx hb dX2_knows_22 (by decide) ?_
      exact rd_zret hC dX2_knows_26 rfl (Eq.symm (by unfold mX2_knows; rw [if_neg c_1, if_neg c_2]))
def mX2_boatsWith_L5 (σ : YS) (x1 : Int32) (x2 : Int32) : Nat → Int32 → Int32 → Int32
  | 0, _, _ => 0
  | n + 1, u4, u3 => (if 220 ≤ u4 then u3 else (if ((Y_facts σ) u4.toNatClampNeg) = x2 then (mX2_boatsWith_L5 σ x1 x2 n (u4 + 11) (u3 + 1)) else (mX2_boatsWith_L5 σ x1 x2 n (u4 + 11) u3)))
set_option maxHeartbeats 4000000 in
set_option maxRecDepth 100000 in
theorem q_X2_boatsWith_5 {p : Program} {e : Env} {s : State} {m : MethodId} {args : Array Value} {below : List Frame} {meth : Method} {c : Code} (l : Launch) (g : WG) (ad : AY) (σ : YS) (x1 : Int32) (x2 : Int32) (h_1 : vp_in x1 11) (hC : Cx p s m args meth c yX2_boatsWith cX2_boatsWith 5 (some .int)) (hP : va_P g.1 vwCl (cY g ad σ) s.heap) (hK : va_K g.1 vwCl (tysW g) s) (hE : Ex (fun _ => False) s s.heap) {r : Int32} : ∀ (n : Nat) (u4 : Int32) (u3 : Int32) (hi0 : 0 ≤ u4.toInt) (hi1 : u4.toInt ≤ 230) (hm : ((231 : Int) - u4.toInt).toNat < n) (hR : r = mX2_boatsWith_L5 σ x1 x2 n u4 u3) (ls : Array Slot) (hl : lv_has ls 5 [(4, .int u4), (3, .int u3), (0, .ref ad.1), (1, .int x1), (2, .int x2)]), W p l e (rk 0) s m args below meth c s.heap [] 0 0 (MQ below (vp_Si (fun x => x = r)) args s 0 0 (fun _ => False)) (F0 m 5 ls []) := by
  obtain ⟨hx, hb, hml, hr, hown, hts, hlk, hnm⟩ := id hC
  intro n
  induction n with
  | zero => intro u4 u3 hi0 hi1 hm hR ls hl; exact absurd hm (Nat.not_lt_zero _)
  | succ n ih =>
    intro u4 u3 hi0 hi1 hm hR ls hl
    refine lv_iload hx hb dX2_boatsWith_5 (lv_at hl 0 rfl) ?_
    refine lv_aload_n hx hb dX2_boatsWith_7 rfl (lv_at hl 2 rfl) ?_
    refine gY_facts hC rfl hK hP dX2_boatsWith_8 ?_
    refine nY_facts hC hK hP dX2_boatsWith_11 ?_
    refine lv_icmp_ge (tgt := 35) hx hb dX2_boatsWith_12 (by decide) (fun c_1 => ?_) (fun c_1 => ?_)
    · refine lv_iload_n hx hb dX2_boatsWith_35 rfl (lv_at hl 1 rfl) ?_
      exact rd_ret hC dX2_boatsWith_36 (Eq.symm (by rw [hR, mX2_boatsWith_L5, if_pos c_1]))
    · refine lv_aload_n hx hb dX2_boatsWith_15 rfl (lv_at hl 2 rfl) ?_
      refine gY_facts hC rfl hK hP dX2_boatsWith_16 ?_
      refine lv_iload hx hb dX2_boatsWith_19 (lv_at hl 0 rfl) ?_
      refine lY_facts hC hK hP (in_up (n := 220) rfl hi0 c_1) dX2_boatsWith_21 ?_
      refine lv_iload_n hx hb dX2_boatsWith_22 rfl (lv_at hl 4 rfl) ?_
      refine lv_icmp_ne (tgt := 29) hx hb dX2_boatsWith_23 (by decide) (fun c_2 => ?_) (fun c_2 => ?_)
      · refine lv_iinc (v := (u4 + 11)) (lv' := [(4, .int (u4 + 11)), (3, .int u3), (0, .ref ad.1), (1, .int x1), (2, .int x2)]) hx hb dX2_boatsWith_29 hl (k := 0) rfl rfl (by decide) rfl (fun ls hl => ?_)
        refine lv_goto (tgt := 5) hx hb dX2_boatsWith_32 (by decide) ?_
        have e9 := up_add (d := 11) (k := 11) (M := 230) rfl hi0 hi1 (by decide) (by decide)
        have e8 := nle_ti (k := 220) rfl c_1
        exact ih (u4 + 11) u3 (by rw [e9]; omega) (by rw [e9]; omega) (by rw [e9]; omega) (by rw [hR, mX2_boatsWith_L5, if_neg c_1, if_neg c_2]) _ (lv_sub hl [0, 1, 2, 3, 4] rfl)
      · refine lv_iinc (v := (u3 + 1)) (lv' := [(3, .int (u3 + 1)), (4, .int u4), (0, .ref ad.1), (1, .int x1), (2, .int x2)]) hx hb dX2_boatsWith_26 hl (k := 1) rfl rfl (by decide) rfl (fun ls hl => ?_)
        refine lv_iinc (v := (u4 + 11)) (lv' := [(4, .int (u4 + 11)), (3, .int (u3 + 1)), (0, .ref ad.1), (1, .int x1), (2, .int x2)]) hx hb dX2_boatsWith_29 hl (k := 1) rfl rfl (by decide) rfl (fun ls hl => ?_)
        refine lv_goto (tgt := 5) hx hb dX2_boatsWith_32 (by decide) ?_
        have e9 := up_add (d := 11) (k := 11) (M := 230) rfl hi0 hi1 (by decide) (by decide)
        have e8 := nle_ti (k := 220) rfl c_1
        exact ih (u4 + 11) (u3 + 1) (by rw [e9]; omega) (by rw [e9]; omega) (by rw [e9]; omega) (by rw [hR, mX2_boatsWith_L5, if_neg c_1, if_pos c_2]) _ (lv_sub hl [0, 1, 2, 3, 4] rfl)
def mX2_boatsWith (σ : YS) (x1 : Int32) (x2 : Int32) : Int32 := (mX2_boatsWith_L5 σ x1 x2 232 x1 0)
set_option maxHeartbeats 4000000 in
set_option maxRecDepth 100000 in
theorem k_X2_boatsWith (l : Launch) (g : WG) (ad : AY) (σ : YS) (x1 : Int32) (x2 : Int32) (h_1 : vp_in x1 11) : Rd l yX2_boatsWith cX2_boatsWith 5 (some .int) 0 (Wl g (cY g ad σ) (fun _ => False)) [.ref ad.1, .int x1, .int x2] (mX2_boatsWith σ x1 x2) := by
  refine rd_of (by decide) (Nat.le_of_ble_eq_true rfl) ?_
  intro p e s m args below meth c ls hC hW hl
  obtain ⟨hP, hK, hE⟩ := hW
  obtain ⟨hx, hb, hml, hr, hown, hts, hlk, hnm⟩ := id hC
  have hl : lv_has ls 5 [(0, .ref ad.1), (1, .int x1), (2, .int x2)] := hl
  refine lv_iconst (v := 0) hx hb dX2_boatsWith_0 (by decide) ?_
  refine lv_istore_n (lv' := [(3, .int 0), (0, .ref ad.1), (1, .int x1), (2, .int x2)]) hx hb dX2_boatsWith_1 rfl hl (by decide) rfl (fun ls hl => ?_)
  refine lv_iload_n hx hb dX2_boatsWith_2 rfl (lv_at hl 2 rfl) ?_
  refine lv_istore (lv' := [(4, .int x1), (3, .int 0), (0, .ref ad.1), (1, .int x1), (2, .int x2)]) hx hb dX2_boatsWith_3 hl (by decide) rfl (fun ls hl => ?_)
  refine q_X2_boatsWith_5 l g ad σ x1 x2 h_1 hC hP hK hE 232 x1 0 (in_iff.mp h_1).1 (by have := (in_iff.mp h_1).2; omega) (by have := (in_iff.mp h_1).1; omega) ?_ _ (lv_sub hl [0, 1, 2, 3, 4] rfl)
  exact by unfold mX2_boatsWith; rfl
def mX2_lowestFreeNumber_L2 (σ : YS) : Nat → Int32 → Int32
  | 0, _ => 0
  | n + 1, u1 => (if 20 ≤ u1 then (-5) else (if (mX2_knows σ u1) = 0 then u1 else (mX2_lowestFreeNumber_L2 σ n (u1 + 1))))
set_option maxHeartbeats 4000000 in
set_option maxRecDepth 100000 in
theorem q_X2_lowestFreeNumber_2 {p : Program} {e : Env} {s : State} {m : MethodId} {args : Array Value} {below : List Frame} {meth : Method} {c : Code} (l : Launch) (g : WG) (ad : AY) (σ : YS) (hC : Cx p s m args meth c yX2_lowestFreeNumber cX2_lowestFreeNumber 2 (some .int)) (hP : va_P g.1 vwCl (cY g ad σ) s.heap) (hK : va_K g.1 vwCl (tysW g) s) (hE : Ex (fun _ => False) s s.heap) {r : Int32} : ∀ (n : Nat) (u1 : Int32) (hi0 : 0 ≤ u1.toInt) (hi1 : u1.toInt ≤ 20) (hm : ((21 : Int) - u1.toInt).toNat < n) (hR : r = mX2_lowestFreeNumber_L2 σ n u1) (ls : Array Slot) (hl : lv_has ls 2 [(1, .int u1), (0, .ref ad.1)]), W p l e (rk 2) s m args below meth c s.heap [] 0 0 (MQ below (vp_Si (fun x => x = r)) args s 0 0 (fun _ => False)) (F0 m 2 ls []) := by
  obtain ⟨hx, hb, hml, hr, hown, hts, hlk, hnm⟩ := id hC
  intro n
  induction n with
  | zero => intro u1 hi0 hi1 hm hR ls hl; exact absurd hm (Nat.not_lt_zero _)
  | succ n ih =>
    intro u1 hi0 hi1 hm hR ls hl
    refine lv_iload_n hx hb dX2_lowestFreeNumber_2 rfl (lv_at hl 0 rfl) ?_
    refine lv_bipush (v := 20) hx hb dX2_lowestFreeNumber_3 (by decide) ?_
    refine lv_icmp_ge (tgt := 24) hx hb dX2_lowestFreeNumber_5 (by decide) (fun c_1 => ?_) (fun c_1 => ?_)
    · refine lv_bipush (v := (-5)) hx hb dX2_lowestFreeNumber_24 (by decide) ?_
      exact rd_ret hC dX2_lowestFreeNumber_26 (Eq.symm (by rw [hR, mX2_lowestFreeNumber_L2, if_pos c_1]))
    · refine lv_aload_n hx hb dX2_lowestFreeNumber_8 rfl (lv_at hl 1 rfl) ?_
      refine lv_iload_n hx hb dX2_lowestFreeNumber_9 rfl (lv_at hl 0 rfl) ?_
      refine callRd hC (k_X2_knows l g ad σ u1) ci_X2_knows lk_X2_70 ⟨Nat.le_of_ble_eq_true rfl, Nat.le_of_ble_eq_true rfl⟩ hP hK hE (q0 := 0) rfl rfl rfl rfl hl.1 rfl (Nat.le_of_ble_eq_true rfl) dX2_lowestFreeNumber_10 ⟨Nat.zero_le _, Nat.zero_le _⟩ ?_
      refine lv_if_ne (tgt := 18) hx hb dX2_lowestFreeNumber_13 (by decide) (fun c_2 => ?_) (fun c_2 => ?_)
      · refine lv_iinc (v := (u1 + 1)) (lv' := [(1, .int (u1 + 1)), (0, .ref ad.1)]) hx hb dX2_lowestFreeNumber_18 hl (k := 0) rfl rfl (by decide) rfl (fun ls hl => ?_)
        refine lv_goto (tgt := 2) hx hb dX2_lowestFreeNumber_21 (by decide) ?_
        have e9 := up_add (d := 1) (k := 1) (M := 20) rfl hi0 hi1 (by decide) (by decide)
        have e8 := nle_ti (k := 20) rfl c_1
        exact ih (u1 + 1) (by rw [e9]; omega) (by rw [e9]; omega) (by rw [e9]; omega) (by rw [hR, mX2_lowestFreeNumber_L2, if_neg c_1, if_neg c_2]) _ (lv_sub hl [0, 1] rfl)
      · refine lv_iload_n hx hb dX2_lowestFreeNumber_16 rfl (lv_at hl 0 rfl) ?_
        exact rd_ret hC dX2_lowestFreeNumber_17 (Eq.symm (by rw [hR, mX2_lowestFreeNumber_L2, if_neg c_1, if_pos c_2]))
def mX2_lowestFreeNumber (σ : YS) : Int32 := (mX2_lowestFreeNumber_L2 σ 22 0)
theorem in_X2_lowest_L (σ : YS) : ∀ (n : Nat) (u : Int32), 0 ≤ u.toInt → u.toInt ≤ 20 → ¬ mX2_lowestFreeNumber_L2 σ n u = -5 → ((21 : Int) - u.toInt).toNat < n → vp_in (mX2_lowestFreeNumber_L2 σ n u) 20 := by
  intro n
  induction n with
  | zero => intro u _ _ _ h; exact absurd h (Nat.not_lt_zero _)
  | succ n ih =>
    intro u h0 h1 h2 h3
    rw [mX2_lowestFreeNumber_L2] at h2 ⊢
    split at h2
    · exact absurd rfl h2
    · rename_i c
      rw [if_neg c]
      have e8 := nle_ti (k := 20) rfl c
      split at h2
      · rename_i c2
        rw [if_pos c2]
        exact in_iff.mpr ⟨h0, e8⟩
      · rename_i c2
        rw [if_neg c2]
        have e9 := up_add (d := 1) (k := 1) (M := 20) rfl h0 h1 (by decide) (by decide)
        exact ih _ (by rw [e9]; omega) (by rw [e9]; omega) h2 (by rw [e9]; omega)
theorem in_X2_lowest {σ : YS} (c : ¬ mX2_lowestFreeNumber σ = -5) : vp_in (mX2_lowestFreeNumber σ) 20 := in_X2_lowest_L σ _ 0 (by decide) (by decide) c (by decide)
set_option maxHeartbeats 4000000 in
set_option maxRecDepth 100000 in
theorem k_X2_lowestFreeNumber (l : Launch) (g : WG) (ad : AY) (σ : YS) : Rd l yX2_lowestFreeNumber cX2_lowestFreeNumber 2 (some .int) 2 (Wl g (cY g ad σ) (fun _ => False)) [.ref ad.1] (mX2_lowestFreeNumber σ) := by
  refine rd_of (by decide) (Nat.le_of_ble_eq_true rfl) ?_
  intro p e s m args below meth c ls hC hW hl
  obtain ⟨hP, hK, hE⟩ := hW
  obtain ⟨hx, hb, hml, hr, hown, hts, hlk, hnm⟩ := id hC
  have hl : lv_has ls 2 [(0, .ref ad.1)] := hl
  refine lv_iconst (v := 0) hx hb dX2_lowestFreeNumber_0 (by decide) ?_
  refine lv_istore_n (lv' := [(1, .int 0), (0, .ref ad.1)]) hx hb dX2_lowestFreeNumber_1 rfl hl (by decide) rfl (fun ls hl => ?_)
  refine q_X2_lowestFreeNumber_2 l g ad σ hC hP hK hE 22 0 (by decide) (by decide) (by decide) ?_ _ (lv_sub hl [0, 1] rfl)
  exact by unfold mX2_lowestFreeNumber; rfl
def mX2_noteAfloat (σ : YS) (x1 : Int32) : YS := (mX2_note (mX2_note (mX2_note (mX2_note σ x1 4 (-5)) x1 5 (-5)) x1 6 (-5)) x1 9 0)
set_option maxHeartbeats 4000000 in
set_option maxRecDepth 100000 in
theorem k_X2_noteAfloat (l : Launch) (g : WG) (ad : AY) (σ : YS) (x1 : Int32) (h_1 : vp_in x1 20) : Wv l yX2_noteAfloat cX2_noteAfloat 2 1 g (cY g ad σ) (cY g ad (mX2_noteAfloat σ x1)) [.ref ad.1, .int x1] := by
  refine wv_of (by decide) (Nat.le_of_ble_eq_true rfl) ?_
  intro p e s m args below meth c ls A hC hAe hP hD hK hE hA hS hl
  obtain ⟨hx, hb, hml, hr, hown, hts, hlk, hnm⟩ := id hC
  have hl : lv_has ls 2 [(0, .ref ad.1), (1, .int x1)] := hl
  refine lv_aload_n hx hb dX2_noteAfloat_0 rfl (lv_at hl 0 rfl) ?_
  refine lv_iload_n hx hb dX2_noteAfloat_1 rfl (lv_at hl 1 rfl) ?_
  refine lv_iconst (v := 4) hx hb dX2_noteAfloat_2 (by decide) ?_
  refine lv_bipush (v := (-5)) hx hb dX2_noteAfloat_3 (by decide) ?_
  refine callWv hC (k_X2_note l g ad σ x1 4 (-5) h_1 (in_iff.mpr (by decide))) ci_X2_note lk_X2_55 ⟨Nat.le_of_ble_eq_true rfl, Nat.le_of_ble_eq_true rfl⟩ hP hD hK hE hS hA (q0 := 0) rfl rfl rfl rfl hl.1 rfl (Nat.le_of_ble_eq_true rfl) dX2_noteAfloat_5 ⟨Nat.zero_le _, Nat.zero_le _⟩ (fun H locs hP _ hD hS _ _ => ?_)
  refine lv_aload_n hx hb dX2_noteAfloat_8 rfl (lv_at hl 0 rfl) ?_
  refine lv_iload_n hx hb dX2_noteAfloat_9 rfl (lv_at hl 1 rfl) ?_
  refine lv_iconst (v := 5) hx hb dX2_noteAfloat_10 (by decide) ?_
  refine lv_bipush (v := (-5)) hx hb dX2_noteAfloat_11 (by decide) ?_
  refine callWv hC (k_X2_note l g ad (mX2_note σ x1 4 (-5)) x1 5 (-5) h_1 (in_iff.mpr (by decide))) ci_X2_note lk_X2_55 ⟨Nat.le_of_ble_eq_true rfl, Nat.le_of_ble_eq_true rfl⟩ hP hD hK hE hS hA (q0 := 0) rfl rfl rfl rfl hl.1 rfl (Nat.le_of_ble_eq_true rfl) dX2_noteAfloat_13 ⟨Nat.zero_le _, Nat.zero_le _⟩ (fun H locs hP _ hD hS _ _ => ?_)
  refine lv_aload_n hx hb dX2_noteAfloat_16 rfl (lv_at hl 0 rfl) ?_
  refine lv_iload_n hx hb dX2_noteAfloat_17 rfl (lv_at hl 1 rfl) ?_
  refine lv_bipush (v := 6) hx hb dX2_noteAfloat_18 (by decide) ?_
  refine lv_bipush (v := (-5)) hx hb dX2_noteAfloat_20 (by decide) ?_
  refine callWv hC (k_X2_note l g ad (mX2_note (mX2_note σ x1 4 (-5)) x1 5 (-5)) x1 6 (-5) h_1 (in_iff.mpr (by decide))) ci_X2_note lk_X2_55 ⟨Nat.le_of_ble_eq_true rfl, Nat.le_of_ble_eq_true rfl⟩ hP hD hK hE hS hA (q0 := 0) rfl rfl rfl rfl hl.1 rfl (Nat.le_of_ble_eq_true rfl) dX2_noteAfloat_22 ⟨Nat.zero_le _, Nat.zero_le _⟩ (fun H locs hP _ hD hS _ _ => ?_)
  refine lv_aload_n hx hb dX2_noteAfloat_25 rfl (lv_at hl 0 rfl) ?_
  refine lv_iload_n hx hb dX2_noteAfloat_26 rfl (lv_at hl 1 rfl) ?_
  refine lv_bipush (v := 9) hx hb dX2_noteAfloat_27 (by decide) ?_
  refine lv_iconst (v := 0) hx hb dX2_noteAfloat_29 (by decide) ?_
  refine callWv hC (k_X2_note l g ad (mX2_note (mX2_note (mX2_note σ x1 4 (-5)) x1 5 (-5)) x1 6 (-5)) x1 9 0 h_1 (in_iff.mpr (by decide))) ci_X2_note lk_X2_55 ⟨Nat.le_of_ble_eq_true rfl, Nat.le_of_ble_eq_true rfl⟩ hP hD hK hE hS hA (q0 := 0) rfl rfl rfl rfl hl.1 rfl (Nat.le_of_ble_eq_true rfl) dX2_noteAfloat_30 ⟨Nat.zero_le _, Nat.zero_le _⟩ (fun H locs hP _ hD hS _ _ => ?_)
  have hm : mX2_noteAfloat σ x1 = (mX2_note (mX2_note (mX2_note (mX2_note σ x1 4 (-5)) x1 5 (-5)) x1 6 (-5)) x1 9 0) := by unfold mX2_noteAfloat; rfl
  exact wv_ret hC hP (hAe ▸ hD) (hAe ▸ hS) dX2_noteAfloat_33 (by rw [hm])
def mX2_addBoat (σ : YS) (x1 : Int32) (x2 : Int32) (x3 : Int32) (x4 : Int32) : Int32 × YS := (if (mX2_isKind x4) = 0 then ((-1), σ) else (if (mX3_within x1 3 20) = 0 then ((-2), σ) else (if (mX3_within x2 5 40) = 0 then ((-2), σ) else (if (mX3_within x3 1 30) = 0 then ((-2), σ) else (if (mX2_lowestFreeNumber σ) = (-5) then ((-3), σ) else ((mX2_lowestFreeNumber σ), (mX2_noteAfloat (mX2_note (mX2_note (mX2_note (mX2_note (mX2_note (mX2_note (mX2_note σ (mX2_lowestFreeNumber σ) 0 x1) (mX2_lowestFreeNumber σ) 1 x2) (mX2_lowestFreeNumber σ) 2 x3) (mX2_lowestFreeNumber σ) 3 x4) (mX2_lowestFreeNumber σ) 7 (-5)) (mX2_lowestFreeNumber σ) 8 0) (mX2_lowestFreeNumber σ) 10 0) (mX2_lowestFreeNumber σ))))))))
set_option maxHeartbeats 4000000 in
set_option maxRecDepth 100000 in
theorem k_X2_addBoat (l : Launch) (g : WG) (ad : AY) (σ : YS) (x1 : Int32) (x2 : Int32) (x3 : Int32) (x4 : Int32) : Wr l yX2_addBoat cX2_addBoat 6 (some .int) 3 g (cY g ad σ) (cY g ad (mX2_addBoat σ x1 x2 x3 x4).2) [.ref ad.1, .int x1, .int x2, .int x3, .int x4] (mX2_addBoat σ x1 x2 x3 x4).1 := by
  refine wr_of (by decide) (Nat.le_of_ble_eq_true rfl) ?_
  intro p e s m args below meth c ls A hC hAe hP hD hK hE hA hS hl
  obtain ⟨hx, hb, hml, hr, hown, hts, hlk, hnm⟩ := id hC
  have hl : lv_has ls 6 [(0, .ref ad.1), (1, .int x1), (2, .int x2), (3, .int x3), (4, .int x4)] := hl
  refine lv_iload hx hb dX2_addBoat_0 (lv_at hl 4 rfl) ?_
  refine callRs hC (k_X2_isKind l g x4) ci_X2_isKind lk_X2_59 ⟨Nat.le_of_ble_eq_true rfl, Nat.le_of_ble_eq_true rfl⟩ hK (hE.S hS).none rfl hl.1 rfl (Nat.le_of_ble_eq_true rfl) dX2_addBoat_2 ⟨Nat.zero_le _, Nat.zero_le _⟩ ?_
  refine lv_if_ne (tgt := 10) hx hb dX2_addBoat_5 (by decide) (fun c_1 => ?_) (fun c_1 => ?_)
  · refine lv_iload_n hx hb dX2_addBoat_10 rfl (lv_at hl 1 rfl) ?_
    refine lv_iconst (v := 3) hx hb dX2_addBoat_11 (by decide) ?_
    refine lv_bipush (v := 20) hx hb dX2_addBoat_12 (by decide) ?_
    refine callRn hC (k_X3_within l g x1 3 20) ci_X3_within hE.2.1 ⟨Nat.le_of_ble_eq_true rfl, Nat.le_of_ble_eq_true rfl⟩ hK (hE.S hS).none rfl hl.1 rfl (Nat.le_of_ble_eq_true rfl) dX2_addBoat_14 ⟨Nat.zero_le _, Nat.zero_le _⟩ ?_
    refine lv_if_eq (tgt := 40) hx hb dX2_addBoat_17 (by decide) (fun c_2 => ?_) (fun c_2 => ?_)
    · refine lv_bipush (v := (-2)) hx hb dX2_addBoat_40 (by decide) ?_
      have hm : mX2_addBoat σ x1 x2 x3 x4 = ((-2), σ) := by unfold mX2_addBoat; rw [if_neg c_1, if_pos c_2]
      exact wr_ret hC hP (hAe ▸ hD) (hAe ▸ hS) dX2_addBoat_42 (by rw [hm]) (by rw [hm])
    · refine lv_iload_n hx hb dX2_addBoat_20 rfl (lv_at hl 2 rfl) ?_
      refine lv_iconst (v := 5) hx hb dX2_addBoat_21 (by decide) ?_
      refine lv_bipush (v := 40) hx hb dX2_addBoat_22 (by decide) ?_
      refine callRn hC (k_X3_within l g x2 5 40) ci_X3_within hE.2.1 ⟨Nat.le_of_ble_eq_true rfl, Nat.le_of_ble_eq_true rfl⟩ hK (hE.S hS).none rfl hl.1 rfl (Nat.le_of_ble_eq_true rfl) dX2_addBoat_24 ⟨Nat.zero_le _, Nat.zero_le _⟩ ?_
      refine lv_if_eq (tgt := 40) hx hb dX2_addBoat_27 (by decide) (fun c_3 => ?_) (fun c_3 => ?_)
      · refine lv_bipush (v := (-2)) hx hb dX2_addBoat_40 (by decide) ?_
        have hm : mX2_addBoat σ x1 x2 x3 x4 = ((-2), σ) := by unfold mX2_addBoat; rw [if_neg c_1, if_neg c_2, if_pos c_3]
        exact wr_ret hC hP (hAe ▸ hD) (hAe ▸ hS) dX2_addBoat_42 (by rw [hm]) (by rw [hm])
      · refine lv_iload_n hx hb dX2_addBoat_30 rfl (lv_at hl 3 rfl) ?_
        refine lv_iconst (v := 1) hx hb dX2_addBoat_31 (by decide) ?_
        refine lv_bipush (v := 30) hx hb dX2_addBoat_32 (by decide) ?_
        refine callRn hC (k_X3_within l g x3 1 30) ci_X3_within hE.2.1 ⟨Nat.le_of_ble_eq_true rfl, Nat.le_of_ble_eq_true rfl⟩ hK (hE.S hS).none rfl hl.1 rfl (Nat.le_of_ble_eq_true rfl) dX2_addBoat_34 ⟨Nat.zero_le _, Nat.zero_le _⟩ ?_
        refine lv_if_ne (tgt := 43) hx hb dX2_addBoat_37 (by decide) (fun c_4 => ?_) (fun c_4 => ?_)
        · refine lv_aload_n hx hb dX2_addBoat_43 rfl (lv_at hl 0 rfl) ?_
          refine callRd hC (k_X2_lowestFreeNumber l g ad σ) ci_X2_lowestFreeNumber lk_X2_63 ⟨Nat.le_of_ble_eq_true rfl, Nat.le_of_ble_eq_true rfl⟩ hP hK (hE.S hS).none (q0 := 0) rfl rfl rfl rfl hl.1 rfl (Nat.le_of_ble_eq_true rfl) dX2_addBoat_44 ⟨Nat.zero_le _, Nat.zero_le _⟩ ?_
          refine lv_istore (lv' := [(5, .int (mX2_lowestFreeNumber σ)), (0, .ref ad.1), (1, .int x1), (2, .int x2), (3, .int x3), (4, .int x4)]) hx hb dX2_addBoat_47 hl (by decide) rfl (fun ls hl => ?_)
          refine lv_iload hx hb dX2_addBoat_49 (lv_at hl 0 rfl) ?_
          refine lv_bipush (v := (-5)) hx hb dX2_addBoat_51 (by decide) ?_
          refine lv_icmp_ne (tgt := 59) hx hb dX2_addBoat_53 (by decide) (fun c_5 => ?_) (fun c_5 => ?_)
          · refine lv_aload_n hx hb dX2_addBoat_59 rfl (lv_at hl 1 rfl) ?_
            refine lv_iload hx hb dX2_addBoat_60 (lv_at hl 0 rfl) ?_
            refine lv_iconst (v := 0) hx hb dX2_addBoat_62 (by decide) ?_
            refine lv_iload_n hx hb dX2_addBoat_63 rfl (lv_at hl 2 rfl) ?_
            refine callWv hC (k_X2_note l g ad σ (mX2_lowestFreeNumber σ) 0 x1 (in_X2_lowest c_5) (in_iff.mpr (by decide))) ci_X2_note lk_X2_55 ⟨Nat.le_of_ble_eq_true rfl, Nat.le_of_ble_eq_true rfl⟩ hP hD hK hE hS hA (q0 := 0) rfl rfl rfl rfl hl.1 rfl (Nat.le_of_ble_eq_true rfl) dX2_addBoat_64 ⟨Nat.zero_le _, Nat.zero_le _⟩ (fun H locs hP _ hD hS _ _ => ?_)
            refine lv_aload_n hx hb dX2_addBoat_67 rfl (lv_at hl 1 rfl) ?_
            refine lv_iload hx hb dX2_addBoat_68 (lv_at hl 0 rfl) ?_
            refine lv_iconst (v := 1) hx hb dX2_addBoat_70 (by decide) ?_
            refine lv_iload_n hx hb dX2_addBoat_71 rfl (lv_at hl 3 rfl) ?_
            refine callWv hC (k_X2_note l g ad (mX2_note σ (mX2_lowestFreeNumber σ) 0 x1) (mX2_lowestFreeNumber σ) 1 x2 (in_X2_lowest c_5) (in_iff.mpr (by decide))) ci_X2_note lk_X2_55 ⟨Nat.le_of_ble_eq_true rfl, Nat.le_of_ble_eq_true rfl⟩ hP hD hK hE hS hA (q0 := 0) rfl rfl rfl rfl hl.1 rfl (Nat.le_of_ble_eq_true rfl) dX2_addBoat_72 ⟨Nat.zero_le _, Nat.zero_le _⟩ (fun H locs hP _ hD hS _ _ => ?_)
            refine lv_aload_n hx hb dX2_addBoat_75 rfl (lv_at hl 1 rfl) ?_
            refine lv_iload hx hb dX2_addBoat_76 (lv_at hl 0 rfl) ?_
            refine lv_iconst (v := 2) hx hb dX2_addBoat_78 (by decide) ?_
            refine lv_iload_n hx hb dX2_addBoat_79 rfl (lv_at hl 4 rfl) ?_
            refine callWv hC (k_X2_note l g ad (mX2_note (mX2_note σ (mX2_lowestFreeNumber σ) 0 x1) (mX2_lowestFreeNumber σ) 1 x2) (mX2_lowestFreeNumber σ) 2 x3 (in_X2_lowest c_5) (in_iff.mpr (by decide))) ci_X2_note lk_X2_55 ⟨Nat.le_of_ble_eq_true rfl, Nat.le_of_ble_eq_true rfl⟩ hP hD hK hE hS hA (q0 := 0) rfl rfl rfl rfl hl.1 rfl (Nat.le_of_ble_eq_true rfl) dX2_addBoat_80 ⟨Nat.zero_le _, Nat.zero_le _⟩ (fun H locs hP _ hD hS _ _ => ?_)
            refine lv_aload_n hx hb dX2_addBoat_83 rfl (lv_at hl 1 rfl) ?_
            refine lv_iload hx hb dX2_addBoat_84 (lv_at hl 0 rfl) ?_
            refine lv_iconst (v := 3) hx hb dX2_addBoat_86 (by decide) ?_
            refine lv_iload hx hb dX2_addBoat_87 (lv_at hl 5 rfl) ?_
            refine callWv hC (k_X2_note l g ad (mX2_note (mX2_note (mX2_note σ (mX2_lowestFreeNumber σ) 0 x1) (mX2_lowestFreeNumber σ) 1 x2) (mX2_lowestFreeNumber σ) 2 x3) (mX2_lowestFreeNumber σ) 3 x4 (in_X2_lowest c_5) (in_iff.mpr (by decide))) ci_X2_note lk_X2_55 ⟨Nat.le_of_ble_eq_true rfl, Nat.le_of_ble_eq_true rfl⟩ hP hD hK hE hS hA (q0 := 0) rfl rfl rfl rfl hl.1 rfl (Nat.le_of_ble_eq_true rfl) dX2_addBoat_89 ⟨Nat.zero_le _, Nat.zero_le _⟩ (fun H locs hP _ hD hS _ _ => ?_)
            refine lv_aload_n hx hb dX2_addBoat_92 rfl (lv_at hl 1 rfl) ?_
            refine lv_iload hx hb dX2_addBoat_93 (lv_at hl 0 rfl) ?_
            refine lv_bipush (v := 7) hx hb dX2_addBoat_95 (by decide) ?_
            refine lv_bipush (v := (-5)) hx hb dX2_addBoat_97 (by decide) ?_
            refine callWv hC (k_X2_note l g ad (mX2_note (mX2_note (mX2_note (mX2_note σ (mX2_lowestFreeNumber σ) 0 x1) (mX2_lowestFreeNumber σ) 1 x2) (mX2_lowestFreeNumber σ) 2 x3) (mX2_lowestFreeNumber σ) 3 x4) (mX2_lowestFreeNumber σ) 7 (-5) (in_X2_lowest c_5) (in_iff.mpr (by decide))) ci_X2_note lk_X2_55 ⟨Nat.le_of_ble_eq_true rfl, Nat.le_of_ble_eq_true rfl⟩ hP hD hK hE hS hA (q0 := 0) rfl rfl rfl rfl hl.1 rfl (Nat.le_of_ble_eq_true rfl) dX2_addBoat_99 ⟨Nat.zero_le _, Nat.zero_le _⟩ (fun H locs hP _ hD hS _ _ => ?_)
            refine lv_aload_n hx hb dX2_addBoat_102 rfl (lv_at hl 1 rfl) ?_
            refine lv_iload hx hb dX2_addBoat_103 (lv_at hl 0 rfl) ?_
            refine lv_bipush (v := 8) hx hb dX2_addBoat_105 (by decide) ?_
            refine lv_iconst (v := 0) hx hb dX2_addBoat_107 (by decide) ?_
            refine callWv hC (k_X2_note l g ad (mX2_note (mX2_note (mX2_note (mX2_note (mX2_note σ (mX2_lowestFreeNumber σ) 0 x1) (mX2_lowestFreeNumber σ) 1 x2) (mX2_lowestFreeNumber σ) 2 x3) (mX2_lowestFreeNumber σ) 3 x4) (mX2_lowestFreeNumber σ) 7 (-5)) (mX2_lowestFreeNumber σ) 8 0 (in_X2_lowest c_5) (in_iff.mpr (by decide))) ci_X2_note lk_X2_55 ⟨Nat.le_of_ble_eq_true rfl, Nat.le_of_ble_eq_true rfl⟩ hP hD hK hE hS hA (q0 := 0) rfl rfl rfl rfl hl.1 rfl (Nat.le_of_ble_eq_true rfl) dX2_addBoat_108 ⟨Nat.zero_le _, Nat.zero_le _⟩ (fun H locs hP _ hD hS _ _ => ?_)
            refine lv_aload_n hx hb dX2_addBoat_111 rfl (lv_at hl 1 rfl) ?_
            refine lv_iload hx hb dX2_addBoat_112 (lv_at hl 0 rfl) ?_
            refine lv_bipush (v := 10) hx hb dX2_addBoat_114 (by decide) ?_
            refine lv_iconst (v := 0) hx hb dX2_addBoat_116 (by decide) ?_
            refine callWv hC (k_X2_note l g ad (mX2_note (mX2_note (mX2_note (mX2_note (mX2_note (mX2_note σ (mX2_lowestFreeNumber σ) 0 x1) (mX2_lowestFreeNumber σ) 1 x2) (mX2_lowestFreeNumber σ) 2 x3) (mX2_lowestFreeNumber σ) 3 x4) (mX2_lowestFreeNumber σ) 7 (-5)) (mX2_lowestFreeNumber σ) 8 0) (mX2_lowestFreeNumber σ) 10 0 (in_X2_lowest c_5) (in_iff.mpr (by decide))) ci_X2_note lk_X2_55 ⟨Nat.le_of_ble_eq_true rfl, Nat.le_of_ble_eq_true rfl⟩ hP hD hK hE hS hA (q0 := 0) rfl rfl rfl rfl hl.1 rfl (Nat.le_of_ble_eq_true rfl) dX2_addBoat_117 ⟨Nat.zero_le _, Nat.zero_le _⟩ (fun H locs hP _ hD hS _ _ => ?_)
            refine lv_aload_n hx hb dX2_addBoat_120 rfl (lv_at hl 1 rfl) ?_
            refine lv_iload hx hb dX2_addBoat_121 (lv_at hl 0 rfl) ?_
            refine callWv hC (k_X2_noteAfloat l g ad (mX2_note (mX2_note (mX2_note (mX2_note (mX2_note (mX2_note (mX2_note σ (mX2_lowestFreeNumber σ) 0 x1) (mX2_lowestFreeNumber σ) 1 x2) (mX2_lowestFreeNumber σ) 2 x3) (mX2_lowestFreeNumber σ) 3 x4) (mX2_lowestFreeNumber σ) 7 (-5)) (mX2_lowestFreeNumber σ) 8 0) (mX2_lowestFreeNumber σ) 10 0) (mX2_lowestFreeNumber σ) (in_X2_lowest c_5)) ci_X2_noteAfloat lk_X2_67 ⟨Nat.le_of_ble_eq_true rfl, Nat.le_of_ble_eq_true rfl⟩ hP hD hK hE hS hA (q0 := 0) rfl rfl rfl rfl hl.1 rfl (Nat.le_of_ble_eq_true rfl) dX2_addBoat_123 ⟨Nat.zero_le _, Nat.zero_le _⟩ (fun H locs hP _ hD hS _ _ => ?_)
            refine lv_iload hx hb dX2_addBoat_126 (lv_at hl 0 rfl) ?_
            have hm : mX2_addBoat σ x1 x2 x3 x4 = ((mX2_lowestFreeNumber σ), (mX2_noteAfloat (mX2_note (mX2_note (mX2_note (mX2_note (mX2_note (mX2_note (mX2_note σ (mX2_lowestFreeNumber σ) 0 x1) (mX2_lowestFreeNumber σ) 1 x2) (mX2_lowestFreeNumber σ) 2 x3) (mX2_lowestFreeNumber σ) 3 x4) (mX2_lowestFreeNumber σ) 7 (-5)) (mX2_lowestFreeNumber σ) 8 0) (mX2_lowestFreeNumber σ) 10 0) (mX2_lowestFreeNumber σ))) := by unfold mX2_addBoat; rw [if_neg c_1, if_neg c_2, if_neg c_3, if_neg c_4, if_neg c_5]
            exact wr_ret hC hP (hAe ▸ hD) (hAe ▸ hS) dX2_addBoat_128 (by rw [hm]) (by rw [hm])
          · refine lv_bipush (v := (-3)) hx hb dX2_addBoat_56 (by decide) ?_
            have hm : mX2_addBoat σ x1 x2 x3 x4 = ((-3), σ) := by unfold mX2_addBoat; rw [if_neg c_1, if_neg c_2, if_neg c_3, if_neg c_4, if_pos c_5]
            exact wr_ret hC hP (hAe ▸ hD) (hAe ▸ hS) dX2_addBoat_58 (by rw [hm]) (by rw [hm])
        · refine lv_bipush (v := (-2)) hx hb dX2_addBoat_40 (by decide) ?_
          have hm : mX2_addBoat σ x1 x2 x3 x4 = ((-2), σ) := by unfold mX2_addBoat; rw [if_neg c_1, if_neg c_2, if_neg c_3, if_pos c_4]
          exact wr_ret hC hP (hAe ▸ hD) (hAe ▸ hS) dX2_addBoat_42 (by rw [hm]) (by rw [hm])
  · refine lv_iconst (v := (-1)) hx hb dX2_addBoat_8 (by decide) ?_
    have hm : mX2_addBoat σ x1 x2 x3 x4 = ((-1), σ) := by unfold mX2_addBoat; rw [if_pos c_1]
    exact wr_ret hC hP (hAe ▸ hD) (hAe ▸ hS) dX2_addBoat_9 (by rw [hm]) (by rw [hm])
def mX2_isAshore (σ : YS) (x1 : Int32) : Int32 := (if (mX2_fact σ x1 4) = (-5) then 0 else 1)
set_option maxHeartbeats 4000000 in
set_option maxRecDepth 100000 in
theorem k_X2_isAshore (l : Launch) (g : WG) (ad : AY) (σ : YS) (x1 : Int32) (h_1 : vp_in x1 20) : Rd l yX2_isAshore cX2_isAshore 2 (some .boolean) 1 (Wl g (cY g ad σ) (fun _ => False)) [.ref ad.1, .int x1] (mX2_isAshore σ x1) := by
  refine rd_of (by decide) (Nat.le_of_ble_eq_true rfl) ?_
  intro p e s m args below meth c ls hC hW hl
  obtain ⟨hP, hK, hE⟩ := hW
  obtain ⟨hx, hb, hml, hr, hown, hts, hlk, hnm⟩ := id hC
  have hl : lv_has ls 2 [(0, .ref ad.1), (1, .int x1)] := hl
  refine lv_aload_n hx hb dX2_isAshore_0 rfl (lv_at hl 0 rfl) ?_
  refine lv_iload_n hx hb dX2_isAshore_1 rfl (lv_at hl 1 rfl) ?_
  refine lv_iconst (v := 4) hx hb dX2_isAshore_2 (by decide) ?_
  refine callRd hC (k_X2_fact l g ad σ x1 4 h_1 (in_iff.mpr (by decide))) ci_X2_fact lk_X2_51 ⟨Nat.le_of_ble_eq_true rfl, Nat.le_of_ble_eq_true rfl⟩ hP hK hE (q0 := 0) rfl rfl rfl rfl hl.1 rfl (Nat.le_of_ble_eq_true rfl) dX2_isAshore_3 ⟨Nat.zero_le _, Nat.zero_le _⟩ ?_
  refine lv_bipush (v := (-5)) hx hb dX2_isAshore_6 (by decide) ?_
  refine lv_icmp_eq (tgt := 15) hx hb dX2_isAshore_8 (by decide) (fun c_1 => ?_) (fun c_1 => ?_)
  · refine lv_iconst (v := 0) hx hb dX2_isAshore_15 (by decide) ?_
    exact rd_zret hC dX2_isAshore_16 rfl (Eq.symm (by unfold mX2_isAshore; rw [if_pos c_1]))
  · refine lv_iconst (v := 1) hx hb dX2_isAshore_11 (by decide) ?_
    refine lv_goto (tgt := 16) hx hb dX2_isAshore_12 (by decide) ?_
    exact rd_zret hC dX2_isAshore_16 rfl (Eq.symm (by unfold mX2_isAshore; rw [if_neg c_1]))
def mX2_hasMast (σ : YS) (x1 : Int32) : Int32 := (if (mX2_fact σ x1 7) = (-5) then 1 else 0)
set_option maxHeartbeats 4000000 in
set_option maxRecDepth 100000 in
theorem k_X2_hasMast (l : Launch) (g : WG) (ad : AY) (σ : YS) (x1 : Int32) (h_1 : vp_in x1 20) : Rd l yX2_hasMast cX2_hasMast 2 (some .boolean) 1 (Wl g (cY g ad σ) (fun _ => False)) [.ref ad.1, .int x1] (mX2_hasMast σ x1) := by
  refine rd_of (by decide) (Nat.le_of_ble_eq_true rfl) ?_
  intro p e s m args below meth c ls hC hW hl
  obtain ⟨hP, hK, hE⟩ := hW
  obtain ⟨hx, hb, hml, hr, hown, hts, hlk, hnm⟩ := id hC
  have hl : lv_has ls 2 [(0, .ref ad.1), (1, .int x1)] := hl
  refine lv_aload_n hx hb dX2_hasMast_0 rfl (lv_at hl 0 rfl) ?_
  refine lv_iload_n hx hb dX2_hasMast_1 rfl (lv_at hl 1 rfl) ?_
  refine lv_bipush (v := 7) hx hb dX2_hasMast_2 (by decide) ?_
  refine callRd hC (k_X2_fact l g ad σ x1 7 h_1 (in_iff.mpr (by decide))) ci_X2_fact lk_X2_51 ⟨Nat.le_of_ble_eq_true rfl, Nat.le_of_ble_eq_true rfl⟩ hP hK hE (q0 := 0) rfl rfl rfl rfl hl.1 rfl (Nat.le_of_ble_eq_true rfl) dX2_hasMast_4 ⟨Nat.zero_le _, Nat.zero_le _⟩ ?_
  refine lv_bipush (v := (-5)) hx hb dX2_hasMast_7 (by decide) ?_
  refine lv_icmp_ne (tgt := 16) hx hb dX2_hasMast_9 (by decide) (fun c_1 => ?_) (fun c_1 => ?_)
  · refine lv_iconst (v := 0) hx hb dX2_hasMast_16 (by decide) ?_
    exact rd_zret hC dX2_hasMast_17 rfl (Eq.symm (by unfold mX2_hasMast; rw [if_neg c_1]))
  · refine lv_iconst (v := 1) hx hb dX2_hasMast_12 (by decide) ?_
    refine lv_goto (tgt := 17) hx hb dX2_hasMast_13 (by decide) ?_
    exact rd_zret hC dX2_hasMast_17 rfl (Eq.symm (by unfold mX2_hasMast; rw [if_pos c_1]))
def mX2_boats (σ : YS) : Int32 := (20 - (mX2_boatsWith σ 0 (-5)))
set_option maxHeartbeats 4000000 in
set_option maxRecDepth 100000 in
theorem k_X2_boats (l : Launch) (g : WG) (ad : AY) (σ : YS) : Rd l yX2_boats cX2_boats 1 (some .int) 1 (Wl g (cY g ad σ) (fun _ => False)) [.ref ad.1] (mX2_boats σ) := by
  refine rd_of (by decide) (Nat.le_of_ble_eq_true rfl) ?_
  intro p e s m args below meth c ls hC hW hl
  obtain ⟨hP, hK, hE⟩ := hW
  obtain ⟨hx, hb, hml, hr, hown, hts, hlk, hnm⟩ := id hC
  have hl : lv_has ls 1 [(0, .ref ad.1)] := hl
  refine lv_bipush (v := 20) hx hb dX2_boats_0 (by decide) ?_
  refine lv_aload_n hx hb dX2_boats_2 rfl (lv_at hl 0 rfl) ?_
  refine lv_iconst (v := 0) hx hb dX2_boats_3 (by decide) ?_
  refine lv_bipush (v := (-5)) hx hb dX2_boats_4 (by decide) ?_
  refine callRd hC (k_X2_boatsWith l g ad σ 0 (-5) (in_iff.mpr (by decide))) ci_X2_boatsWith lk_X2_82 ⟨Nat.le_of_ble_eq_true rfl, Nat.le_of_ble_eq_true rfl⟩ hP hK hE (q0 := 0) rfl rfl rfl rfl hl.1 rfl (Nat.le_of_ble_eq_true rfl) dX2_boats_6 ⟨Nat.zero_le _, Nat.zero_le _⟩ ?_
  refine lv_isub hx hb dX2_boats_9 ?_
  exact rd_ret hC dX2_boats_10 (Eq.symm (by unfold mX2_boats; rfl))
def mX2_removeBoat (σ : YS) (x1 : Int32) : Int32 × YS := (if (mX2_knows σ x1) = 0 then ((-1), σ) else (if (mX2_isAshore σ x1) = 0 then (if (mX2_hasMast σ x1) = 0 then ((-4), σ) else ((mX2_boats (mX2_forget σ x1)), (mX2_forget σ x1))) else ((-4), σ)))
set_option maxHeartbeats 4000000 in
set_option maxRecDepth 100000 in
theorem k_X2_removeBoat (l : Launch) (g : WG) (ad : AY) (σ : YS) (x1 : Int32) : Wr l yX2_removeBoat cX2_removeBoat 2 (some .int) 2 g (cY g ad σ) (cY g ad (mX2_removeBoat σ x1).2) [.ref ad.1, .int x1] (mX2_removeBoat σ x1).1 := by
  refine wr_of (by decide) (Nat.le_of_ble_eq_true rfl) ?_
  intro p e s m args below meth c ls A hC hAe hP hD hK hE hA hS hl
  obtain ⟨hx, hb, hml, hr, hown, hts, hlk, hnm⟩ := id hC
  have hl : lv_has ls 2 [(0, .ref ad.1), (1, .int x1)] := hl
  refine lv_aload_n hx hb dX2_removeBoat_0 rfl (lv_at hl 0 rfl) ?_
  refine lv_iload_n hx hb dX2_removeBoat_1 rfl (lv_at hl 1 rfl) ?_
  refine callRd hC (k_X2_knows l g ad σ x1) ci_X2_knows lk_X2_70 ⟨Nat.le_of_ble_eq_true rfl, Nat.le_of_ble_eq_true rfl⟩ hP hK (hE.S hS).none (q0 := 0) rfl rfl rfl rfl hl.1 rfl (Nat.le_of_ble_eq_true rfl) dX2_removeBoat_2 ⟨Nat.zero_le _, Nat.zero_le _⟩ ?_
  refine lv_if_ne (tgt := 10) hx hb dX2_removeBoat_5 (by decide) (fun c_1 => ?_) (fun c_1 => ?_)
  · refine lv_aload_n hx hb dX2_removeBoat_10 rfl (lv_at hl 0 rfl) ?_
    refine lv_iload_n hx hb dX2_removeBoat_11 rfl (lv_at hl 1 rfl) ?_
    refine callRd hC (k_X2_isAshore l g ad σ x1 (in_X2_knows c_1)) ci_X2_isAshore lk_X2_73 ⟨Nat.le_of_ble_eq_true rfl, Nat.le_of_ble_eq_true rfl⟩ hP hK (hE.S hS).none (q0 := 0) rfl rfl rfl rfl hl.1 rfl (Nat.le_of_ble_eq_true rfl) dX2_removeBoat_12 ⟨Nat.zero_le _, Nat.zero_le _⟩ ?_
    refine lv_if_ne (tgt := 26) hx hb dX2_removeBoat_15 (by decide) (fun c_2 => ?_) (fun c_2 => ?_)
    · refine lv_bipush (v := (-4)) hx hb dX2_removeBoat_26 (by decide) ?_
      have hm : mX2_removeBoat σ x1 = ((-4), σ) := by unfold mX2_removeBoat; rw [if_neg c_1, if_neg c_2]
      exact wr_ret hC hP (hAe ▸ hD) (hAe ▸ hS) dX2_removeBoat_28 (by rw [hm]) (by rw [hm])
    · refine lv_aload_n hx hb dX2_removeBoat_18 rfl (lv_at hl 0 rfl) ?_
      refine lv_iload_n hx hb dX2_removeBoat_19 rfl (lv_at hl 1 rfl) ?_
      refine callRd hC (k_X2_hasMast l g ad σ x1 (in_X2_knows c_1)) ci_X2_hasMast lk_X2_76 ⟨Nat.le_of_ble_eq_true rfl, Nat.le_of_ble_eq_true rfl⟩ hP hK (hE.S hS).none (q0 := 0) rfl rfl rfl rfl hl.1 rfl (Nat.le_of_ble_eq_true rfl) dX2_removeBoat_20 ⟨Nat.zero_le _, Nat.zero_le _⟩ ?_
      refine lv_if_ne (tgt := 29) hx hb dX2_removeBoat_23 (by decide) (fun c_3 => ?_) (fun c_3 => ?_)
      · refine lv_aload_n hx hb dX2_removeBoat_29 rfl (lv_at hl 0 rfl) ?_
        refine lv_iload_n hx hb dX2_removeBoat_30 rfl (lv_at hl 1 rfl) ?_
        refine callWv hC (k_X2_forget l g ad σ x1 (in_X2_knows c_1)) ci_X2_forget lk_X2_37 ⟨Nat.le_of_ble_eq_true rfl, Nat.le_of_ble_eq_true rfl⟩ hP hD hK hE hS hA (q0 := 0) rfl rfl rfl rfl hl.1 rfl (Nat.le_of_ble_eq_true rfl) dX2_removeBoat_31 ⟨Nat.zero_le _, Nat.zero_le _⟩ (fun H locs hP _ hD hS _ _ => ?_)
        refine lv_aload_n hx hb dX2_removeBoat_34 rfl (lv_at hl 0 rfl) ?_
        refine callRd hC (k_X2_boats l g ad (mX2_forget σ x1)) ci_X2_boats lk_X2_79 ⟨Nat.le_of_ble_eq_true rfl, Nat.le_of_ble_eq_true rfl⟩ hP hK (hE.S hS).none (q0 := 0) rfl rfl rfl rfl hl.1 rfl (Nat.le_of_ble_eq_true rfl) dX2_removeBoat_35 ⟨Nat.zero_le _, Nat.zero_le _⟩ ?_
        have hm : mX2_removeBoat σ x1 = ((mX2_boats (mX2_forget σ x1)), (mX2_forget σ x1)) := by unfold mX2_removeBoat; rw [if_neg c_1, if_pos c_2, if_neg c_3]
        exact wr_ret hC hP (hAe ▸ hD) (hAe ▸ hS) dX2_removeBoat_38 (by rw [hm]) (by rw [hm])
      · refine lv_bipush (v := (-4)) hx hb dX2_removeBoat_26 (by decide) ?_
        have hm : mX2_removeBoat σ x1 = ((-4), σ) := by unfold mX2_removeBoat; rw [if_neg c_1, if_pos c_2, if_pos c_3]
        exact wr_ret hC hP (hAe ▸ hD) (hAe ▸ hS) dX2_removeBoat_28 (by rw [hm]) (by rw [hm])
  · refine lv_iconst (v := (-1)) hx hb dX2_removeBoat_8 (by decide) ?_
    have hm : mX2_removeBoat σ x1 = ((-1), σ) := by unfold mX2_removeBoat; rw [if_pos c_1]
    exact wr_ret hC hP (hAe ▸ hD) (hAe ▸ hS) dX2_removeBoat_9 (by rw [hm]) (by rw [hm])
def mX2_boatsAshore (σ : YS) : Int32 := (20 - (mX2_boatsWith σ 4 (-5)))
set_option maxHeartbeats 4000000 in
set_option maxRecDepth 100000 in
theorem k_X2_boatsAshore (l : Launch) (g : WG) (ad : AY) (σ : YS) : Rd l yX2_boatsAshore cX2_boatsAshore 1 (some .int) 1 (Wl g (cY g ad σ) (fun _ => False)) [.ref ad.1] (mX2_boatsAshore σ) := by
  refine rd_of (by decide) (Nat.le_of_ble_eq_true rfl) ?_
  intro p e s m args below meth c ls hC hW hl
  obtain ⟨hP, hK, hE⟩ := hW
  obtain ⟨hx, hb, hml, hr, hown, hts, hlk, hnm⟩ := id hC
  have hl : lv_has ls 1 [(0, .ref ad.1)] := hl
  refine lv_bipush (v := 20) hx hb dX2_boatsAshore_0 (by decide) ?_
  refine lv_aload_n hx hb dX2_boatsAshore_2 rfl (lv_at hl 0 rfl) ?_
  refine lv_iconst (v := 4) hx hb dX2_boatsAshore_3 (by decide) ?_
  refine lv_bipush (v := (-5)) hx hb dX2_boatsAshore_4 (by decide) ?_
  refine callRd hC (k_X2_boatsWith l g ad σ 4 (-5) (in_iff.mpr (by decide))) ci_X2_boatsWith lk_X2_82 ⟨Nat.le_of_ble_eq_true rfl, Nat.le_of_ble_eq_true rfl⟩ hP hK hE (q0 := 0) rfl rfl rfl rfl hl.1 rfl (Nat.le_of_ble_eq_true rfl) dX2_boatsAshore_6 ⟨Nat.zero_le _, Nat.zero_le _⟩ ?_
  refine lv_isub hx hb dX2_boatsAshore_9 ?_
  exact rd_ret hC dX2_boatsAshore_10 (Eq.symm (by unfold mX2_boatsAshore; rfl))
def mX2_cradlesOf (σ : YS) (x1 : Int32) : Int32 := ((Y_cradles σ) x1.toNatClampNeg)
set_option maxHeartbeats 4000000 in
set_option maxRecDepth 100000 in
theorem k_X2_cradlesOf (l : Launch) (g : WG) (ad : AY) (σ : YS) (x1 : Int32) (h_1 : vp_in x1 3) : Rd l yX2_cradlesOf cX2_cradlesOf 2 (some .int) 0 (Wl g (cY g ad σ) (fun _ => False)) [.ref ad.1, .int x1] (mX2_cradlesOf σ x1) := by
  refine rd_of (by decide) (Nat.le_of_ble_eq_true rfl) ?_
  intro p e s m args below meth c ls hC hW hl
  obtain ⟨hP, hK, hE⟩ := hW
  obtain ⟨hx, hb, hml, hr, hown, hts, hlk, hnm⟩ := id hC
  have hl : lv_has ls 2 [(0, .ref ad.1), (1, .int x1)] := hl
  refine lv_aload_n hx hb dX2_cradlesOf_0 rfl (lv_at hl 0 rfl) ?_
  refine gY_cradles hC rfl hK hP dX2_cradlesOf_1 ?_
  refine lv_iload_n hx hb dX2_cradlesOf_4 rfl (lv_at hl 1 rfl) ?_
  refine lY_cradles hC hK hP h_1 dX2_cradlesOf_5 ?_
  exact rd_ret hC dX2_cradlesOf_6 (Eq.symm (by unfold mX2_cradlesOf; rfl))
def mX2_cradlesTaken (σ : YS) (x1 : Int32) : Int32 := (mX2_boatsWith σ 6 x1)
set_option maxHeartbeats 4000000 in
set_option maxRecDepth 100000 in
theorem k_X2_cradlesTaken (l : Launch) (g : WG) (ad : AY) (σ : YS) (x1 : Int32) : Rd l yX2_cradlesTaken cX2_cradlesTaken 2 (some .int) 1 (Wl g (cY g ad σ) (fun _ => False)) [.ref ad.1, .int x1] (mX2_cradlesTaken σ x1) := by
  refine rd_of (by decide) (Nat.le_of_ble_eq_true rfl) ?_
  intro p e s m args below meth c ls hC hW hl
  obtain ⟨hP, hK, hE⟩ := hW
  obtain ⟨hx, hb, hml, hr, hown, hts, hlk, hnm⟩ := id hC
  have hl : lv_has ls 2 [(0, .ref ad.1), (1, .int x1)] := hl
  refine lv_aload_n hx hb dX2_cradlesTaken_0 rfl (lv_at hl 0 rfl) ?_
  refine lv_bipush (v := 6) hx hb dX2_cradlesTaken_1 (by decide) ?_
  refine lv_iload_n hx hb dX2_cradlesTaken_3 rfl (lv_at hl 1 rfl) ?_
  refine callRd hC (k_X2_boatsWith l g ad σ 6 x1 (in_iff.mpr (by decide))) ci_X2_boatsWith lk_X2_82 ⟨Nat.le_of_ble_eq_true rfl, Nat.le_of_ble_eq_true rfl⟩ hP hK hE (q0 := 0) rfl rfl rfl rfl hl.1 rfl (Nat.le_of_ble_eq_true rfl) dX2_cradlesTaken_4 ⟨Nat.zero_le _, Nat.zero_le _⟩ ?_
  exact rd_ret hC dX2_cradlesTaken_7 (Eq.symm (by unfold mX2_cradlesTaken; rfl))
def mX2_bears (x1 : Int32) : Int32 := (tvB x1.toNatClampNeg)
set_option maxHeartbeats 4000000 in
set_option maxRecDepth 100000 in
theorem k_X2_bears (l : Launch) (g : WG) (x1 : Int32) (h_1 : vp_in x1 3) : Rd l yX2_bears cX2_bears 1 (some .int) 0 (Wl g [] (fun _ => False)) [.int x1] (mX2_bears x1) := by
  refine rd_of (by decide) (Nat.le_of_ble_eq_true rfl) ?_
  intro p e s m args below meth c ls hC hW hl
  obtain ⟨hP, hK, hE⟩ := hW
  obtain ⟨hx, hb, hml, hr, hown, hts, hlk, hnm⟩ := id hC
  have hl : lv_has ls 1 [(0, .int x1)] := hl
  obtain ⟨t_1, hZt_1, hTt_1⟩ := hE.2.2.2.2
  refine va_gets hx hb hZt_1 va_S.rf hown (hts _ fl_X2_85) (fun _ h => h) dX2_bears_0 ?_
  refine lv_iload_n hx hb dX2_bears_3 rfl (lv_at hl 0 rfl) ?_
  refine va_ti (v := .int (tvB x1.toNatClampNeg)) hx hb hTt_1 va_S.rf h_1 rfl dX2_bears_4 ?_
  exact rd_ret hC dX2_bears_5 (Eq.symm (by unfold mX2_bears; rfl))
end
section
def mX2_changeCradles (σ : YS) (x1 : Int32) (x2 : Int32) : Int32 × YS := (if (mX2_isKind x1) = 0 then ((-1), σ) else (if (mX3_within x2 0 9) = 0 then ((-2), σ) else (if (mX2_cradlesTaken σ x1) ≤ x2 then (if ((Y_cradles σ) x1.toNatClampNeg) = x2 then ((-5), σ) else (((Y_cradles σ) x1.toNatClampNeg), (Y_set_cradles σ (upd (Y_cradles σ) x1.toNatClampNeg x2)))) else ((-4), σ))))
set_option maxHeartbeats 4000000 in
set_option maxRecDepth 100000 in
theorem k_X2_changeCradles (l : Launch) (g : WG) (ad : AY) (σ : YS) (x1 : Int32) (x2 : Int32) : Wr l yX2_changeCradles cX2_changeCradles 4 (some .int) 2 g (cY g ad σ) (cY g ad (mX2_changeCradles σ x1 x2).2) [.ref ad.1, .int x1, .int x2] (mX2_changeCradles σ x1 x2).1 := by
  refine wr_of (by decide) (Nat.le_of_ble_eq_true rfl) ?_
  intro p e s m args below meth c ls A hC hAe hP hD hK hE hA hS hl
  obtain ⟨hx, hb, hml, hr, hown, hts, hlk, hnm⟩ := id hC
  have hl : lv_has ls 4 [(0, .ref ad.1), (1, .int x1), (2, .int x2)] := hl
  refine lv_iload_n hx hb dX2_changeCradles_0 rfl (lv_at hl 1 rfl) ?_
  refine callRs hC (k_X2_isKind l g x1) ci_X2_isKind lk_X2_59 ⟨Nat.le_of_ble_eq_true rfl, Nat.le_of_ble_eq_true rfl⟩ hK (hE.S hS).none rfl hl.1 rfl (Nat.le_of_ble_eq_true rfl) dX2_changeCradles_1 ⟨Nat.zero_le _, Nat.zero_le _⟩ ?_
  refine lv_if_ne (tgt := 9) hx hb dX2_changeCradles_4 (by decide) (fun c_1 => ?_) (fun c_1 => ?_)
  · refine lv_iload_n hx hb dX2_changeCradles_9 rfl (lv_at hl 2 rfl) ?_
    refine lv_iconst (v := 0) hx hb dX2_changeCradles_10 (by decide) ?_
    refine lv_bipush (v := 9) hx hb dX2_changeCradles_11 (by decide) ?_
    refine callRn hC (k_X3_within l g x2 0 9) ci_X3_within hE.2.1 ⟨Nat.le_of_ble_eq_true rfl, Nat.le_of_ble_eq_true rfl⟩ hK (hE.S hS).none rfl hl.1 rfl (Nat.le_of_ble_eq_true rfl) dX2_changeCradles_13 ⟨Nat.zero_le _, Nat.zero_le _⟩ ?_
    refine lv_if_ne (tgt := 22) hx hb dX2_changeCradles_16 (by decide) (fun c_2 => ?_) (fun c_2 => ?_)
    · refine lv_aload_n hx hb dX2_changeCradles_22 rfl (lv_at hl 0 rfl) ?_
      refine lv_iload_n hx hb dX2_changeCradles_23 rfl (lv_at hl 1 rfl) ?_
      refine callRd hC (k_X2_cradlesTaken l g ad σ x1) ci_X2_cradlesTaken lk_X2_88 ⟨Nat.le_of_ble_eq_true rfl, Nat.le_of_ble_eq_true rfl⟩ hP hK (hE.S hS).none (q0 := 0) rfl rfl rfl rfl hl.1 rfl (Nat.le_of_ble_eq_true rfl) dX2_changeCradles_24 ⟨Nat.zero_le _, Nat.zero_le _⟩ ?_
      refine lv_iload_n hx hb dX2_changeCradles_27 rfl (lv_at hl 2 rfl) ?_
      refine lv_icmp_le (tgt := 34) hx hb dX2_changeCradles_28 (by decide) (fun c_3 => ?_) (fun c_3 => ?_)
      · refine lv_aload_n hx hb dX2_changeCradles_34 rfl (lv_at hl 0 rfl) ?_
        refine gY_cradles hC rfl hK hP dX2_changeCradles_35 ?_
        refine lv_iload_n hx hb dX2_changeCradles_38 rfl (lv_at hl 1 rfl) ?_
        refine lY_cradles hC hK hP (in_X2_isKind c_1) dX2_changeCradles_39 ?_
        refine lv_istore_n (lv' := [(3, .int ((Y_cradles σ) x1.toNatClampNeg)), (0, .ref ad.1), (1, .int x1), (2, .int x2)]) hx hb dX2_changeCradles_40 rfl hl (by decide) rfl (fun ls hl => ?_)
        refine lv_iload_n hx hb dX2_changeCradles_41 rfl (lv_at hl 0 rfl) ?_
        refine lv_iload_n hx hb dX2_changeCradles_42 rfl (lv_at hl 3 rfl) ?_
        refine lv_icmp_ne (tgt := 49) hx hb dX2_changeCradles_43 (by decide) (fun c_4 => ?_) (fun c_4 => ?_)
        · refine lv_aload_n hx hb dX2_changeCradles_49 rfl (lv_at hl 1 rfl) ?_
          refine gY_cradles hC rfl hK hP dX2_changeCradles_50 ?_
          refine lv_iload_n hx hb dX2_changeCradles_53 rfl (lv_at hl 2 rfl) ?_
          refine lv_iload_n hx hb dX2_changeCradles_54 rfl (lv_at hl 3 rfl) ?_
          refine sY_cradles hC hK hP hD hS (in_X2_isKind c_1) dX2_changeCradles_55 (fun H locs hP hD hS => ?_)
          refine lv_iload_n hx hb dX2_changeCradles_56 rfl (lv_at hl 0 rfl) ?_
          have hm : mX2_changeCradles σ x1 x2 = (((Y_cradles σ) x1.toNatClampNeg), (Y_set_cradles σ (upd (Y_cradles σ) x1.toNatClampNeg x2))) := by unfold mX2_changeCradles; rw [if_neg c_1, if_neg c_2, if_pos c_3, if_neg c_4]
          exact wr_ret hC hP (hAe ▸ hD) (hAe ▸ hS) dX2_changeCradles_57 (by rw [hm]) (by rw [hm])
        · refine lv_bipush (v := (-5)) hx hb dX2_changeCradles_46 (by decide) ?_
          have hm : mX2_changeCradles σ x1 x2 = ((-5), σ) := by unfold mX2_changeCradles; rw [if_neg c_1, if_neg c_2, if_pos c_3, if_pos c_4]
          exact wr_ret hC hP (hAe ▸ hD) (hAe ▸ hS) dX2_changeCradles_48 (by rw [hm]) (by rw [hm])
      · refine lv_bipush (v := (-4)) hx hb dX2_changeCradles_31 (by decide) ?_
        have hm : mX2_changeCradles σ x1 x2 = ((-4), σ) := by unfold mX2_changeCradles; rw [if_neg c_1, if_neg c_2, if_neg c_3]
        exact wr_ret hC hP (hAe ▸ hD) (hAe ▸ hS) dX2_changeCradles_33 (by rw [hm]) (by rw [hm])
    · refine lv_bipush (v := (-2)) hx hb dX2_changeCradles_19 (by decide) ?_
      have hm : mX2_changeCradles σ x1 x2 = ((-2), σ) := by unfold mX2_changeCradles; rw [if_neg c_1, if_pos c_2]
      exact wr_ret hC hP (hAe ▸ hD) (hAe ▸ hS) dX2_changeCradles_21 (by rw [hm]) (by rw [hm])
  · refine lv_iconst (v := (-1)) hx hb dX2_changeCradles_7 (by decide) ?_
    have hm : mX2_changeCradles σ x1 x2 = ((-1), σ) := by unfold mX2_changeCradles; rw [if_pos c_1]
    exact wr_ret hC hP (hAe ▸ hD) (hAe ▸ hS) dX2_changeCradles_8 (by rw [hm]) (by rw [hm])
def mX2_hasFreeCradle (σ : YS) (x1 : Int32) : Int32 := (if ((Y_cradles σ) x1.toNatClampNeg) ≤ (mX2_boatsWith σ 6 x1) then 0 else 1)
set_option maxHeartbeats 4000000 in
set_option maxRecDepth 100000 in
theorem k_X2_hasFreeCradle (l : Launch) (g : WG) (ad : AY) (σ : YS) (x1 : Int32) (h_1 : vp_in x1 3) : Rd l yX2_hasFreeCradle cX2_hasFreeCradle 2 (some .boolean) 1 (Wl g (cY g ad σ) (fun _ => False)) [.ref ad.1, .int x1] (mX2_hasFreeCradle σ x1) := by
  refine rd_of (by decide) (Nat.le_of_ble_eq_true rfl) ?_
  intro p e s m args below meth c ls hC hW hl
  obtain ⟨hP, hK, hE⟩ := hW
  obtain ⟨hx, hb, hml, hr, hown, hts, hlk, hnm⟩ := id hC
  have hl : lv_has ls 2 [(0, .ref ad.1), (1, .int x1)] := hl
  refine lv_aload_n hx hb dX2_hasFreeCradle_0 rfl (lv_at hl 0 rfl) ?_
  refine lv_bipush (v := 6) hx hb dX2_hasFreeCradle_1 (by decide) ?_
  refine lv_iload_n hx hb dX2_hasFreeCradle_3 rfl (lv_at hl 1 rfl) ?_
  refine callRd hC (k_X2_boatsWith l g ad σ 6 x1 (in_iff.mpr (by decide))) ci_X2_boatsWith lk_X2_82 ⟨Nat.le_of_ble_eq_true rfl, Nat.le_of_ble_eq_true rfl⟩ hP hK hE (q0 := 0) rfl rfl rfl rfl hl.1 rfl (Nat.le_of_ble_eq_true rfl) dX2_hasFreeCradle_4 ⟨Nat.zero_le _, Nat.zero_le _⟩ ?_
  refine lv_aload_n hx hb dX2_hasFreeCradle_7 rfl (lv_at hl 0 rfl) ?_
  refine gY_cradles hC rfl hK hP dX2_hasFreeCradle_8 ?_
  refine lv_iload_n hx hb dX2_hasFreeCradle_11 rfl (lv_at hl 1 rfl) ?_
  refine lY_cradles hC hK hP h_1 dX2_hasFreeCradle_12 ?_
  refine lv_icmp_ge (tgt := 20) hx hb dX2_hasFreeCradle_13 (by decide) (fun c_1 => ?_) (fun c_1 => ?_)
  · refine lv_iconst (v := 0) hx hb dX2_hasFreeCradle_20 (by decide) ?_
    exact rd_zret hC dX2_hasFreeCradle_21 rfl (Eq.symm (by unfold mX2_hasFreeCradle; rw [if_pos c_1]))
  · refine lv_iconst (v := 1) hx hb dX2_hasFreeCradle_16 (by decide) ?_
    refine lv_goto (tgt := 21) hx hb dX2_hasFreeCradle_17 (by decide) ?_
    exact rd_zret hC dX2_hasFreeCradle_21 rfl (Eq.symm (by unfold mX2_hasFreeCradle; rw [if_neg c_1]))
def mX2_otherKindFor (x1 : Int32) : Int32 := (if x1 = 0 then 2 else (if x1 = 2 then 0 else (-5)))
theorem in_X2_other {x : Int32} (c : ¬ mX2_otherKindFor x = -5) : vp_in (mX2_otherKindFor x) 3 := by
  unfold mX2_otherKindFor at c ⊢
  split
  · exact in_iff.mpr (by decide)
  · split
    · exact in_iff.mpr (by decide)
    · rename_i h1 h2
      rw [if_neg h1, if_neg h2] at c
      exact absurd rfl c
set_option maxHeartbeats 4000000 in
set_option maxRecDepth 100000 in
theorem k_X2_otherKindFor (l : Launch) (g : WG) (x1 : Int32) : Rd l yX2_otherKindFor cX2_otherKindFor 1 (some .int) 0 (Wl g [] (fun _ => False)) [.int x1] (mX2_otherKindFor x1) := by
  refine rd_of (by decide) (Nat.le_of_ble_eq_true rfl) ?_
  intro p e s m args below meth c ls hC hW hl
  obtain ⟨hP, hK, hE⟩ := hW
  obtain ⟨hx, hb, hml, hr, hown, hts, hlk, hnm⟩ := id hC
  have hl : lv_has ls 1 [(0, .int x1)] := hl
  refine lv_iload_n hx hb dX2_otherKindFor_0 rfl (lv_at hl 0 rfl) ?_
  refine lv_if_ne (tgt := 6) hx hb dX2_otherKindFor_1 (by decide) (fun c_1 => ?_) (fun c_1 => ?_)
  · refine lv_iload_n hx hb dX2_otherKindFor_6 rfl (lv_at hl 0 rfl) ?_
    refine lv_iconst (v := 2) hx hb dX2_otherKindFor_7 (by decide) ?_
    refine lv_icmp_ne (tgt := 15) hx hb dX2_otherKindFor_8 (by decide) (fun c_2 => ?_) (fun c_2 => ?_)
    · refine lv_bipush (v := (-5)) hx hb dX2_otherKindFor_15 (by decide) ?_
      exact rd_ret hC dX2_otherKindFor_17 (Eq.symm (by unfold mX2_otherKindFor; rw [if_neg c_1, if_neg c_2]))
    · refine lv_iconst (v := 0) hx hb dX2_otherKindFor_11 (by decide) ?_
      refine lv_goto (tgt := 17) hx hb dX2_otherKindFor_12 (by decide) ?_
      exact rd_ret hC dX2_otherKindFor_17 (Eq.symm (by unfold mX2_otherKindFor; rw [if_neg c_1, if_pos c_2]))
  · refine lv_iconst (v := 2) hx hb dX2_otherKindFor_4 (by decide) ?_
    exact rd_ret hC dX2_otherKindFor_5 (Eq.symm (by unfold mX2_otherKindFor; rw [if_pos c_1]))
def mX2_cradleFor (σ : YS) (x1 : Int32) : Int32 := (if (mX2_hasFreeCradle σ (mX2_fact σ x1 3)) = 0 then (if (mX2_otherKindFor (mX2_fact σ x1 3)) = (-5) then (-5) else (if (mX2_hasFreeCradle σ (mX2_otherKindFor (mX2_fact σ x1 3))) = 0 then (-5) else (if (mX2_bears (mX2_otherKindFor (mX2_fact σ x1 3))) < (2 * (mX2_fact σ x1 2)) then (-5) else (mX2_otherKindFor (mX2_fact σ x1 3))))) else (if (mX2_bears (mX2_fact σ x1 3)) < (mX2_fact σ x1 2) then (if (mX2_otherKindFor (mX2_fact σ x1 3)) = (-5) then (-5) else (if (mX2_hasFreeCradle σ (mX2_otherKindFor (mX2_fact σ x1 3))) = 0 then (-5) else (if (mX2_bears (mX2_otherKindFor (mX2_fact σ x1 3))) < (2 * (mX2_fact σ x1 2)) then (-5) else (mX2_otherKindFor (mX2_fact σ x1 3))))) else (mX2_fact σ x1 3)))
set_option maxHeartbeats 4000000 in
set_option maxRecDepth 100000 in
theorem k_X2_cradleFor (l : Launch) (g : WG) (ad : AY) (σ : YS) (x1 : Int32) (h_1 : vp_in x1 20) (h_keel : vp_in (mX2_fact σ x1 3) 3) : Rd l yX2_cradleFor cX2_cradleFor 5 (some .int) 2 (Wl g (cY g ad σ) (fun _ => False)) [.ref ad.1, .int x1] (mX2_cradleFor σ x1) := by
  refine rd_of (by decide) (Nat.le_of_ble_eq_true rfl) ?_
  intro p e s m args below meth c ls hC hW hl
  obtain ⟨hP, hK, hE⟩ := hW
  obtain ⟨hx, hb, hml, hr, hown, hts, hlk, hnm⟩ := id hC
  have hl : lv_has ls 5 [(0, .ref ad.1), (1, .int x1)] := hl
  refine lv_aload_n hx hb dX2_cradleFor_0 rfl (lv_at hl 0 rfl) ?_
  refine lv_iload_n hx hb dX2_cradleFor_1 rfl (lv_at hl 1 rfl) ?_
  refine lv_iconst (v := 3) hx hb dX2_cradleFor_2 (by decide) ?_
  refine callRd hC (k_X2_fact l g ad σ x1 3 h_1 (in_iff.mpr (by decide))) ci_X2_fact lk_X2_51 ⟨Nat.le_of_ble_eq_true rfl, Nat.le_of_ble_eq_true rfl⟩ hP hK hE (q0 := 0) rfl rfl rfl rfl hl.1 rfl (Nat.le_of_ble_eq_true rfl) dX2_cradleFor_3 ⟨Nat.zero_le _, Nat.zero_le _⟩ ?_
  refine lv_istore_n (lv' := [(2, .int (mX2_fact σ x1 3)), (0, .ref ad.1), (1, .int x1)]) hx hb dX2_cradleFor_6 rfl hl (by decide) rfl (fun ls hl => ?_)
  refine lv_aload_n hx hb dX2_cradleFor_7 rfl (lv_at hl 1 rfl) ?_
  refine lv_iload_n hx hb dX2_cradleFor_8 rfl (lv_at hl 2 rfl) ?_
  refine lv_iconst (v := 2) hx hb dX2_cradleFor_9 (by decide) ?_
  refine callRd hC (k_X2_fact l g ad σ x1 2 h_1 (in_iff.mpr (by decide))) ci_X2_fact lk_X2_51 ⟨Nat.le_of_ble_eq_true rfl, Nat.le_of_ble_eq_true rfl⟩ hP hK hE (q0 := 0) rfl rfl rfl rfl hl.1 rfl (Nat.le_of_ble_eq_true rfl) dX2_cradleFor_10 ⟨Nat.zero_le _, Nat.zero_le _⟩ ?_
  refine lv_istore_n (lv' := [(3, .int (mX2_fact σ x1 2)), (2, .int (mX2_fact σ x1 3)), (0, .ref ad.1), (1, .int x1)]) hx hb dX2_cradleFor_13 rfl hl (by decide) rfl (fun ls hl => ?_)
  refine lv_aload_n hx hb dX2_cradleFor_14 rfl (lv_at hl 2 rfl) ?_
  refine lv_iload_n hx hb dX2_cradleFor_15 rfl (lv_at hl 1 rfl) ?_
  refine callRd hC (k_X2_hasFreeCradle l g ad σ (mX2_fact σ x1 3) h_keel) ci_X2_hasFreeCradle lk_X2_92 ⟨Nat.le_of_ble_eq_true rfl, Nat.le_of_ble_eq_true rfl⟩ hP hK hE (q0 := 0) rfl rfl rfl rfl hl.1 rfl (Nat.le_of_ble_eq_true rfl) dX2_cradleFor_16 ⟨Nat.zero_le _, Nat.zero_le _⟩ ?_
  refine lv_if_eq (tgt := 32) hx hb dX2_cradleFor_19 (by decide) (fun c_1 => ?_) (fun c_1 => ?_)
  · refine lv_iload_n hx hb dX2_cradleFor_32 rfl (lv_at hl 1 rfl) ?_
    refine callRs hC (k_X2_otherKindFor l g (mX2_fact σ x1 3)) ci_X2_otherKindFor lk_X2_98 ⟨Nat.le_of_ble_eq_true rfl, Nat.le_of_ble_eq_true rfl⟩ hK hE rfl hl.1 rfl (Nat.le_of_ble_eq_true rfl) dX2_cradleFor_33 ⟨Nat.zero_le _, Nat.zero_le _⟩ ?_
    refine lv_istore (lv' := [(4, .int (mX2_otherKindFor (mX2_fact σ x1 3))), (3, .int (mX2_fact σ x1 2)), (2, .int (mX2_fact σ x1 3)), (0, .ref ad.1), (1, .int x1)]) hx hb dX2_cradleFor_36 hl (by decide) rfl (fun ls hl => ?_)
    refine lv_iload hx hb dX2_cradleFor_38 (lv_at hl 0 rfl) ?_
    refine lv_bipush (v := (-5)) hx hb dX2_cradleFor_40 (by decide) ?_
    refine lv_icmp_eq (tgt := 68) hx hb dX2_cradleFor_42 (by decide) (fun c_2 => ?_) (fun c_2 => ?_)
    · refine lv_bipush (v := (-5)) hx hb dX2_cradleFor_68 (by decide) ?_
      exact rd_ret hC dX2_cradleFor_70 (Eq.symm (by unfold mX2_cradleFor; rw [if_pos c_1, if_pos c_2]))
    · refine lv_aload_n hx hb dX2_cradleFor_45 rfl (lv_at hl 3 rfl) ?_
      refine lv_iload hx hb dX2_cradleFor_46 (lv_at hl 0 rfl) ?_
      refine callRd hC (k_X2_hasFreeCradle l g ad σ (mX2_otherKindFor (mX2_fact σ x1 3)) (in_X2_other c_2)) ci_X2_hasFreeCradle lk_X2_92 ⟨Nat.le_of_ble_eq_true rfl, Nat.le_of_ble_eq_true rfl⟩ hP hK hE (q0 := 0) rfl rfl rfl rfl hl.1 rfl (Nat.le_of_ble_eq_true rfl) dX2_cradleFor_48 ⟨Nat.zero_le _, Nat.zero_le _⟩ ?_
      refine lv_if_eq (tgt := 68) hx hb dX2_cradleFor_51 (by decide) (fun c_3 => ?_) (fun c_3 => ?_)
      · refine lv_bipush (v := (-5)) hx hb dX2_cradleFor_68 (by decide) ?_
        exact rd_ret hC dX2_cradleFor_70 (Eq.symm (by unfold mX2_cradleFor; rw [if_pos c_1, if_neg c_2, if_pos c_3]))
      · refine lv_iconst (v := 2) hx hb dX2_cradleFor_54 (by decide) ?_
        refine lv_iload_n hx hb dX2_cradleFor_55 rfl (lv_at hl 1 rfl) ?_
        refine lv_imul hx hb dX2_cradleFor_56 ?_
        refine lv_iload hx hb dX2_cradleFor_57 (lv_at hl 0 rfl) ?_
        refine callRs hC (k_X2_bears l g (mX2_otherKindFor (mX2_fact σ x1 3)) (in_X2_other c_2)) ci_X2_bears lk_X2_95 ⟨Nat.le_of_ble_eq_true rfl, Nat.le_of_ble_eq_true rfl⟩ hK hE rfl hl.1 rfl (Nat.le_of_ble_eq_true rfl) dX2_cradleFor_59 ⟨Nat.zero_le _, Nat.zero_le _⟩ ?_
        refine lv_icmp_gt (tgt := 68) hx hb dX2_cradleFor_62 (by decide) (fun c_4 => ?_) (fun c_4 => ?_)
        · refine lv_bipush (v := (-5)) hx hb dX2_cradleFor_68 (by decide) ?_
          exact rd_ret hC dX2_cradleFor_70 (Eq.symm (by unfold mX2_cradleFor; rw [if_pos c_1, if_neg c_2, if_neg c_3, if_pos c_4]))
        · refine lv_iload hx hb dX2_cradleFor_65 (lv_at hl 0 rfl) ?_
          exact rd_ret hC dX2_cradleFor_67 (Eq.symm (by unfold mX2_cradleFor; rw [if_pos c_1, if_neg c_2, if_neg c_3, if_neg c_4]))
  · refine lv_iload_n hx hb dX2_cradleFor_22 rfl (lv_at hl 0 rfl) ?_
    refine lv_iload_n hx hb dX2_cradleFor_23 rfl (lv_at hl 1 rfl) ?_
    refine callRs hC (k_X2_bears l g (mX2_fact σ x1 3) h_keel) ci_X2_bears lk_X2_95 ⟨Nat.le_of_ble_eq_true rfl, Nat.le_of_ble_eq_true rfl⟩ hK hE rfl hl.1 rfl (Nat.le_of_ble_eq_true rfl) dX2_cradleFor_24 ⟨Nat.zero_le _, Nat.zero_le _⟩ ?_
    refine lv_icmp_gt (tgt := 32) hx hb dX2_cradleFor_27 (by decide) (fun c_5 => ?_) (fun c_5 => ?_)
    · refine lv_iload_n hx hb dX2_cradleFor_32 rfl (lv_at hl 1 rfl) ?_
      refine callRs hC (k_X2_otherKindFor l g (mX2_fact σ x1 3)) ci_X2_otherKindFor lk_X2_98 ⟨Nat.le_of_ble_eq_true rfl, Nat.le_of_ble_eq_true rfl⟩ hK hE rfl hl.1 rfl (Nat.le_of_ble_eq_true rfl) dX2_cradleFor_33 ⟨Nat.zero_le _, Nat.zero_le _⟩ ?_
      refine lv_istore (lv' := [(4, .int (mX2_otherKindFor (mX2_fact σ x1 3))), (3, .int (mX2_fact σ x1 2)), (2, .int (mX2_fact σ x1 3)), (0, .ref ad.1), (1, .int x1)]) hx hb dX2_cradleFor_36 hl (by decide) rfl (fun ls hl => ?_)
      refine lv_iload hx hb dX2_cradleFor_38 (lv_at hl 0 rfl) ?_
      refine lv_bipush (v := (-5)) hx hb dX2_cradleFor_40 (by decide) ?_
      refine lv_icmp_eq (tgt := 68) hx hb dX2_cradleFor_42 (by decide) (fun c_6 => ?_) (fun c_6 => ?_)
      · refine lv_bipush (v := (-5)) hx hb dX2_cradleFor_68 (by decide) ?_
        exact rd_ret hC dX2_cradleFor_70 (Eq.symm (by unfold mX2_cradleFor; rw [if_neg c_1, if_pos c_5, if_pos c_6]))
      · refine lv_aload_n hx hb dX2_cradleFor_45 rfl (lv_at hl 3 rfl) ?_
        refine lv_iload hx hb dX2_cradleFor_46 (lv_at hl 0 rfl) ?_
        refine callRd hC (k_X2_hasFreeCradle l g ad σ (mX2_otherKindFor (mX2_fact σ x1 3)) (in_X2_other c_6)) ci_X2_hasFreeCradle lk_X2_92 ⟨Nat.le_of_ble_eq_true rfl, Nat.le_of_ble_eq_true rfl⟩ hP hK hE (q0 := 0) rfl rfl rfl rfl hl.1 rfl (Nat.le_of_ble_eq_true rfl) dX2_cradleFor_48 ⟨Nat.zero_le _, Nat.zero_le _⟩ ?_
        refine lv_if_eq (tgt := 68) hx hb dX2_cradleFor_51 (by decide) (fun c_7 => ?_) (fun c_7 => ?_)
        · refine lv_bipush (v := (-5)) hx hb dX2_cradleFor_68 (by decide) ?_
          exact rd_ret hC dX2_cradleFor_70 (Eq.symm (by unfold mX2_cradleFor; rw [if_neg c_1, if_pos c_5, if_neg c_6, if_pos c_7]))
        · refine lv_iconst (v := 2) hx hb dX2_cradleFor_54 (by decide) ?_
          refine lv_iload_n hx hb dX2_cradleFor_55 rfl (lv_at hl 1 rfl) ?_
          refine lv_imul hx hb dX2_cradleFor_56 ?_
          refine lv_iload hx hb dX2_cradleFor_57 (lv_at hl 0 rfl) ?_
          refine callRs hC (k_X2_bears l g (mX2_otherKindFor (mX2_fact σ x1 3)) (in_X2_other c_6)) ci_X2_bears lk_X2_95 ⟨Nat.le_of_ble_eq_true rfl, Nat.le_of_ble_eq_true rfl⟩ hK hE rfl hl.1 rfl (Nat.le_of_ble_eq_true rfl) dX2_cradleFor_59 ⟨Nat.zero_le _, Nat.zero_le _⟩ ?_
          refine lv_icmp_gt (tgt := 68) hx hb dX2_cradleFor_62 (by decide) (fun c_8 => ?_) (fun c_8 => ?_)
          · refine lv_bipush (v := (-5)) hx hb dX2_cradleFor_68 (by decide) ?_
            exact rd_ret hC dX2_cradleFor_70 (Eq.symm (by unfold mX2_cradleFor; rw [if_neg c_1, if_pos c_5, if_neg c_6, if_neg c_7, if_pos c_8]))
          · refine lv_iload hx hb dX2_cradleFor_65 (lv_at hl 0 rfl) ?_
            exact rd_ret hC dX2_cradleFor_67 (Eq.symm (by unfold mX2_cradleFor; rw [if_neg c_1, if_pos c_5, if_neg c_6, if_neg c_7, if_neg c_8]))
    · refine lv_iload_n hx hb dX2_cradleFor_30 rfl (lv_at hl 1 rfl) ?_
      exact rd_ret hC dX2_cradleFor_31 (Eq.symm (by unfold mX2_cradleFor; rw [if_neg c_1, if_neg c_5]))
def mX2_metresOf (σ : YS) (x1 : Int32) : Int32 := ((Y_metres σ) x1.toNatClampNeg)
set_option maxHeartbeats 4000000 in
set_option maxRecDepth 100000 in
theorem k_X2_metresOf (l : Launch) (g : WG) (ad : AY) (σ : YS) (x1 : Int32) (h_1 : vp_in x1 4) : Rd l yX2_metresOf cX2_metresOf 2 (some .int) 0 (Wl g (cY g ad σ) (fun _ => False)) [.ref ad.1, .int x1] (mX2_metresOf σ x1) := by
  refine rd_of (by decide) (Nat.le_of_ble_eq_true rfl) ?_
  intro p e s m args below meth c ls hC hW hl
  obtain ⟨hP, hK, hE⟩ := hW
  obtain ⟨hx, hb, hml, hr, hown, hts, hlk, hnm⟩ := id hC
  have hl : lv_has ls 2 [(0, .ref ad.1), (1, .int x1)] := hl
  refine lv_aload_n hx hb dX2_metresOf_0 rfl (lv_at hl 0 rfl) ?_
  refine gY_metres hC rfl hK hP dX2_metresOf_1 ?_
  refine lv_iload_n hx hb dX2_metresOf_4 rfl (lv_at hl 1 rfl) ?_
  refine lY_metres hC hK hP h_1 dX2_metresOf_5 ?_
  exact rd_ret hC dX2_metresOf_6 (Eq.symm (by unfold mX2_metresOf; rfl))
def mX2_standsIn (σ : YS) (x1 : Int32) (x2 : Int32) : Int32 := (if (mX2_fact σ x1 4) = x2 then 1 else 0)
set_option maxHeartbeats 4000000 in
set_option maxRecDepth 100000 in
theorem k_X2_standsIn (l : Launch) (g : WG) (ad : AY) (σ : YS) (x1 : Int32) (x2 : Int32) (h_1 : vp_in x1 20) : Rd l yX2_standsIn cX2_standsIn 3 (some .boolean) 1 (Wl g (cY g ad σ) (fun _ => False)) [.ref ad.1, .int x1, .int x2] (mX2_standsIn σ x1 x2) := by
  refine rd_of (by decide) (Nat.le_of_ble_eq_true rfl) ?_
  intro p e s m args below meth c ls hC hW hl
  obtain ⟨hP, hK, hE⟩ := hW
  obtain ⟨hx, hb, hml, hr, hown, hts, hlk, hnm⟩ := id hC
  have hl : lv_has ls 3 [(0, .ref ad.1), (1, .int x1), (2, .int x2)] := hl
  refine lv_aload_n hx hb dX2_standsIn_0 rfl (lv_at hl 0 rfl) ?_
  refine lv_iload_n hx hb dX2_standsIn_1 rfl (lv_at hl 1 rfl) ?_
  refine lv_iconst (v := 4) hx hb dX2_standsIn_2 (by decide) ?_
  refine callRd hC (k_X2_fact l g ad σ x1 4 h_1 (in_iff.mpr (by decide))) ci_X2_fact lk_X2_51 ⟨Nat.le_of_ble_eq_true rfl, Nat.le_of_ble_eq_true rfl⟩ hP hK hE (q0 := 0) rfl rfl rfl rfl hl.1 rfl (Nat.le_of_ble_eq_true rfl) dX2_standsIn_3 ⟨Nat.zero_le _, Nat.zero_le _⟩ ?_
  refine lv_iload_n hx hb dX2_standsIn_6 rfl (lv_at hl 2 rfl) ?_
  refine lv_icmp_ne (tgt := 14) hx hb dX2_standsIn_7 (by decide) (fun c_1 => ?_) (fun c_1 => ?_)
  · refine lv_iconst (v := 0) hx hb dX2_standsIn_14 (by decide) ?_
    exact rd_zret hC dX2_standsIn_15 rfl (Eq.symm (by unfold mX2_standsIn; rw [if_neg c_1]))
  · refine lv_iconst (v := 1) hx hb dX2_standsIn_10 (by decide) ?_
    refine lv_goto (tgt := 15) hx hb dX2_standsIn_11 (by decide) ?_
    exact rd_zret hC dX2_standsIn_15 rfl (Eq.symm (by unfold mX2_standsIn; rw [if_pos c_1]))
theorem in_mt {u : Int32} (h0 : 0 ≤ u.toInt) (h1 : u.toInt ≤ 220) (c : ¬ (220 : Int32) < u + 11) : vp_in u 210 := by
  have e9 := up_add (d := 11) (k := 11) (M := 220) rfl h0 h1 (by decide) (by decide)
  have e : (220 : Int32).toInt = 220 := rfl
  rw [lt_ti, e9, e] at c
  exact in_iff.mpr ⟨h0, by omega⟩
def mX2_metresTaken_L4 (σ : YS) (x1 : Int32) : Nat → Int32 → Int32 → Int32
  | 0, _, _ => 0
  | n + 1, u3, u2 => (if 220 < (u3 + 11) then u2 else (if ((Y_facts σ) (u3 + 4).toNatClampNeg) = x1 then (mX2_metresTaken_L4 σ x1 n (u3 + 11) (u2 + (((Y_facts σ) (u3 + 0).toNatClampNeg) + 1))) else (mX2_metresTaken_L4 σ x1 n (u3 + 11) u2)))
set_option maxHeartbeats 4000000 in
set_option maxRecDepth 100000 in
theorem q_X2_metresTaken_4 {p : Program} {e : Env} {s : State} {m : MethodId} {args : Array Value} {below : List Frame} {meth : Method} {c : Code} (l : Launch) (g : WG) (ad : AY) (σ : YS) (x1 : Int32) (hC : Cx p s m args meth c yX2_metresTaken cX2_metresTaken 4 (some .int)) (hP : va_P g.1 vwCl (cY g ad σ) s.heap) (hK : va_K g.1 vwCl (tysW g) s) (hE : Ex (fun _ => False) s s.heap) {r : Int32} : ∀ (n : Nat) (u3 : Int32) (u2 : Int32) (hi0 : 0 ≤ u3.toInt) (hi1 : u3.toInt ≤ 220) (hm : ((221 : Int) - u3.toInt).toNat < n) (hR : r = mX2_metresTaken_L4 σ x1 n u3 u2) (ls : Array Slot) (hl : lv_has ls 4 [(3, .int u3), (2, .int u2), (0, .ref ad.1), (1, .int x1)]), W p l e (rk 0) s m args below meth c s.heap [] 0 0 (MQ below (vp_Si (fun x => x = r)) args s 0 0 (fun _ => False)) (F0 m 4 ls []) := by
  obtain ⟨hx, hb, hml, hr, hown, hts, hlk, hnm⟩ := id hC
  intro n
  induction n with
  | zero => intro u3 u2 hi0 hi1 hm hR ls hl; exact absurd hm (Nat.not_lt_zero _)
  | succ n ih =>
    intro u3 u2 hi0 hi1 hm hR ls hl
    refine lv_iload_n hx hb dX2_metresTaken_4 rfl (lv_at hl 0 rfl) ?_
    refine lv_bipush (v := 11) hx hb dX2_metresTaken_5 (by decide) ?_
    refine lv_iadd hx hb dX2_metresTaken_7 ?_
    refine lv_aload_n hx hb dX2_metresTaken_8 rfl (lv_at hl 2 rfl) ?_
    refine gY_facts hC rfl hK hP dX2_metresTaken_9 ?_
    refine nY_facts hC hK hP dX2_metresTaken_12 ?_
    refine lv_icmp_gt (tgt := 47) hx hb dX2_metresTaken_13 (by decide) (fun c_1 => ?_) (fun c_1 => ?_)
    · refine lv_iload_n hx hb dX2_metresTaken_47 rfl (lv_at hl 1 rfl) ?_
      exact rd_ret hC dX2_metresTaken_48 (Eq.symm (by rw [hR, mX2_metresTaken_L4, if_pos c_1]))
    · refine lv_aload_n hx hb dX2_metresTaken_16 rfl (lv_at hl 2 rfl) ?_
      refine gY_facts hC rfl hK hP dX2_metresTaken_17 ?_
      refine lv_iload_n hx hb dX2_metresTaken_20 rfl (lv_at hl 0 rfl) ?_
      refine lv_iconst (v := 4) hx hb dX2_metresTaken_21 (by decide) ?_
      refine lv_iadd hx hb dX2_metresTaken_22 ?_
      refine lY_facts hC hK hP (ix_c' (z := 4) rfl (by decide) (in_mt hi0 hi1 c_1) (by decide) (by decide)) dX2_metresTaken_23 ?_
      refine lv_iload_n hx hb dX2_metresTaken_24 rfl (lv_at hl 3 rfl) ?_
      refine lv_icmp_ne (tgt := 41) hx hb dX2_metresTaken_25 (by decide) (fun c_2 => ?_) (fun c_2 => ?_)
      · refine lv_iinc (v := (u3 + 11)) (lv' := [(3, .int (u3 + 11)), (2, .int u2), (0, .ref ad.1), (1, .int x1)]) hx hb dX2_metresTaken_41 hl (k := 0) rfl rfl (by decide) rfl (fun ls hl => ?_)
        refine lv_goto (tgt := 4) hx hb dX2_metresTaken_44 (by decide) ?_
        have e9 := up_add (d := 11) (k := 11) (M := 220) rfl hi0 hi1 (by decide) (by decide)
        have e8 := (in_iff.mp (in_mt hi0 hi1 c_1)).2
        exact ih (u3 + 11) u2 (by rw [e9]; omega) (by rw [e9]; omega) (by rw [e9]; omega) (by rw [hR, mX2_metresTaken_L4, if_neg c_1, if_neg c_2]) _ (lv_sub hl [0, 1, 2, 3] rfl)
      · refine lv_iload_n hx hb dX2_metresTaken_28 rfl (lv_at hl 1 rfl) ?_
        refine lv_aload_n hx hb dX2_metresTaken_29 rfl (lv_at hl 2 rfl) ?_
        refine gY_facts hC rfl hK hP dX2_metresTaken_30 ?_
        refine lv_iload_n hx hb dX2_metresTaken_33 rfl (lv_at hl 0 rfl) ?_
        refine lv_iconst (v := 0) hx hb dX2_metresTaken_34 (by decide) ?_
        refine lv_iadd hx hb dX2_metresTaken_35 ?_
        refine lY_facts hC hK hP (ix_c' (z := 0) rfl (by decide) (in_mt hi0 hi1 c_1) (by decide) (by decide)) dX2_metresTaken_36 ?_
        refine lv_iconst (v := 1) hx hb dX2_metresTaken_37 (by decide) ?_
        refine lv_iadd hx hb dX2_metresTaken_38 ?_
        refine lv_iadd hx hb dX2_metresTaken_39 ?_
        refine lv_istore_n (lv' := [(2, .int (u2 + (((Y_facts σ) (u3 + 0).toNatClampNeg) + 1))), (3, .int u3), (0, .ref ad.1), (1, .int x1)]) hx hb dX2_metresTaken_40 rfl hl (by decide) rfl (fun ls hl => ?_)
        refine lv_iinc (v := (u3 + 11)) (lv' := [(3, .int (u3 + 11)), (2, .int (u2 + (((Y_facts σ) (u3 + 0).toNatClampNeg) + 1))), (0, .ref ad.1), (1, .int x1)]) hx hb dX2_metresTaken_41 hl (k := 1) rfl rfl (by decide) rfl (fun ls hl => ?_)
        refine lv_goto (tgt := 4) hx hb dX2_metresTaken_44 (by decide) ?_
        have e9 := up_add (d := 11) (k := 11) (M := 220) rfl hi0 hi1 (by decide) (by decide)
        have e8 := (in_iff.mp (in_mt hi0 hi1 c_1)).2
        exact ih (u3 + 11) (u2 + (((Y_facts σ) (u3 + 0).toNatClampNeg) + 1)) (by rw [e9]; omega) (by rw [e9]; omega) (by rw [e9]; omega) (by rw [hR, mX2_metresTaken_L4, if_neg c_1, if_pos c_2]) _ (lv_sub hl [0, 1, 2, 3] rfl)
def mX2_metresTaken (σ : YS) (x1 : Int32) : Int32 := (mX2_metresTaken_L4 σ x1 222 0 0)
set_option maxHeartbeats 4000000 in
set_option maxRecDepth 100000 in
theorem k_X2_metresTaken (l : Launch) (g : WG) (ad : AY) (σ : YS) (x1 : Int32) : Rd l yX2_metresTaken cX2_metresTaken 4 (some .int) 0 (Wl g (cY g ad σ) (fun _ => False)) [.ref ad.1, .int x1] (mX2_metresTaken σ x1) := by
  refine rd_of (by decide) (Nat.le_of_ble_eq_true rfl) ?_
  intro p e s m args below meth c ls hC hW hl
  obtain ⟨hP, hK, hE⟩ := hW
  obtain ⟨hx, hb, hml, hr, hown, hts, hlk, hnm⟩ := id hC
  have hl : lv_has ls 4 [(0, .ref ad.1), (1, .int x1)] := hl
  refine lv_iconst (v := 0) hx hb dX2_metresTaken_0 (by decide) ?_
  refine lv_istore_n (lv' := [(2, .int 0), (0, .ref ad.1), (1, .int x1)]) hx hb dX2_metresTaken_1 rfl hl (by decide) rfl (fun ls hl => ?_)
  refine lv_iconst (v := 0) hx hb dX2_metresTaken_2 (by decide) ?_
  refine lv_istore_n (lv' := [(3, .int 0), (2, .int 0), (0, .ref ad.1), (1, .int x1)]) hx hb dX2_metresTaken_3 rfl hl (by decide) rfl (fun ls hl => ?_)
  refine q_X2_metresTaken_4 l g ad σ x1 hC hP hK hE 222 0 0 (by decide) (by decide) (by decide) ?_ _ (lv_sub hl [0, 1, 2, 3] rfl)
  exact by unfold mX2_metresTaken; rfl
def mX2_metresLeft (σ : YS) (x1 : Int32) : Int32 := ((mX2_metresOf σ x1) - (mX2_metresTaken σ x1))
set_option maxHeartbeats 4000000 in
set_option maxRecDepth 100000 in
theorem k_X2_metresLeft (l : Launch) (g : WG) (ad : AY) (σ : YS) (x1 : Int32) (h_1 : vp_in x1 4) : Rd l yX2_metresLeft cX2_metresLeft 2 (some .int) 1 (Wl g (cY g ad σ) (fun _ => False)) [.ref ad.1, .int x1] (mX2_metresLeft σ x1) := by
  refine rd_of (by decide) (Nat.le_of_ble_eq_true rfl) ?_
  intro p e s m args below meth c ls hC hW hl
  obtain ⟨hP, hK, hE⟩ := hW
  obtain ⟨hx, hb, hml, hr, hown, hts, hlk, hnm⟩ := id hC
  have hl : lv_has ls 2 [(0, .ref ad.1), (1, .int x1)] := hl
  refine lv_aload_n hx hb dX2_metresLeft_0 rfl (lv_at hl 0 rfl) ?_
  refine lv_iload_n hx hb dX2_metresLeft_1 rfl (lv_at hl 1 rfl) ?_
  refine callRd hC (k_X2_metresOf l g ad σ x1 h_1) ci_X2_metresOf lk_X2_101 ⟨Nat.le_of_ble_eq_true rfl, Nat.le_of_ble_eq_true rfl⟩ hP hK hE (q0 := 0) rfl rfl rfl rfl hl.1 rfl (Nat.le_of_ble_eq_true rfl) dX2_metresLeft_2 ⟨Nat.zero_le _, Nat.zero_le _⟩ ?_
  refine lv_aload_n hx hb dX2_metresLeft_5 rfl (lv_at hl 0 rfl) ?_
  refine lv_iload_n hx hb dX2_metresLeft_6 rfl (lv_at hl 1 rfl) ?_
  refine callRd hC (k_X2_metresTaken l g ad σ x1) ci_X2_metresTaken lk_X2_104 ⟨Nat.le_of_ble_eq_true rfl, Nat.le_of_ble_eq_true rfl⟩ hP hK hE (q0 := 0) rfl rfl rfl rfl hl.1 rfl (Nat.le_of_ble_eq_true rfl) dX2_metresLeft_7 ⟨Nat.zero_le _, Nat.zero_le _⟩ ?_
  refine lv_isub hx hb dX2_metresLeft_10 ?_
  exact rd_ret hC dX2_metresLeft_11 (Eq.symm (by unfold mX2_metresLeft; rfl))
def mX2_hasRoom (σ : YS) (x1 : Int32) (x2 : Int32) : Int32 := (if (mX2_metresLeft σ x1) < ((mX2_fact σ x2 0) + 1) then 0 else 1)
set_option maxHeartbeats 4000000 in
set_option maxRecDepth 100000 in
theorem k_X2_hasRoom (l : Launch) (g : WG) (ad : AY) (σ : YS) (x1 : Int32) (x2 : Int32) (h_1 : vp_in x1 4) (h_2 : vp_in x2 20) : Rd l yX2_hasRoom cX2_hasRoom 3 (some .boolean) 2 (Wl g (cY g ad σ) (fun _ => False)) [.ref ad.1, .int x1, .int x2] (mX2_hasRoom σ x1 x2) := by
  refine rd_of (by decide) (Nat.le_of_ble_eq_true rfl) ?_
  intro p e s m args below meth c ls hC hW hl
  obtain ⟨hP, hK, hE⟩ := hW
  obtain ⟨hx, hb, hml, hr, hown, hts, hlk, hnm⟩ := id hC
  have hl : lv_has ls 3 [(0, .ref ad.1), (1, .int x1), (2, .int x2)] := hl
  refine lv_aload_n hx hb dX2_hasRoom_0 rfl (lv_at hl 0 rfl) ?_
  refine lv_iload_n hx hb dX2_hasRoom_1 rfl (lv_at hl 2 rfl) ?_
  refine lv_iconst (v := 0) hx hb dX2_hasRoom_2 (by decide) ?_
  refine callRd hC (k_X2_fact l g ad σ x2 0 h_2 (in_iff.mpr (by decide))) ci_X2_fact lk_X2_51 ⟨Nat.le_of_ble_eq_true rfl, Nat.le_of_ble_eq_true rfl⟩ hP hK hE (q0 := 0) rfl rfl rfl rfl hl.1 rfl (Nat.le_of_ble_eq_true rfl) dX2_hasRoom_3 ⟨Nat.zero_le _, Nat.zero_le _⟩ ?_
  refine lv_iconst (v := 1) hx hb dX2_hasRoom_6 (by decide) ?_
  refine lv_iadd hx hb dX2_hasRoom_7 ?_
  refine lv_aload_n hx hb dX2_hasRoom_8 rfl (lv_at hl 0 rfl) ?_
  refine lv_iload_n hx hb dX2_hasRoom_9 rfl (lv_at hl 1 rfl) ?_
  refine callRd hC (k_X2_metresLeft l g ad σ x1 h_1) ci_X2_metresLeft lk_X2_107 ⟨Nat.le_of_ble_eq_true rfl, Nat.le_of_ble_eq_true rfl⟩ hP hK hE (q0 := 0) rfl rfl rfl rfl hl.1 rfl (Nat.le_of_ble_eq_true rfl) dX2_hasRoom_10 ⟨Nat.zero_le _, Nat.zero_le _⟩ ?_
  refine lv_icmp_gt (tgt := 20) hx hb dX2_hasRoom_13 (by decide) (fun c_1 => ?_) (fun c_1 => ?_)
  · refine lv_iconst (v := 0) hx hb dX2_hasRoom_20 (by decide) ?_
    exact rd_zret hC dX2_hasRoom_21 rfl (Eq.symm (by unfold mX2_hasRoom; rw [if_pos c_1]))
  · refine lv_iconst (v := 1) hx hb dX2_hasRoom_16 (by decide) ?_
    refine lv_goto (tgt := 21) hx hb dX2_hasRoom_17 (by decide) ?_
    exact rd_zret hC dX2_hasRoom_21 rfl (Eq.symm (by unfold mX2_hasRoom; rw [if_neg c_1]))
def mX2_boatsIn (σ : YS) (x1 : Int32) : Int32 := (mX2_boatsWith σ 4 x1)
set_option maxHeartbeats 4000000 in
set_option maxRecDepth 100000 in
theorem k_X2_boatsIn (l : Launch) (g : WG) (ad : AY) (σ : YS) (x1 : Int32) : Rd l yX2_boatsIn cX2_boatsIn 2 (some .int) 1 (Wl g (cY g ad σ) (fun _ => False)) [.ref ad.1, .int x1] (mX2_boatsIn σ x1) := by
  refine rd_of (by decide) (Nat.le_of_ble_eq_true rfl) ?_
  intro p e s m args below meth c ls hC hW hl
  obtain ⟨hP, hK, hE⟩ := hW
  obtain ⟨hx, hb, hml, hr, hown, hts, hlk, hnm⟩ := id hC
  have hl : lv_has ls 2 [(0, .ref ad.1), (1, .int x1)] := hl
  refine lv_aload_n hx hb dX2_boatsIn_0 rfl (lv_at hl 0 rfl) ?_
  refine lv_iconst (v := 4) hx hb dX2_boatsIn_1 (by decide) ?_
  refine lv_iload_n hx hb dX2_boatsIn_2 rfl (lv_at hl 1 rfl) ?_
  refine callRd hC (k_X2_boatsWith l g ad σ 4 x1 (in_iff.mpr (by decide))) ci_X2_boatsWith lk_X2_82 ⟨Nat.le_of_ble_eq_true rfl, Nat.le_of_ble_eq_true rfl⟩ hP hK hE (q0 := 0) rfl rfl rfl rfl hl.1 rfl (Nat.le_of_ble_eq_true rfl) dX2_boatsIn_3 ⟨Nat.zero_le _, Nat.zero_le _⟩ ?_
  exact rd_ret hC dX2_boatsIn_6 (Eq.symm (by unfold mX2_boatsIn; rfl))
def mX2_boatAt_L2 (σ : YS) (x1 : Int32) (x2 : Int32) : Nat → Int32 → Int32
  | 0, _ => 0
  | n + 1, u3 => (if 20 ≤ u3 then (-5) else (if (mX2_standsIn σ u3 x1) = 0 then (mX2_boatAt_L2 σ x1 x2 n (u3 + 1)) else (if (mX2_fact σ u3 5) = x2 then u3 else (mX2_boatAt_L2 σ x1 x2 n (u3 + 1)))))
set_option maxHeartbeats 4000000 in
set_option maxRecDepth 100000 in
theorem q_X2_boatAt_2 {p : Program} {e : Env} {s : State} {m : MethodId} {args : Array Value} {below : List Frame} {meth : Method} {c : Code} (l : Launch) (g : WG) (ad : AY) (σ : YS) (x1 : Int32) (x2 : Int32) (hC : Cx p s m args meth c yX2_boatAt cX2_boatAt 4 (some .int)) (hP : va_P g.1 vwCl (cY g ad σ) s.heap) (hK : va_K g.1 vwCl (tysW g) s) (hE : Ex (fun _ => False) s s.heap) {r : Int32} : ∀ (n : Nat) (u3 : Int32) (hi0 : 0 ≤ u3.toInt) (hi1 : u3.toInt ≤ 20) (hm : ((21 : Int) - u3.toInt).toNat < n) (hR : r = mX2_boatAt_L2 σ x1 x2 n u3) (ls : Array Slot) (hl : lv_has ls 4 [(3, .int u3), (0, .ref ad.1), (1, .int x1), (2, .int x2)]), W p l e (rk 2) s m args below meth c s.heap [] 0 0 (MQ below (vp_Si (fun x => x = r)) args s 0 0 (fun _ => False)) (F0 m 2 ls []) := by
  obtain ⟨hx, hb, hml, hr, hown, hts, hlk, hnm⟩ := id hC
  intro n
  induction n with
  | zero => intro u3 hi0 hi1 hm hR ls hl; exact absurd hm (Nat.not_lt_zero _)
  | succ n ih =>
    intro u3 hi0 hi1 hm hR ls hl
    refine lv_iload_n hx hb dX2_boatAt_2 rfl (lv_at hl 0 rfl) ?_
    refine lv_bipush (v := 20) hx hb dX2_boatAt_3 (by decide) ?_
    refine lv_icmp_ge (tgt := 35) hx hb dX2_boatAt_5 (by decide) (fun c_1 => ?_) (fun c_1 => ?_)
    · refine lv_bipush (v := (-5)) hx hb dX2_boatAt_35 (by decide) ?_
      exact rd_ret hC dX2_boatAt_37 (Eq.symm (by rw [hR, mX2_boatAt_L2, if_pos c_1]))
    · refine lv_aload_n hx hb dX2_boatAt_8 rfl (lv_at hl 1 rfl) ?_
      refine lv_iload_n hx hb dX2_boatAt_9 rfl (lv_at hl 0 rfl) ?_
      refine lv_iload_n hx hb dX2_boatAt_10 rfl (lv_at hl 2 rfl) ?_
      refine callRd hC (k_X2_standsIn l g ad σ u3 x1 (in_up (n := 20) rfl hi0 c_1)) ci_X2_standsIn lk_X2_110 ⟨Nat.le_of_ble_eq_true rfl, Nat.le_of_ble_eq_true rfl⟩ hP hK hE (q0 := 0) rfl rfl rfl rfl hl.1 rfl (Nat.le_of_ble_eq_true rfl) dX2_boatAt_11 ⟨Nat.zero_le _, Nat.zero_le _⟩ ?_
      refine lv_if_eq (tgt := 29) hx hb dX2_boatAt_14 (by decide) (fun c_2 => ?_) (fun c_2 => ?_)
      · refine lv_iinc (v := (u3 + 1)) (lv' := [(3, .int (u3 + 1)), (0, .ref ad.1), (1, .int x1), (2, .int x2)]) hx hb dX2_boatAt_29 hl (k := 0) rfl rfl (by decide) rfl (fun ls hl => ?_)
        refine lv_goto (tgt := 2) hx hb dX2_boatAt_32 (by decide) ?_
        have e9 := up_add (d := 1) (k := 1) (M := 20) rfl hi0 hi1 (by decide) (by decide)
        have e8 := nle_ti (k := 20) rfl c_1
        exact ih (u3 + 1) (by rw [e9]; omega) (by rw [e9]; omega) (by rw [e9]; omega) (by rw [hR, mX2_boatAt_L2, if_neg c_1, if_pos c_2]) _ (lv_sub hl [0, 1, 2, 3] rfl)
      · refine lv_aload_n hx hb dX2_boatAt_17 rfl (lv_at hl 1 rfl) ?_
        refine lv_iload_n hx hb dX2_boatAt_18 rfl (lv_at hl 0 rfl) ?_
        refine lv_iconst (v := 5) hx hb dX2_boatAt_19 (by decide) ?_
        refine callRd hC (k_X2_fact l g ad σ u3 5 (in_up (n := 20) rfl hi0 c_1) (in_iff.mpr (by decide))) ci_X2_fact lk_X2_51 ⟨Nat.le_of_ble_eq_true rfl, Nat.le_of_ble_eq_true rfl⟩ hP hK hE (q0 := 0) rfl rfl rfl rfl hl.1 rfl (Nat.le_of_ble_eq_true rfl) dX2_boatAt_20 ⟨Nat.zero_le _, Nat.zero_le _⟩ ?_
        refine lv_iload_n hx hb dX2_boatAt_23 rfl (lv_at hl 3 rfl) ?_
        refine lv_icmp_ne (tgt := 29) hx hb dX2_boatAt_24 (by decide) (fun c_3 => ?_) (fun c_3 => ?_)
        · refine lv_iinc (v := (u3 + 1)) (lv' := [(3, .int (u3 + 1)), (0, .ref ad.1), (1, .int x1), (2, .int x2)]) hx hb dX2_boatAt_29 hl (k := 0) rfl rfl (by decide) rfl (fun ls hl => ?_)
          refine lv_goto (tgt := 2) hx hb dX2_boatAt_32 (by decide) ?_
          have e9 := up_add (d := 1) (k := 1) (M := 20) rfl hi0 hi1 (by decide) (by decide)
          have e8 := nle_ti (k := 20) rfl c_1
          exact ih (u3 + 1) (by rw [e9]; omega) (by rw [e9]; omega) (by rw [e9]; omega) (by rw [hR, mX2_boatAt_L2, if_neg c_1, if_neg c_2, if_neg c_3]) _ (lv_sub hl [0, 1, 2, 3] rfl)
        · refine lv_iload_n hx hb dX2_boatAt_27 rfl (lv_at hl 0 rfl) ?_
          exact rd_ret hC dX2_boatAt_28 (Eq.symm (by rw [hR, mX2_boatAt_L2, if_neg c_1, if_neg c_2, if_pos c_3]))
def mX2_boatAt (σ : YS) (x1 : Int32) (x2 : Int32) : Int32 := (mX2_boatAt_L2 σ x1 x2 22 0)
set_option maxHeartbeats 4000000 in
set_option maxRecDepth 100000 in
theorem k_X2_boatAt (l : Launch) (g : WG) (ad : AY) (σ : YS) (x1 : Int32) (x2 : Int32) : Rd l yX2_boatAt cX2_boatAt 4 (some .int) 2 (Wl g (cY g ad σ) (fun _ => False)) [.ref ad.1, .int x1, .int x2] (mX2_boatAt σ x1 x2) := by
  refine rd_of (by decide) (Nat.le_of_ble_eq_true rfl) ?_
  intro p e s m args below meth c ls hC hW hl
  obtain ⟨hP, hK, hE⟩ := hW
  obtain ⟨hx, hb, hml, hr, hown, hts, hlk, hnm⟩ := id hC
  have hl : lv_has ls 4 [(0, .ref ad.1), (1, .int x1), (2, .int x2)] := hl
  refine lv_iconst (v := 0) hx hb dX2_boatAt_0 (by decide) ?_
  refine lv_istore_n (lv' := [(3, .int 0), (0, .ref ad.1), (1, .int x1), (2, .int x2)]) hx hb dX2_boatAt_1 rfl hl (by decide) rfl (fun ls hl => ?_)
  refine q_X2_boatAt_2 l g ad σ x1 x2 hC hP hK hE 22 0 (by decide) (by decide) (by decide) ?_ _ (lv_sub hl [0, 1, 2, 3] rfl)
  exact by unfold mX2_boatAt; rfl
def mX2_boatsFartherOut (σ : YS) (x1 : Int32) : Int32 := (((mX2_boatsIn σ (mX2_fact σ x1 4)) - 1) - (mX2_fact σ x1 5))
set_option maxHeartbeats 4000000 in
set_option maxRecDepth 100000 in
theorem k_X2_boatsFartherOut (l : Launch) (g : WG) (ad : AY) (σ : YS) (x1 : Int32) (h_1 : vp_in x1 20) : Rd l yX2_boatsFartherOut cX2_boatsFartherOut 2 (some .int) 2 (Wl g (cY g ad σ) (fun _ => False)) [.ref ad.1, .int x1] (mX2_boatsFartherOut σ x1) := by
  refine rd_of (by decide) (Nat.le_of_ble_eq_true rfl) ?_
  intro p e s m args below meth c ls hC hW hl
  obtain ⟨hP, hK, hE⟩ := hW
  obtain ⟨hx, hb, hml, hr, hown, hts, hlk, hnm⟩ := id hC
  have hl : lv_has ls 2 [(0, .ref ad.1), (1, .int x1)] := hl
  refine lv_aload_n hx hb dX2_boatsFartherOut_0 rfl (lv_at hl 0 rfl) ?_
  refine lv_aload_n hx hb dX2_boatsFartherOut_1 rfl (lv_at hl 0 rfl) ?_
  refine lv_iload_n hx hb dX2_boatsFartherOut_2 rfl (lv_at hl 1 rfl) ?_
  refine lv_iconst (v := 4) hx hb dX2_boatsFartherOut_3 (by decide) ?_
  refine callRd hC (k_X2_fact l g ad σ x1 4 h_1 (in_iff.mpr (by decide))) ci_X2_fact lk_X2_51 ⟨Nat.le_of_ble_eq_true rfl, Nat.le_of_ble_eq_true rfl⟩ hP hK hE (q0 := 0) rfl rfl rfl rfl hl.1 rfl (Nat.le_of_ble_eq_true rfl) dX2_boatsFartherOut_4 ⟨Nat.zero_le _, Nat.zero_le _⟩ ?_
  refine callRd hC (k_X2_boatsIn l g ad σ (mX2_fact σ x1 4)) ci_X2_boatsIn lk_X2_114 ⟨Nat.le_of_ble_eq_true rfl, Nat.le_of_ble_eq_true rfl⟩ hP hK hE (q0 := 0) rfl rfl rfl rfl hl.1 rfl (Nat.le_of_ble_eq_true rfl) dX2_boatsFartherOut_7 ⟨Nat.zero_le _, Nat.zero_le _⟩ ?_
  refine lv_iconst (v := 1) hx hb dX2_boatsFartherOut_10 (by decide) ?_
  refine lv_isub hx hb dX2_boatsFartherOut_11 ?_
  refine lv_aload_n hx hb dX2_boatsFartherOut_12 rfl (lv_at hl 0 rfl) ?_
  refine lv_iload_n hx hb dX2_boatsFartherOut_13 rfl (lv_at hl 1 rfl) ?_
  refine lv_iconst (v := 5) hx hb dX2_boatsFartherOut_14 (by decide) ?_
  refine callRd hC (k_X2_fact l g ad σ x1 5 h_1 (in_iff.mpr (by decide))) ci_X2_fact lk_X2_51 ⟨Nat.le_of_ble_eq_true rfl, Nat.le_of_ble_eq_true rfl⟩ hP hK hE (q0 := 0) rfl rfl rfl rfl hl.1 rfl (Nat.le_of_ble_eq_true rfl) dX2_boatsFartherOut_15 ⟨Nat.zero_le _, Nat.zero_le _⟩ ?_
  refine lv_isub hx hb dX2_boatsFartherOut_18 ?_
  exact rd_ret hC dX2_boatsFartherOut_19 (Eq.symm (by unfold mX2_boatsFartherOut; rfl))
def mX2_changeRow (σ : YS) (x1 : Int32) (x2 : Int32) : Int32 × YS := (if (mX2_isRow x1) = 0 then ((-1), σ) else (if (mX3_within x2 10 60) = 0 then ((-2), σ) else (if (mX2_metresTaken σ x1) ≤ x2 then (if ((Y_metres σ) x1.toNatClampNeg) = x2 then ((-5), σ) else (((Y_metres σ) x1.toNatClampNeg), (Y_set_metres σ (upd (Y_metres σ) x1.toNatClampNeg x2)))) else ((-4), σ))))
set_option maxHeartbeats 4000000 in
set_option maxRecDepth 100000 in
theorem k_X2_changeRow (l : Launch) (g : WG) (ad : AY) (σ : YS) (x1 : Int32) (x2 : Int32) : Wr l yX2_changeRow cX2_changeRow 4 (some .int) 2 g (cY g ad σ) (cY g ad (mX2_changeRow σ x1 x2).2) [.ref ad.1, .int x1, .int x2] (mX2_changeRow σ x1 x2).1 := by
  refine wr_of (by decide) (Nat.le_of_ble_eq_true rfl) ?_
  intro p e s m args below meth c ls A hC hAe hP hD hK hE hA hS hl
  obtain ⟨hx, hb, hml, hr, hown, hts, hlk, hnm⟩ := id hC
  have hl : lv_has ls 4 [(0, .ref ad.1), (1, .int x1), (2, .int x2)] := hl
  refine lv_iload_n hx hb dX2_changeRow_0 rfl (lv_at hl 1 rfl) ?_
  refine callRs hC (k_X2_isRow l g x1) ci_X2_isRow lk_X2_117 ⟨Nat.le_of_ble_eq_true rfl, Nat.le_of_ble_eq_true rfl⟩ hK (hE.S hS).none rfl hl.1 rfl (Nat.le_of_ble_eq_true rfl) dX2_changeRow_1 ⟨Nat.zero_le _, Nat.zero_le _⟩ ?_
  refine lv_if_ne (tgt := 9) hx hb dX2_changeRow_4 (by decide) (fun c_1 => ?_) (fun c_1 => ?_)
  · refine lv_iload_n hx hb dX2_changeRow_9 rfl (lv_at hl 2 rfl) ?_
    refine lv_bipush (v := 10) hx hb dX2_changeRow_10 (by decide) ?_
    refine lv_bipush (v := 60) hx hb dX2_changeRow_12 (by decide) ?_
    refine callRn hC (k_X3_within l g x2 10 60) ci_X3_within hE.2.1 ⟨Nat.le_of_ble_eq_true rfl, Nat.le_of_ble_eq_true rfl⟩ hK (hE.S hS).none rfl hl.1 rfl (Nat.le_of_ble_eq_true rfl) dX2_changeRow_14 ⟨Nat.zero_le _, Nat.zero_le _⟩ ?_
    refine lv_if_ne (tgt := 23) hx hb dX2_changeRow_17 (by decide) (fun c_2 => ?_) (fun c_2 => ?_)
    · refine lv_aload_n hx hb dX2_changeRow_23 rfl (lv_at hl 0 rfl) ?_
      refine lv_iload_n hx hb dX2_changeRow_24 rfl (lv_at hl 1 rfl) ?_
      refine callRd hC (k_X2_metresTaken l g ad σ x1) ci_X2_metresTaken lk_X2_104 ⟨Nat.le_of_ble_eq_true rfl, Nat.le_of_ble_eq_true rfl⟩ hP hK (hE.S hS).none (q0 := 0) rfl rfl rfl rfl hl.1 rfl (Nat.le_of_ble_eq_true rfl) dX2_changeRow_25 ⟨Nat.zero_le _, Nat.zero_le _⟩ ?_
      refine lv_iload_n hx hb dX2_changeRow_28 rfl (lv_at hl 2 rfl) ?_
      refine lv_icmp_le (tgt := 35) hx hb dX2_changeRow_29 (by decide) (fun c_3 => ?_) (fun c_3 => ?_)
      · refine lv_aload_n hx hb dX2_changeRow_35 rfl (lv_at hl 0 rfl) ?_
        refine gY_metres hC rfl hK hP dX2_changeRow_36 ?_
        refine lv_iload_n hx hb dX2_changeRow_39 rfl (lv_at hl 1 rfl) ?_
        refine lY_metres hC hK hP (in_X2_isRow c_1) dX2_changeRow_40 ?_
        refine lv_istore_n (lv' := [(3, .int ((Y_metres σ) x1.toNatClampNeg)), (0, .ref ad.1), (1, .int x1), (2, .int x2)]) hx hb dX2_changeRow_41 rfl hl (by decide) rfl (fun ls hl => ?_)
        refine lv_iload_n hx hb dX2_changeRow_42 rfl (lv_at hl 0 rfl) ?_
        refine lv_iload_n hx hb dX2_changeRow_43 rfl (lv_at hl 3 rfl) ?_
        refine lv_icmp_ne (tgt := 50) hx hb dX2_changeRow_44 (by decide) (fun c_4 => ?_) (fun c_4 => ?_)
        · refine lv_aload_n hx hb dX2_changeRow_50 rfl (lv_at hl 1 rfl) ?_
          refine gY_metres hC rfl hK hP dX2_changeRow_51 ?_
          refine lv_iload_n hx hb dX2_changeRow_54 rfl (lv_at hl 2 rfl) ?_
          refine lv_iload_n hx hb dX2_changeRow_55 rfl (lv_at hl 3 rfl) ?_
          refine sY_metres hC hK hP hD hS (in_X2_isRow c_1) dX2_changeRow_56 (fun H locs hP hD hS => ?_)
          refine lv_iload_n hx hb dX2_changeRow_57 rfl (lv_at hl 0 rfl) ?_
          have hm : mX2_changeRow σ x1 x2 = (((Y_metres σ) x1.toNatClampNeg), (Y_set_metres σ (upd (Y_metres σ) x1.toNatClampNeg x2))) := by unfold mX2_changeRow; rw [if_neg c_1, if_neg c_2, if_pos c_3, if_neg c_4]
          exact wr_ret hC hP (hAe ▸ hD) (hAe ▸ hS) dX2_changeRow_58 (by rw [hm]) (by rw [hm])
        · refine lv_bipush (v := (-5)) hx hb dX2_changeRow_47 (by decide) ?_
          have hm : mX2_changeRow σ x1 x2 = ((-5), σ) := by unfold mX2_changeRow; rw [if_neg c_1, if_neg c_2, if_pos c_3, if_pos c_4]
          exact wr_ret hC hP (hAe ▸ hD) (hAe ▸ hS) dX2_changeRow_49 (by rw [hm]) (by rw [hm])
      · refine lv_bipush (v := (-4)) hx hb dX2_changeRow_32 (by decide) ?_
        have hm : mX2_changeRow σ x1 x2 = ((-4), σ) := by unfold mX2_changeRow; rw [if_neg c_1, if_neg c_2, if_neg c_3]
        exact wr_ret hC hP (hAe ▸ hD) (hAe ▸ hS) dX2_changeRow_34 (by rw [hm]) (by rw [hm])
    · refine lv_bipush (v := (-2)) hx hb dX2_changeRow_20 (by decide) ?_
      have hm : mX2_changeRow σ x1 x2 = ((-2), σ) := by unfold mX2_changeRow; rw [if_neg c_1, if_pos c_2]
      exact wr_ret hC hP (hAe ▸ hD) (hAe ▸ hS) dX2_changeRow_22 (by rw [hm]) (by rw [hm])
  · refine lv_iconst (v := (-1)) hx hb dX2_changeRow_7 (by decide) ?_
    have hm : mX2_changeRow σ x1 x2 = ((-1), σ) := by unfold mX2_changeRow; rw [if_pos c_1]
    exact wr_ret hC hP (hAe ▸ hD) (hAe ▸ hS) dX2_changeRow_8 (by rw [hm]) (by rw [hm])
def mX2_tightestRow_L5 (σ : YS) (x1 : Int32) : Nat → Int32 → Int32 → Int32
  | 0, _, _ => 0
  | n + 1, u3, u2 => (if 4 ≤ u3 then u2 else (if (mX2_standsIn σ x1 u3) = 0 then (if (mX2_hasRoom σ u3 x1) = 0 then (mX2_tightestRow_L5 σ x1 n (u3 + 1) u2) else (if u2 = (-5) then (mX2_tightestRow_L5 σ x1 n (u3 + 1) u3) else (if (mX2_metresLeft σ u2) ≤ (mX2_metresLeft σ u3) then (mX2_tightestRow_L5 σ x1 n (u3 + 1) u2) else (mX2_tightestRow_L5 σ x1 n (u3 + 1) u3)))) else (mX2_tightestRow_L5 σ x1 n (u3 + 1) u2)))
set_option maxHeartbeats 4000000 in
set_option maxRecDepth 100000 in
theorem q_X2_tightestRow_5 {p : Program} {e : Env} {s : State} {m : MethodId} {args : Array Value} {below : List Frame} {meth : Method} {c : Code} (l : Launch) (g : WG) (ad : AY) (σ : YS) (x1 : Int32) (h_1 : vp_in x1 20) (hC : Cx p s m args meth c yX2_tightestRow cX2_tightestRow 5 (some .int)) (hP : va_P g.1 vwCl (cY g ad σ) s.heap) (hK : va_K g.1 vwCl (tysW g) s) (hE : Ex (fun _ => False) s s.heap) {r : Int32} : ∀ (n : Nat) (u3 : Int32) (u2 : Int32) (hi0 : 0 ≤ u3.toInt) (hi1 : u3.toInt ≤ 4) (hbst : u2 = -5 ∨ vp_in u2 4) (hm : ((5 : Int) - u3.toInt).toNat < n) (hR : r = mX2_tightestRow_L5 σ x1 n u3 u2) (ls : Array Slot) (hl : lv_has ls 5 [(3, .int u3), (2, .int u2), (0, .ref ad.1), (1, .int x1)]), W p l e (rk 3) s m args below meth c s.heap [] 0 0 (MQ below (vp_Si (fun x => x = r)) args s 0 0 (fun _ => False)) (F0 m 5 ls []) := by
  obtain ⟨hx, hb, hml, hr, hown, hts, hlk, hnm⟩ := id hC
  intro n
  induction n with
  | zero => intro u3 u2 hi0 hi1 hbst hm hR ls hl; exact absurd hm (Nat.not_lt_zero _)
  | succ n ih =>
    intro u3 u2 hi0 hi1 hbst hm hR ls hl
    refine lv_iload_n hx hb dX2_tightestRow_5 rfl (lv_at hl 0 rfl) ?_
    refine lv_iconst (v := 4) hx hb dX2_tightestRow_6 (by decide) ?_
    refine lv_icmp_ge (tgt := 67) hx hb dX2_tightestRow_7 (by decide) (fun c_1 => ?_) (fun c_1 => ?_)
    · refine lv_iload_n hx hb dX2_tightestRow_67 rfl (lv_at hl 1 rfl) ?_
      exact rd_ret hC dX2_tightestRow_68 (Eq.symm (by rw [hR, mX2_tightestRow_L5, if_pos c_1]))
    · refine lv_aload_n hx hb dX2_tightestRow_10 rfl (lv_at hl 2 rfl) ?_
      refine lv_iload_n hx hb dX2_tightestRow_11 rfl (lv_at hl 3 rfl) ?_
      refine lv_iload_n hx hb dX2_tightestRow_12 rfl (lv_at hl 0 rfl) ?_
      refine callRd hC (k_X2_standsIn l g ad σ x1 u3 h_1) ci_X2_standsIn lk_X2_110 ⟨Nat.le_of_ble_eq_true rfl, Nat.le_of_ble_eq_true rfl⟩ hP hK hE (q0 := 0) rfl rfl rfl rfl hl.1 rfl (Nat.le_of_ble_eq_true rfl) dX2_tightestRow_13 ⟨Nat.zero_le _, Nat.zero_le _⟩ ?_
      refine lv_if_ne (tgt := 32) hx hb dX2_tightestRow_16 (by decide) (fun c_2 => ?_) (fun c_2 => ?_)
      · refine lv_iconst (v := 0) hx hb dX2_tightestRow_32 (by decide) ?_
        refine lv_istore (lv' := [(4, .int 0), (3, .int u3), (2, .int u2), (0, .ref ad.1), (1, .int x1)]) hx hb dX2_tightestRow_33 hl (by decide) rfl (fun ls hl => ?_)
        refine lv_iload hx hb dX2_tightestRow_35 (lv_at hl 0 rfl) ?_
        refine lv_if_eq (tgt := 61) hx hb dX2_tightestRow_37 (by decide) (fun c_3 => ?_) (fun c_3 => absurd c_3 (by decide))
        refine lv_iinc (v := (u3 + 1)) (lv' := [(3, .int (u3 + 1)), (4, .int 0), (2, .int u2), (0, .ref ad.1), (1, .int x1)]) hx hb dX2_tightestRow_61 hl (k := 1) rfl rfl (by decide) rfl (fun ls hl => ?_)
        refine lv_goto (tgt := 5) hx hb dX2_tightestRow_64 (by decide) ?_
        have e9 := up_add (d := 1) (k := 1) (M := 4) rfl hi0 hi1 (by decide) (by decide)
        have e8 := nle_ti (k := 4) rfl c_1
        exact ih (u3 + 1) u2 (by rw [e9]; omega) (by rw [e9]; omega) hbst (by rw [e9]; omega) (by rw [hR, mX2_tightestRow_L5, if_neg c_1, if_neg c_2]) _ (lv_sub hl [0, 2, 3, 4] rfl)
      · refine lv_aload_n hx hb dX2_tightestRow_19 rfl (lv_at hl 2 rfl) ?_
        refine lv_iload_n hx hb dX2_tightestRow_20 rfl (lv_at hl 0 rfl) ?_
        refine lv_iload_n hx hb dX2_tightestRow_21 rfl (lv_at hl 3 rfl) ?_
        refine callRd hC (k_X2_hasRoom l g ad σ u3 x1 (in_up (n := 4) rfl hi0 c_1) h_1) ci_X2_hasRoom lk_X2_120 ⟨Nat.le_of_ble_eq_true rfl, Nat.le_of_ble_eq_true rfl⟩ hP hK hE (q0 := 0) rfl rfl rfl rfl hl.1 rfl (Nat.le_of_ble_eq_true rfl) dX2_tightestRow_22 ⟨Nat.zero_le _, Nat.zero_le _⟩ ?_
        refine lv_if_eq (tgt := 32) hx hb dX2_tightestRow_25 (by decide) (fun c_4 => ?_) (fun c_4 => ?_)
        · refine lv_iconst (v := 0) hx hb dX2_tightestRow_32 (by decide) ?_
          refine lv_istore (lv' := [(4, .int 0), (3, .int u3), (2, .int u2), (0, .ref ad.1), (1, .int x1)]) hx hb dX2_tightestRow_33 hl (by decide) rfl (fun ls hl => ?_)
          refine lv_iload hx hb dX2_tightestRow_35 (lv_at hl 0 rfl) ?_
          refine lv_if_eq (tgt := 61) hx hb dX2_tightestRow_37 (by decide) (fun c_5 => ?_) (fun c_5 => absurd c_5 (by decide))
          refine lv_iinc (v := (u3 + 1)) (lv' := [(3, .int (u3 + 1)), (4, .int 0), (2, .int u2), (0, .ref ad.1), (1, .int x1)]) hx hb dX2_tightestRow_61 hl (k := 1) rfl rfl (by decide) rfl (fun ls hl => ?_)
          refine lv_goto (tgt := 5) hx hb dX2_tightestRow_64 (by decide) ?_
          have e9 := up_add (d := 1) (k := 1) (M := 4) rfl hi0 hi1 (by decide) (by decide)
          have e8 := nle_ti (k := 4) rfl c_1
          exact ih (u3 + 1) u2 (by rw [e9]; omega) (by rw [e9]; omega) hbst (by rw [e9]; omega) (by rw [hR, mX2_tightestRow_L5, if_neg c_1, if_pos c_2, if_pos c_4]) _ (lv_sub hl [0, 2, 3, 4] rfl)
        · refine lv_iconst (v := 1) hx hb dX2_tightestRow_28 (by decide) ?_
          refine lv_goto (tgt := 33) hx hb dX2_tightestRow_29 (by decide) ?_
          refine lv_istore (lv' := [(4, .int 1), (3, .int u3), (2, .int u2), (0, .ref ad.1), (1, .int x1)]) hx hb dX2_tightestRow_33 hl (by decide) rfl (fun ls hl => ?_)
          refine lv_iload hx hb dX2_tightestRow_35 (lv_at hl 0 rfl) ?_
          refine lv_if_eq (tgt := 61) hx hb dX2_tightestRow_37 (by decide) (fun c_6 => absurd c_6 (by decide)) (fun c_6 => ?_)
          refine lv_iload_n hx hb dX2_tightestRow_40 rfl (lv_at hl 2 rfl) ?_
          refine lv_bipush (v := (-5)) hx hb dX2_tightestRow_41 (by decide) ?_
          refine lv_icmp_eq (tgt := 59) hx hb dX2_tightestRow_43 (by decide) (fun c_7 => ?_) (fun c_7 => ?_)
          · refine lv_iload_n hx hb dX2_tightestRow_59 rfl (lv_at hl 1 rfl) ?_
            refine lv_istore_n (lv' := [(2, .int u3), (4, .int 1), (3, .int u3), (0, .ref ad.1), (1, .int x1)]) hx hb dX2_tightestRow_60 rfl hl (by decide) rfl (fun ls hl => ?_)
            refine lv_iinc (v := (u3 + 1)) (lv' := [(3, .int (u3 + 1)), (2, .int u3), (4, .int 1), (0, .ref ad.1), (1, .int x1)]) hx hb dX2_tightestRow_61 hl (k := 2) rfl rfl (by decide) rfl (fun ls hl => ?_)
            refine lv_goto (tgt := 5) hx hb dX2_tightestRow_64 (by decide) ?_
            have e9 := up_add (d := 1) (k := 1) (M := 4) rfl hi0 hi1 (by decide) (by decide)
            have e8 := nle_ti (k := 4) rfl c_1
            exact ih (u3 + 1) u3 (by rw [e9]; omega) (by rw [e9]; omega) (Or.inr (in_up (n := 4) rfl hi0 c_1)) (by rw [e9]; omega) (by rw [hR, mX2_tightestRow_L5, if_neg c_1, if_pos c_2, if_neg c_4, if_pos c_7]) _ (lv_sub hl [0, 1, 3, 4] rfl)
          · refine lv_aload_n hx hb dX2_tightestRow_46 rfl (lv_at hl 3 rfl) ?_
            refine lv_iload_n hx hb dX2_tightestRow_47 rfl (lv_at hl 1 rfl) ?_
            refine callRd hC (k_X2_metresLeft l g ad σ u3 (in_up (n := 4) rfl hi0 c_1)) ci_X2_metresLeft lk_X2_107 ⟨Nat.le_of_ble_eq_true rfl, Nat.le_of_ble_eq_true rfl⟩ hP hK hE (q0 := 0) rfl rfl rfl rfl hl.1 rfl (Nat.le_of_ble_eq_true rfl) dX2_tightestRow_48 ⟨Nat.zero_le _, Nat.zero_le _⟩ ?_
            refine lv_aload_n hx hb dX2_tightestRow_51 rfl (lv_at hl 3 rfl) ?_
            refine lv_iload_n hx hb dX2_tightestRow_52 rfl (lv_at hl 2 rfl) ?_
            refine callRd hC (k_X2_metresLeft l g ad σ u2 (hbst.resolve_left c_7)) ci_X2_metresLeft lk_X2_107 ⟨Nat.le_of_ble_eq_true rfl, Nat.le_of_ble_eq_true rfl⟩ hP hK hE (q0 := 0) rfl rfl rfl rfl hl.1 rfl (Nat.le_of_ble_eq_true rfl) dX2_tightestRow_53 ⟨Nat.zero_le _, Nat.zero_le _⟩ ?_
            refine lv_icmp_ge (tgt := 61) hx hb dX2_tightestRow_56 (by decide) (fun c_8 => ?_) (fun c_8 => ?_)
            · refine lv_iinc (v := (u3 + 1)) (lv' := [(3, .int (u3 + 1)), (4, .int 1), (2, .int u2), (0, .ref ad.1), (1, .int x1)]) hx hb dX2_tightestRow_61 hl (k := 1) rfl rfl (by decide) rfl (fun ls hl => ?_)
              refine lv_goto (tgt := 5) hx hb dX2_tightestRow_64 (by decide) ?_
              have e9 := up_add (d := 1) (k := 1) (M := 4) rfl hi0 hi1 (by decide) (by decide)
              have e8 := nle_ti (k := 4) rfl c_1
              exact ih (u3 + 1) u2 (by rw [e9]; omega) (by rw [e9]; omega) hbst (by rw [e9]; omega) (by rw [hR, mX2_tightestRow_L5, if_neg c_1, if_pos c_2, if_neg c_4, if_neg c_7, if_pos c_8]) _ (lv_sub hl [0, 2, 3, 4] rfl)
            · refine lv_iload_n hx hb dX2_tightestRow_59 rfl (lv_at hl 1 rfl) ?_
              refine lv_istore_n (lv' := [(2, .int u3), (4, .int 1), (3, .int u3), (0, .ref ad.1), (1, .int x1)]) hx hb dX2_tightestRow_60 rfl hl (by decide) rfl (fun ls hl => ?_)
              refine lv_iinc (v := (u3 + 1)) (lv' := [(3, .int (u3 + 1)), (2, .int u3), (4, .int 1), (0, .ref ad.1), (1, .int x1)]) hx hb dX2_tightestRow_61 hl (k := 2) rfl rfl (by decide) rfl (fun ls hl => ?_)
              refine lv_goto (tgt := 5) hx hb dX2_tightestRow_64 (by decide) ?_
              have e9 := up_add (d := 1) (k := 1) (M := 4) rfl hi0 hi1 (by decide) (by decide)
              have e8 := nle_ti (k := 4) rfl c_1
              exact ih (u3 + 1) u3 (by rw [e9]; omega) (by rw [e9]; omega) (Or.inr (in_up (n := 4) rfl hi0 c_1)) (by rw [e9]; omega) (by rw [hR, mX2_tightestRow_L5, if_neg c_1, if_pos c_2, if_neg c_4, if_neg c_7, if_neg c_8]) _ (lv_sub hl [0, 1, 3, 4] rfl)
def mX2_tightestRow (σ : YS) (x1 : Int32) : Int32 := (mX2_tightestRow_L5 σ x1 6 0 (-5))
set_option maxHeartbeats 4000000 in
set_option maxRecDepth 100000 in
theorem k_X2_tightestRow (l : Launch) (g : WG) (ad : AY) (σ : YS) (x1 : Int32) (h_1 : vp_in x1 20) : Rd l yX2_tightestRow cX2_tightestRow 5 (some .int) 3 (Wl g (cY g ad σ) (fun _ => False)) [.ref ad.1, .int x1] (mX2_tightestRow σ x1) := by
  refine rd_of (by decide) (Nat.le_of_ble_eq_true rfl) ?_
  intro p e s m args below meth c ls hC hW hl
  obtain ⟨hP, hK, hE⟩ := hW
  obtain ⟨hx, hb, hml, hr, hown, hts, hlk, hnm⟩ := id hC
  have hl : lv_has ls 5 [(0, .ref ad.1), (1, .int x1)] := hl
  refine lv_bipush (v := (-5)) hx hb dX2_tightestRow_0 (by decide) ?_
  refine lv_istore_n (lv' := [(2, .int (-5)), (0, .ref ad.1), (1, .int x1)]) hx hb dX2_tightestRow_2 rfl hl (by decide) rfl (fun ls hl => ?_)
  refine lv_iconst (v := 0) hx hb dX2_tightestRow_3 (by decide) ?_
  refine lv_istore_n (lv' := [(3, .int 0), (2, .int (-5)), (0, .ref ad.1), (1, .int x1)]) hx hb dX2_tightestRow_4 rfl hl (by decide) rfl (fun ls hl => ?_)
  refine q_X2_tightestRow_5 l g ad σ x1 h_1 hC hP hK hE 6 0 (-5) (by decide) (by decide) (Or.inl rfl) (by decide) ?_ _ (lv_sub hl [0, 1, 2, 3] rfl)
  exact by unfold mX2_tightestRow; rfl
def mX2_putAtOuterEnd (σ : YS) (x1 : Int32) (x2 : Int32) : YS := (mX2_note (mX2_note σ x1 5 (mX2_boatsIn σ x2)) x1 4 x2)
set_option maxHeartbeats 4000000 in
set_option maxRecDepth 100000 in
theorem k_X2_putAtOuterEnd (l : Launch) (g : WG) (ad : AY) (σ : YS) (x1 : Int32) (x2 : Int32) (h_1 : vp_in x1 20) : Wv l yX2_putAtOuterEnd cX2_putAtOuterEnd 3 2 g (cY g ad σ) (cY g ad (mX2_putAtOuterEnd σ x1 x2)) [.ref ad.1, .int x1, .int x2] := by
  refine wv_of (by decide) (Nat.le_of_ble_eq_true rfl) ?_
  intro p e s m args below meth c ls A hC hAe hP hD hK hE hA hS hl
  obtain ⟨hx, hb, hml, hr, hown, hts, hlk, hnm⟩ := id hC
  have hl : lv_has ls 3 [(0, .ref ad.1), (1, .int x1), (2, .int x2)] := hl
  refine lv_aload_n hx hb dX2_putAtOuterEnd_0 rfl (lv_at hl 0 rfl) ?_
  refine lv_iload_n hx hb dX2_putAtOuterEnd_1 rfl (lv_at hl 1 rfl) ?_
  refine lv_iconst (v := 5) hx hb dX2_putAtOuterEnd_2 (by decide) ?_
  refine lv_aload_n hx hb dX2_putAtOuterEnd_3 rfl (lv_at hl 0 rfl) ?_
  refine lv_iload_n hx hb dX2_putAtOuterEnd_4 rfl (lv_at hl 2 rfl) ?_
  refine callRd hC (k_X2_boatsIn l g ad σ x2) ci_X2_boatsIn lk_X2_114 ⟨Nat.le_of_ble_eq_true rfl, Nat.le_of_ble_eq_true rfl⟩ hP hK (hE.S hS).none (q0 := 0) rfl rfl rfl rfl hl.1 rfl (Nat.le_of_ble_eq_true rfl) dX2_putAtOuterEnd_5 ⟨Nat.zero_le _, Nat.zero_le _⟩ ?_
  refine callWv hC (k_X2_note l g ad σ x1 5 (mX2_boatsIn σ x2) h_1 (in_iff.mpr (by decide))) ci_X2_note lk_X2_55 ⟨Nat.le_of_ble_eq_true rfl, Nat.le_of_ble_eq_true rfl⟩ hP hD hK hE hS hA (q0 := 0) rfl rfl rfl rfl hl.1 rfl (Nat.le_of_ble_eq_true rfl) dX2_putAtOuterEnd_8 ⟨Nat.zero_le _, Nat.zero_le _⟩ (fun H locs hP _ hD hS _ _ => ?_)
  refine lv_aload_n hx hb dX2_putAtOuterEnd_11 rfl (lv_at hl 0 rfl) ?_
  refine lv_iload_n hx hb dX2_putAtOuterEnd_12 rfl (lv_at hl 1 rfl) ?_
  refine lv_iconst (v := 4) hx hb dX2_putAtOuterEnd_13 (by decide) ?_
  refine lv_iload_n hx hb dX2_putAtOuterEnd_14 rfl (lv_at hl 2 rfl) ?_
  refine callWv hC (k_X2_note l g ad (mX2_note σ x1 5 (mX2_boatsIn σ x2)) x1 4 x2 h_1 (in_iff.mpr (by decide))) ci_X2_note lk_X2_55 ⟨Nat.le_of_ble_eq_true rfl, Nat.le_of_ble_eq_true rfl⟩ hP hD hK hE hS hA (q0 := 0) rfl rfl rfl rfl hl.1 rfl (Nat.le_of_ble_eq_true rfl) dX2_putAtOuterEnd_15 ⟨Nat.zero_le _, Nat.zero_le _⟩ (fun H locs hP _ hD hS _ _ => ?_)
  have hm : mX2_putAtOuterEnd σ x1 x2 = (mX2_note (mX2_note σ x1 5 (mX2_boatsIn σ x2)) x1 4 x2) := by unfold mX2_putAtOuterEnd; rfl
  exact wv_ret hC hP (hAe ▸ hD) (hAe ▸ hS) dX2_putAtOuterEnd_18 (by rw [hm])
def mX2_setting (σ : YS) (x1 : Int32) : Int32 := ((Y_settings σ) x1.toNatClampNeg)
set_option maxHeartbeats 4000000 in
set_option maxRecDepth 100000 in
theorem k_X2_setting (l : Launch) (g : WG) (ad : AY) (σ : YS) (x1 : Int32) (h_1 : vp_in x1 3) : Rd l yX2_setting cX2_setting 2 (some .int) 0 (Wl g (cY g ad σ) (fun _ => False)) [.ref ad.1, .int x1] (mX2_setting σ x1) := by
  refine rd_of (by decide) (Nat.le_of_ble_eq_true rfl) ?_
  intro p e s m args below meth c ls hC hW hl
  obtain ⟨hP, hK, hE⟩ := hW
  obtain ⟨hx, hb, hml, hr, hown, hts, hlk, hnm⟩ := id hC
  have hl : lv_has ls 2 [(0, .ref ad.1), (1, .int x1)] := hl
  refine lv_aload_n hx hb dX2_setting_0 rfl (lv_at hl 0 rfl) ?_
  refine gY_settings hC rfl hK hP dX2_setting_1 ?_
  refine lv_iload_n hx hb dX2_setting_4 rfl (lv_at hl 1 rfl) ?_
  refine lY_settings hC hK hP h_1 dX2_setting_5 ?_
  exact rd_ret hC dX2_setting_6 (Eq.symm (by unfold mX2_setting; rfl))
def mX2_changeSetting (σ : YS) (x1 : Int32) (x2 : Int32) : Int32 × YS := (if (mX3_within x1 0 (3 - 1)) = 0 then ((-1), σ) else (if (mX3_within x2 (tvL x1.toNatClampNeg) (tvG x1.toNatClampNeg)) = 0 then ((-2), σ) else (if ((Y_settings σ) x1.toNatClampNeg) = x2 then ((-5), σ) else (((Y_settings σ) x1.toNatClampNeg), (Y_set_settings σ (upd (Y_settings σ) x1.toNatClampNeg x2))))))
set_option maxHeartbeats 4000000 in
set_option maxRecDepth 100000 in
theorem k_X2_changeSetting (l : Launch) (g : WG) (ad : AY) (σ : YS) (x1 : Int32) (x2 : Int32) : Wr l yX2_changeSetting cX2_changeSetting 4 (some .int) 1 g (cY g ad σ) (cY g ad (mX2_changeSetting σ x1 x2).2) [.ref ad.1, .int x1, .int x2] (mX2_changeSetting σ x1 x2).1 := by
  refine wr_of (by decide) (Nat.le_of_ble_eq_true rfl) ?_
  intro p e s m args below meth c ls A hC hAe hP hD hK hE hA hS hl
  obtain ⟨hx, hb, hml, hr, hown, hts, hlk, hnm⟩ := id hC
  have hl : lv_has ls 4 [(0, .ref ad.1), (1, .int x1), (2, .int x2)] := hl
  refine lv_iload_n hx hb dX2_changeSetting_0 rfl (lv_at hl 1 rfl) ?_
  refine lv_iconst (v := 0) hx hb dX2_changeSetting_1 (by decide) ?_
  refine lv_aload_n hx hb dX2_changeSetting_2 rfl (lv_at hl 0 rfl) ?_
  refine gY_settings hC rfl hK hP dX2_changeSetting_3 ?_
  refine nY_settings hC hK hP dX2_changeSetting_6 ?_
  refine lv_iconst (v := 1) hx hb dX2_changeSetting_7 (by decide) ?_
  refine lv_isub hx hb dX2_changeSetting_8 ?_
  refine callRn hC (k_X3_within l g x1 0 (3 - 1)) ci_X3_within hE.2.1 ⟨Nat.le_of_ble_eq_true rfl, Nat.le_of_ble_eq_true rfl⟩ hK (hE.S hS).none rfl hl.1 rfl (Nat.le_of_ble_eq_true rfl) dX2_changeSetting_9 ⟨Nat.zero_le _, Nat.zero_le _⟩ ?_
  refine lv_if_ne (tgt := 17) hx hb dX2_changeSetting_12 (by decide) (fun c_1 => ?_) (fun c_1 => ?_)
  · refine lv_iload_n hx hb dX2_changeSetting_17 rfl (lv_at hl 2 rfl) ?_
    obtain ⟨t_2, hZt_2, hTt_2⟩ := hE.2.2.1
    refine va_gets hx hb hZt_2 hS hown (hts _ fl_X2_123) (fun _ h => h) dX2_changeSetting_18 ?_
    refine lv_iload_n hx hb dX2_changeSetting_21 rfl (lv_at hl 1 rfl) ?_
    refine va_ti (v := .int (tvL x1.toNatClampNeg)) hx hb hTt_2 hS (in_within (k := 2) rfl c_1) rfl dX2_changeSetting_22 ?_
    obtain ⟨t_3, hZt_3, hTt_3⟩ := hE.2.2.2.1
    refine va_gets hx hb hZt_3 hS hown (hts _ fl_X2_126) (fun _ h => h) dX2_changeSetting_23 ?_
    refine lv_iload_n hx hb dX2_changeSetting_26 rfl (lv_at hl 1 rfl) ?_
    refine va_ti (v := .int (tvG x1.toNatClampNeg)) hx hb hTt_3 hS (in_within (k := 2) rfl c_1) rfl dX2_changeSetting_27 ?_
    refine callRn hC (k_X3_within l g x2 (tvL x1.toNatClampNeg) (tvG x1.toNatClampNeg)) ci_X3_within hE.2.1 ⟨Nat.le_of_ble_eq_true rfl, Nat.le_of_ble_eq_true rfl⟩ hK (hE.S hS).none rfl hl.1 rfl (Nat.le_of_ble_eq_true rfl) dX2_changeSetting_28 ⟨Nat.zero_le _, Nat.zero_le _⟩ ?_
    refine lv_if_ne (tgt := 37) hx hb dX2_changeSetting_31 (by decide) (fun c_4 => ?_) (fun c_4 => ?_)
    · refine lv_aload_n hx hb dX2_changeSetting_37 rfl (lv_at hl 0 rfl) ?_
      refine gY_settings hC rfl hK hP dX2_changeSetting_38 ?_
      refine lv_iload_n hx hb dX2_changeSetting_41 rfl (lv_at hl 1 rfl) ?_
      refine lY_settings hC hK hP (in_within (k := 2) rfl c_1) dX2_changeSetting_42 ?_
      refine lv_istore_n (lv' := [(3, .int ((Y_settings σ) x1.toNatClampNeg)), (0, .ref ad.1), (1, .int x1), (2, .int x2)]) hx hb dX2_changeSetting_43 rfl hl (by decide) rfl (fun ls hl => ?_)
      refine lv_iload_n hx hb dX2_changeSetting_44 rfl (lv_at hl 0 rfl) ?_
      refine lv_iload_n hx hb dX2_changeSetting_45 rfl (lv_at hl 3 rfl) ?_
      refine lv_icmp_ne (tgt := 52) hx hb dX2_changeSetting_46 (by decide) (fun c_5 => ?_) (fun c_5 => ?_)
      · refine lv_aload_n hx hb dX2_changeSetting_52 rfl (lv_at hl 1 rfl) ?_
        refine gY_settings hC rfl hK hP dX2_changeSetting_53 ?_
        refine lv_iload_n hx hb dX2_changeSetting_56 rfl (lv_at hl 2 rfl) ?_
        refine lv_iload_n hx hb dX2_changeSetting_57 rfl (lv_at hl 3 rfl) ?_
        refine sY_settings hC hK hP hD hS (in_within (k := 2) rfl c_1) dX2_changeSetting_58 (fun H locs hP hD hS => ?_)
        refine lv_iload_n hx hb dX2_changeSetting_59 rfl (lv_at hl 0 rfl) ?_
        have hm : mX2_changeSetting σ x1 x2 = (((Y_settings σ) x1.toNatClampNeg), (Y_set_settings σ (upd (Y_settings σ) x1.toNatClampNeg x2))) := by unfold mX2_changeSetting; rw [if_neg c_1, if_neg c_4, if_neg c_5]
        exact wr_ret hC hP (hAe ▸ hD) (hAe ▸ hS) dX2_changeSetting_60 (by rw [hm]) (by rw [hm])
      · refine lv_bipush (v := (-5)) hx hb dX2_changeSetting_49 (by decide) ?_
        have hm : mX2_changeSetting σ x1 x2 = ((-5), σ) := by unfold mX2_changeSetting; rw [if_neg c_1, if_neg c_4, if_pos c_5]
        exact wr_ret hC hP (hAe ▸ hD) (hAe ▸ hS) dX2_changeSetting_51 (by rw [hm]) (by rw [hm])
    · refine lv_bipush (v := (-2)) hx hb dX2_changeSetting_34 (by decide) ?_
      have hm : mX2_changeSetting σ x1 x2 = ((-2), σ) := by unfold mX2_changeSetting; rw [if_neg c_1, if_pos c_4]
      exact wr_ret hC hP (hAe ▸ hD) (hAe ▸ hS) dX2_changeSetting_36 (by rw [hm]) (by rw [hm])
  · refine lv_iconst (v := (-1)) hx hb dX2_changeSetting_15 (by decide) ?_
    have hm : mX2_changeSetting σ x1 x2 = ((-1), σ) := by unfold mX2_changeSetting; rw [if_pos c_1]
    exact wr_ret hC hP (hAe ▸ hD) (hAe ▸ hS) dX2_changeSetting_16 (by rw [hm]) (by rw [hm])
def mX2_liftsLeft (σ : YS) : Int32 := (if 0 < (((Y_settings σ) (1 : Int32).toNatClampNeg) - (Y_liftsToday σ)) then (((Y_settings σ) (1 : Int32).toNatClampNeg) - (Y_liftsToday σ)) else 0)
set_option maxHeartbeats 4000000 in
set_option maxRecDepth 100000 in
theorem k_X2_liftsLeft (l : Launch) (g : WG) (ad : AY) (σ : YS) : Rd l yX2_liftsLeft cX2_liftsLeft 1 (some .int) 1 (Wl g (cY g ad σ) (fun _ => False)) [.ref ad.1] (mX2_liftsLeft σ) := by
  refine rd_of (by decide) (Nat.le_of_ble_eq_true rfl) ?_
  intro p e s m args below meth c ls hC hW hl
  obtain ⟨hP, hK, hE⟩ := hW
  obtain ⟨hx, hb, hml, hr, hown, hts, hlk, hnm⟩ := id hC
  have hl : lv_has ls 1 [(0, .ref ad.1)] := hl
  refine lv_iconst (v := 0) hx hb dX2_liftsLeft_0 (by decide) ?_
  refine lv_aload_n hx hb dX2_liftsLeft_1 rfl (lv_at hl 0 rfl) ?_
  refine gY_settings hC rfl hK hP dX2_liftsLeft_2 ?_
  refine lv_iconst (v := 1) hx hb dX2_liftsLeft_5 (by decide) ?_
  refine lY_settings hC hK hP (in_iff.mpr (by decide)) dX2_liftsLeft_6 ?_
  refine lv_aload_n hx hb dX2_liftsLeft_7 rfl (lv_at hl 0 rfl) ?_
  refine gY_liftsToday hC rfl hK hP dX2_liftsLeft_8 ?_
  refine lv_isub hx hb dX2_liftsLeft_11 ?_
  refine va_mmax hx hb (hml.trans hl.1.symm) hown (hts _ lk_X2_129) (hts _ stc_Lib_Math_max_name) (hts _ ini_java_lang_Math) (hts _ cod_max) (Nat.le_of_ble_eq_true rfl) (Nat.le_of_ble_eq_true rfl) (Nat.zero_le _) (Nat.zero_le _) dX2_liftsLeft_12 ?_
  exact rd_ret hC dX2_liftsLeft_15 (Eq.symm (by unfold mX2_liftsLeft; rfl))
def mX2_liftsSoFar (σ : YS) : Int32 := (Y_lifts σ)
set_option maxHeartbeats 4000000 in
set_option maxRecDepth 100000 in
theorem k_X2_liftsSoFar (l : Launch) (g : WG) (ad : AY) (σ : YS) : Rd l yX2_liftsSoFar cX2_liftsSoFar 1 (some .int) 0 (Wl g (cY g ad σ) (fun _ => False)) [.ref ad.1] (mX2_liftsSoFar σ) := by
  refine rd_of (by decide) (Nat.le_of_ble_eq_true rfl) ?_
  intro p e s m args below meth c ls hC hW hl
  obtain ⟨hP, hK, hE⟩ := hW
  obtain ⟨hx, hb, hml, hr, hown, hts, hlk, hnm⟩ := id hC
  have hl : lv_has ls 1 [(0, .ref ad.1)] := hl
  refine lv_aload_n hx hb dX2_liftsSoFar_0 rfl (lv_at hl 0 rfl) ?_
  refine gY_lifts hC rfl hK hP dX2_liftsSoFar_1 ?_
  exact rd_ret hC dX2_liftsSoFar_4 (Eq.symm (by unfold mX2_liftsSoFar; rfl))
def mX2_launchesSoFar (σ : YS) : Int32 := (Y_launches σ)
set_option maxHeartbeats 4000000 in
set_option maxRecDepth 100000 in
theorem k_X2_launchesSoFar (l : Launch) (g : WG) (ad : AY) (σ : YS) : Rd l yX2_launchesSoFar cX2_launchesSoFar 1 (some .int) 0 (Wl g (cY g ad σ) (fun _ => False)) [.ref ad.1] (mX2_launchesSoFar σ) := by
  refine rd_of (by decide) (Nat.le_of_ble_eq_true rfl) ?_
  intro p e s m args below meth c ls hC hW hl
  obtain ⟨hP, hK, hE⟩ := hW
  obtain ⟨hx, hb, hml, hr, hown, hts, hlk, hnm⟩ := id hC
  have hl : lv_has ls 1 [(0, .ref ad.1)] := hl
  refine lv_aload_n hx hb dX2_launchesSoFar_0 rfl (lv_at hl 0 rfl) ?_
  refine gY_launches hC rfl hK hP dX2_launchesSoFar_1 ?_
  exact rd_ret hC dX2_launchesSoFar_4 (Eq.symm (by unfold mX2_launchesSoFar; rfl))
end
section
def mX2_takeLift (σ : YS) : YS := (Y_set_lifts (Y_set_liftsToday σ ((Y_liftsToday σ) + 1)) ((Y_lifts (Y_set_liftsToday σ ((Y_liftsToday σ) + 1))) + 1))
set_option maxHeartbeats 4000000 in
set_option maxRecDepth 100000 in
theorem k_X2_takeLift (l : Launch) (g : WG) (ad : AY) (σ : YS) : Wv l yX2_takeLift cX2_takeLift 1 0 g (cY g ad σ) (cY g ad (mX2_takeLift σ)) [.ref ad.1] := by
  refine wv_of (by decide) (Nat.le_of_ble_eq_true rfl) ?_
  intro p e s m args below meth c ls A hC hAe hP hD hK hE hA hS hl
  obtain ⟨hx, hb, hml, hr, hown, hts, hlk, hnm⟩ := id hC
  have hl : lv_has ls 1 [(0, .ref ad.1)] := hl
  refine lv_aload_n hx hb dX2_takeLift_0 rfl (lv_at hl 0 rfl) ?_
  refine lv_dup hx hb dX2_takeLift_1 rfl ?_
  refine gY_liftsToday hC rfl hK hP dX2_takeLift_2 ?_
  refine lv_iconst (v := 1) hx hb dX2_takeLift_5 (by decide) ?_
  refine lv_iadd hx hb dX2_takeLift_6 ?_
  refine pY_liftsToday hC rfl hK hP hD hS dX2_takeLift_7 (fun H locs hP hD hS => ?_)
  refine lv_aload_n hx hb dX2_takeLift_10 rfl (lv_at hl 0 rfl) ?_
  refine lv_dup hx hb dX2_takeLift_11 rfl ?_
  refine gY_lifts hC rfl hK hP dX2_takeLift_12 ?_
  refine lv_iconst (v := 1) hx hb dX2_takeLift_15 (by decide) ?_
  refine lv_iadd hx hb dX2_takeLift_16 ?_
  refine pY_lifts hC rfl hK hP hD hS dX2_takeLift_17 (fun H locs hP hD hS => ?_)
  have hm : mX2_takeLift σ = (Y_set_lifts (Y_set_liftsToday σ ((Y_liftsToday σ) + 1)) ((Y_lifts (Y_set_liftsToday σ ((Y_liftsToday σ) + 1))) + 1)) := by unfold mX2_takeLift; rfl
  exact wv_ret hC hP (hAe ▸ hD) (hAe ▸ hS) dX2_takeLift_20 (by rw [hm])
def mX2_craneBears (σ : YS) (x1 : Int32) : Int32 := (if ((Y_settings σ) (2 : Int32).toNatClampNeg) < (mX2_fact σ x1 2) then 0 else 1)
set_option maxHeartbeats 4000000 in
set_option maxRecDepth 100000 in
theorem k_X2_craneBears (l : Launch) (g : WG) (ad : AY) (σ : YS) (x1 : Int32) (h_1 : vp_in x1 20) : Rd l yX2_craneBears cX2_craneBears 2 (some .boolean) 1 (Wl g (cY g ad σ) (fun _ => False)) [.ref ad.1, .int x1] (mX2_craneBears σ x1) := by
  refine rd_of (by decide) (Nat.le_of_ble_eq_true rfl) ?_
  intro p e s m args below meth c ls hC hW hl
  obtain ⟨hP, hK, hE⟩ := hW
  obtain ⟨hx, hb, hml, hr, hown, hts, hlk, hnm⟩ := id hC
  have hl : lv_has ls 2 [(0, .ref ad.1), (1, .int x1)] := hl
  refine lv_aload_n hx hb dX2_craneBears_0 rfl (lv_at hl 0 rfl) ?_
  refine lv_iload_n hx hb dX2_craneBears_1 rfl (lv_at hl 1 rfl) ?_
  refine lv_iconst (v := 2) hx hb dX2_craneBears_2 (by decide) ?_
  refine callRd hC (k_X2_fact l g ad σ x1 2 h_1 (in_iff.mpr (by decide))) ci_X2_fact lk_X2_51 ⟨Nat.le_of_ble_eq_true rfl, Nat.le_of_ble_eq_true rfl⟩ hP hK hE (q0 := 0) rfl rfl rfl rfl hl.1 rfl (Nat.le_of_ble_eq_true rfl) dX2_craneBears_3 ⟨Nat.zero_le _, Nat.zero_le _⟩ ?_
  refine lv_aload_n hx hb dX2_craneBears_6 rfl (lv_at hl 0 rfl) ?_
  refine gY_settings hC rfl hK hP dX2_craneBears_7 ?_
  refine lv_iconst (v := 2) hx hb dX2_craneBears_10 (by decide) ?_
  refine lY_settings hC hK hP (in_iff.mpr (by decide)) dX2_craneBears_11 ?_
  refine lv_icmp_gt (tgt := 19) hx hb dX2_craneBears_12 (by decide) (fun c_1 => ?_) (fun c_1 => ?_)
  · refine lv_iconst (v := 0) hx hb dX2_craneBears_19 (by decide) ?_
    exact rd_zret hC dX2_craneBears_20 rfl (Eq.symm (by unfold mX2_craneBears; rw [if_pos c_1]))
  · refine lv_iconst (v := 1) hx hb dX2_craneBears_15 (by decide) ?_
    refine lv_goto (tgt := 20) hx hb dX2_craneBears_16 (by decide) ?_
    exact rd_zret hC dX2_craneBears_20 rfl (Eq.symm (by unfold mX2_craneBears; rw [if_neg c_1]))
def mX2_tideOn (σ : YS) (x1 : Int32) : Int32 := (30 + (((Y_settings σ) (0 : Int32).toNatClampNeg) * (if 0 ≤ ((x1 - ((x1 / 14) * 14)) - 7) then ((x1 - ((x1 / 14) * 14)) - 7) else 0 - ((x1 - ((x1 / 14) * 14)) - 7))))
set_option maxHeartbeats 4000000 in
set_option maxRecDepth 100000 in
theorem k_X2_tideOn (l : Launch) (g : WG) (ad : AY) (σ : YS) (x1 : Int32) : Rd l yX2_tideOn cX2_tideOn 2 (some .int) 1 (Wl g (cY g ad σ) (fun _ => False)) [.ref ad.1, .int x1] (mX2_tideOn σ x1) := by
  refine rd_of (by decide) (Nat.le_of_ble_eq_true rfl) ?_
  intro p e s m args below meth c ls hC hW hl
  obtain ⟨hP, hK, hE⟩ := hW
  obtain ⟨hx, hb, hml, hr, hown, hts, hlk, hnm⟩ := id hC
  have hl : lv_has ls 2 [(0, .ref ad.1), (1, .int x1)] := hl
  refine lv_bipush (v := 30) hx hb dX2_tideOn_0 (by decide) ?_
  refine lv_aload_n hx hb dX2_tideOn_2 rfl (lv_at hl 0 rfl) ?_
  refine gY_settings hC rfl hK hP dX2_tideOn_3 ?_
  refine lv_iconst (v := 0) hx hb dX2_tideOn_6 (by decide) ?_
  refine lY_settings hC hK hP (in_iff.mpr (by decide)) dX2_tideOn_7 ?_
  refine lv_iload_n hx hb dX2_tideOn_8 rfl (lv_at hl 1 rfl) ?_
  refine lv_bipush (v := 14) hx hb dX2_tideOn_9 (by decide) ?_
  refine lv_irem hx hb dX2_tideOn_11 (by decide) ?_
  refine lv_bipush (v := 7) hx hb dX2_tideOn_12 (by decide) ?_
  refine lv_isub hx hb dX2_tideOn_14 ?_
  refine va_mabs hx hb (hml.trans hl.1.symm) hown (hts _ lk_X2_171) (hts _ stc_Lib_Math_abs_name) (hts _ ini_java_lang_Math) (hts _ cod_abs) (Nat.le_of_ble_eq_true rfl) (Nat.le_of_ble_eq_true rfl) (Nat.zero_le _) (Nat.zero_le _) dX2_tideOn_15 ?_
  refine lv_imul hx hb dX2_tideOn_18 ?_
  refine lv_iadd hx hb dX2_tideOn_19 ?_
  exact rd_ret hC dX2_tideOn_20 (Eq.symm (by unfold mX2_tideOn; rfl))
def mX2_isDeepEnough (σ : YS) (x1 : Int32) (x2 : Int32) : Int32 := (if (mX2_tideOn σ x2) < (mX2_fact σ x1 1) then 0 else 1)
set_option maxHeartbeats 4000000 in
set_option maxRecDepth 100000 in
theorem k_X2_isDeepEnough (l : Launch) (g : WG) (ad : AY) (σ : YS) (x1 : Int32) (x2 : Int32) (h_1 : vp_in x1 20) : Rd l yX2_isDeepEnough cX2_isDeepEnough 3 (some .boolean) 2 (Wl g (cY g ad σ) (fun _ => False)) [.ref ad.1, .int x1, .int x2] (mX2_isDeepEnough σ x1 x2) := by
  refine rd_of (by decide) (Nat.le_of_ble_eq_true rfl) ?_
  intro p e s m args below meth c ls hC hW hl
  obtain ⟨hP, hK, hE⟩ := hW
  obtain ⟨hx, hb, hml, hr, hown, hts, hlk, hnm⟩ := id hC
  have hl : lv_has ls 3 [(0, .ref ad.1), (1, .int x1), (2, .int x2)] := hl
  refine lv_aload_n hx hb dX2_isDeepEnough_0 rfl (lv_at hl 0 rfl) ?_
  refine lv_iload_n hx hb dX2_isDeepEnough_1 rfl (lv_at hl 1 rfl) ?_
  refine lv_iconst (v := 1) hx hb dX2_isDeepEnough_2 (by decide) ?_
  refine callRd hC (k_X2_fact l g ad σ x1 1 h_1 (in_iff.mpr (by decide))) ci_X2_fact lk_X2_51 ⟨Nat.le_of_ble_eq_true rfl, Nat.le_of_ble_eq_true rfl⟩ hP hK hE (q0 := 0) rfl rfl rfl rfl hl.1 rfl (Nat.le_of_ble_eq_true rfl) dX2_isDeepEnough_3 ⟨Nat.zero_le _, Nat.zero_le _⟩ ?_
  refine lv_aload_n hx hb dX2_isDeepEnough_6 rfl (lv_at hl 0 rfl) ?_
  refine lv_iload_n hx hb dX2_isDeepEnough_7 rfl (lv_at hl 2 rfl) ?_
  refine callRd hC (k_X2_tideOn l g ad σ x2) ci_X2_tideOn lk_X2_134 ⟨Nat.le_of_ble_eq_true rfl, Nat.le_of_ble_eq_true rfl⟩ hP hK hE (q0 := 0) rfl rfl rfl rfl hl.1 rfl (Nat.le_of_ble_eq_true rfl) dX2_isDeepEnough_8 ⟨Nat.zero_le _, Nat.zero_le _⟩ ?_
  refine lv_icmp_gt (tgt := 18) hx hb dX2_isDeepEnough_11 (by decide) (fun c_1 => ?_) (fun c_1 => ?_)
  · refine lv_iconst (v := 0) hx hb dX2_isDeepEnough_18 (by decide) ?_
    exact rd_zret hC dX2_isDeepEnough_19 rfl (Eq.symm (by unfold mX2_isDeepEnough; rw [if_pos c_1]))
  · refine lv_iconst (v := 1) hx hb dX2_isDeepEnough_14 (by decide) ?_
    refine lv_goto (tgt := 19) hx hb dX2_isDeepEnough_15 (by decide) ?_
    exact rd_zret hC dX2_isDeepEnough_19 rfl (Eq.symm (by unfold mX2_isDeepEnough; rw [if_neg c_1]))
def mX2_whyNoLift (σ : YS) (x1 : Int32) (x2 : Int32) : Int32 := (if (mX2_isAshore σ x1) = 0 then (if (mX2_isDeepEnough σ x1 (Y_day σ)) = 0 then 2 else (if (mX2_craneBears σ x1) = 0 then 3 else (if (mX2_cradleFor σ x1) = (-5) then 4 else (if (mX2_hasRoom σ x2 x1) = 0 then 5 else (if (mX2_hasMast σ x1) = 0 then (if (mX2_liftsLeft σ) ≤ 0 then 7 else 0) else (if (mX2_fact σ x1 0) < 10 then (if (mX2_liftsLeft σ) ≤ 0 then 7 else 0) else 6)))))) else 1)
set_option maxHeartbeats 4000000 in
set_option maxRecDepth 100000 in
theorem k_X2_whyNoLift (l : Launch) (g : WG) (ad : AY) (σ : YS) (x1 : Int32) (x2 : Int32) (h_1 : vp_in x1 20) (h_2 : vp_in x2 4) (h_keel : vp_in (mX2_fact σ x1 3) 3) : Rd l yX2_whyNoLift cX2_whyNoLift 3 (some .int) 3 (Wl g (cY g ad σ) (fun _ => False)) [.ref ad.1, .int x1, .int x2] (mX2_whyNoLift σ x1 x2) := by
  refine rd_of (by decide) (Nat.le_of_ble_eq_true rfl) ?_
  intro p e s m args below meth c ls hC hW hl
  obtain ⟨hP, hK, hE⟩ := hW
  obtain ⟨hx, hb, hml, hr, hown, hts, hlk, hnm⟩ := id hC
  have hl : lv_has ls 3 [(0, .ref ad.1), (1, .int x1), (2, .int x2)] := hl
  refine lv_aload_n hx hb dX2_whyNoLift_0 rfl (lv_at hl 0 rfl) ?_
  refine lv_iload_n hx hb dX2_whyNoLift_1 rfl (lv_at hl 1 rfl) ?_
  refine callRd hC (k_X2_isAshore l g ad σ x1 h_1) ci_X2_isAshore lk_X2_73 ⟨Nat.le_of_ble_eq_true rfl, Nat.le_of_ble_eq_true rfl⟩ hP hK hE (q0 := 0) rfl rfl rfl rfl hl.1 rfl (Nat.le_of_ble_eq_true rfl) dX2_whyNoLift_2 ⟨Nat.zero_le _, Nat.zero_le _⟩ ?_
  refine lv_if_eq (tgt := 10) hx hb dX2_whyNoLift_5 (by decide) (fun c_1 => ?_) (fun c_1 => ?_)
  · refine lv_aload_n hx hb dX2_whyNoLift_10 rfl (lv_at hl 0 rfl) ?_
    refine lv_iload_n hx hb dX2_whyNoLift_11 rfl (lv_at hl 1 rfl) ?_
    refine lv_aload_n hx hb dX2_whyNoLift_12 rfl (lv_at hl 0 rfl) ?_
    refine gY_day hC rfl hK hP dX2_whyNoLift_13 ?_
    refine callRd hC (k_X2_isDeepEnough l g ad σ x1 (Y_day σ) h_1) ci_X2_isDeepEnough lk_X2_137 ⟨Nat.le_of_ble_eq_true rfl, Nat.le_of_ble_eq_true rfl⟩ hP hK hE (q0 := 0) rfl rfl rfl rfl hl.1 rfl (Nat.le_of_ble_eq_true rfl) dX2_whyNoLift_16 ⟨Nat.zero_le _, Nat.zero_le _⟩ ?_
    refine lv_if_ne (tgt := 24) hx hb dX2_whyNoLift_19 (by decide) (fun c_2 => ?_) (fun c_2 => ?_)
    · refine lv_aload_n hx hb dX2_whyNoLift_24 rfl (lv_at hl 0 rfl) ?_
      refine lv_iload_n hx hb dX2_whyNoLift_25 rfl (lv_at hl 1 rfl) ?_
      refine callRd hC (k_X2_craneBears l g ad σ x1 h_1) ci_X2_craneBears lk_X2_140 ⟨Nat.le_of_ble_eq_true rfl, Nat.le_of_ble_eq_true rfl⟩ hP hK hE (q0 := 0) rfl rfl rfl rfl hl.1 rfl (Nat.le_of_ble_eq_true rfl) dX2_whyNoLift_26 ⟨Nat.zero_le _, Nat.zero_le _⟩ ?_
      refine lv_if_ne (tgt := 34) hx hb dX2_whyNoLift_29 (by decide) (fun c_3 => ?_) (fun c_3 => ?_)
      · refine lv_aload_n hx hb dX2_whyNoLift_34 rfl (lv_at hl 0 rfl) ?_
        refine lv_iload_n hx hb dX2_whyNoLift_35 rfl (lv_at hl 1 rfl) ?_
        refine callRd hC (k_X2_cradleFor l g ad σ x1 h_1 h_keel) ci_X2_cradleFor lk_X2_143 ⟨Nat.le_of_ble_eq_true rfl, Nat.le_of_ble_eq_true rfl⟩ hP hK hE (q0 := 0) rfl rfl rfl rfl hl.1 rfl (Nat.le_of_ble_eq_true rfl) dX2_whyNoLift_36 ⟨Nat.zero_le _, Nat.zero_le _⟩ ?_
        refine lv_bipush (v := (-5)) hx hb dX2_whyNoLift_39 (by decide) ?_
        refine lv_icmp_ne (tgt := 46) hx hb dX2_whyNoLift_41 (by decide) (fun c_4 => ?_) (fun c_4 => ?_)
        · refine lv_aload_n hx hb dX2_whyNoLift_46 rfl (lv_at hl 0 rfl) ?_
          refine lv_iload_n hx hb dX2_whyNoLift_47 rfl (lv_at hl 2 rfl) ?_
          refine lv_iload_n hx hb dX2_whyNoLift_48 rfl (lv_at hl 1 rfl) ?_
          refine callRd hC (k_X2_hasRoom l g ad σ x2 x1 h_2 h_1) ci_X2_hasRoom lk_X2_120 ⟨Nat.le_of_ble_eq_true rfl, Nat.le_of_ble_eq_true rfl⟩ hP hK hE (q0 := 0) rfl rfl rfl rfl hl.1 rfl (Nat.le_of_ble_eq_true rfl) dX2_whyNoLift_49 ⟨Nat.zero_le _, Nat.zero_le _⟩ ?_
          refine lv_if_ne (tgt := 57) hx hb dX2_whyNoLift_52 (by decide) (fun c_5 => ?_) (fun c_5 => ?_)
          · refine lv_aload_n hx hb dX2_whyNoLift_57 rfl (lv_at hl 0 rfl) ?_
            refine lv_iload_n hx hb dX2_whyNoLift_58 rfl (lv_at hl 1 rfl) ?_
            refine callRd hC (k_X2_hasMast l g ad σ x1 h_1) ci_X2_hasMast lk_X2_76 ⟨Nat.le_of_ble_eq_true rfl, Nat.le_of_ble_eq_true rfl⟩ hP hK hE (q0 := 0) rfl rfl rfl rfl hl.1 rfl (Nat.le_of_ble_eq_true rfl) dX2_whyNoLift_59 ⟨Nat.zero_le _, Nat.zero_le _⟩ ?_
            refine lv_if_eq (tgt := 79) hx hb dX2_whyNoLift_62 (by decide) (fun c_6 => ?_) (fun c_6 => ?_)
            · refine lv_aload_n hx hb dX2_whyNoLift_79 rfl (lv_at hl 0 rfl) ?_
              refine callRd hC (k_X2_liftsLeft l g ad σ) ci_X2_liftsLeft lk_X2_146 ⟨Nat.le_of_ble_eq_true rfl, Nat.le_of_ble_eq_true rfl⟩ hP hK hE (q0 := 0) rfl rfl rfl rfl hl.1 rfl (Nat.le_of_ble_eq_true rfl) dX2_whyNoLift_80 ⟨Nat.zero_le _, Nat.zero_le _⟩ ?_
              refine lv_if_le (tgt := 90) hx hb dX2_whyNoLift_83 (by decide) (fun c_7 => ?_) (fun c_7 => ?_)
              · refine lv_bipush (v := 7) hx hb dX2_whyNoLift_90 (by decide) ?_
                exact rd_ret hC dX2_whyNoLift_92 (Eq.symm (by unfold mX2_whyNoLift; rw [if_pos c_1, if_neg c_2, if_neg c_3, if_neg c_4, if_neg c_5, if_pos c_6, if_pos c_7]))
              · refine lv_iconst (v := 0) hx hb dX2_whyNoLift_86 (by decide) ?_
                refine lv_goto (tgt := 92) hx hb dX2_whyNoLift_87 (by decide) ?_
                exact rd_ret hC dX2_whyNoLift_92 (Eq.symm (by unfold mX2_whyNoLift; rw [if_pos c_1, if_neg c_2, if_neg c_3, if_neg c_4, if_neg c_5, if_pos c_6, if_neg c_7]))
            · refine lv_aload_n hx hb dX2_whyNoLift_65 rfl (lv_at hl 0 rfl) ?_
              refine lv_iload_n hx hb dX2_whyNoLift_66 rfl (lv_at hl 1 rfl) ?_
              refine lv_iconst (v := 0) hx hb dX2_whyNoLift_67 (by decide) ?_
              refine callRd hC (k_X2_fact l g ad σ x1 0 h_1 (in_iff.mpr (by decide))) ci_X2_fact lk_X2_51 ⟨Nat.le_of_ble_eq_true rfl, Nat.le_of_ble_eq_true rfl⟩ hP hK hE (q0 := 0) rfl rfl rfl rfl hl.1 rfl (Nat.le_of_ble_eq_true rfl) dX2_whyNoLift_68 ⟨Nat.zero_le _, Nat.zero_le _⟩ ?_
              refine lv_bipush (v := 10) hx hb dX2_whyNoLift_71 (by decide) ?_
              refine lv_icmp_lt (tgt := 79) hx hb dX2_whyNoLift_73 (by decide) (fun c_8 => ?_) (fun c_8 => ?_)
              · refine lv_aload_n hx hb dX2_whyNoLift_79 rfl (lv_at hl 0 rfl) ?_
                refine callRd hC (k_X2_liftsLeft l g ad σ) ci_X2_liftsLeft lk_X2_146 ⟨Nat.le_of_ble_eq_true rfl, Nat.le_of_ble_eq_true rfl⟩ hP hK hE (q0 := 0) rfl rfl rfl rfl hl.1 rfl (Nat.le_of_ble_eq_true rfl) dX2_whyNoLift_80 ⟨Nat.zero_le _, Nat.zero_le _⟩ ?_
                refine lv_if_le (tgt := 90) hx hb dX2_whyNoLift_83 (by decide) (fun c_9 => ?_) (fun c_9 => ?_)
                · refine lv_bipush (v := 7) hx hb dX2_whyNoLift_90 (by decide) ?_
                  exact rd_ret hC dX2_whyNoLift_92 (Eq.symm (by unfold mX2_whyNoLift; rw [if_pos c_1, if_neg c_2, if_neg c_3, if_neg c_4, if_neg c_5, if_neg c_6, if_pos c_8, if_pos c_9]))
                · refine lv_iconst (v := 0) hx hb dX2_whyNoLift_86 (by decide) ?_
                  refine lv_goto (tgt := 92) hx hb dX2_whyNoLift_87 (by decide) ?_
                  exact rd_ret hC dX2_whyNoLift_92 (Eq.symm (by unfold mX2_whyNoLift; rw [if_pos c_1, if_neg c_2, if_neg c_3, if_neg c_4, if_neg c_5, if_neg c_6, if_pos c_8, if_neg c_9]))
              · refine lv_bipush (v := 6) hx hb dX2_whyNoLift_76 (by decide) ?_
                exact rd_ret hC dX2_whyNoLift_78 (Eq.symm (by unfold mX2_whyNoLift; rw [if_pos c_1, if_neg c_2, if_neg c_3, if_neg c_4, if_neg c_5, if_neg c_6, if_neg c_8]))
          · refine lv_iconst (v := 5) hx hb dX2_whyNoLift_55 (by decide) ?_
            exact rd_ret hC dX2_whyNoLift_56 (Eq.symm (by unfold mX2_whyNoLift; rw [if_pos c_1, if_neg c_2, if_neg c_3, if_neg c_4, if_pos c_5]))
        · refine lv_iconst (v := 4) hx hb dX2_whyNoLift_44 (by decide) ?_
          exact rd_ret hC dX2_whyNoLift_45 (Eq.symm (by unfold mX2_whyNoLift; rw [if_pos c_1, if_neg c_2, if_neg c_3, if_pos c_4]))
      · refine lv_iconst (v := 3) hx hb dX2_whyNoLift_32 (by decide) ?_
        exact rd_ret hC dX2_whyNoLift_33 (Eq.symm (by unfold mX2_whyNoLift; rw [if_pos c_1, if_neg c_2, if_pos c_3]))
    · refine lv_iconst (v := 2) hx hb dX2_whyNoLift_22 (by decide) ?_
      exact rd_ret hC dX2_whyNoLift_23 (Eq.symm (by unfold mX2_whyNoLift; rw [if_pos c_1, if_pos c_2]))
  · refine lv_iconst (v := 1) hx hb dX2_whyNoLift_8 (by decide) ?_
    exact rd_ret hC dX2_whyNoLift_9 (Eq.symm (by unfold mX2_whyNoLift; rw [if_neg c_1]))
def KeelOK (σ : YS) : Prop := ∀ b : Int32, ¬ mX2_knows σ b = 0 → vp_in (mX2_fact σ b 3) 3
def mX2_liftInto (σ : YS) (x1 : Int32) (x2 : Int32) : Int32 × YS := (if (mX2_knows σ x1) = 0 then ((-1), σ) else (if (mX2_isRow x2) = 0 then ((-1), σ) else (if (mX2_whyNoLift σ x1 x2) = 0 then ((mX2_boatsIn (mX2_takeLift (mX2_note (mX2_putAtOuterEnd (mX2_note σ x1 6 (mX2_cradleFor σ x1)) x1 x2) x1 10 ((mX2_fact (mX2_putAtOuterEnd (mX2_note σ x1 6 (mX2_cradleFor σ x1)) x1 x2) x1 10) + 1))) x2), (mX2_takeLift (mX2_note (mX2_putAtOuterEnd (mX2_note σ x1 6 (mX2_cradleFor σ x1)) x1 x2) x1 10 ((mX2_fact (mX2_putAtOuterEnd (mX2_note σ x1 6 (mX2_cradleFor σ x1)) x1 x2) x1 10) + 1)))) else (((-10) - (mX2_whyNoLift σ x1 x2)), σ))))
set_option maxHeartbeats 4000000 in
set_option maxRecDepth 100000 in
theorem k_X2_liftInto (l : Launch) (g : WG) (ad : AY) (σ : YS) (x1 : Int32) (x2 : Int32) (h_keels : KeelOK σ) : Wr l yX2_liftInto cX2_liftInto 4 (some .int) 4 g (cY g ad σ) (cY g ad (mX2_liftInto σ x1 x2).2) [.ref ad.1, .int x1, .int x2] (mX2_liftInto σ x1 x2).1 := by
  refine wr_of (by decide) (Nat.le_of_ble_eq_true rfl) ?_
  intro p e s m args below meth c ls A hC hAe hP hD hK hE hA hS hl
  obtain ⟨hx, hb, hml, hr, hown, hts, hlk, hnm⟩ := id hC
  have hl : lv_has ls 4 [(0, .ref ad.1), (1, .int x1), (2, .int x2)] := hl
  refine lv_aload_n hx hb dX2_liftInto_0 rfl (lv_at hl 0 rfl) ?_
  refine lv_iload_n hx hb dX2_liftInto_1 rfl (lv_at hl 1 rfl) ?_
  refine callRd hC (k_X2_knows l g ad σ x1) ci_X2_knows lk_X2_70 ⟨Nat.le_of_ble_eq_true rfl, Nat.le_of_ble_eq_true rfl⟩ hP hK (hE.S hS).none (q0 := 0) rfl rfl rfl rfl hl.1 rfl (Nat.le_of_ble_eq_true rfl) dX2_liftInto_2 ⟨Nat.zero_le _, Nat.zero_le _⟩ ?_
  refine lv_if_eq (tgt := 15) hx hb dX2_liftInto_5 (by decide) (fun c_1 => ?_) (fun c_1 => ?_)
  · refine lv_iconst (v := (-1)) hx hb dX2_liftInto_15 (by decide) ?_
    have hm : mX2_liftInto σ x1 x2 = ((-1), σ) := by unfold mX2_liftInto; rw [if_pos c_1]
    exact wr_ret hC hP (hAe ▸ hD) (hAe ▸ hS) dX2_liftInto_16 (by rw [hm]) (by rw [hm])
  · refine lv_iload_n hx hb dX2_liftInto_8 rfl (lv_at hl 2 rfl) ?_
    refine callRs hC (k_X2_isRow l g x2) ci_X2_isRow lk_X2_117 ⟨Nat.le_of_ble_eq_true rfl, Nat.le_of_ble_eq_true rfl⟩ hK (hE.S hS).none rfl hl.1 rfl (Nat.le_of_ble_eq_true rfl) dX2_liftInto_9 ⟨Nat.zero_le _, Nat.zero_le _⟩ ?_
    refine lv_if_ne (tgt := 17) hx hb dX2_liftInto_12 (by decide) (fun c_2 => ?_) (fun c_2 => ?_)
    · refine lv_aload_n hx hb dX2_liftInto_17 rfl (lv_at hl 0 rfl) ?_
      refine lv_iload_n hx hb dX2_liftInto_18 rfl (lv_at hl 1 rfl) ?_
      refine lv_iload_n hx hb dX2_liftInto_19 rfl (lv_at hl 2 rfl) ?_
      refine callRd hC (k_X2_whyNoLift l g ad σ x1 x2 (in_X2_knows c_1) (in_X2_isRow c_2) (h_keels x1 c_1)) ci_X2_whyNoLift lk_X2_149 ⟨Nat.le_of_ble_eq_true rfl, Nat.le_of_ble_eq_true rfl⟩ hP hK (hE.S hS).none (q0 := 0) rfl rfl rfl rfl hl.1 rfl (Nat.le_of_ble_eq_true rfl) dX2_liftInto_20 ⟨Nat.zero_le _, Nat.zero_le _⟩ ?_
      refine lv_istore_n (lv' := [(3, .int (mX2_whyNoLift σ x1 x2)), (0, .ref ad.1), (1, .int x1), (2, .int x2)]) hx hb dX2_liftInto_23 rfl hl (by decide) rfl (fun ls hl => ?_)
      refine lv_iload_n hx hb dX2_liftInto_24 rfl (lv_at hl 0 rfl) ?_
      refine lv_if_eq (tgt := 33) hx hb dX2_liftInto_25 (by decide) (fun c_3 => ?_) (fun c_3 => ?_)
      · refine lv_aload_n hx hb dX2_liftInto_33 rfl (lv_at hl 1 rfl) ?_
        refine lv_iload_n hx hb dX2_liftInto_34 rfl (lv_at hl 2 rfl) ?_
        refine lv_bipush (v := 6) hx hb dX2_liftInto_35 (by decide) ?_
        refine lv_aload_n hx hb dX2_liftInto_37 rfl (lv_at hl 1 rfl) ?_
        refine lv_iload_n hx hb dX2_liftInto_38 rfl (lv_at hl 2 rfl) ?_
        refine callRd hC (k_X2_cradleFor l g ad σ x1 (in_X2_knows c_1) (h_keels x1 c_1)) ci_X2_cradleFor lk_X2_143 ⟨Nat.le_of_ble_eq_true rfl, Nat.le_of_ble_eq_true rfl⟩ hP hK (hE.S hS).none (q0 := 0) rfl rfl rfl rfl hl.1 rfl (Nat.le_of_ble_eq_true rfl) dX2_liftInto_39 ⟨Nat.zero_le _, Nat.zero_le _⟩ ?_
        refine callWv hC (k_X2_note l g ad σ x1 6 (mX2_cradleFor σ x1) (in_X2_knows c_1) (in_iff.mpr (by decide))) ci_X2_note lk_X2_55 ⟨Nat.le_of_ble_eq_true rfl, Nat.le_of_ble_eq_true rfl⟩ hP hD hK hE hS hA (q0 := 0) rfl rfl rfl rfl hl.1 rfl (Nat.le_of_ble_eq_true rfl) dX2_liftInto_42 ⟨Nat.zero_le _, Nat.zero_le _⟩ (fun H locs hP _ hD hS _ _ => ?_)
        refine lv_aload_n hx hb dX2_liftInto_45 rfl (lv_at hl 1 rfl) ?_
        refine lv_iload_n hx hb dX2_liftInto_46 rfl (lv_at hl 2 rfl) ?_
        refine lv_iload_n hx hb dX2_liftInto_47 rfl (lv_at hl 3 rfl) ?_
        refine callWv hC (k_X2_putAtOuterEnd l g ad (mX2_note σ x1 6 (mX2_cradleFor σ x1)) x1 x2 (in_X2_knows c_1)) ci_X2_putAtOuterEnd lk_X2_152 ⟨Nat.le_of_ble_eq_true rfl, Nat.le_of_ble_eq_true rfl⟩ hP hD hK hE hS hA (q0 := 0) rfl rfl rfl rfl hl.1 rfl (Nat.le_of_ble_eq_true rfl) dX2_liftInto_48 ⟨Nat.zero_le _, Nat.zero_le _⟩ (fun H locs hP _ hD hS _ _ => ?_)
        refine lv_aload_n hx hb dX2_liftInto_51 rfl (lv_at hl 1 rfl) ?_
        refine lv_iload_n hx hb dX2_liftInto_52 rfl (lv_at hl 2 rfl) ?_
        refine lv_bipush (v := 10) hx hb dX2_liftInto_53 (by decide) ?_
        refine lv_aload_n hx hb dX2_liftInto_55 rfl (lv_at hl 1 rfl) ?_
        refine lv_iload_n hx hb dX2_liftInto_56 rfl (lv_at hl 2 rfl) ?_
        refine lv_bipush (v := 10) hx hb dX2_liftInto_57 (by decide) ?_
        refine callRd hC (k_X2_fact l g ad (mX2_putAtOuterEnd (mX2_note σ x1 6 (mX2_cradleFor σ x1)) x1 x2) x1 10 (in_X2_knows c_1) (in_iff.mpr (by decide))) ci_X2_fact lk_X2_51 ⟨Nat.le_of_ble_eq_true rfl, Nat.le_of_ble_eq_true rfl⟩ hP hK (hE.S hS).none (q0 := 0) rfl rfl rfl rfl hl.1 rfl (Nat.le_of_ble_eq_true rfl) dX2_liftInto_59 ⟨Nat.zero_le _, Nat.zero_le _⟩ ?_
        refine lv_iconst (v := 1) hx hb dX2_liftInto_62 (by decide) ?_
        refine lv_iadd hx hb dX2_liftInto_63 ?_
        refine callWv hC (k_X2_note l g ad (mX2_putAtOuterEnd (mX2_note σ x1 6 (mX2_cradleFor σ x1)) x1 x2) x1 10 ((mX2_fact (mX2_putAtOuterEnd (mX2_note σ x1 6 (mX2_cradleFor σ x1)) x1 x2) x1 10) + 1) (in_X2_knows c_1) (in_iff.mpr (by decide))) ci_X2_note lk_X2_55 ⟨Nat.le_of_ble_eq_true rfl, Nat.le_of_ble_eq_true rfl⟩ hP hD hK hE hS hA (q0 := 0) rfl rfl rfl rfl hl.1 rfl (Nat.le_of_ble_eq_true rfl) dX2_liftInto_64 ⟨Nat.zero_le _, Nat.zero_le _⟩ (fun H locs hP _ hD hS _ _ => ?_)
        refine lv_aload_n hx hb dX2_liftInto_67 rfl (lv_at hl 1 rfl) ?_
        refine callWv hC (k_X2_takeLift l g ad (mX2_note (mX2_putAtOuterEnd (mX2_note σ x1 6 (mX2_cradleFor σ x1)) x1 x2) x1 10 ((mX2_fact (mX2_putAtOuterEnd (mX2_note σ x1 6 (mX2_cradleFor σ x1)) x1 x2) x1 10) + 1))) ci_X2_takeLift lk_X2_156 ⟨Nat.le_of_ble_eq_true rfl, Nat.le_of_ble_eq_true rfl⟩ hP hD hK hE hS hA (q0 := 0) rfl rfl rfl rfl hl.1 rfl (Nat.le_of_ble_eq_true rfl) dX2_liftInto_68 ⟨Nat.zero_le _, Nat.zero_le _⟩ (fun H locs hP _ hD hS _ _ => ?_)
        refine lv_aload_n hx hb dX2_liftInto_71 rfl (lv_at hl 1 rfl) ?_
        refine lv_iload_n hx hb dX2_liftInto_72 rfl (lv_at hl 3 rfl) ?_
        refine callRd hC (k_X2_boatsIn l g ad (mX2_takeLift (mX2_note (mX2_putAtOuterEnd (mX2_note σ x1 6 (mX2_cradleFor σ x1)) x1 x2) x1 10 ((mX2_fact (mX2_putAtOuterEnd (mX2_note σ x1 6 (mX2_cradleFor σ x1)) x1 x2) x1 10) + 1))) x2) ci_X2_boatsIn lk_X2_114 ⟨Nat.le_of_ble_eq_true rfl, Nat.le_of_ble_eq_true rfl⟩ hP hK (hE.S hS).none (q0 := 0) rfl rfl rfl rfl hl.1 rfl (Nat.le_of_ble_eq_true rfl) dX2_liftInto_73 ⟨Nat.zero_le _, Nat.zero_le _⟩ ?_
        have hm : mX2_liftInto σ x1 x2 = ((mX2_boatsIn (mX2_takeLift (mX2_note (mX2_putAtOuterEnd (mX2_note σ x1 6 (mX2_cradleFor σ x1)) x1 x2) x1 10 ((mX2_fact (mX2_putAtOuterEnd (mX2_note σ x1 6 (mX2_cradleFor σ x1)) x1 x2) x1 10) + 1))) x2), (mX2_takeLift (mX2_note (mX2_putAtOuterEnd (mX2_note σ x1 6 (mX2_cradleFor σ x1)) x1 x2) x1 10 ((mX2_fact (mX2_putAtOuterEnd (mX2_note σ x1 6 (mX2_cradleFor σ x1)) x1 x2) x1 10) + 1)))) := by unfold mX2_liftInto; rw [if_neg c_1, if_neg c_2, if_pos c_3]
        exact wr_ret hC hP (hAe ▸ hD) (hAe ▸ hS) dX2_liftInto_76 (by rw [hm]) (by rw [hm])
      · refine lv_bipush (v := (-10)) hx hb dX2_liftInto_28 (by decide) ?_
        refine lv_iload_n hx hb dX2_liftInto_30 rfl (lv_at hl 0 rfl) ?_
        refine lv_isub hx hb dX2_liftInto_31 ?_
        have hm : mX2_liftInto σ x1 x2 = (((-10) - (mX2_whyNoLift σ x1 x2)), σ) := by unfold mX2_liftInto; rw [if_neg c_1, if_neg c_2, if_neg c_3]
        exact wr_ret hC hP (hAe ▸ hD) (hAe ▸ hS) dX2_liftInto_32 (by rw [hm]) (by rw [hm])
    · refine lv_iconst (v := (-1)) hx hb dX2_liftInto_15 (by decide) ?_
      have hm : mX2_liftInto σ x1 x2 = ((-1), σ) := by unfold mX2_liftInto; rw [if_neg c_1, if_pos c_2]
      exact wr_ret hC hP (hAe ▸ hD) (hAe ▸ hS) dX2_liftInto_16 (by rw [hm]) (by rw [hm])
def mX2_whyNoLaunch (σ : YS) (x1 : Int32) : Int32 := (if (mX2_isAshore σ x1) = 0 then 1 else (if (mX2_fact σ x1 8) ≤ 0 then (if (mX2_boatsFartherOut σ x1) ≤ 0 then (if (mX2_isDeepEnough σ x1 (Y_day σ)) = 0 then 4 else (if (mX2_craneBears σ x1) = 0 then 5 else (if (mX2_liftsLeft σ) ≤ 0 then 6 else 0))) else 3) else 2))
set_option maxHeartbeats 4000000 in
set_option maxRecDepth 100000 in
theorem k_X2_whyNoLaunch (l : Launch) (g : WG) (ad : AY) (σ : YS) (x1 : Int32) (h_1 : vp_in x1 20) : Rd l yX2_whyNoLaunch cX2_whyNoLaunch 2 (some .int) 3 (Wl g (cY g ad σ) (fun _ => False)) [.ref ad.1, .int x1] (mX2_whyNoLaunch σ x1) := by
  refine rd_of (by decide) (Nat.le_of_ble_eq_true rfl) ?_
  intro p e s m args below meth c ls hC hW hl
  obtain ⟨hP, hK, hE⟩ := hW
  obtain ⟨hx, hb, hml, hr, hown, hts, hlk, hnm⟩ := id hC
  have hl : lv_has ls 2 [(0, .ref ad.1), (1, .int x1)] := hl
  refine lv_aload_n hx hb dX2_whyNoLaunch_0 rfl (lv_at hl 0 rfl) ?_
  refine lv_iload_n hx hb dX2_whyNoLaunch_1 rfl (lv_at hl 1 rfl) ?_
  refine callRd hC (k_X2_isAshore l g ad σ x1 h_1) ci_X2_isAshore lk_X2_73 ⟨Nat.le_of_ble_eq_true rfl, Nat.le_of_ble_eq_true rfl⟩ hP hK hE (q0 := 0) rfl rfl rfl rfl hl.1 rfl (Nat.le_of_ble_eq_true rfl) dX2_whyNoLaunch_2 ⟨Nat.zero_le _, Nat.zero_le _⟩ ?_
  refine lv_if_ne (tgt := 10) hx hb dX2_whyNoLaunch_5 (by decide) (fun c_1 => ?_) (fun c_1 => ?_)
  · refine lv_aload_n hx hb dX2_whyNoLaunch_10 rfl (lv_at hl 0 rfl) ?_
    refine lv_iload_n hx hb dX2_whyNoLaunch_11 rfl (lv_at hl 1 rfl) ?_
    refine lv_bipush (v := 8) hx hb dX2_whyNoLaunch_12 (by decide) ?_
    refine callRd hC (k_X2_fact l g ad σ x1 8 h_1 (in_iff.mpr (by decide))) ci_X2_fact lk_X2_51 ⟨Nat.le_of_ble_eq_true rfl, Nat.le_of_ble_eq_true rfl⟩ hP hK hE (q0 := 0) rfl rfl rfl rfl hl.1 rfl (Nat.le_of_ble_eq_true rfl) dX2_whyNoLaunch_14 ⟨Nat.zero_le _, Nat.zero_le _⟩ ?_
    refine lv_if_le (tgt := 22) hx hb dX2_whyNoLaunch_17 (by decide) (fun c_2 => ?_) (fun c_2 => ?_)
    · refine lv_aload_n hx hb dX2_whyNoLaunch_22 rfl (lv_at hl 0 rfl) ?_
      refine lv_iload_n hx hb dX2_whyNoLaunch_23 rfl (lv_at hl 1 rfl) ?_
      refine callRd hC (k_X2_boatsFartherOut l g ad σ x1 h_1) ci_X2_boatsFartherOut lk_X2_159 ⟨Nat.le_of_ble_eq_true rfl, Nat.le_of_ble_eq_true rfl⟩ hP hK hE (q0 := 0) rfl rfl rfl rfl hl.1 rfl (Nat.le_of_ble_eq_true rfl) dX2_whyNoLaunch_24 ⟨Nat.zero_le _, Nat.zero_le _⟩ ?_
      refine lv_if_le (tgt := 32) hx hb dX2_whyNoLaunch_27 (by decide) (fun c_3 => ?_) (fun c_3 => ?_)
      · refine lv_aload_n hx hb dX2_whyNoLaunch_32 rfl (lv_at hl 0 rfl) ?_
        refine lv_iload_n hx hb dX2_whyNoLaunch_33 rfl (lv_at hl 1 rfl) ?_
        refine lv_aload_n hx hb dX2_whyNoLaunch_34 rfl (lv_at hl 0 rfl) ?_
        refine gY_day hC rfl hK hP dX2_whyNoLaunch_35 ?_
        refine callRd hC (k_X2_isDeepEnough l g ad σ x1 (Y_day σ) h_1) ci_X2_isDeepEnough lk_X2_137 ⟨Nat.le_of_ble_eq_true rfl, Nat.le_of_ble_eq_true rfl⟩ hP hK hE (q0 := 0) rfl rfl rfl rfl hl.1 rfl (Nat.le_of_ble_eq_true rfl) dX2_whyNoLaunch_38 ⟨Nat.zero_le _, Nat.zero_le _⟩ ?_
        refine lv_if_ne (tgt := 46) hx hb dX2_whyNoLaunch_41 (by decide) (fun c_4 => ?_) (fun c_4 => ?_)
        · refine lv_aload_n hx hb dX2_whyNoLaunch_46 rfl (lv_at hl 0 rfl) ?_
          refine lv_iload_n hx hb dX2_whyNoLaunch_47 rfl (lv_at hl 1 rfl) ?_
          refine callRd hC (k_X2_craneBears l g ad σ x1 h_1) ci_X2_craneBears lk_X2_140 ⟨Nat.le_of_ble_eq_true rfl, Nat.le_of_ble_eq_true rfl⟩ hP hK hE (q0 := 0) rfl rfl rfl rfl hl.1 rfl (Nat.le_of_ble_eq_true rfl) dX2_whyNoLaunch_48 ⟨Nat.zero_le _, Nat.zero_le _⟩ ?_
          refine lv_if_ne (tgt := 56) hx hb dX2_whyNoLaunch_51 (by decide) (fun c_5 => ?_) (fun c_5 => ?_)
          · refine lv_aload_n hx hb dX2_whyNoLaunch_56 rfl (lv_at hl 0 rfl) ?_
            refine callRd hC (k_X2_liftsLeft l g ad σ) ci_X2_liftsLeft lk_X2_146 ⟨Nat.le_of_ble_eq_true rfl, Nat.le_of_ble_eq_true rfl⟩ hP hK hE (q0 := 0) rfl rfl rfl rfl hl.1 rfl (Nat.le_of_ble_eq_true rfl) dX2_whyNoLaunch_57 ⟨Nat.zero_le _, Nat.zero_le _⟩ ?_
            refine lv_if_le (tgt := 67) hx hb dX2_whyNoLaunch_60 (by decide) (fun c_6 => ?_) (fun c_6 => ?_)
            · refine lv_bipush (v := 6) hx hb dX2_whyNoLaunch_67 (by decide) ?_
              exact rd_ret hC dX2_whyNoLaunch_69 (Eq.symm (by unfold mX2_whyNoLaunch; rw [if_neg c_1, if_pos c_2, if_pos c_3, if_neg c_4, if_neg c_5, if_pos c_6]))
            · refine lv_iconst (v := 0) hx hb dX2_whyNoLaunch_63 (by decide) ?_
              refine lv_goto (tgt := 69) hx hb dX2_whyNoLaunch_64 (by decide) ?_
              exact rd_ret hC dX2_whyNoLaunch_69 (Eq.symm (by unfold mX2_whyNoLaunch; rw [if_neg c_1, if_pos c_2, if_pos c_3, if_neg c_4, if_neg c_5, if_neg c_6]))
          · refine lv_iconst (v := 5) hx hb dX2_whyNoLaunch_54 (by decide) ?_
            exact rd_ret hC dX2_whyNoLaunch_55 (Eq.symm (by unfold mX2_whyNoLaunch; rw [if_neg c_1, if_pos c_2, if_pos c_3, if_neg c_4, if_pos c_5]))
        · refine lv_iconst (v := 4) hx hb dX2_whyNoLaunch_44 (by decide) ?_
          exact rd_ret hC dX2_whyNoLaunch_45 (Eq.symm (by unfold mX2_whyNoLaunch; rw [if_neg c_1, if_pos c_2, if_pos c_3, if_pos c_4]))
      · refine lv_iconst (v := 3) hx hb dX2_whyNoLaunch_30 (by decide) ?_
        exact rd_ret hC dX2_whyNoLaunch_31 (Eq.symm (by unfold mX2_whyNoLaunch; rw [if_neg c_1, if_pos c_2, if_neg c_3]))
    · refine lv_iconst (v := 2) hx hb dX2_whyNoLaunch_20 (by decide) ?_
      exact rd_ret hC dX2_whyNoLaunch_21 (Eq.symm (by unfold mX2_whyNoLaunch; rw [if_neg c_1, if_neg c_2]))
  · refine lv_iconst (v := 1) hx hb dX2_whyNoLaunch_8 (by decide) ?_
    exact rd_ret hC dX2_whyNoLaunch_9 (Eq.symm (by unfold mX2_whyNoLaunch; rw [if_pos c_1]))
def mX2_putAfloat (σ : YS) (x1 : Int32) : Int32 × YS := (if (mX2_knows σ x1) = 0 then ((-1), σ) else (if (mX2_whyNoLaunch σ x1) = 0 then ((mX2_fact σ x1 9), (Y_set_launches (mX2_takeLift (mX2_noteAfloat σ x1)) ((Y_launches (mX2_takeLift (mX2_noteAfloat σ x1))) + 1))) else (((-10) - (mX2_whyNoLaunch σ x1)), σ)))
set_option maxHeartbeats 4000000 in
set_option maxRecDepth 100000 in
theorem k_X2_putAfloat (l : Launch) (g : WG) (ad : AY) (σ : YS) (x1 : Int32) : Wr l yX2_putAfloat cX2_putAfloat 4 (some .int) 4 g (cY g ad σ) (cY g ad (mX2_putAfloat σ x1).2) [.ref ad.1, .int x1] (mX2_putAfloat σ x1).1 := by
  refine wr_of (by decide) (Nat.le_of_ble_eq_true rfl) ?_
  intro p e s m args below meth c ls A hC hAe hP hD hK hE hA hS hl
  obtain ⟨hx, hb, hml, hr, hown, hts, hlk, hnm⟩ := id hC
  have hl : lv_has ls 4 [(0, .ref ad.1), (1, .int x1)] := hl
  refine lv_aload_n hx hb dX2_putAfloat_0 rfl (lv_at hl 0 rfl) ?_
  refine lv_iload_n hx hb dX2_putAfloat_1 rfl (lv_at hl 1 rfl) ?_
  refine callRd hC (k_X2_knows l g ad σ x1) ci_X2_knows lk_X2_70 ⟨Nat.le_of_ble_eq_true rfl, Nat.le_of_ble_eq_true rfl⟩ hP hK (hE.S hS).none (q0 := 0) rfl rfl rfl rfl hl.1 rfl (Nat.le_of_ble_eq_true rfl) dX2_putAfloat_2 ⟨Nat.zero_le _, Nat.zero_le _⟩ ?_
  refine lv_if_ne (tgt := 10) hx hb dX2_putAfloat_5 (by decide) (fun c_1 => ?_) (fun c_1 => ?_)
  · refine lv_aload_n hx hb dX2_putAfloat_10 rfl (lv_at hl 0 rfl) ?_
    refine lv_iload_n hx hb dX2_putAfloat_11 rfl (lv_at hl 1 rfl) ?_
    refine callRd hC (k_X2_whyNoLaunch l g ad σ x1 (in_X2_knows c_1)) ci_X2_whyNoLaunch lk_X2_162 ⟨Nat.le_of_ble_eq_true rfl, Nat.le_of_ble_eq_true rfl⟩ hP hK (hE.S hS).none (q0 := 0) rfl rfl rfl rfl hl.1 rfl (Nat.le_of_ble_eq_true rfl) dX2_putAfloat_12 ⟨Nat.zero_le _, Nat.zero_le _⟩ ?_
    refine lv_istore_n (lv' := [(2, .int (mX2_whyNoLaunch σ x1)), (0, .ref ad.1), (1, .int x1)]) hx hb dX2_putAfloat_15 rfl hl (by decide) rfl (fun ls hl => ?_)
    refine lv_iload_n hx hb dX2_putAfloat_16 rfl (lv_at hl 0 rfl) ?_
    refine lv_if_eq (tgt := 25) hx hb dX2_putAfloat_17 (by decide) (fun c_2 => ?_) (fun c_2 => ?_)
    · refine lv_aload_n hx hb dX2_putAfloat_25 rfl (lv_at hl 1 rfl) ?_
      refine lv_iload_n hx hb dX2_putAfloat_26 rfl (lv_at hl 2 rfl) ?_
      refine lv_bipush (v := 9) hx hb dX2_putAfloat_27 (by decide) ?_
      refine callRd hC (k_X2_fact l g ad σ x1 9 (in_X2_knows c_1) (in_iff.mpr (by decide))) ci_X2_fact lk_X2_51 ⟨Nat.le_of_ble_eq_true rfl, Nat.le_of_ble_eq_true rfl⟩ hP hK (hE.S hS).none (q0 := 0) rfl rfl rfl rfl hl.1 rfl (Nat.le_of_ble_eq_true rfl) dX2_putAfloat_29 ⟨Nat.zero_le _, Nat.zero_le _⟩ ?_
      refine lv_istore_n (lv' := [(3, .int (mX2_fact σ x1 9)), (2, .int (mX2_whyNoLaunch σ x1)), (0, .ref ad.1), (1, .int x1)]) hx hb dX2_putAfloat_32 rfl hl (by decide) rfl (fun ls hl => ?_)
      refine lv_aload_n hx hb dX2_putAfloat_33 rfl (lv_at hl 2 rfl) ?_
      refine lv_iload_n hx hb dX2_putAfloat_34 rfl (lv_at hl 3 rfl) ?_
      refine callWv hC (k_X2_noteAfloat l g ad σ x1 (in_X2_knows c_1)) ci_X2_noteAfloat lk_X2_67 ⟨Nat.le_of_ble_eq_true rfl, Nat.le_of_ble_eq_true rfl⟩ hP hD hK hE hS hA (q0 := 0) rfl rfl rfl rfl hl.1 rfl (Nat.le_of_ble_eq_true rfl) dX2_putAfloat_35 ⟨Nat.zero_le _, Nat.zero_le _⟩ (fun H locs hP _ hD hS _ _ => ?_)
      refine lv_aload_n hx hb dX2_putAfloat_38 rfl (lv_at hl 2 rfl) ?_
      refine callWv hC (k_X2_takeLift l g ad (mX2_noteAfloat σ x1)) ci_X2_takeLift lk_X2_156 ⟨Nat.le_of_ble_eq_true rfl, Nat.le_of_ble_eq_true rfl⟩ hP hD hK hE hS hA (q0 := 0) rfl rfl rfl rfl hl.1 rfl (Nat.le_of_ble_eq_true rfl) dX2_putAfloat_39 ⟨Nat.zero_le _, Nat.zero_le _⟩ (fun H locs hP _ hD hS _ _ => ?_)
      refine lv_aload_n hx hb dX2_putAfloat_42 rfl (lv_at hl 2 rfl) ?_
      refine lv_dup hx hb dX2_putAfloat_43 rfl ?_
      refine gY_launches hC rfl hK hP dX2_putAfloat_44 ?_
      refine lv_iconst (v := 1) hx hb dX2_putAfloat_47 (by decide) ?_
      refine lv_iadd hx hb dX2_putAfloat_48 ?_
      refine pY_launches hC rfl hK hP hD hS dX2_putAfloat_49 (fun H locs hP hD hS => ?_)
      refine lv_iload_n hx hb dX2_putAfloat_52 rfl (lv_at hl 0 rfl) ?_
      have hm : mX2_putAfloat σ x1 = ((mX2_fact σ x1 9), (Y_set_launches (mX2_takeLift (mX2_noteAfloat σ x1)) ((Y_launches (mX2_takeLift (mX2_noteAfloat σ x1))) + 1))) := by unfold mX2_putAfloat; rw [if_neg c_1, if_pos c_2]
      exact wr_ret hC hP (hAe ▸ hD) (hAe ▸ hS) dX2_putAfloat_53 (by rw [hm]) (by rw [hm])
    · refine lv_bipush (v := (-10)) hx hb dX2_putAfloat_20 (by decide) ?_
      refine lv_iload_n hx hb dX2_putAfloat_22 rfl (lv_at hl 0 rfl) ?_
      refine lv_isub hx hb dX2_putAfloat_23 ?_
      have hm : mX2_putAfloat σ x1 = (((-10) - (mX2_whyNoLaunch σ x1)), σ) := by unfold mX2_putAfloat; rw [if_neg c_1, if_neg c_2]
      exact wr_ret hC hP (hAe ▸ hD) (hAe ▸ hS) dX2_putAfloat_24 (by rw [hm]) (by rw [hm])
  · refine lv_iconst (v := (-1)) hx hb dX2_putAfloat_8 (by decide) ?_
    have hm : mX2_putAfloat σ x1 = ((-1), σ) := by unfold mX2_putAfloat; rw [if_pos c_1]
    exact wr_ret hC hP (hAe ▸ hD) (hAe ▸ hS) dX2_putAfloat_9 (by rw [hm]) (by rw [hm])
def mX2_firstLaunchDay_L19 (σ : YS) (x1 : Int32) : Nat → Int32 → Int32
  | 0, _ => 0
  | n + 1, u2 => (if 200 < u2 then (-5) else (if 0 < u2 then (if (mX2_isDeepEnough σ x1 ((Y_day σ) + u2)) = 0 then (mX2_firstLaunchDay_L19 σ x1 n (u2 + 1)) else ((Y_day σ) + u2)) else (if (mX2_liftsLeft σ) ≤ 0 then (mX2_firstLaunchDay_L19 σ x1 n (u2 + 1)) else (if (mX2_isDeepEnough σ x1 ((Y_day σ) + u2)) = 0 then (mX2_firstLaunchDay_L19 σ x1 n (u2 + 1)) else ((Y_day σ) + u2)))))
set_option maxHeartbeats 4000000 in
set_option maxRecDepth 100000 in
theorem q_X2_firstLaunchDay_19 {p : Program} {e : Env} {s : State} {m : MethodId} {args : Array Value} {below : List Frame} {meth : Method} {c : Code} (l : Launch) (g : WG) (ad : AY) (σ : YS) (x1 : Int32) (h_1 : vp_in x1 20) (h_work : 0 ≤ (mX2_fact σ x1 8).toInt) (hC : Cx p s m args meth c yX2_firstLaunchDay cX2_firstLaunchDay 4 (some .int)) (hP : va_P g.1 vwCl (cY g ad σ) s.heap) (hK : va_K g.1 vwCl (tysW g) s) (hE : Ex (fun _ => False) s s.heap) {r : Int32} : ∀ (n : Nat) (u2 : Int32) (hi0 : 0 ≤ u2.toInt) (hm : ((201 : Int) - u2.toInt).toNat < n) (hR : r = mX2_firstLaunchDay_L19 σ x1 n u2) (ls : Array Slot) (hl : lv_has ls 4 [(2, .int u2), (0, .ref ad.1), (1, .int x1)]), W p l e (rk 3) s m args below meth c s.heap [] 0 0 (MQ below (vp_Si (fun x => x = r)) args s 0 0 (fun _ => False)) (F0 m 19 ls []) := by
  obtain ⟨hx, hb, hml, hr, hown, hts, hlk, hnm⟩ := id hC
  intro n
  induction n with
  | zero => intro u2 hi0 hm hR ls hl; exact absurd hm (Nat.not_lt_zero _)
  | succ n ih =>
    intro u2 hi0 hm hR ls hl
    refine lv_iload_n hx hb dX2_firstLaunchDay_19 rfl (lv_at hl 0 rfl) ?_
    refine lv_sipush (v := 200) hx hb dX2_firstLaunchDay_20 (by decide) ?_
    refine lv_icmp_gt (tgt := 74) hx hb dX2_firstLaunchDay_23 (by decide) (fun c_2 => ?_) (fun c_2 => ?_)
    · refine lv_bipush (v := (-5)) hx hb dX2_firstLaunchDay_74 (by decide) ?_
      exact rd_ret hC dX2_firstLaunchDay_76 (Eq.symm (by rw [hR, mX2_firstLaunchDay_L19, if_pos c_2]))
    · refine lv_iload_n hx hb dX2_firstLaunchDay_26 rfl (lv_at hl 0 rfl) ?_
      refine lv_if_gt (tgt := 37) hx hb dX2_firstLaunchDay_27 (by decide) (fun c_3 => ?_) (fun c_3 => ?_)
      · refine lv_iconst (v := 1) hx hb dX2_firstLaunchDay_37 (by decide) ?_
        refine lv_goto (tgt := 42) hx hb dX2_firstLaunchDay_38 (by decide) ?_
        refine lv_istore_n (lv' := [(3, .int 1), (2, .int u2), (0, .ref ad.1), (1, .int x1)]) hx hb dX2_firstLaunchDay_42 rfl hl (by decide) rfl (fun ls hl => ?_)
        refine lv_iload_n hx hb dX2_firstLaunchDay_43 rfl (lv_at hl 0 rfl) ?_
        refine lv_if_eq (tgt := 68) hx hb dX2_firstLaunchDay_44 (by decide) (fun c_4 => absurd c_4 (by decide)) (fun c_4 => ?_)
        refine lv_aload_n hx hb dX2_firstLaunchDay_47 rfl (lv_at hl 2 rfl) ?_
        refine lv_iload_n hx hb dX2_firstLaunchDay_48 rfl (lv_at hl 3 rfl) ?_
        refine lv_aload_n hx hb dX2_firstLaunchDay_49 rfl (lv_at hl 2 rfl) ?_
        refine gY_day hC rfl hK hP dX2_firstLaunchDay_50 ?_
        refine lv_iload_n hx hb dX2_firstLaunchDay_53 rfl (lv_at hl 1 rfl) ?_
        refine lv_iadd hx hb dX2_firstLaunchDay_54 ?_
        refine callRd hC (k_X2_isDeepEnough l g ad σ x1 ((Y_day σ) + u2) h_1) ci_X2_isDeepEnough lk_X2_137 ⟨Nat.le_of_ble_eq_true rfl, Nat.le_of_ble_eq_true rfl⟩ hP hK hE (q0 := 0) rfl rfl rfl rfl hl.1 rfl (Nat.le_of_ble_eq_true rfl) dX2_firstLaunchDay_55 ⟨Nat.zero_le _, Nat.zero_le _⟩ ?_
        refine lv_if_eq (tgt := 68) hx hb dX2_firstLaunchDay_58 (by decide) (fun c_5 => ?_) (fun c_5 => ?_)
        · refine lv_iinc (v := (u2 + 1)) (lv' := [(2, .int (u2 + 1)), (3, .int 1), (0, .ref ad.1), (1, .int x1)]) hx hb dX2_firstLaunchDay_68 hl (k := 1) rfl rfl (by decide) rfl (fun ls hl => ?_)
          refine lv_goto (tgt := 19) hx hb dX2_firstLaunchDay_71 (by decide) ?_
          have e8 := nlt_ti (k := 200) rfl c_2
          have e9 := up_add (d := 1) (k := 1) (M := 200) rfl hi0 e8 (by decide) (by decide)
          exact ih (u2 + 1) (by rw [e9]; omega) (by rw [e9]; omega) (by rw [hR, mX2_firstLaunchDay_L19, if_neg c_2, if_pos c_3, if_pos c_5]) _ (lv_sub hl [0, 2, 3] rfl)
        · refine lv_aload_n hx hb dX2_firstLaunchDay_61 rfl (lv_at hl 2 rfl) ?_
          refine gY_day hC rfl hK hP dX2_firstLaunchDay_62 ?_
          refine lv_iload_n hx hb dX2_firstLaunchDay_65 rfl (lv_at hl 1 rfl) ?_
          refine lv_iadd hx hb dX2_firstLaunchDay_66 ?_
          exact rd_ret hC dX2_firstLaunchDay_67 (Eq.symm (by rw [hR, mX2_firstLaunchDay_L19, if_neg c_2, if_pos c_3, if_neg c_5]))
      · refine lv_aload_n hx hb dX2_firstLaunchDay_30 rfl (lv_at hl 1 rfl) ?_
        refine callRd hC (k_X2_liftsLeft l g ad σ) ci_X2_liftsLeft lk_X2_146 ⟨Nat.le_of_ble_eq_true rfl, Nat.le_of_ble_eq_true rfl⟩ hP hK hE (q0 := 0) rfl rfl rfl rfl hl.1 rfl (Nat.le_of_ble_eq_true rfl) dX2_firstLaunchDay_31 ⟨Nat.zero_le _, Nat.zero_le _⟩ ?_
        refine lv_if_le (tgt := 41) hx hb dX2_firstLaunchDay_34 (by decide) (fun c_6 => ?_) (fun c_6 => ?_)
        · refine lv_iconst (v := 0) hx hb dX2_firstLaunchDay_41 (by decide) ?_
          refine lv_istore_n (lv' := [(3, .int 0), (2, .int u2), (0, .ref ad.1), (1, .int x1)]) hx hb dX2_firstLaunchDay_42 rfl hl (by decide) rfl (fun ls hl => ?_)
          refine lv_iload_n hx hb dX2_firstLaunchDay_43 rfl (lv_at hl 0 rfl) ?_
          refine lv_if_eq (tgt := 68) hx hb dX2_firstLaunchDay_44 (by decide) (fun c_7 => ?_) (fun c_7 => absurd c_7 (by decide))
          refine lv_iinc (v := (u2 + 1)) (lv' := [(2, .int (u2 + 1)), (3, .int 0), (0, .ref ad.1), (1, .int x1)]) hx hb dX2_firstLaunchDay_68 hl (k := 1) rfl rfl (by decide) rfl (fun ls hl => ?_)
          refine lv_goto (tgt := 19) hx hb dX2_firstLaunchDay_71 (by decide) ?_
          have e8 := nlt_ti (k := 200) rfl c_2
          have e9 := up_add (d := 1) (k := 1) (M := 200) rfl hi0 e8 (by decide) (by decide)
          exact ih (u2 + 1) (by rw [e9]; omega) (by rw [e9]; omega) (by rw [hR, mX2_firstLaunchDay_L19, if_neg c_2, if_neg c_3, if_pos c_6]) _ (lv_sub hl [0, 2, 3] rfl)
        · refine lv_iconst (v := 1) hx hb dX2_firstLaunchDay_37 (by decide) ?_
          refine lv_goto (tgt := 42) hx hb dX2_firstLaunchDay_38 (by decide) ?_
          refine lv_istore_n (lv' := [(3, .int 1), (2, .int u2), (0, .ref ad.1), (1, .int x1)]) hx hb dX2_firstLaunchDay_42 rfl hl (by decide) rfl (fun ls hl => ?_)
          refine lv_iload_n hx hb dX2_firstLaunchDay_43 rfl (lv_at hl 0 rfl) ?_
          refine lv_if_eq (tgt := 68) hx hb dX2_firstLaunchDay_44 (by decide) (fun c_8 => absurd c_8 (by decide)) (fun c_8 => ?_)
          refine lv_aload_n hx hb dX2_firstLaunchDay_47 rfl (lv_at hl 2 rfl) ?_
          refine lv_iload_n hx hb dX2_firstLaunchDay_48 rfl (lv_at hl 3 rfl) ?_
          refine lv_aload_n hx hb dX2_firstLaunchDay_49 rfl (lv_at hl 2 rfl) ?_
          refine gY_day hC rfl hK hP dX2_firstLaunchDay_50 ?_
          refine lv_iload_n hx hb dX2_firstLaunchDay_53 rfl (lv_at hl 1 rfl) ?_
          refine lv_iadd hx hb dX2_firstLaunchDay_54 ?_
          refine callRd hC (k_X2_isDeepEnough l g ad σ x1 ((Y_day σ) + u2) h_1) ci_X2_isDeepEnough lk_X2_137 ⟨Nat.le_of_ble_eq_true rfl, Nat.le_of_ble_eq_true rfl⟩ hP hK hE (q0 := 0) rfl rfl rfl rfl hl.1 rfl (Nat.le_of_ble_eq_true rfl) dX2_firstLaunchDay_55 ⟨Nat.zero_le _, Nat.zero_le _⟩ ?_
          refine lv_if_eq (tgt := 68) hx hb dX2_firstLaunchDay_58 (by decide) (fun c_9 => ?_) (fun c_9 => ?_)
          · refine lv_iinc (v := (u2 + 1)) (lv' := [(2, .int (u2 + 1)), (3, .int 1), (0, .ref ad.1), (1, .int x1)]) hx hb dX2_firstLaunchDay_68 hl (k := 1) rfl rfl (by decide) rfl (fun ls hl => ?_)
            refine lv_goto (tgt := 19) hx hb dX2_firstLaunchDay_71 (by decide) ?_
            have e8 := nlt_ti (k := 200) rfl c_2
            have e9 := up_add (d := 1) (k := 1) (M := 200) rfl hi0 e8 (by decide) (by decide)
            exact ih (u2 + 1) (by rw [e9]; omega) (by rw [e9]; omega) (by rw [hR, mX2_firstLaunchDay_L19, if_neg c_2, if_neg c_3, if_neg c_6, if_pos c_9]) _ (lv_sub hl [0, 2, 3] rfl)
          · refine lv_aload_n hx hb dX2_firstLaunchDay_61 rfl (lv_at hl 2 rfl) ?_
            refine gY_day hC rfl hK hP dX2_firstLaunchDay_62 ?_
            refine lv_iload_n hx hb dX2_firstLaunchDay_65 rfl (lv_at hl 1 rfl) ?_
            refine lv_iadd hx hb dX2_firstLaunchDay_66 ?_
            exact rd_ret hC dX2_firstLaunchDay_67 (Eq.symm (by rw [hR, mX2_firstLaunchDay_L19, if_neg c_2, if_neg c_3, if_neg c_6, if_neg c_9]))
def mX2_firstLaunchDay (σ : YS) (x1 : Int32) : Int32 := (if (mX2_craneBears σ x1) = 0 then (-5) else (mX2_firstLaunchDay_L19 σ x1 202 (mX2_fact σ x1 8)))
set_option maxHeartbeats 4000000 in
set_option maxRecDepth 100000 in
theorem k_X2_firstLaunchDay (l : Launch) (g : WG) (ad : AY) (σ : YS) (x1 : Int32) (h_1 : vp_in x1 20) (h_work : 0 ≤ (mX2_fact σ x1 8).toInt) : Rd l yX2_firstLaunchDay cX2_firstLaunchDay 4 (some .int) 3 (Wl g (cY g ad σ) (fun _ => False)) [.ref ad.1, .int x1] (mX2_firstLaunchDay σ x1) := by
  refine rd_of (by decide) (Nat.le_of_ble_eq_true rfl) ?_
  intro p e s m args below meth c ls hC hW hl
  obtain ⟨hP, hK, hE⟩ := hW
  obtain ⟨hx, hb, hml, hr, hown, hts, hlk, hnm⟩ := id hC
  have hl : lv_has ls 4 [(0, .ref ad.1), (1, .int x1)] := hl
  refine lv_aload_n hx hb dX2_firstLaunchDay_0 rfl (lv_at hl 0 rfl) ?_
  refine lv_iload_n hx hb dX2_firstLaunchDay_1 rfl (lv_at hl 1 rfl) ?_
  refine callRd hC (k_X2_craneBears l g ad σ x1 h_1) ci_X2_craneBears lk_X2_140 ⟨Nat.le_of_ble_eq_true rfl, Nat.le_of_ble_eq_true rfl⟩ hP hK hE (q0 := 0) rfl rfl rfl rfl hl.1 rfl (Nat.le_of_ble_eq_true rfl) dX2_firstLaunchDay_2 ⟨Nat.zero_le _, Nat.zero_le _⟩ ?_
  refine lv_if_ne (tgt := 11) hx hb dX2_firstLaunchDay_5 (by decide) (fun c_1 => ?_) (fun c_1 => ?_)
  · refine lv_aload_n hx hb dX2_firstLaunchDay_11 rfl (lv_at hl 0 rfl) ?_
    refine lv_iload_n hx hb dX2_firstLaunchDay_12 rfl (lv_at hl 1 rfl) ?_
    refine lv_bipush (v := 8) hx hb dX2_firstLaunchDay_13 (by decide) ?_
    refine callRd hC (k_X2_fact l g ad σ x1 8 h_1 (in_iff.mpr (by decide))) ci_X2_fact lk_X2_51 ⟨Nat.le_of_ble_eq_true rfl, Nat.le_of_ble_eq_true rfl⟩ hP hK hE (q0 := 0) rfl rfl rfl rfl hl.1 rfl (Nat.le_of_ble_eq_true rfl) dX2_firstLaunchDay_15 ⟨Nat.zero_le _, Nat.zero_le _⟩ ?_
    refine lv_istore_n (lv' := [(2, .int (mX2_fact σ x1 8)), (0, .ref ad.1), (1, .int x1)]) hx hb dX2_firstLaunchDay_18 rfl hl (by decide) rfl (fun ls hl => ?_)
    refine q_X2_firstLaunchDay_19 l g ad σ x1 h_1 h_work hC hP hK hE 202 (mX2_fact σ x1 8) h_work (by have := h_work; omega) ?_ _ (lv_sub hl [0, 1, 2] rfl)
    exact by unfold mX2_firstLaunchDay; rw [if_neg c_1]
  · refine lv_bipush (v := (-5)) hx hb dX2_firstLaunchDay_8 (by decide) ?_
    exact rd_ret hC dX2_firstLaunchDay_10 (Eq.symm (by unfold mX2_firstLaunchDay; rw [if_pos c_1]))
def mX2_moveTo (σ : YS) (x1 : Int32) (x2 : Int32) : Int32 × YS := (if (mX2_knows σ x1) = 0 then ((-1), σ) else (if (mX2_isRow x2) = 0 then ((-1), σ) else (if (mX2_isAshore σ x1) = 0 then ((-4), σ) else (if 0 < (mX2_boatsFartherOut σ x1) then ((-4), σ) else (if (mX2_standsIn σ x1 x2) = 0 then (if (mX2_hasRoom σ x2 x1) = 0 then ((-3), σ) else (if (mX2_liftsLeft σ) = 0 then ((-3), σ) else ((mX2_boatsIn (mX2_takeLift (mX2_putAtOuterEnd σ x1 x2)) x2), (mX2_takeLift (mX2_putAtOuterEnd σ x1 x2))))) else ((-4), σ))))))
set_option maxHeartbeats 4000000 in
set_option maxRecDepth 100000 in
theorem k_X2_moveTo (l : Launch) (g : WG) (ad : AY) (σ : YS) (x1 : Int32) (x2 : Int32) : Wr l yX2_moveTo cX2_moveTo 3 (some .int) 3 g (cY g ad σ) (cY g ad (mX2_moveTo σ x1 x2).2) [.ref ad.1, .int x1, .int x2] (mX2_moveTo σ x1 x2).1 := by
  refine wr_of (by decide) (Nat.le_of_ble_eq_true rfl) ?_
  intro p e s m args below meth c ls A hC hAe hP hD hK hE hA hS hl
  obtain ⟨hx, hb, hml, hr, hown, hts, hlk, hnm⟩ := id hC
  have hl : lv_has ls 3 [(0, .ref ad.1), (1, .int x1), (2, .int x2)] := hl
  refine lv_aload_n hx hb dX2_moveTo_0 rfl (lv_at hl 0 rfl) ?_
  refine lv_iload_n hx hb dX2_moveTo_1 rfl (lv_at hl 1 rfl) ?_
  refine callRd hC (k_X2_knows l g ad σ x1) ci_X2_knows lk_X2_70 ⟨Nat.le_of_ble_eq_true rfl, Nat.le_of_ble_eq_true rfl⟩ hP hK (hE.S hS).none (q0 := 0) rfl rfl rfl rfl hl.1 rfl (Nat.le_of_ble_eq_true rfl) dX2_moveTo_2 ⟨Nat.zero_le _, Nat.zero_le _⟩ ?_
  refine lv_if_eq (tgt := 15) hx hb dX2_moveTo_5 (by decide) (fun c_1 => ?_) (fun c_1 => ?_)
  · refine lv_iconst (v := (-1)) hx hb dX2_moveTo_15 (by decide) ?_
    have hm : mX2_moveTo σ x1 x2 = ((-1), σ) := by unfold mX2_moveTo; rw [if_pos c_1]
    exact wr_ret hC hP (hAe ▸ hD) (hAe ▸ hS) dX2_moveTo_16 (by rw [hm]) (by rw [hm])
  · refine lv_iload_n hx hb dX2_moveTo_8 rfl (lv_at hl 2 rfl) ?_
    refine callRs hC (k_X2_isRow l g x2) ci_X2_isRow lk_X2_117 ⟨Nat.le_of_ble_eq_true rfl, Nat.le_of_ble_eq_true rfl⟩ hK (hE.S hS).none rfl hl.1 rfl (Nat.le_of_ble_eq_true rfl) dX2_moveTo_9 ⟨Nat.zero_le _, Nat.zero_le _⟩ ?_
    refine lv_if_ne (tgt := 17) hx hb dX2_moveTo_12 (by decide) (fun c_2 => ?_) (fun c_2 => ?_)
    · refine lv_aload_n hx hb dX2_moveTo_17 rfl (lv_at hl 0 rfl) ?_
      refine lv_iload_n hx hb dX2_moveTo_18 rfl (lv_at hl 1 rfl) ?_
      refine callRd hC (k_X2_isAshore l g ad σ x1 (in_X2_knows c_1)) ci_X2_isAshore lk_X2_73 ⟨Nat.le_of_ble_eq_true rfl, Nat.le_of_ble_eq_true rfl⟩ hP hK (hE.S hS).none (q0 := 0) rfl rfl rfl rfl hl.1 rfl (Nat.le_of_ble_eq_true rfl) dX2_moveTo_19 ⟨Nat.zero_le _, Nat.zero_le _⟩ ?_
      refine lv_if_eq (tgt := 42) hx hb dX2_moveTo_22 (by decide) (fun c_3 => ?_) (fun c_3 => ?_)
      · refine lv_bipush (v := (-4)) hx hb dX2_moveTo_42 (by decide) ?_
        have hm : mX2_moveTo σ x1 x2 = ((-4), σ) := by unfold mX2_moveTo; rw [if_neg c_1, if_neg c_2, if_pos c_3]
        exact wr_ret hC hP (hAe ▸ hD) (hAe ▸ hS) dX2_moveTo_44 (by rw [hm]) (by rw [hm])
      · refine lv_aload_n hx hb dX2_moveTo_25 rfl (lv_at hl 0 rfl) ?_
        refine lv_iload_n hx hb dX2_moveTo_26 rfl (lv_at hl 1 rfl) ?_
        refine callRd hC (k_X2_boatsFartherOut l g ad σ x1 (in_X2_knows c_1)) ci_X2_boatsFartherOut lk_X2_159 ⟨Nat.le_of_ble_eq_true rfl, Nat.le_of_ble_eq_true rfl⟩ hP hK (hE.S hS).none (q0 := 0) rfl rfl rfl rfl hl.1 rfl (Nat.le_of_ble_eq_true rfl) dX2_moveTo_27 ⟨Nat.zero_le _, Nat.zero_le _⟩ ?_
        refine lv_if_gt (tgt := 42) hx hb dX2_moveTo_30 (by decide) (fun c_4 => ?_) (fun c_4 => ?_)
        · refine lv_bipush (v := (-4)) hx hb dX2_moveTo_42 (by decide) ?_
          have hm : mX2_moveTo σ x1 x2 = ((-4), σ) := by unfold mX2_moveTo; rw [if_neg c_1, if_neg c_2, if_neg c_3, if_pos c_4]
          exact wr_ret hC hP (hAe ▸ hD) (hAe ▸ hS) dX2_moveTo_44 (by rw [hm]) (by rw [hm])
        · refine lv_aload_n hx hb dX2_moveTo_33 rfl (lv_at hl 0 rfl) ?_
          refine lv_iload_n hx hb dX2_moveTo_34 rfl (lv_at hl 1 rfl) ?_
          refine lv_iload_n hx hb dX2_moveTo_35 rfl (lv_at hl 2 rfl) ?_
          refine callRd hC (k_X2_standsIn l g ad σ x1 x2 (in_X2_knows c_1)) ci_X2_standsIn lk_X2_110 ⟨Nat.le_of_ble_eq_true rfl, Nat.le_of_ble_eq_true rfl⟩ hP hK (hE.S hS).none (q0 := 0) rfl rfl rfl rfl hl.1 rfl (Nat.le_of_ble_eq_true rfl) dX2_moveTo_36 ⟨Nat.zero_le _, Nat.zero_le _⟩ ?_
          refine lv_if_eq (tgt := 45) hx hb dX2_moveTo_39 (by decide) (fun c_5 => ?_) (fun c_5 => ?_)
          · refine lv_aload_n hx hb dX2_moveTo_45 rfl (lv_at hl 0 rfl) ?_
            refine lv_iload_n hx hb dX2_moveTo_46 rfl (lv_at hl 2 rfl) ?_
            refine lv_iload_n hx hb dX2_moveTo_47 rfl (lv_at hl 1 rfl) ?_
            refine callRd hC (k_X2_hasRoom l g ad σ x2 x1 (in_X2_isRow c_2) (in_X2_knows c_1)) ci_X2_hasRoom lk_X2_120 ⟨Nat.le_of_ble_eq_true rfl, Nat.le_of_ble_eq_true rfl⟩ hP hK (hE.S hS).none (q0 := 0) rfl rfl rfl rfl hl.1 rfl (Nat.le_of_ble_eq_true rfl) dX2_moveTo_48 ⟨Nat.zero_le _, Nat.zero_le _⟩ ?_
            refine lv_if_eq (tgt := 61) hx hb dX2_moveTo_51 (by decide) (fun c_6 => ?_) (fun c_6 => ?_)
            · refine lv_bipush (v := (-3)) hx hb dX2_moveTo_61 (by decide) ?_
              have hm : mX2_moveTo σ x1 x2 = ((-3), σ) := by unfold mX2_moveTo; rw [if_neg c_1, if_neg c_2, if_neg c_3, if_neg c_4, if_pos c_5, if_pos c_6]
              exact wr_ret hC hP (hAe ▸ hD) (hAe ▸ hS) dX2_moveTo_63 (by rw [hm]) (by rw [hm])
            · refine lv_aload_n hx hb dX2_moveTo_54 rfl (lv_at hl 0 rfl) ?_
              refine callRd hC (k_X2_liftsLeft l g ad σ) ci_X2_liftsLeft lk_X2_146 ⟨Nat.le_of_ble_eq_true rfl, Nat.le_of_ble_eq_true rfl⟩ hP hK (hE.S hS).none (q0 := 0) rfl rfl rfl rfl hl.1 rfl (Nat.le_of_ble_eq_true rfl) dX2_moveTo_55 ⟨Nat.zero_le _, Nat.zero_le _⟩ ?_
              refine lv_if_ne (tgt := 64) hx hb dX2_moveTo_58 (by decide) (fun c_7 => ?_) (fun c_7 => ?_)
              · refine lv_aload_n hx hb dX2_moveTo_64 rfl (lv_at hl 0 rfl) ?_
                refine lv_iload_n hx hb dX2_moveTo_65 rfl (lv_at hl 1 rfl) ?_
                refine lv_iload_n hx hb dX2_moveTo_66 rfl (lv_at hl 2 rfl) ?_
                refine callWv hC (k_X2_putAtOuterEnd l g ad σ x1 x2 (in_X2_knows c_1)) ci_X2_putAtOuterEnd lk_X2_152 ⟨Nat.le_of_ble_eq_true rfl, Nat.le_of_ble_eq_true rfl⟩ hP hD hK hE hS hA (q0 := 0) rfl rfl rfl rfl hl.1 rfl (Nat.le_of_ble_eq_true rfl) dX2_moveTo_67 ⟨Nat.zero_le _, Nat.zero_le _⟩ (fun H locs hP _ hD hS _ _ => ?_)
                refine lv_aload_n hx hb dX2_moveTo_70 rfl (lv_at hl 0 rfl) ?_
                refine callWv hC (k_X2_takeLift l g ad (mX2_putAtOuterEnd σ x1 x2)) ci_X2_takeLift lk_X2_156 ⟨Nat.le_of_ble_eq_true rfl, Nat.le_of_ble_eq_true rfl⟩ hP hD hK hE hS hA (q0 := 0) rfl rfl rfl rfl hl.1 rfl (Nat.le_of_ble_eq_true rfl) dX2_moveTo_71 ⟨Nat.zero_le _, Nat.zero_le _⟩ (fun H locs hP _ hD hS _ _ => ?_)
                refine lv_aload_n hx hb dX2_moveTo_74 rfl (lv_at hl 0 rfl) ?_
                refine lv_iload_n hx hb dX2_moveTo_75 rfl (lv_at hl 2 rfl) ?_
                refine callRd hC (k_X2_boatsIn l g ad (mX2_takeLift (mX2_putAtOuterEnd σ x1 x2)) x2) ci_X2_boatsIn lk_X2_114 ⟨Nat.le_of_ble_eq_true rfl, Nat.le_of_ble_eq_true rfl⟩ hP hK (hE.S hS).none (q0 := 0) rfl rfl rfl rfl hl.1 rfl (Nat.le_of_ble_eq_true rfl) dX2_moveTo_76 ⟨Nat.zero_le _, Nat.zero_le _⟩ ?_
                have hm : mX2_moveTo σ x1 x2 = ((mX2_boatsIn (mX2_takeLift (mX2_putAtOuterEnd σ x1 x2)) x2), (mX2_takeLift (mX2_putAtOuterEnd σ x1 x2))) := by unfold mX2_moveTo; rw [if_neg c_1, if_neg c_2, if_neg c_3, if_neg c_4, if_pos c_5, if_neg c_6, if_neg c_7]
                exact wr_ret hC hP (hAe ▸ hD) (hAe ▸ hS) dX2_moveTo_79 (by rw [hm]) (by rw [hm])
              · refine lv_bipush (v := (-3)) hx hb dX2_moveTo_61 (by decide) ?_
                have hm : mX2_moveTo σ x1 x2 = ((-3), σ) := by unfold mX2_moveTo; rw [if_neg c_1, if_neg c_2, if_neg c_3, if_neg c_4, if_pos c_5, if_neg c_6, if_pos c_7]
                exact wr_ret hC hP (hAe ▸ hD) (hAe ▸ hS) dX2_moveTo_63 (by rw [hm]) (by rw [hm])
          · refine lv_bipush (v := (-4)) hx hb dX2_moveTo_42 (by decide) ?_
            have hm : mX2_moveTo σ x1 x2 = ((-4), σ) := by unfold mX2_moveTo; rw [if_neg c_1, if_neg c_2, if_neg c_3, if_neg c_4, if_neg c_5]
            exact wr_ret hC hP (hAe ▸ hD) (hAe ▸ hS) dX2_moveTo_44 (by rw [hm]) (by rw [hm])
    · refine lv_iconst (v := (-1)) hx hb dX2_moveTo_15 (by decide) ?_
      have hm : mX2_moveTo σ x1 x2 = ((-1), σ) := by unfold mX2_moveTo; rw [if_neg c_1, if_pos c_2]
      exact wr_ret hC hP (hAe ▸ hD) (hAe ▸ hS) dX2_moveTo_16 (by rw [hm]) (by rw [hm])
def mX2_mastsIn (σ : YS) (x1 : Int32) : Int32 := (mX2_boatsWith σ 7 x1)
set_option maxHeartbeats 4000000 in
set_option maxRecDepth 100000 in
theorem k_X2_mastsIn (l : Launch) (g : WG) (ad : AY) (σ : YS) (x1 : Int32) : Rd l yX2_mastsIn cX2_mastsIn 2 (some .int) 1 (Wl g (cY g ad σ) (fun _ => False)) [.ref ad.1, .int x1] (mX2_mastsIn σ x1) := by
  refine rd_of (by decide) (Nat.le_of_ble_eq_true rfl) ?_
  intro p e s m args below meth c ls hC hW hl
  obtain ⟨hP, hK, hE⟩ := hW
  obtain ⟨hx, hb, hml, hr, hown, hts, hlk, hnm⟩ := id hC
  have hl : lv_has ls 2 [(0, .ref ad.1), (1, .int x1)] := hl
  refine lv_aload_n hx hb dX2_mastsIn_0 rfl (lv_at hl 0 rfl) ?_
  refine lv_bipush (v := 7) hx hb dX2_mastsIn_1 (by decide) ?_
  refine lv_iload_n hx hb dX2_mastsIn_3 rfl (lv_at hl 1 rfl) ?_
  refine callRd hC (k_X2_boatsWith l g ad σ 7 x1 (in_iff.mpr (by decide))) ci_X2_boatsWith lk_X2_82 ⟨Nat.le_of_ble_eq_true rfl, Nat.le_of_ble_eq_true rfl⟩ hP hK hE (q0 := 0) rfl rfl rfl rfl hl.1 rfl (Nat.le_of_ble_eq_true rfl) dX2_mastsIn_4 ⟨Nat.zero_le _, Nat.zero_le _⟩ ?_
  exact rd_ret hC dX2_mastsIn_7 (Eq.symm (by unfold mX2_mastsIn; rfl))
def mX2_rackFor (σ : YS) (x1 : Int32) : Int32 := (if 12 < (mX2_fact σ x1 0) then (if 6 ≤ (mX2_mastsIn σ 1) then (-5) else 1) else (if 6 ≤ (mX2_mastsIn σ 0) then (if 6 ≤ (mX2_mastsIn σ 1) then (-5) else 1) else 0))
set_option maxHeartbeats 4000000 in
set_option maxRecDepth 100000 in
theorem k_X2_rackFor (l : Launch) (g : WG) (ad : AY) (σ : YS) (x1 : Int32) (h_1 : vp_in x1 20) : Rd l yX2_rackFor cX2_rackFor 3 (some .int) 2 (Wl g (cY g ad σ) (fun _ => False)) [.ref ad.1, .int x1] (mX2_rackFor σ x1) := by
  refine rd_of (by decide) (Nat.le_of_ble_eq_true rfl) ?_
  intro p e s m args below meth c ls hC hW hl
  obtain ⟨hP, hK, hE⟩ := hW
  obtain ⟨hx, hb, hml, hr, hown, hts, hlk, hnm⟩ := id hC
  have hl : lv_has ls 3 [(0, .ref ad.1), (1, .int x1)] := hl
  refine lv_aload_n hx hb dX2_rackFor_0 rfl (lv_at hl 0 rfl) ?_
  refine lv_iload_n hx hb dX2_rackFor_1 rfl (lv_at hl 1 rfl) ?_
  refine lv_iconst (v := 0) hx hb dX2_rackFor_2 (by decide) ?_
  refine callRd hC (k_X2_fact l g ad σ x1 0 h_1 (in_iff.mpr (by decide))) ci_X2_fact lk_X2_51 ⟨Nat.le_of_ble_eq_true rfl, Nat.le_of_ble_eq_true rfl⟩ hP hK hE (q0 := 0) rfl rfl rfl rfl hl.1 rfl (Nat.le_of_ble_eq_true rfl) dX2_rackFor_3 ⟨Nat.zero_le _, Nat.zero_le _⟩ ?_
  refine lv_bipush (v := 12) hx hb dX2_rackFor_6 (by decide) ?_
  refine lv_icmp_gt (tgt := 15) hx hb dX2_rackFor_8 (by decide) (fun c_1 => ?_) (fun c_1 => ?_)
  · refine lv_iconst (v := 0) hx hb dX2_rackFor_15 (by decide) ?_
    refine lv_istore_n (lv' := [(2, .int 0), (0, .ref ad.1), (1, .int x1)]) hx hb dX2_rackFor_16 rfl hl (by decide) rfl (fun ls hl => ?_)
    refine lv_iload_n hx hb dX2_rackFor_17 rfl (lv_at hl 0 rfl) ?_
    refine lv_if_eq (tgt := 33) hx hb dX2_rackFor_18 (by decide) (fun c_2 => ?_) (fun c_2 => absurd c_2 (by decide))
    refine lv_aload_n hx hb dX2_rackFor_33 rfl (lv_at hl 1 rfl) ?_
    refine lv_iconst (v := 1) hx hb dX2_rackFor_34 (by decide) ?_
    refine callRd hC (k_X2_mastsIn l g ad σ 1) ci_X2_mastsIn lk_X2_165 ⟨Nat.le_of_ble_eq_true rfl, Nat.le_of_ble_eq_true rfl⟩ hP hK hE (q0 := 0) rfl rfl rfl rfl hl.1 rfl (Nat.le_of_ble_eq_true rfl) dX2_rackFor_35 ⟨Nat.zero_le _, Nat.zero_le _⟩ ?_
    refine lv_bipush (v := 6) hx hb dX2_rackFor_38 (by decide) ?_
    refine lv_icmp_ge (tgt := 47) hx hb dX2_rackFor_40 (by decide) (fun c_3 => ?_) (fun c_3 => ?_)
    · refine lv_bipush (v := (-5)) hx hb dX2_rackFor_47 (by decide) ?_
      exact rd_ret hC dX2_rackFor_49 (Eq.symm (by unfold mX2_rackFor; rw [if_pos c_1, if_pos c_3]))
    · refine lv_iconst (v := 1) hx hb dX2_rackFor_43 (by decide) ?_
      refine lv_goto (tgt := 49) hx hb dX2_rackFor_44 (by decide) ?_
      exact rd_ret hC dX2_rackFor_49 (Eq.symm (by unfold mX2_rackFor; rw [if_pos c_1, if_neg c_3]))
  · refine lv_iconst (v := 1) hx hb dX2_rackFor_11 (by decide) ?_
    refine lv_goto (tgt := 16) hx hb dX2_rackFor_12 (by decide) ?_
    refine lv_istore_n (lv' := [(2, .int 1), (0, .ref ad.1), (1, .int x1)]) hx hb dX2_rackFor_16 rfl hl (by decide) rfl (fun ls hl => ?_)
    refine lv_iload_n hx hb dX2_rackFor_17 rfl (lv_at hl 0 rfl) ?_
    refine lv_if_eq (tgt := 33) hx hb dX2_rackFor_18 (by decide) (fun c_4 => absurd c_4 (by decide)) (fun c_4 => ?_)
    refine lv_aload_n hx hb dX2_rackFor_21 rfl (lv_at hl 1 rfl) ?_
    refine lv_iconst (v := 0) hx hb dX2_rackFor_22 (by decide) ?_
    refine callRd hC (k_X2_mastsIn l g ad σ 0) ci_X2_mastsIn lk_X2_165 ⟨Nat.le_of_ble_eq_true rfl, Nat.le_of_ble_eq_true rfl⟩ hP hK hE (q0 := 0) rfl rfl rfl rfl hl.1 rfl (Nat.le_of_ble_eq_true rfl) dX2_rackFor_23 ⟨Nat.zero_le _, Nat.zero_le _⟩ ?_
    refine lv_bipush (v := 6) hx hb dX2_rackFor_26 (by decide) ?_
    refine lv_icmp_ge (tgt := 33) hx hb dX2_rackFor_28 (by decide) (fun c_5 => ?_) (fun c_5 => ?_)
    · refine lv_aload_n hx hb dX2_rackFor_33 rfl (lv_at hl 1 rfl) ?_
      refine lv_iconst (v := 1) hx hb dX2_rackFor_34 (by decide) ?_
      refine callRd hC (k_X2_mastsIn l g ad σ 1) ci_X2_mastsIn lk_X2_165 ⟨Nat.le_of_ble_eq_true rfl, Nat.le_of_ble_eq_true rfl⟩ hP hK hE (q0 := 0) rfl rfl rfl rfl hl.1 rfl (Nat.le_of_ble_eq_true rfl) dX2_rackFor_35 ⟨Nat.zero_le _, Nat.zero_le _⟩ ?_
      refine lv_bipush (v := 6) hx hb dX2_rackFor_38 (by decide) ?_
      refine lv_icmp_ge (tgt := 47) hx hb dX2_rackFor_40 (by decide) (fun c_6 => ?_) (fun c_6 => ?_)
      · refine lv_bipush (v := (-5)) hx hb dX2_rackFor_47 (by decide) ?_
        exact rd_ret hC dX2_rackFor_49 (Eq.symm (by unfold mX2_rackFor; rw [if_neg c_1, if_pos c_5, if_pos c_6]))
      · refine lv_iconst (v := 1) hx hb dX2_rackFor_43 (by decide) ?_
        refine lv_goto (tgt := 49) hx hb dX2_rackFor_44 (by decide) ?_
        exact rd_ret hC dX2_rackFor_49 (Eq.symm (by unfold mX2_rackFor; rw [if_neg c_1, if_pos c_5, if_neg c_6]))
    · refine lv_iconst (v := 0) hx hb dX2_rackFor_31 (by decide) ?_
      exact rd_ret hC dX2_rackFor_32 (Eq.symm (by unfold mX2_rackFor; rw [if_neg c_1, if_neg c_5]))
def mX2_takeMastOff (σ : YS) (x1 : Int32) : Int32 × YS := (if (mX2_knows σ x1) = 0 then ((-1), σ) else (if (mX2_isAshore σ x1) = 0 then (if (mX2_hasMast σ x1) = 0 then ((-5), σ) else (if (mX2_rackFor σ x1) = (-5) then ((-3), σ) else ((mX2_rackFor σ x1), (mX2_note σ x1 7 (mX2_rackFor σ x1))))) else ((-4), σ)))
set_option maxHeartbeats 4000000 in
set_option maxRecDepth 100000 in
theorem k_X2_takeMastOff (l : Launch) (g : WG) (ad : AY) (σ : YS) (x1 : Int32) : Wr l yX2_takeMastOff cX2_takeMastOff 3 (some .int) 3 g (cY g ad σ) (cY g ad (mX2_takeMastOff σ x1).2) [.ref ad.1, .int x1] (mX2_takeMastOff σ x1).1 := by
  refine wr_of (by decide) (Nat.le_of_ble_eq_true rfl) ?_
  intro p e s m args below meth c ls A hC hAe hP hD hK hE hA hS hl
  obtain ⟨hx, hb, hml, hr, hown, hts, hlk, hnm⟩ := id hC
  have hl : lv_has ls 3 [(0, .ref ad.1), (1, .int x1)] := hl
  refine lv_aload_n hx hb dX2_takeMastOff_0 rfl (lv_at hl 0 rfl) ?_
  refine lv_iload_n hx hb dX2_takeMastOff_1 rfl (lv_at hl 1 rfl) ?_
  refine callRd hC (k_X2_knows l g ad σ x1) ci_X2_knows lk_X2_70 ⟨Nat.le_of_ble_eq_true rfl, Nat.le_of_ble_eq_true rfl⟩ hP hK (hE.S hS).none (q0 := 0) rfl rfl rfl rfl hl.1 rfl (Nat.le_of_ble_eq_true rfl) dX2_takeMastOff_2 ⟨Nat.zero_le _, Nat.zero_le _⟩ ?_
  refine lv_if_ne (tgt := 10) hx hb dX2_takeMastOff_5 (by decide) (fun c_1 => ?_) (fun c_1 => ?_)
  · refine lv_aload_n hx hb dX2_takeMastOff_10 rfl (lv_at hl 0 rfl) ?_
    refine lv_iload_n hx hb dX2_takeMastOff_11 rfl (lv_at hl 1 rfl) ?_
    refine callRd hC (k_X2_isAshore l g ad σ x1 (in_X2_knows c_1)) ci_X2_isAshore lk_X2_73 ⟨Nat.le_of_ble_eq_true rfl, Nat.le_of_ble_eq_true rfl⟩ hP hK (hE.S hS).none (q0 := 0) rfl rfl rfl rfl hl.1 rfl (Nat.le_of_ble_eq_true rfl) dX2_takeMastOff_12 ⟨Nat.zero_le _, Nat.zero_le _⟩ ?_
    refine lv_if_eq (tgt := 21) hx hb dX2_takeMastOff_15 (by decide) (fun c_2 => ?_) (fun c_2 => ?_)
    · refine lv_aload_n hx hb dX2_takeMastOff_21 rfl (lv_at hl 0 rfl) ?_
      refine lv_iload_n hx hb dX2_takeMastOff_22 rfl (lv_at hl 1 rfl) ?_
      refine callRd hC (k_X2_hasMast l g ad σ x1 (in_X2_knows c_1)) ci_X2_hasMast lk_X2_76 ⟨Nat.le_of_ble_eq_true rfl, Nat.le_of_ble_eq_true rfl⟩ hP hK (hE.S hS).none (q0 := 0) rfl rfl rfl rfl hl.1 rfl (Nat.le_of_ble_eq_true rfl) dX2_takeMastOff_23 ⟨Nat.zero_le _, Nat.zero_le _⟩ ?_
      refine lv_if_ne (tgt := 32) hx hb dX2_takeMastOff_26 (by decide) (fun c_3 => ?_) (fun c_3 => ?_)
      · refine lv_aload_n hx hb dX2_takeMastOff_32 rfl (lv_at hl 0 rfl) ?_
        refine lv_iload_n hx hb dX2_takeMastOff_33 rfl (lv_at hl 1 rfl) ?_
        refine callRd hC (k_X2_rackFor l g ad σ x1 (in_X2_knows c_1)) ci_X2_rackFor lk_X2_168 ⟨Nat.le_of_ble_eq_true rfl, Nat.le_of_ble_eq_true rfl⟩ hP hK (hE.S hS).none (q0 := 0) rfl rfl rfl rfl hl.1 rfl (Nat.le_of_ble_eq_true rfl) dX2_takeMastOff_34 ⟨Nat.zero_le _, Nat.zero_le _⟩ ?_
        refine lv_istore_n (lv' := [(2, .int (mX2_rackFor σ x1)), (0, .ref ad.1), (1, .int x1)]) hx hb dX2_takeMastOff_37 rfl hl (by decide) rfl (fun ls hl => ?_)
        refine lv_iload_n hx hb dX2_takeMastOff_38 rfl (lv_at hl 0 rfl) ?_
        refine lv_bipush (v := (-5)) hx hb dX2_takeMastOff_39 (by decide) ?_
        refine lv_icmp_ne (tgt := 47) hx hb dX2_takeMastOff_41 (by decide) (fun c_4 => ?_) (fun c_4 => ?_)
        · refine lv_aload_n hx hb dX2_takeMastOff_47 rfl (lv_at hl 1 rfl) ?_
          refine lv_iload_n hx hb dX2_takeMastOff_48 rfl (lv_at hl 2 rfl) ?_
          refine lv_bipush (v := 7) hx hb dX2_takeMastOff_49 (by decide) ?_
          refine lv_iload_n hx hb dX2_takeMastOff_51 rfl (lv_at hl 0 rfl) ?_
          refine callWv hC (k_X2_note l g ad σ x1 7 (mX2_rackFor σ x1) (in_X2_knows c_1) (in_iff.mpr (by decide))) ci_X2_note lk_X2_55 ⟨Nat.le_of_ble_eq_true rfl, Nat.le_of_ble_eq_true rfl⟩ hP hD hK hE hS hA (q0 := 0) rfl rfl rfl rfl hl.1 rfl (Nat.le_of_ble_eq_true rfl) dX2_takeMastOff_52 ⟨Nat.zero_le _, Nat.zero_le _⟩ (fun H locs hP _ hD hS _ _ => ?_)
          refine lv_iload_n hx hb dX2_takeMastOff_55 rfl (lv_at hl 0 rfl) ?_
          have hm : mX2_takeMastOff σ x1 = ((mX2_rackFor σ x1), (mX2_note σ x1 7 (mX2_rackFor σ x1))) := by unfold mX2_takeMastOff; rw [if_neg c_1, if_pos c_2, if_neg c_3, if_neg c_4]
          exact wr_ret hC hP (hAe ▸ hD) (hAe ▸ hS) dX2_takeMastOff_56 (by rw [hm]) (by rw [hm])
        · refine lv_bipush (v := (-3)) hx hb dX2_takeMastOff_44 (by decide) ?_
          have hm : mX2_takeMastOff σ x1 = ((-3), σ) := by unfold mX2_takeMastOff; rw [if_neg c_1, if_pos c_2, if_neg c_3, if_pos c_4]
          exact wr_ret hC hP (hAe ▸ hD) (hAe ▸ hS) dX2_takeMastOff_46 (by rw [hm]) (by rw [hm])
      · refine lv_bipush (v := (-5)) hx hb dX2_takeMastOff_29 (by decide) ?_
        have hm : mX2_takeMastOff σ x1 = ((-5), σ) := by unfold mX2_takeMastOff; rw [if_neg c_1, if_pos c_2, if_pos c_3]
        exact wr_ret hC hP (hAe ▸ hD) (hAe ▸ hS) dX2_takeMastOff_31 (by rw [hm]) (by rw [hm])
    · refine lv_bipush (v := (-4)) hx hb dX2_takeMastOff_18 (by decide) ?_
      have hm : mX2_takeMastOff σ x1 = ((-4), σ) := by unfold mX2_takeMastOff; rw [if_neg c_1, if_neg c_2]
      exact wr_ret hC hP (hAe ▸ hD) (hAe ▸ hS) dX2_takeMastOff_20 (by rw [hm]) (by rw [hm])
  · refine lv_iconst (v := (-1)) hx hb dX2_takeMastOff_8 (by decide) ?_
    have hm : mX2_takeMastOff σ x1 = ((-1), σ) := by unfold mX2_takeMastOff; rw [if_pos c_1]
    exact wr_ret hC hP (hAe ▸ hD) (hAe ▸ hS) dX2_takeMastOff_9 (by rw [hm]) (by rw [hm])
def mX2_putMastUp (σ : YS) (x1 : Int32) : Int32 × YS := (if (mX2_knows σ x1) = 0 then ((-1), σ) else (if (mX2_isAshore σ x1) = 0 then ((mX2_fact σ x1 7), (mX2_note σ x1 7 (-5))) else ((-4), σ)))
set_option maxHeartbeats 4000000 in
set_option maxRecDepth 100000 in
theorem k_X2_putMastUp (l : Launch) (g : WG) (ad : AY) (σ : YS) (x1 : Int32) : Wr l yX2_putMastUp cX2_putMastUp 3 (some .int) 2 g (cY g ad σ) (cY g ad (mX2_putMastUp σ x1).2) [.ref ad.1, .int x1] (mX2_putMastUp σ x1).1 := by
  refine wr_of (by decide) (Nat.le_of_ble_eq_true rfl) ?_
  intro p e s m args below meth c ls A hC hAe hP hD hK hE hA hS hl
  obtain ⟨hx, hb, hml, hr, hown, hts, hlk, hnm⟩ := id hC
  have hl : lv_has ls 3 [(0, .ref ad.1), (1, .int x1)] := hl
  refine lv_aload_n hx hb dX2_putMastUp_0 rfl (lv_at hl 0 rfl) ?_
  refine lv_iload_n hx hb dX2_putMastUp_1 rfl (lv_at hl 1 rfl) ?_
  refine callRd hC (k_X2_knows l g ad σ x1) ci_X2_knows lk_X2_70 ⟨Nat.le_of_ble_eq_true rfl, Nat.le_of_ble_eq_true rfl⟩ hP hK (hE.S hS).none (q0 := 0) rfl rfl rfl rfl hl.1 rfl (Nat.le_of_ble_eq_true rfl) dX2_putMastUp_2 ⟨Nat.zero_le _, Nat.zero_le _⟩ ?_
  refine lv_if_ne (tgt := 10) hx hb dX2_putMastUp_5 (by decide) (fun c_1 => ?_) (fun c_1 => ?_)
  · refine lv_aload_n hx hb dX2_putMastUp_10 rfl (lv_at hl 0 rfl) ?_
    refine lv_iload_n hx hb dX2_putMastUp_11 rfl (lv_at hl 1 rfl) ?_
    refine callRd hC (k_X2_isAshore l g ad σ x1 (in_X2_knows c_1)) ci_X2_isAshore lk_X2_73 ⟨Nat.le_of_ble_eq_true rfl, Nat.le_of_ble_eq_true rfl⟩ hP hK (hE.S hS).none (q0 := 0) rfl rfl rfl rfl hl.1 rfl (Nat.le_of_ble_eq_true rfl) dX2_putMastUp_12 ⟨Nat.zero_le _, Nat.zero_le _⟩ ?_
    refine lv_if_eq (tgt := 21) hx hb dX2_putMastUp_15 (by decide) (fun c_2 => ?_) (fun c_2 => ?_)
    · refine lv_aload_n hx hb dX2_putMastUp_21 rfl (lv_at hl 0 rfl) ?_
      refine lv_iload_n hx hb dX2_putMastUp_22 rfl (lv_at hl 1 rfl) ?_
      refine lv_bipush (v := 7) hx hb dX2_putMastUp_23 (by decide) ?_
      refine callRd hC (k_X2_fact l g ad σ x1 7 (in_X2_knows c_1) (in_iff.mpr (by decide))) ci_X2_fact lk_X2_51 ⟨Nat.le_of_ble_eq_true rfl, Nat.le_of_ble_eq_true rfl⟩ hP hK (hE.S hS).none (q0 := 0) rfl rfl rfl rfl hl.1 rfl (Nat.le_of_ble_eq_true rfl) dX2_putMastUp_25 ⟨Nat.zero_le _, Nat.zero_le _⟩ ?_
      refine lv_istore_n (lv' := [(2, .int (mX2_fact σ x1 7)), (0, .ref ad.1), (1, .int x1)]) hx hb dX2_putMastUp_28 rfl hl (by decide) rfl (fun ls hl => ?_)
      refine lv_aload_n hx hb dX2_putMastUp_29 rfl (lv_at hl 1 rfl) ?_
      refine lv_iload_n hx hb dX2_putMastUp_30 rfl (lv_at hl 2 rfl) ?_
      refine lv_bipush (v := 7) hx hb dX2_putMastUp_31 (by decide) ?_
      refine lv_bipush (v := (-5)) hx hb dX2_putMastUp_33 (by decide) ?_
      refine callWv hC (k_X2_note l g ad σ x1 7 (-5) (in_X2_knows c_1) (in_iff.mpr (by decide))) ci_X2_note lk_X2_55 ⟨Nat.le_of_ble_eq_true rfl, Nat.le_of_ble_eq_true rfl⟩ hP hD hK hE hS hA (q0 := 0) rfl rfl rfl rfl hl.1 rfl (Nat.le_of_ble_eq_true rfl) dX2_putMastUp_35 ⟨Nat.zero_le _, Nat.zero_le _⟩ (fun H locs hP _ hD hS _ _ => ?_)
      refine lv_iload_n hx hb dX2_putMastUp_38 rfl (lv_at hl 0 rfl) ?_
      have hm : mX2_putMastUp σ x1 = ((mX2_fact σ x1 7), (mX2_note σ x1 7 (-5))) := by unfold mX2_putMastUp; rw [if_neg c_1, if_pos c_2]
      exact wr_ret hC hP (hAe ▸ hD) (hAe ▸ hS) dX2_putMastUp_39 (by rw [hm]) (by rw [hm])
    · refine lv_bipush (v := (-4)) hx hb dX2_putMastUp_18 (by decide) ?_
      have hm : mX2_putMastUp σ x1 = ((-4), σ) := by unfold mX2_putMastUp; rw [if_neg c_1, if_neg c_2]
      exact wr_ret hC hP (hAe ▸ hD) (hAe ▸ hS) dX2_putMastUp_20 (by rw [hm]) (by rw [hm])
  · refine lv_iconst (v := (-1)) hx hb dX2_putMastUp_8 (by decide) ?_
    have hm : mX2_putMastUp σ x1 = ((-1), σ) := by unfold mX2_putMastUp; rw [if_pos c_1]
    exact wr_ret hC hP (hAe ▸ hD) (hAe ▸ hS) dX2_putMastUp_9 (by rw [hm]) (by rw [hm])
def mX2_orderWork (σ : YS) (x1 : Int32) (x2 : Int32) : Int32 × YS := (if (mX2_knows σ x1) = 0 then ((-1), σ) else (if (mX3_within x2 1 99) = 0 then ((-2), σ) else (if ((mX2_fact σ x1 8) + x2) ≤ 99 then (((mX2_fact σ x1 8) + x2), (mX2_note σ x1 8 ((mX2_fact σ x1 8) + x2))) else ((-3), σ))))
set_option maxHeartbeats 4000000 in
set_option maxRecDepth 100000 in
theorem k_X2_orderWork (l : Launch) (g : WG) (ad : AY) (σ : YS) (x1 : Int32) (x2 : Int32) : Wr l yX2_orderWork cX2_orderWork 4 (some .int) 2 g (cY g ad σ) (cY g ad (mX2_orderWork σ x1 x2).2) [.ref ad.1, .int x1, .int x2] (mX2_orderWork σ x1 x2).1 := by
  refine wr_of (by decide) (Nat.le_of_ble_eq_true rfl) ?_
  intro p e s m args below meth c ls A hC hAe hP hD hK hE hA hS hl
  obtain ⟨hx, hb, hml, hr, hown, hts, hlk, hnm⟩ := id hC
  have hl : lv_has ls 4 [(0, .ref ad.1), (1, .int x1), (2, .int x2)] := hl
  refine lv_aload_n hx hb dX2_orderWork_0 rfl (lv_at hl 0 rfl) ?_
  refine lv_iload_n hx hb dX2_orderWork_1 rfl (lv_at hl 1 rfl) ?_
  refine callRd hC (k_X2_knows l g ad σ x1) ci_X2_knows lk_X2_70 ⟨Nat.le_of_ble_eq_true rfl, Nat.le_of_ble_eq_true rfl⟩ hP hK (hE.S hS).none (q0 := 0) rfl rfl rfl rfl hl.1 rfl (Nat.le_of_ble_eq_true rfl) dX2_orderWork_2 ⟨Nat.zero_le _, Nat.zero_le _⟩ ?_
  refine lv_if_ne (tgt := 10) hx hb dX2_orderWork_5 (by decide) (fun c_1 => ?_) (fun c_1 => ?_)
  · refine lv_iload_n hx hb dX2_orderWork_10 rfl (lv_at hl 2 rfl) ?_
    refine lv_iconst (v := 1) hx hb dX2_orderWork_11 (by decide) ?_
    refine lv_bipush (v := 99) hx hb dX2_orderWork_12 (by decide) ?_
    refine callRn hC (k_X3_within l g x2 1 99) ci_X3_within hE.2.1 ⟨Nat.le_of_ble_eq_true rfl, Nat.le_of_ble_eq_true rfl⟩ hK (hE.S hS).none rfl hl.1 rfl (Nat.le_of_ble_eq_true rfl) dX2_orderWork_14 ⟨Nat.zero_le _, Nat.zero_le _⟩ ?_
    refine lv_if_ne (tgt := 23) hx hb dX2_orderWork_17 (by decide) (fun c_2 => ?_) (fun c_2 => ?_)
    · refine lv_aload_n hx hb dX2_orderWork_23 rfl (lv_at hl 0 rfl) ?_
      refine lv_iload_n hx hb dX2_orderWork_24 rfl (lv_at hl 1 rfl) ?_
      refine lv_bipush (v := 8) hx hb dX2_orderWork_25 (by decide) ?_
      refine callRd hC (k_X2_fact l g ad σ x1 8 (in_X2_knows c_1) (in_iff.mpr (by decide))) ci_X2_fact lk_X2_51 ⟨Nat.le_of_ble_eq_true rfl, Nat.le_of_ble_eq_true rfl⟩ hP hK (hE.S hS).none (q0 := 0) rfl rfl rfl rfl hl.1 rfl (Nat.le_of_ble_eq_true rfl) dX2_orderWork_27 ⟨Nat.zero_le _, Nat.zero_le _⟩ ?_
      refine lv_iload_n hx hb dX2_orderWork_30 rfl (lv_at hl 2 rfl) ?_
      refine lv_iadd hx hb dX2_orderWork_31 ?_
      refine lv_istore_n (lv' := [(3, .int ((mX2_fact σ x1 8) + x2)), (0, .ref ad.1), (1, .int x1), (2, .int x2)]) hx hb dX2_orderWork_32 rfl hl (by decide) rfl (fun ls hl => ?_)
      refine lv_iload_n hx hb dX2_orderWork_33 rfl (lv_at hl 0 rfl) ?_
      refine lv_bipush (v := 99) hx hb dX2_orderWork_34 (by decide) ?_
      refine lv_icmp_le (tgt := 42) hx hb dX2_orderWork_36 (by decide) (fun c_3 => ?_) (fun c_3 => ?_)
      · refine lv_aload_n hx hb dX2_orderWork_42 rfl (lv_at hl 1 rfl) ?_
        refine lv_iload_n hx hb dX2_orderWork_43 rfl (lv_at hl 2 rfl) ?_
        refine lv_bipush (v := 8) hx hb dX2_orderWork_44 (by decide) ?_
        refine lv_iload_n hx hb dX2_orderWork_46 rfl (lv_at hl 0 rfl) ?_
        refine callWv hC (k_X2_note l g ad σ x1 8 ((mX2_fact σ x1 8) + x2) (in_X2_knows c_1) (in_iff.mpr (by decide))) ci_X2_note lk_X2_55 ⟨Nat.le_of_ble_eq_true rfl, Nat.le_of_ble_eq_true rfl⟩ hP hD hK hE hS hA (q0 := 0) rfl rfl rfl rfl hl.1 rfl (Nat.le_of_ble_eq_true rfl) dX2_orderWork_47 ⟨Nat.zero_le _, Nat.zero_le _⟩ (fun H locs hP _ hD hS _ _ => ?_)
        refine lv_iload_n hx hb dX2_orderWork_50 rfl (lv_at hl 0 rfl) ?_
        have hm : mX2_orderWork σ x1 x2 = (((mX2_fact σ x1 8) + x2), (mX2_note σ x1 8 ((mX2_fact σ x1 8) + x2))) := by unfold mX2_orderWork; rw [if_neg c_1, if_neg c_2, if_pos c_3]
        exact wr_ret hC hP (hAe ▸ hD) (hAe ▸ hS) dX2_orderWork_51 (by rw [hm]) (by rw [hm])
      · refine lv_bipush (v := (-3)) hx hb dX2_orderWork_39 (by decide) ?_
        have hm : mX2_orderWork σ x1 x2 = ((-3), σ) := by unfold mX2_orderWork; rw [if_neg c_1, if_neg c_2, if_neg c_3]
        exact wr_ret hC hP (hAe ▸ hD) (hAe ▸ hS) dX2_orderWork_41 (by rw [hm]) (by rw [hm])
    · refine lv_bipush (v := (-2)) hx hb dX2_orderWork_20 (by decide) ?_
      have hm : mX2_orderWork σ x1 x2 = ((-2), σ) := by unfold mX2_orderWork; rw [if_neg c_1, if_pos c_2]
      exact wr_ret hC hP (hAe ▸ hD) (hAe ▸ hS) dX2_orderWork_22 (by rw [hm]) (by rw [hm])
  · refine lv_iconst (v := (-1)) hx hb dX2_orderWork_8 (by decide) ?_
    have hm : mX2_orderWork σ x1 x2 = ((-1), σ) := by unfold mX2_orderWork; rw [if_pos c_1]
    exact wr_ret hC hP (hAe ▸ hD) (hAe ▸ hS) dX2_orderWork_9 (by rw [hm]) (by rw [hm])
def mX2_boatsWithWork_L4 (σ : YS) : Nat → Int32 → Int32 → Int32
  | 0, _, _ => 0
  | n + 1, u2, u1 => (if 20 ≤ u2 then u1 else (if (mX2_fact σ u2 8) ≤ 0 then (mX2_boatsWithWork_L4 σ n (u2 + 1) u1) else (mX2_boatsWithWork_L4 σ n (u2 + 1) (u1 + 1))))
set_option maxHeartbeats 4000000 in
set_option maxRecDepth 100000 in
theorem q_X2_boatsWithWork_4 {p : Program} {e : Env} {s : State} {m : MethodId} {args : Array Value} {below : List Frame} {meth : Method} {c : Code} (l : Launch) (g : WG) (ad : AY) (σ : YS) (hC : Cx p s m args meth c yX2_boatsWithWork cX2_boatsWithWork 3 (some .int)) (hP : va_P g.1 vwCl (cY g ad σ) s.heap) (hK : va_K g.1 vwCl (tysW g) s) (hE : Ex (fun _ => False) s s.heap) {r : Int32} : ∀ (n : Nat) (u2 : Int32) (u1 : Int32) (hi0 : 0 ≤ u2.toInt) (hi1 : u2.toInt ≤ 20) (hm : ((21 : Int) - u2.toInt).toNat < n) (hR : r = mX2_boatsWithWork_L4 σ n u2 u1) (ls : Array Slot) (hl : lv_has ls 3 [(2, .int u2), (1, .int u1), (0, .ref ad.1)]), W p l e (rk 1) s m args below meth c s.heap [] 0 0 (MQ below (vp_Si (fun x => x = r)) args s 0 0 (fun _ => False)) (F0 m 4 ls []) := by
  obtain ⟨hx, hb, hml, hr, hown, hts, hlk, hnm⟩ := id hC
  intro n
  induction n with
  | zero => intro u2 u1 hi0 hi1 hm hR ls hl; exact absurd hm (Nat.not_lt_zero _)
  | succ n ih =>
    intro u2 u1 hi0 hi1 hm hR ls hl
    refine lv_iload_n hx hb dX2_boatsWithWork_4 rfl (lv_at hl 0 rfl) ?_
    refine lv_bipush (v := 20) hx hb dX2_boatsWithWork_5 (by decide) ?_
    refine lv_icmp_ge (tgt := 29) hx hb dX2_boatsWithWork_7 (by decide) (fun c_1 => ?_) (fun c_1 => ?_)
    · refine lv_iload_n hx hb dX2_boatsWithWork_29 rfl (lv_at hl 1 rfl) ?_
      exact rd_ret hC dX2_boatsWithWork_30 (Eq.symm (by rw [hR, mX2_boatsWithWork_L4, if_pos c_1]))
    · refine lv_aload_n hx hb dX2_boatsWithWork_10 rfl (lv_at hl 2 rfl) ?_
      refine lv_iload_n hx hb dX2_boatsWithWork_11 rfl (lv_at hl 0 rfl) ?_
      refine lv_bipush (v := 8) hx hb dX2_boatsWithWork_12 (by decide) ?_
      refine callRd hC (k_X2_fact l g ad σ u2 8 (in_up (n := 20) rfl hi0 c_1) (in_iff.mpr (by decide))) ci_X2_fact lk_X2_51 ⟨Nat.le_of_ble_eq_true rfl, Nat.le_of_ble_eq_true rfl⟩ hP hK hE (q0 := 0) rfl rfl rfl rfl hl.1 rfl (Nat.le_of_ble_eq_true rfl) dX2_boatsWithWork_14 ⟨Nat.zero_le _, Nat.zero_le _⟩ ?_
      refine lv_if_le (tgt := 23) hx hb dX2_boatsWithWork_17 (by decide) (fun c_2 => ?_) (fun c_2 => ?_)
      · refine lv_iinc (v := (u2 + 1)) (lv' := [(2, .int (u2 + 1)), (1, .int u1), (0, .ref ad.1)]) hx hb dX2_boatsWithWork_23 hl (k := 0) rfl rfl (by decide) rfl (fun ls hl => ?_)
        refine lv_goto (tgt := 4) hx hb dX2_boatsWithWork_26 (by decide) ?_
        have e9 := up_add (d := 1) (k := 1) (M := 20) rfl hi0 hi1 (by decide) (by decide)
        have e8 := nle_ti (k := 20) rfl c_1
        exact ih (u2 + 1) u1 (by rw [e9]; omega) (by rw [e9]; omega) (by rw [e9]; omega) (by rw [hR, mX2_boatsWithWork_L4, if_neg c_1, if_pos c_2]) _ (lv_sub hl [0, 1, 2] rfl)
      · refine lv_iinc (v := (u1 + 1)) (lv' := [(1, .int (u1 + 1)), (2, .int u2), (0, .ref ad.1)]) hx hb dX2_boatsWithWork_20 hl (k := 1) rfl rfl (by decide) rfl (fun ls hl => ?_)
        refine lv_iinc (v := (u2 + 1)) (lv' := [(2, .int (u2 + 1)), (1, .int (u1 + 1)), (0, .ref ad.1)]) hx hb dX2_boatsWithWork_23 hl (k := 1) rfl rfl (by decide) rfl (fun ls hl => ?_)
        refine lv_goto (tgt := 4) hx hb dX2_boatsWithWork_26 (by decide) ?_
        have e9 := up_add (d := 1) (k := 1) (M := 20) rfl hi0 hi1 (by decide) (by decide)
        have e8 := nle_ti (k := 20) rfl c_1
        exact ih (u2 + 1) (u1 + 1) (by rw [e9]; omega) (by rw [e9]; omega) (by rw [e9]; omega) (by rw [hR, mX2_boatsWithWork_L4, if_neg c_1, if_neg c_2]) _ (lv_sub hl [0, 1, 2] rfl)
def mX2_boatsWithWork (σ : YS) : Int32 := (mX2_boatsWithWork_L4 σ 22 0 0)
set_option maxHeartbeats 4000000 in
set_option maxRecDepth 100000 in
theorem k_X2_boatsWithWork (l : Launch) (g : WG) (ad : AY) (σ : YS) : Rd l yX2_boatsWithWork cX2_boatsWithWork 3 (some .int) 1 (Wl g (cY g ad σ) (fun _ => False)) [.ref ad.1] (mX2_boatsWithWork σ) := by
  refine rd_of (by decide) (Nat.le_of_ble_eq_true rfl) ?_
  intro p e s m args below meth c ls hC hW hl
  obtain ⟨hP, hK, hE⟩ := hW
  obtain ⟨hx, hb, hml, hr, hown, hts, hlk, hnm⟩ := id hC
  have hl : lv_has ls 3 [(0, .ref ad.1)] := hl
  refine lv_iconst (v := 0) hx hb dX2_boatsWithWork_0 (by decide) ?_
  refine lv_istore_n (lv' := [(1, .int 0), (0, .ref ad.1)]) hx hb dX2_boatsWithWork_1 rfl hl (by decide) rfl (fun ls hl => ?_)
  refine lv_iconst (v := 0) hx hb dX2_boatsWithWork_2 (by decide) ?_
  refine lv_istore_n (lv' := [(2, .int 0), (1, .int 0), (0, .ref ad.1)]) hx hb dX2_boatsWithWork_3 rfl hl (by decide) rfl (fun ls hl => ?_)
  refine q_X2_boatsWithWork_4 l g ad σ hC hP hK hE 22 0 0 (by decide) (by decide) (by decide) ?_ _ (lv_sub hl [0, 1, 2] rfl)
  exact by unfold mX2_boatsWithWork; rfl
def mX2_today (σ : YS) : Int32 := (Y_day σ)
set_option maxHeartbeats 4000000 in
set_option maxRecDepth 100000 in
theorem k_X2_today (l : Launch) (g : WG) (ad : AY) (σ : YS) : Rd l yX2_today cX2_today 1 (some .int) 0 (Wl g (cY g ad σ) (fun _ => False)) [.ref ad.1] (mX2_today σ) := by
  refine rd_of (by decide) (Nat.le_of_ble_eq_true rfl) ?_
  intro p e s m args below meth c ls hC hW hl
  obtain ⟨hP, hK, hE⟩ := hW
  obtain ⟨hx, hb, hml, hr, hown, hts, hlk, hnm⟩ := id hC
  have hl : lv_has ls 1 [(0, .ref ad.1)] := hl
  refine lv_aload_n hx hb dX2_today_0 rfl (lv_at hl 0 rfl) ?_
  refine gY_day hC rfl hK hP dX2_today_1 ?_
  exact rd_ret hC dX2_today_4 (Eq.symm (by unfold mX2_today; rfl))
def mX2_letPass_L45 (x1 : Int32) : Nat → YS → Int32 → Int32 × YS
  | 0, σ, _ => (0, σ)
  | n + 1, σ, u2 => (if 20 ≤ u2 then ((mX2_tideOn σ (Y_day σ)), σ) else (if (mX2_isAshore σ u2) = 0 then (mX2_letPass_L45 x1 n σ (u2 + 1)) else (mX2_letPass_L45 x1 n (mX2_note (mX2_note σ u2 9 ((mX2_fact σ u2 9) + x1)) u2 8 (if 0 < ((mX2_fact (mX2_note σ u2 9 ((mX2_fact σ u2 9) + x1)) u2 8) - x1) then ((mX2_fact (mX2_note σ u2 9 ((mX2_fact σ u2 9) + x1)) u2 8) - x1) else 0)) (u2 + 1))))
set_option maxHeartbeats 4000000 in
set_option maxRecDepth 100000 in
theorem q_X2_letPass_45 {p : Program} {e : Env} {s : State} {m : MethodId} {args : Array Value} {below : List Frame} {meth : Method} {c : Code} (l : Launch) (g : WG) (ad : AY) (x1 : Int32) (hC : Cx p s m args meth c yX2_letPass cX2_letPass 3 (some .int)) (hK : va_K g.1 vwCl (tysW g) s) {A : Nat → Prop} {ws0 : va_W} (hE : Ex A s s.heap) (hA : ∀ q : Nat, s.heap.size ≤ q → A q) (hAe : A = va_A ws0 s.heap.size) {r : Int32 × YS} : ∀ (n : Nat) (σ : YS) (H : Heap) (locs : List Loc) (hP : va_P g.1 vwCl (cY g ad σ) H) (hD : va_D A (cY g ad σ)) (hS : va_S A s.heap H locs) (u2 : Int32) (hi0 : 0 ≤ u2.toInt) (hi1 : u2.toInt ≤ 20) (hm : ((21 : Int) - u2.toInt).toNat < n) (hR : r = mX2_letPass_L45 x1 n σ u2) (ls : Array Slot) (hl : lv_has ls 3 [(2, .int u2), (0, .ref ad.1), (1, .int x1)]), W p l e (rk 2) s m args below meth c H locs 0 0 (MQ below (va_Qi (fun x _ => x = r.1) (Bw g ws0 (cY g ad r.2) s.heap.size) (va_A ws0 s.heap.size)) args s 0 0 (va_A ws0 s.heap.size)) (F0 m 45 ls []) := by
  obtain ⟨hx, hb, hml, hr, hown, hts, hlk, hnm⟩ := id hC
  intro n
  induction n with
  | zero => intro σ H locs hP hD hS u2 hi0 hi1 hm hR ls hl; exact absurd hm (Nat.not_lt_zero _)
  | succ n ih =>
    intro σ H locs hP hD hS u2 hi0 hi1 hm hR ls hl
    refine lv_iload_n hx hb dX2_letPass_45 rfl (lv_at hl 0 rfl) ?_
    refine lv_bipush (v := 20) hx hb dX2_letPass_46 (by decide) ?_
    refine lv_icmp_ge (tgt := 101) hx hb dX2_letPass_48 (by decide) (fun c_3 => ?_) (fun c_3 => ?_)
    · refine lv_aload_n hx hb dX2_letPass_101 rfl (lv_at hl 1 rfl) ?_
      refine lv_aload_n hx hb dX2_letPass_102 rfl (lv_at hl 1 rfl) ?_
      refine gY_day hC rfl hK hP dX2_letPass_103 ?_
      refine callRd hC (k_X2_tideOn l g ad σ (Y_day σ)) ci_X2_tideOn lk_X2_134 ⟨Nat.le_of_ble_eq_true rfl, Nat.le_of_ble_eq_true rfl⟩ hP hK (hE.S hS).none (q0 := 0) rfl rfl rfl rfl hl.1 rfl (Nat.le_of_ble_eq_true rfl) dX2_letPass_106 ⟨Nat.zero_le _, Nat.zero_le _⟩ ?_
      have hm : r = ((mX2_tideOn σ (Y_day σ)), σ) := by rw [hR, mX2_letPass_L45, if_pos c_3]
      exact wr_ret hC hP (hAe ▸ hD) (hAe ▸ hS) dX2_letPass_109 (by rw [hm]) (by rw [hm])
    · refine lv_aload_n hx hb dX2_letPass_51 rfl (lv_at hl 1 rfl) ?_
      refine lv_iload_n hx hb dX2_letPass_52 rfl (lv_at hl 0 rfl) ?_
      refine callRd hC (k_X2_isAshore l g ad σ u2 (in_up (n := 20) rfl hi0 c_3)) ci_X2_isAshore lk_X2_73 ⟨Nat.le_of_ble_eq_true rfl, Nat.le_of_ble_eq_true rfl⟩ hP hK (hE.S hS).none (q0 := 0) rfl rfl rfl rfl hl.1 rfl (Nat.le_of_ble_eq_true rfl) dX2_letPass_53 ⟨Nat.zero_le _, Nat.zero_le _⟩ ?_
      refine lv_if_eq (tgt := 95) hx hb dX2_letPass_56 (by decide) (fun c_4 => ?_) (fun c_4 => ?_)
      · refine lv_iinc (v := (u2 + 1)) (lv' := [(2, .int (u2 + 1)), (0, .ref ad.1), (1, .int x1)]) hx hb dX2_letPass_95 hl (k := 0) rfl rfl (by decide) rfl (fun ls hl => ?_)
        refine lv_goto (tgt := 45) hx hb dX2_letPass_98 (by decide) ?_
        have e9 := up_add (d := 1) (k := 1) (M := 20) rfl hi0 hi1 (by decide) (by decide)
        have e8 := nle_ti (k := 20) rfl c_3
        exact ih σ _ _ hP hD hS (u2 + 1) (by rw [e9]; omega) (by rw [e9]; omega) (by rw [e9]; omega) (by rw [hR, mX2_letPass_L45, if_neg c_3, if_pos c_4]) _ (lv_sub hl [0, 1, 2] rfl)
      · refine lv_aload_n hx hb dX2_letPass_59 rfl (lv_at hl 1 rfl) ?_
        refine lv_iload_n hx hb dX2_letPass_60 rfl (lv_at hl 0 rfl) ?_
        refine lv_bipush (v := 9) hx hb dX2_letPass_61 (by decide) ?_
        refine lv_aload_n hx hb dX2_letPass_63 rfl (lv_at hl 1 rfl) ?_
        refine lv_iload_n hx hb dX2_letPass_64 rfl (lv_at hl 0 rfl) ?_
        refine lv_bipush (v := 9) hx hb dX2_letPass_65 (by decide) ?_
        refine callRd hC (k_X2_fact l g ad σ u2 9 (in_up (n := 20) rfl hi0 c_3) (in_iff.mpr (by decide))) ci_X2_fact lk_X2_51 ⟨Nat.le_of_ble_eq_true rfl, Nat.le_of_ble_eq_true rfl⟩ hP hK (hE.S hS).none (q0 := 0) rfl rfl rfl rfl hl.1 rfl (Nat.le_of_ble_eq_true rfl) dX2_letPass_67 ⟨Nat.zero_le _, Nat.zero_le _⟩ ?_
        refine lv_iload_n hx hb dX2_letPass_70 rfl (lv_at hl 2 rfl) ?_
        refine lv_iadd hx hb dX2_letPass_71 ?_
        refine callWv hC (k_X2_note l g ad σ u2 9 ((mX2_fact σ u2 9) + x1) (in_up (n := 20) rfl hi0 c_3) (in_iff.mpr (by decide))) ci_X2_note lk_X2_55 ⟨Nat.le_of_ble_eq_true rfl, Nat.le_of_ble_eq_true rfl⟩ hP hD hK hE hS hA (q0 := 0) rfl rfl rfl rfl hl.1 rfl (Nat.le_of_ble_eq_true rfl) dX2_letPass_72 ⟨Nat.zero_le _, Nat.zero_le _⟩ (fun H locs hP _ hD hS _ _ => ?_)
        refine lv_aload_n hx hb dX2_letPass_75 rfl (lv_at hl 1 rfl) ?_
        refine lv_iload_n hx hb dX2_letPass_76 rfl (lv_at hl 0 rfl) ?_
        refine lv_bipush (v := 8) hx hb dX2_letPass_77 (by decide) ?_
        refine lv_iconst (v := 0) hx hb dX2_letPass_79 (by decide) ?_
        refine lv_aload_n hx hb dX2_letPass_80 rfl (lv_at hl 1 rfl) ?_
        refine lv_iload_n hx hb dX2_letPass_81 rfl (lv_at hl 0 rfl) ?_
        refine lv_bipush (v := 8) hx hb dX2_letPass_82 (by decide) ?_
        refine callRd hC (k_X2_fact l g ad (mX2_note σ u2 9 ((mX2_fact σ u2 9) + x1)) u2 8 (in_up (n := 20) rfl hi0 c_3) (in_iff.mpr (by decide))) ci_X2_fact lk_X2_51 ⟨Nat.le_of_ble_eq_true rfl, Nat.le_of_ble_eq_true rfl⟩ hP hK (hE.S hS).none (q0 := 0) rfl rfl rfl rfl hl.1 rfl (Nat.le_of_ble_eq_true rfl) dX2_letPass_84 ⟨Nat.zero_le _, Nat.zero_le _⟩ ?_
        refine lv_iload_n hx hb dX2_letPass_87 rfl (lv_at hl 2 rfl) ?_
        refine lv_isub hx hb dX2_letPass_88 ?_
        refine va_mmax hx hb (hml.trans hl.1.symm) hown (hts _ lk_X2_129) (hts _ stc_Lib_Math_max_name) (hts _ ini_java_lang_Math) (hts _ cod_max) (Nat.le_of_ble_eq_true rfl) (Nat.le_of_ble_eq_true rfl) (Nat.zero_le _) (Nat.zero_le _) dX2_letPass_89 ?_
        refine callWv hC (k_X2_note l g ad (mX2_note σ u2 9 ((mX2_fact σ u2 9) + x1)) u2 8 (if 0 < ((mX2_fact (mX2_note σ u2 9 ((mX2_fact σ u2 9) + x1)) u2 8) - x1) then ((mX2_fact (mX2_note σ u2 9 ((mX2_fact σ u2 9) + x1)) u2 8) - x1) else 0) (in_up (n := 20) rfl hi0 c_3) (in_iff.mpr (by decide))) ci_X2_note lk_X2_55 ⟨Nat.le_of_ble_eq_true rfl, Nat.le_of_ble_eq_true rfl⟩ hP hD hK hE hS hA (q0 := 0) rfl rfl rfl rfl hl.1 rfl (Nat.le_of_ble_eq_true rfl) dX2_letPass_92 ⟨Nat.zero_le _, Nat.zero_le _⟩ (fun H locs hP _ hD hS _ _ => ?_)
        refine lv_iinc (v := (u2 + 1)) (lv' := [(2, .int (u2 + 1)), (0, .ref ad.1), (1, .int x1)]) hx hb dX2_letPass_95 hl (k := 0) rfl rfl (by decide) rfl (fun ls hl => ?_)
        refine lv_goto (tgt := 45) hx hb dX2_letPass_98 (by decide) ?_
        have e9 := up_add (d := 1) (k := 1) (M := 20) rfl hi0 hi1 (by decide) (by decide)
        have e8 := nle_ti (k := 20) rfl c_3
        exact ih (mX2_note (mX2_note σ u2 9 ((mX2_fact σ u2 9) + x1)) u2 8 (if 0 < ((mX2_fact (mX2_note σ u2 9 ((mX2_fact σ u2 9) + x1)) u2 8) - x1) then ((mX2_fact (mX2_note σ u2 9 ((mX2_fact σ u2 9) + x1)) u2 8) - x1) else 0)) _ _ hP hD hS (u2 + 1) (by rw [e9]; omega) (by rw [e9]; omega) (by rw [e9]; omega) (by rw [hR, mX2_letPass_L45, if_neg c_3, if_neg c_4]) _ (lv_sub hl [0, 1, 2] rfl)
def mX2_letPass (σ : YS) (x1 : Int32) : Int32 × YS := (if (mX3_within x1 1 99) = 0 then ((-2), σ) else (if ((Y_day σ) + x1) ≤ 9999 then (mX2_letPass_L45 x1 22 (Y_set_liftsToday (Y_set_day σ ((Y_day σ) + x1)) 0) 0) else ((-3), σ)))
set_option maxHeartbeats 4000000 in
set_option maxRecDepth 100000 in
theorem k_X2_letPass (l : Launch) (g : WG) (ad : AY) (σ : YS) (x1 : Int32) : Wr l yX2_letPass cX2_letPass 3 (some .int) 2 g (cY g ad σ) (cY g ad (mX2_letPass σ x1).2) [.ref ad.1, .int x1] (mX2_letPass σ x1).1 := by
  refine wr_of (by decide) (Nat.le_of_ble_eq_true rfl) ?_
  intro p e s m args below meth c ls A hC hAe hP hD hK hE hA hS hl
  obtain ⟨hx, hb, hml, hr, hown, hts, hlk, hnm⟩ := id hC
  have hl : lv_has ls 3 [(0, .ref ad.1), (1, .int x1)] := hl
  refine lv_iload_n hx hb dX2_letPass_0 rfl (lv_at hl 1 rfl) ?_
  refine lv_iconst (v := 1) hx hb dX2_letPass_1 (by decide) ?_
  refine lv_bipush (v := 99) hx hb dX2_letPass_2 (by decide) ?_
  refine callRn hC (k_X3_within l g x1 1 99) ci_X3_within hE.2.1 ⟨Nat.le_of_ble_eq_true rfl, Nat.le_of_ble_eq_true rfl⟩ hK (hE.S hS).none rfl hl.1 rfl (Nat.le_of_ble_eq_true rfl) dX2_letPass_4 ⟨Nat.zero_le _, Nat.zero_le _⟩ ?_
  refine lv_if_ne (tgt := 13) hx hb dX2_letPass_7 (by decide) (fun c_1 => ?_) (fun c_1 => ?_)
  · refine lv_aload_n hx hb dX2_letPass_13 rfl (lv_at hl 0 rfl) ?_
    refine gY_day hC rfl hK hP dX2_letPass_14 ?_
    refine lv_iload_n hx hb dX2_letPass_17 rfl (lv_at hl 1 rfl) ?_
    refine lv_iadd hx hb dX2_letPass_18 ?_
    refine lv_sipush (v := 9999) hx hb dX2_letPass_19 (by decide) ?_
    refine lv_icmp_le (tgt := 28) hx hb dX2_letPass_22 (by decide) (fun c_2 => ?_) (fun c_2 => ?_)
    · refine lv_aload_n hx hb dX2_letPass_28 rfl (lv_at hl 0 rfl) ?_
      refine lv_dup hx hb dX2_letPass_29 rfl ?_
      refine gY_day hC rfl hK hP dX2_letPass_30 ?_
      refine lv_iload_n hx hb dX2_letPass_33 rfl (lv_at hl 1 rfl) ?_
      refine lv_iadd hx hb dX2_letPass_34 ?_
      refine pY_day hC rfl hK hP hD hS dX2_letPass_35 (fun H locs hP hD hS => ?_)
      refine lv_aload_n hx hb dX2_letPass_38 rfl (lv_at hl 0 rfl) ?_
      refine lv_iconst (v := 0) hx hb dX2_letPass_39 (by decide) ?_
      refine pY_liftsToday hC rfl hK hP hD hS dX2_letPass_40 (fun H locs hP hD hS => ?_)
      refine lv_iconst (v := 0) hx hb dX2_letPass_43 (by decide) ?_
      refine lv_istore_n (lv' := [(2, .int 0), (0, .ref ad.1), (1, .int x1)]) hx hb dX2_letPass_44 rfl hl (by decide) rfl (fun ls hl => ?_)
      refine q_X2_letPass_45 l g ad x1 hC hK hE hA hAe 22 (Y_set_liftsToday (Y_set_day σ ((Y_day σ) + x1)) 0) _ _ hP hD hS 0 (by decide) (by decide) (by decide) ?_ _ (lv_sub hl [0, 1, 2] rfl)
      exact by unfold mX2_letPass; rw [if_neg c_1, if_pos c_2]
    · refine lv_bipush (v := (-3)) hx hb dX2_letPass_25 (by decide) ?_
      have hm : mX2_letPass σ x1 = ((-3), σ) := by unfold mX2_letPass; rw [if_neg c_1, if_neg c_2]
      exact wr_ret hC hP (hAe ▸ hD) (hAe ▸ hS) dX2_letPass_27 (by rw [hm]) (by rw [hm])
  · refine lv_bipush (v := (-2)) hx hb dX2_letPass_10 (by decide) ?_
    have hm : mX2_letPass σ x1 = ((-2), σ) := by unfold mX2_letPass; rw [if_pos c_1]
    exact wr_ret hC hP (hAe ▸ hD) (hAe ▸ hS) dX2_letPass_12 (by rw [hm]) (by rw [hm])
end
