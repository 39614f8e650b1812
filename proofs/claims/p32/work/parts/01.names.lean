-- ===== PART A: goes FIRST, ahead of the names: the tables' words, and 'selects' of the private methods out of them =====
/-- a private method of a class that the tables say can be made, by its rows of tables_1 -/
def lw_okq (q : MethodName × Nat) : Prop := (q.1.cls ≠ "java/lang/invoke/MethodHandle" ∧ q.1.cls ≠ "java/lang/invoke/VarHandle") ∧ Cond.instantiable q.1.cls q.2 ∈ tables_1 ∧ Cond.privateMethod q.1 ∈ tables_1 ∧ Cond.instanceMethod q.1 ∈ tables_1
theorem lw_p0 : lw_okq (⟨"WinterYard$Yard", "forget", "(I)V"⟩, 8) := ⟨⟨by decide +kernel, by decide +kernel⟩, List.mem_of_getElem? (i := 16) (by decide +kernel), List.mem_of_getElem? (i := 22) (by decide +kernel), List.mem_of_getElem? (i := 23) (by decide +kernel)⟩
theorem lw_p1 : lw_okq (⟨"WinterYard$Yard", "note", "(III)V"⟩, 8) := ⟨⟨by decide +kernel, by decide +kernel⟩, List.mem_of_getElem? (i := 16) (by decide +kernel), List.mem_of_getElem? (i := 26) (by decide +kernel), List.mem_of_getElem? (i := 27) (by decide +kernel)⟩
theorem lw_p2 : lw_okq (⟨"WinterYard$History", "behindLatest", "()LWinterYard$Yard;"⟩, 3) := ⟨⟨by decide +kernel, by decide +kernel⟩, List.mem_of_getElem? (i := 62) (by decide +kernel), List.mem_of_getElem? (i := 140) (by decide +kernel), List.mem_of_getElem? (i := 141) (by decide +kernel)⟩
theorem lw_p3 : lw_okq (⟨"WinterYard$Yard", "boatsWith", "(II)I"⟩, 8) := ⟨⟨by decide +kernel, by decide +kernel⟩, List.mem_of_getElem? (i := 16) (by decide +kernel), List.mem_of_getElem? (i := 205) (by decide +kernel), List.mem_of_getElem? (i := 206) (by decide +kernel)⟩
theorem lw_p4 : lw_okq (⟨"WinterYard$Yard", "standsIn", "(II)Z"⟩, 8) := ⟨⟨by decide +kernel, by decide +kernel⟩, List.mem_of_getElem? (i := 16) (by decide +kernel), List.mem_of_getElem? (i := 243) (by decide +kernel), List.mem_of_getElem? (i := 244) (by decide +kernel)⟩
theorem lw_p5 : lw_okq (⟨"WinterYard$Yard", "lowestFreeNumber", "()I"⟩, 8) := ⟨⟨by decide +kernel, by decide +kernel⟩, List.mem_of_getElem? (i := 16) (by decide +kernel), List.mem_of_getElem? (i := 347) (by decide +kernel), List.mem_of_getElem? (i := 348) (by decide +kernel)⟩
theorem lw_p6 : lw_okq (⟨"WinterYard$Yard", "noteAfloat", "(I)V"⟩, 8) := ⟨⟨by decide +kernel, by decide +kernel⟩, List.mem_of_getElem? (i := 16) (by decide +kernel), List.mem_of_getElem? (i := 352) (by decide +kernel), List.mem_of_getElem? (i := 353) (by decide +kernel)⟩
theorem lw_p7 : lw_okq (⟨"WinterYard$Yard", "hasMast", "(I)Z"⟩, 8) := ⟨⟨by decide +kernel, by decide +kernel⟩, List.mem_of_getElem? (i := 16) (by decide +kernel), List.mem_of_getElem? (i := 364) (by decide +kernel), List.mem_of_getElem? (i := 365) (by decide +kernel)⟩
theorem lw_p8 : lw_okq (⟨"WinterYard$Yard", "isDeepEnough", "(II)Z"⟩, 8) := ⟨⟨by decide +kernel, by decide +kernel⟩, List.mem_of_getElem? (i := 16) (by decide +kernel), List.mem_of_getElem? (i := 423) (by decide +kernel), List.mem_of_getElem? (i := 424) (by decide +kernel)⟩
theorem lw_p9 : lw_okq (⟨"WinterYard$Yard", "craneBears", "(I)Z"⟩, 8) := ⟨⟨by decide +kernel, by decide +kernel⟩, List.mem_of_getElem? (i := 16) (by decide +kernel), List.mem_of_getElem? (i := 427) (by decide +kernel), List.mem_of_getElem? (i := 428) (by decide +kernel)⟩
theorem lw_p10 : lw_okq (⟨"WinterYard$Yard", "cradleFor", "(I)I"⟩, 8) := ⟨⟨by decide +kernel, by decide +kernel⟩, List.mem_of_getElem? (i := 16) (by decide +kernel), List.mem_of_getElem? (i := 431) (by decide +kernel), List.mem_of_getElem? (i := 432) (by decide +kernel)⟩
theorem lw_p11 : lw_okq (⟨"WinterYard$Yard", "hasFreeCradle", "(I)Z"⟩, 8) := ⟨⟨by decide +kernel, by decide +kernel⟩, List.mem_of_getElem? (i := 16) (by decide +kernel), List.mem_of_getElem? (i := 435) (by decide +kernel), List.mem_of_getElem? (i := 436) (by decide +kernel)⟩
theorem lw_p12 : lw_okq (⟨"WinterYard$Yard", "hasRoom", "(II)Z"⟩, 8) := ⟨⟨by decide +kernel, by decide +kernel⟩, List.mem_of_getElem? (i := 16) (by decide +kernel), List.mem_of_getElem? (i := 444) (by decide +kernel), List.mem_of_getElem? (i := 445) (by decide +kernel)⟩
theorem lw_p13 : lw_okq (⟨"WinterYard$Yard", "metresLeft", "(I)I"⟩, 8) := ⟨⟨by decide +kernel, by decide +kernel⟩, List.mem_of_getElem? (i := 16) (by decide +kernel), List.mem_of_getElem? (i := 448) (by decide +kernel), List.mem_of_getElem? (i := 449) (by decide +kernel)⟩
theorem lw_p14 : lw_okq (⟨"WinterYard$Yard", "putAtOuterEnd", "(II)V"⟩, 8) := ⟨⟨by decide +kernel, by decide +kernel⟩, List.mem_of_getElem? (i := 16) (by decide +kernel), List.mem_of_getElem? (i := 454) (by decide +kernel), List.mem_of_getElem? (i := 455) (by decide +kernel)⟩
theorem lw_p15 : lw_okq (⟨"WinterYard$Yard", "takeLift", "()V"⟩, 8) := ⟨⟨by decide +kernel, by decide +kernel⟩, List.mem_of_getElem? (i := 16) (by decide +kernel), List.mem_of_getElem? (i := 459) (by decide +kernel), List.mem_of_getElem? (i := 460) (by decide +kernel)⟩
def lw_privs_1 : List (MethodName × Nat) := [(⟨"WinterYard$Yard", "forget", "(I)V"⟩, 8), (⟨"WinterYard$Yard", "note", "(III)V"⟩, 8), (⟨"WinterYard$History", "behindLatest", "()LWinterYard$Yard;"⟩, 3), (⟨"WinterYard$Yard", "boatsWith", "(II)I"⟩, 8), (⟨"WinterYard$Yard", "standsIn", "(II)Z"⟩, 8), (⟨"WinterYard$Yard", "lowestFreeNumber", "()I"⟩, 8), (⟨"WinterYard$Yard", "noteAfloat", "(I)V"⟩, 8), (⟨"WinterYard$Yard", "hasMast", "(I)Z"⟩, 8), (⟨"WinterYard$Yard", "isDeepEnough", "(II)Z"⟩, 8), (⟨"WinterYard$Yard", "craneBears", "(I)Z"⟩, 8), (⟨"WinterYard$Yard", "cradleFor", "(I)I"⟩, 8), (⟨"WinterYard$Yard", "hasFreeCradle", "(I)Z"⟩, 8), (⟨"WinterYard$Yard", "hasRoom", "(II)Z"⟩, 8), (⟨"WinterYard$Yard", "metresLeft", "(I)I"⟩, 8), (⟨"WinterYard$Yard", "putAtOuterEnd", "(II)V"⟩, 8), (⟨"WinterYard$Yard", "takeLift", "()V"⟩, 8)]
theorem lw_r1 : ∀ q ∈ lw_privs_1, lw_okq q := List.forall_mem_cons.mpr ⟨lw_p0, List.forall_mem_cons.mpr ⟨lw_p1, List.forall_mem_cons.mpr ⟨lw_p2, List.forall_mem_cons.mpr ⟨lw_p3, List.forall_mem_cons.mpr ⟨lw_p4, List.forall_mem_cons.mpr ⟨lw_p5, List.forall_mem_cons.mpr ⟨lw_p6, List.forall_mem_cons.mpr ⟨lw_p7, List.forall_mem_cons.mpr ⟨lw_p8, List.forall_mem_cons.mpr ⟨lw_p9, List.forall_mem_cons.mpr ⟨lw_p10, List.forall_mem_cons.mpr ⟨lw_p11, List.forall_mem_cons.mpr ⟨lw_p12, List.forall_mem_cons.mpr ⟨lw_p13, List.forall_mem_cons.mpr ⟨lw_p14, List.forall_mem_cons.mpr ⟨lw_p15, fun _ h => absurd h List.not_mem_nil⟩⟩⟩⟩⟩⟩⟩⟩⟩⟩⟩⟩⟩⟩⟩⟩
theorem lw_p16 : lw_okq (⟨"WinterYard$Yard", "rackFor", "(I)I"⟩, 8) := ⟨⟨by decide +kernel, by decide +kernel⟩, List.mem_of_getElem? (i := 16) (by decide +kernel), List.mem_of_getElem? (i := 491) (by decide +kernel), List.mem_of_getElem? (i := 492) (by decide +kernel)⟩
def lw_privs_2 : List (MethodName × Nat) := [(⟨"WinterYard$Yard", "rackFor", "(I)I"⟩, 8)]
theorem lw_r2 : ∀ q ∈ lw_privs_2, lw_okq q := List.forall_mem_cons.mpr ⟨lw_p16, fun _ h => absurd h List.not_mem_nil⟩
def lw_privs : List (MethodName × Nat) := lw_privs_1 ++ (lw_privs_2)
def lw_tbl : List Cond := k2_sels lw_privs ++ tables_1
theorem lw_privs_ok : ∀ q ∈ lw_privs, lw_okq q := by
  show ∀ q ∈ lw_privs_1 ++ (lw_privs_2), lw_okq q
  exact List.forall_mem_append.mpr ⟨lw_r1, lw_r2⟩
def RX0 : String := "WinterYard$History"
def TX0 : u_T := fun k => match k with
  | 0 => ("WinterYard$History", "slots", "[LWinterYard$Yard;", true)
  | 1 => ("WinterYard$History", "oldest", "I", false)
  | _ => ("WinterYard$History", "recorded", "I", false)
def tyX0 : Nat → FieldType := fun k => match k with
  | 0 => .array (.object "WinterYard$Yard")
  | 1 => .int
  | _ => .int
abbrev wsX00 : List Cond := u_ws RX0 TX0 3
theorem nmX0 : ∀ a, a < 3 → ∀ b, b < 3 → a ≠ b → (TX0 a).2.1 ≠ (TX0 b).2.1 := by decide +kernel
theorem tyX0_ok : ∀ k, k < 3 → parseFieldDescriptor (TX0 k).2.2.1 = some (tyX0 k) := by decide +kernel
abbrev cX0_init : ByteArray := prog_2_method_1_code
def yX0_init : MethodName := ⟨RX0, "<init>", "()V"⟩
abbrev cX0_states : ByteArray := prog_2_method_2_code
def yX0_states : MethodName := ⟨RX0, "states", "()I"⟩
abbrev cX0_behindLatest : ByteArray := prog_2_method_3_code
def yX0_behindLatest : MethodName := ⟨RX0, "behindLatest", "()LWinterYard$Yard;"⟩
abbrev cX0_prepare : ByteArray := prog_2_method_4_code
def yX0_prepare : MethodName := ⟨RX0, "prepare", "(LWinterYard$Yard;)V"⟩
abbrev cX0_settle : ByteArray := prog_2_method_5_code
def yX0_settle : MethodName := ⟨RX0, "settle", "(I)I"⟩
abbrev cX0_takeBack : ByteArray := prog_2_method_6_code
def yX0_takeBack : MethodName := ⟨RX0, "takeBack", "(LWinterYard$Yard;)V"⟩
abbrev cX0_stepBack : ByteArray := prog_2_method_7_code
def yX0_stepBack : MethodName := ⟨RX0, "stepBack", "(LWinterYard$Yard;)I"⟩
def RX1 : String := "WinterYard$Plan"
def TX1 : u_T := fun k => match k with
  | 0 => ("WinterYard$Plan", "text", "[C", true)
  | 1 => ("WinterYard$Plan", "length", "I", false)
  | 2 => ("WinterYard$Plan", "at", "I", false)
  | 3 => ("WinterYard$Plan", "signs", "[C", true)
  | 4 => ("WinterYard$Plan", "firsts", "[I", true)
  | 5 => ("WinterYard$Plan", "seconds", "[I", true)
  | _ => ("WinterYard$Plan", "things", "I", false)
def tyX1 : Nat → FieldType := fun k => match k with
  | 0 => .array .char
  | 1 => .int
  | 2 => .int
  | 3 => .array .char
  | 4 => .array .int
  | 5 => .array .int
  | _ => .int
abbrev wsX10 : List Cond := u_ws RX1 TX1 7
theorem nmX1 : ∀ a, a < 7 → ∀ b, b < 7 → a ≠ b → (TX1 a).2.1 ≠ (TX1 b).2.1 := by decide +kernel
theorem tyX1_ok : ∀ k, k < 7 → parseFieldDescriptor (TX1 k).2.2.1 = some (tyX1 k) := by decide +kernel
abbrev cX1_init : ByteArray := prog_3_method_1_code
def yX1_init : MethodName := ⟨RX1, "<init>", "()V"⟩
abbrev cX1_length : ByteArray := prog_3_method_2_code
def yX1_length : MethodName := ⟨RX1, "length", "()I"⟩
def RX2 : String := "WinterYard$Yard"
def TX2 : u_T := fun k => match k with
  | 0 => ("WinterYard$Yard", "facts", "[I", true)
  | 1 => ("WinterYard$Yard", "cradles", "[I", true)
  | 2 => ("WinterYard$Yard", "metres", "[I", true)
  | 3 => ("WinterYard$Yard", "settings", "[I", true)
  | 4 => ("WinterYard$Yard", "day", "I", false)
  | 5 => ("WinterYard$Yard", "liftsToday", "I", false)
  | 6 => ("WinterYard$Yard", "lifts", "I", false)
  | _ => ("WinterYard$Yard", "launches", "I", false)
def tyX2 : Nat → FieldType := fun k => match k with
  | 0 => .array .int
  | 1 => .array .int
  | 2 => .array .int
  | 3 => .array .int
  | 4 => .int
  | 5 => .int
  | 6 => .int
  | _ => .int
abbrev wsX20 : List Cond := u_ws RX2 TX2 8
theorem nmX2 : ∀ a, a < 8 → ∀ b, b < 8 → a ≠ b → (TX2 a).2.1 ≠ (TX2 b).2.1 := by decide +kernel
theorem tyX2_ok : ∀ k, k < 8 → parseFieldDescriptor (TX2 k).2.2.1 = some (tyX2 k) := by decide +kernel
abbrev cX2_init : ByteArray := prog_4_method_1_code
def yX2_init : MethodName := ⟨RX2, "<init>", "()V"⟩
abbrev cX2_copyFrom : ByteArray := prog_4_method_2_code
def yX2_copyFrom : MethodName := ⟨RX2, "copyFrom", "(LWinterYard$Yard;)V"⟩
abbrev cX2_isFact : ByteArray := prog_4_method_3_code
def yX2_isFact : MethodName := ⟨RX2, "isFact", "(I)Z"⟩
abbrev cX2_isRow : ByteArray := prog_4_method_4_code
def yX2_isRow : MethodName := ⟨RX2, "isRow", "(I)Z"⟩
abbrev cX2_isKind : ByteArray := prog_4_method_5_code
def yX2_isKind : MethodName := ⟨RX2, "isKind", "(I)Z"⟩
abbrev cX2_isSetting : ByteArray := prog_4_method_6_code
def yX2_isSetting : MethodName := ⟨RX2, "isSetting", "(I)Z"⟩
abbrev cX2_knows : ByteArray := prog_4_method_7_code
def yX2_knows : MethodName := ⟨RX2, "knows", "(I)Z"⟩
abbrev cX2_hasPlaceFor : ByteArray := prog_4_method_8_code
def yX2_hasPlaceFor : MethodName := ⟨RX2, "hasPlaceFor", "(II)Z"⟩
abbrev cX2_fact : ByteArray := prog_4_method_9_code
def yX2_fact : MethodName := ⟨RX2, "fact", "(II)I"⟩
abbrev cX2_note : ByteArray := prog_4_method_10_code
def yX2_note : MethodName := ⟨RX2, "note", "(III)V"⟩
abbrev cX2_forget : ByteArray := prog_4_method_11_code
def yX2_forget : MethodName := ⟨RX2, "forget", "(I)V"⟩
abbrev cX2_boatsWith : ByteArray := prog_4_method_12_code
def yX2_boatsWith : MethodName := ⟨RX2, "boatsWith", "(II)I"⟩
abbrev cX2_addBoat : ByteArray := prog_4_method_13_code
def yX2_addBoat : MethodName := ⟨RX2, "addBoat", "(IIII)I"⟩
abbrev cX2_lowestFreeNumber : ByteArray := prog_4_method_14_code
def yX2_lowestFreeNumber : MethodName := ⟨RX2, "lowestFreeNumber", "()I"⟩
abbrev cX2_noteAfloat : ByteArray := prog_4_method_15_code
def yX2_noteAfloat : MethodName := ⟨RX2, "noteAfloat", "(I)V"⟩
abbrev cX2_removeBoat : ByteArray := prog_4_method_16_code
def yX2_removeBoat : MethodName := ⟨RX2, "removeBoat", "(I)I"⟩
abbrev cX2_boats : ByteArray := prog_4_method_17_code
def yX2_boats : MethodName := ⟨RX2, "boats", "()I"⟩
abbrev cX2_isAshore : ByteArray := prog_4_method_18_code
def yX2_isAshore : MethodName := ⟨RX2, "isAshore", "(I)Z"⟩
abbrev cX2_boatsAshore : ByteArray := prog_4_method_19_code
def yX2_boatsAshore : MethodName := ⟨RX2, "boatsAshore", "()I"⟩
abbrev cX2_cradlesOf : ByteArray := prog_4_method_20_code
def yX2_cradlesOf : MethodName := ⟨RX2, "cradlesOf", "(I)I"⟩
abbrev cX2_cradlesTaken : ByteArray := prog_4_method_21_code
def yX2_cradlesTaken : MethodName := ⟨RX2, "cradlesTaken", "(I)I"⟩
abbrev cX2_bears : ByteArray := prog_4_method_22_code
def yX2_bears : MethodName := ⟨RX2, "bears", "(I)I"⟩
abbrev cX2_changeCradles : ByteArray := prog_4_method_23_code
def yX2_changeCradles : MethodName := ⟨RX2, "changeCradles", "(II)I"⟩
abbrev cX2_hasFreeCradle : ByteArray := prog_4_method_24_code
def yX2_hasFreeCradle : MethodName := ⟨RX2, "hasFreeCradle", "(I)Z"⟩
abbrev cX2_cradleFor : ByteArray := prog_4_method_25_code
def yX2_cradleFor : MethodName := ⟨RX2, "cradleFor", "(I)I"⟩
abbrev cX2_otherKindFor : ByteArray := prog_4_method_26_code
def yX2_otherKindFor : MethodName := ⟨RX2, "otherKindFor", "(I)I"⟩
abbrev cX2_metresOf : ByteArray := prog_4_method_27_code
def yX2_metresOf : MethodName := ⟨RX2, "metresOf", "(I)I"⟩
abbrev cX2_standsIn : ByteArray := prog_4_method_28_code
def yX2_standsIn : MethodName := ⟨RX2, "standsIn", "(II)Z"⟩
abbrev cX2_metresTaken : ByteArray := prog_4_method_29_code
def yX2_metresTaken : MethodName := ⟨RX2, "metresTaken", "(I)I"⟩
abbrev cX2_metresLeft : ByteArray := prog_4_method_30_code
def yX2_metresLeft : MethodName := ⟨RX2, "metresLeft", "(I)I"⟩
abbrev cX2_hasRoom : ByteArray := prog_4_method_31_code
def yX2_hasRoom : MethodName := ⟨RX2, "hasRoom", "(II)Z"⟩
abbrev cX2_boatsIn : ByteArray := prog_4_method_32_code
def yX2_boatsIn : MethodName := ⟨RX2, "boatsIn", "(I)I"⟩
abbrev cX2_boatAt : ByteArray := prog_4_method_33_code
def yX2_boatAt : MethodName := ⟨RX2, "boatAt", "(II)I"⟩
abbrev cX2_boatsFartherOut : ByteArray := prog_4_method_34_code
def yX2_boatsFartherOut : MethodName := ⟨RX2, "boatsFartherOut", "(I)I"⟩
abbrev cX2_changeRow : ByteArray := prog_4_method_35_code
def yX2_changeRow : MethodName := ⟨RX2, "changeRow", "(II)I"⟩
abbrev cX2_tightestRow : ByteArray := prog_4_method_36_code
def yX2_tightestRow : MethodName := ⟨RX2, "tightestRow", "(I)I"⟩
abbrev cX2_putAtOuterEnd : ByteArray := prog_4_method_37_code
def yX2_putAtOuterEnd : MethodName := ⟨RX2, "putAtOuterEnd", "(II)V"⟩
abbrev cX2_setting : ByteArray := prog_4_method_38_code
def yX2_setting : MethodName := ⟨RX2, "setting", "(I)I"⟩
abbrev cX2_changeSetting : ByteArray := prog_4_method_39_code
def yX2_changeSetting : MethodName := ⟨RX2, "changeSetting", "(II)I"⟩
abbrev cX2_liftsLeft : ByteArray := prog_4_method_40_code
def yX2_liftsLeft : MethodName := ⟨RX2, "liftsLeft", "()I"⟩
abbrev cX2_liftsSoFar : ByteArray := prog_4_method_41_code
def yX2_liftsSoFar : MethodName := ⟨RX2, "liftsSoFar", "()I"⟩
abbrev cX2_launchesSoFar : ByteArray := prog_4_method_42_code
def yX2_launchesSoFar : MethodName := ⟨RX2, "launchesSoFar", "()I"⟩
abbrev cX2_takeLift : ByteArray := prog_4_method_43_code
def yX2_takeLift : MethodName := ⟨RX2, "takeLift", "()V"⟩
abbrev cX2_craneBears : ByteArray := prog_4_method_44_code
def yX2_craneBears : MethodName := ⟨RX2, "craneBears", "(I)Z"⟩
abbrev cX2_isDeepEnough : ByteArray := prog_4_method_45_code
def yX2_isDeepEnough : MethodName := ⟨RX2, "isDeepEnough", "(II)Z"⟩
abbrev cX2_whyNoLift : ByteArray := prog_4_method_46_code
def yX2_whyNoLift : MethodName := ⟨RX2, "whyNoLift", "(II)I"⟩
abbrev cX2_liftInto : ByteArray := prog_4_method_47_code
def yX2_liftInto : MethodName := ⟨RX2, "liftInto", "(II)I"⟩
abbrev cX2_whyNoLaunch : ByteArray := prog_4_method_48_code
def yX2_whyNoLaunch : MethodName := ⟨RX2, "whyNoLaunch", "(I)I"⟩
abbrev cX2_putAfloat : ByteArray := prog_4_method_49_code
def yX2_putAfloat : MethodName := ⟨RX2, "putAfloat", "(I)I"⟩
abbrev cX2_firstLaunchDay : ByteArray := prog_4_method_50_code
def yX2_firstLaunchDay : MethodName := ⟨RX2, "firstLaunchDay", "(I)I"⟩
abbrev cX2_moveTo : ByteArray := prog_4_method_51_code
def yX2_moveTo : MethodName := ⟨RX2, "moveTo", "(II)I"⟩
abbrev cX2_hasMast : ByteArray := prog_4_method_52_code
def yX2_hasMast : MethodName := ⟨RX2, "hasMast", "(I)Z"⟩
abbrev cX2_mastsIn : ByteArray := prog_4_method_53_code
def yX2_mastsIn : MethodName := ⟨RX2, "mastsIn", "(I)I"⟩
abbrev cX2_rackFor : ByteArray := prog_4_method_54_code
def yX2_rackFor : MethodName := ⟨RX2, "rackFor", "(I)I"⟩
abbrev cX2_takeMastOff : ByteArray := prog_4_method_55_code
def yX2_takeMastOff : MethodName := ⟨RX2, "takeMastOff", "(I)I"⟩
abbrev cX2_putMastUp : ByteArray := prog_4_method_56_code
def yX2_putMastUp : MethodName := ⟨RX2, "putMastUp", "(I)I"⟩
abbrev cX2_orderWork : ByteArray := prog_4_method_57_code
def yX2_orderWork : MethodName := ⟨RX2, "orderWork", "(II)I"⟩
abbrev cX2_boatsWithWork : ByteArray := prog_4_method_58_code
def yX2_boatsWithWork : MethodName := ⟨RX2, "boatsWithWork", "()I"⟩
abbrev cX2_today : ByteArray := prog_4_method_59_code
def yX2_today : MethodName := ⟨RX2, "today", "()I"⟩
abbrev cX2_tideOn : ByteArray := prog_4_method_60_code
def yX2_tideOn : MethodName := ⟨RX2, "tideOn", "(I)I"⟩
abbrev cX2_letPass : ByteArray := prog_4_method_61_code
def yX2_letPass : MethodName := ⟨RX2, "letPass", "(I)I"⟩
def RX3 : String := "WinterYard"
def TX3 : u_T := fun k => match k with
  | 0 => ("WinterYard", "yard", "LWinterYard$Yard;", true)
  | 1 => ("WinterYard", "snapshot", "LWinterYard$Yard;", true)
  | 2 => ("WinterYard", "hasSnapshot", "Z", false)
  | 3 => ("WinterYard", "history", "LWinterYard$History;", true)
  | 4 => ("WinterYard", "plan", "LWinterYard$Plan;", true)
  | 5 => ("WinterYard", "stopNumber", "I", false)
  | _ => ("WinterYard", "stopError", "I", false)
def tyX3 : Nat → FieldType := fun k => match k with
  | 0 => .object "WinterYard$Yard"
  | 1 => .object "WinterYard$Yard"
  | 2 => .boolean
  | 3 => .object "WinterYard$History"
  | 4 => .object "WinterYard$Plan"
  | 5 => .int
  | _ => .int
abbrev wsX30 : List Cond := u_ws RX3 TX3 7
theorem nmX3 : ∀ a, a < 7 → ∀ b, b < 7 → a ≠ b → (TX3 a).2.1 ≠ (TX3 b).2.1 := by decide +kernel
theorem tyX3_ok : ∀ k, k < 7 → parseFieldDescriptor (TX3 k).2.2.1 = some (tyX3 k) := by decide +kernel
abbrev cX3_init : ByteArray := prog_1_method_1_code
def yX3_init : MethodName := ⟨RX3, "<init>", "()V"⟩
abbrev cX3_come : ByteArray := prog_1_method_2_code
def yX3_come : MethodName := ⟨RX3, "come", "(IIII)I"⟩
abbrev cX3_goAway : ByteArray := prog_1_method_3_code
def yX3_goAway : MethodName := ⟨RX3, "goAway", "(I)I"⟩
abbrev cX3_setCradles : ByteArray := prog_1_method_4_code
def yX3_setCradles : MethodName := ⟨RX3, "setCradles", "(II)I"⟩
abbrev cX3_setRow : ByteArray := prog_1_method_5_code
def yX3_setRow : MethodName := ⟨RX3, "setRow", "(II)I"⟩
abbrev cX3_set : ByteArray := prog_1_method_6_code
def yX3_set : MethodName := ⟨RX3, "set", "(II)I"⟩
abbrev cX3_lift : ByteArray := prog_1_method_7_code
def yX3_lift : MethodName := ⟨RX3, "lift", "(II)I"⟩
abbrev cX3_launch : ByteArray := prog_1_method_8_code
def yX3_launch : MethodName := ⟨RX3, "launch", "(I)I"⟩
abbrev cX3_move : ByteArray := prog_1_method_9_code
def yX3_move : MethodName := ⟨RX3, "move", "(II)I"⟩
abbrev cX3_mast : ByteArray := prog_1_method_10_code
def yX3_mast : MethodName := ⟨RX3, "mast", "(IZ)I"⟩
abbrev cX3_work : ByteArray := prog_1_method_11_code
def yX3_work : MethodName := ⟨RX3, "work", "(II)I"⟩
abbrev cX3_pass : ByteArray := prog_1_method_12_code
def yX3_pass : MethodName := ⟨RX3, "pass", "(I)I"⟩
abbrev cX3_stopped : ByteArray := prog_1_method_17_code
def yX3_stopped : MethodName := ⟨RX3, "stopped", "(I)I"⟩
abbrev cX3_undo : ByteArray := prog_1_method_18_code
def yX3_undo : MethodName := ⟨RX3, "undo", "()I"⟩
abbrev cX3_restore : ByteArray := prog_1_method_20_code
def yX3_restore : MethodName := ⟨RX3, "restore", "()I"⟩
abbrev cX3_boat : ByteArray := prog_1_method_21_code
def yX3_boat : MethodName := ⟨RX3, "boat", "(II)I"⟩
abbrev cX3_row : ByteArray := prog_1_method_22_code
def yX3_row : MethodName := ⟨RX3, "row", "(II)I"⟩
abbrev cX3_stands : ByteArray := prog_1_method_23_code
def yX3_stands : MethodName := ⟨RX3, "stands", "(II)I"⟩
abbrev cX3_cradle : ByteArray := prog_1_method_24_code
def yX3_cradle : MethodName := ⟨RX3, "cradle", "(II)I"⟩
abbrev cX3_tide : ByteArray := prog_1_method_25_code
def yX3_tide : MethodName := ⟨RX3, "tide", "(I)I"⟩
abbrev cX3_liftReason : ByteArray := prog_1_method_26_code
def yX3_liftReason : MethodName := ⟨RX3, "liftReason", "(II)I"⟩
abbrev cX3_launchReason : ByteArray := prog_1_method_27_code
def yX3_launchReason : MethodName := ⟨RX3, "launchReason", "(I)I"⟩
abbrev cX3_blockers : ByteArray := prog_1_method_28_code
def yX3_blockers : MethodName := ⟨RX3, "blockers", "(I)I"⟩
abbrev cX3_launchDay : ByteArray := prog_1_method_29_code
def yX3_launchDay : MethodName := ⟨RX3, "launchDay", "(I)I"⟩
abbrev cX3_bestRow : ByteArray := prog_1_method_30_code
def yX3_bestRow : MethodName := ⟨RX3, "bestRow", "(I)I"⟩
abbrev cX3_count : ByteArray := prog_1_method_31_code
def yX3_count : MethodName := ⟨RX3, "count", "(I)I"⟩
abbrev cX3_within : ByteArray := prog_1_method_32_code
def yX3_within : MethodName := ⟨RX3, "within", "(III)Z"⟩
def RX4 : String := "WinterYardModel"
def TX4 : u_T := fun k => match k with
  | _ => ("", "", "", false)
def tyX4 : Nat → FieldType := fun k => match k with
  | _ => .int
abbrev wsX40 : List Cond := u_ws RX4 TX4 0
theorem nmX4 : ∀ a, a < 0 → ∀ b, b < 0 → a ≠ b → (TX4 a).2.1 ≠ (TX4 b).2.1 := by decide +kernel
theorem tyX4_ok : ∀ k, k < 0 → parseFieldDescriptor (TX4 k).2.2.1 = some (tyX4 k) := by decide +kernel
def RL : String := "WinterYardLaw"
abbrev cL_cell : ByteArray := method_2_code
def yL_cell : MethodName := ⟨RL, "cell", "([II)I"⟩
abbrev cL_low : ByteArray := method_3_code
def yL_low : MethodName := ⟨RL, "low", "(II)I"⟩
abbrev cL_of : ByteArray := method_4_code
def yL_of : MethodName := ⟨RL, "of", "([III)I"⟩
abbrev cL_tide : ByteArray := method_5_code
def yL_tide : MethodName := ⟨RL, "tide", "(I[I)I"⟩
abbrev cL_left : ByteArray := method_6_code
def yL_left : MethodName := ⟨RL, "left", "([I)I"⟩
abbrev cL_bears : ByteArray := method_7_code
def yL_bears : MethodName := ⟨RL, "bears", "(I)I"⟩
abbrev cL_taken : ByteArray := method_8_code
def yL_taken : MethodName := ⟨RL, "taken", "(I[I)I"⟩
abbrev cL_cradle : ByteArray := method_9_code
def yL_cradle : MethodName := ⟨RL, "cradle", "(I[I[I)I"⟩
abbrev cL_room : ByteArray := method_10_code
def yL_room : MethodName := ⟨RL, "room", "(I[I[I[I)I"⟩
abbrev cL_place : ByteArray := method_11_code
def yL_place : MethodName := ⟨RL, "place", "(I[I[I)I"⟩
abbrev cL_masts : ByteArray := method_12_code
def yL_masts : MethodName := ⟨RL, "masts", "(I[I)I"⟩
abbrev cL_liftReason : ByteArray := method_13_code
def yL_liftReason : MethodName := ⟨RL, "liftReason", "(II[I[I[I)I"⟩
abbrev cL_launchReason : ByteArray := method_14_code
def yL_launchReason : MethodName := ⟨RL, "launchReason", "(I[I[I[I)I"⟩
abbrev cL_stand : ByteArray := method_15_code
def yL_stand : MethodName := ⟨RL, "stand", "(II[I[I)V"⟩
abbrev cL_yard : ByteArray := method_16_code
def yL_yard : MethodName := ⟨RL, "yard", "(LWinterYard;II[I[I[I[I)Z"⟩
abbrev cL_boats : ByteArray := method_17_code
def yL_boats : MethodName := ⟨RL, "boats", "(LWinterYard;II[I[I[I[I)Z"⟩
abbrev cL_launchDay : ByteArray := method_18_code
def yL_launchDay : MethodName := ⟨RL, "launchDay", "(I[I[I)I"⟩
abbrev cL_isBoat : ByteArray := method_19_code
def yL_isBoat : MethodName := ⟨RL, "isBoat", "(LWinterYard;I[I[I[I[I)Z"⟩
abbrev cL_isSo : ByteArray := method_20_code
def yL_isSo : MethodName := ⟨RL, "isSo", "(LWinterYard;[I[I[I[I)Z"⟩
abbrev cL_law : ByteArray := code
def yL_law : MethodName := ⟨RL, "law", "([I)Z"⟩
abbrev vwCl : List vw_C := [(RX0, TX0, 3), (RX1, TX1, 7), (RX2, TX2, 8), (RX3, TX3, 7)]
