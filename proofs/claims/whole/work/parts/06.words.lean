/-! one list of words for all methods: the good ones of the tables -/
def wB : List Cond := lw_tbl.filter goodWord
theorem inB {w : Cond} (h : w ∈ lw_tbl) (g : goodWord w = true) : w ∈ wB := List.mem_filter.mpr ⟨h, g⟩
theorem wB_tbl {w : Cond} (h : w ∈ wB) : w ∈ lw_tbl := (List.mem_filter.mp h).1
theorem wB_good {w : Cond} (h : w ∈ wB) : (w.onTables && w.keeps) = true ∨ ∃ ty, w = .arrayClass ty := good_of_word (List.mem_filter.mp h).2
theorem sel_X2_forget : Cond.selects RX2 yX2_forget yX2_forget ∈ wB := inB (List.mem_of_getElem? (i := 0) (by decide +kernel)) rfl
theorem sel_X2_note : Cond.selects RX2 yX2_note yX2_note ∈ wB := inB (List.mem_of_getElem? (i := 1) (by decide +kernel)) rfl
theorem sel_X0_behindLatest : Cond.selects RX0 yX0_behindLatest yX0_behindLatest ∈ wB := inB (List.mem_of_getElem? (i := 2) (by decide +kernel)) rfl
theorem sel_X2_lowestFreeNumber : Cond.selects RX2 yX2_lowestFreeNumber yX2_lowestFreeNumber ∈ wB := inB (List.mem_of_getElem? (i := 3) (by decide +kernel)) rfl
theorem sel_X2_noteAfloat : Cond.selects RX2 yX2_noteAfloat yX2_noteAfloat ∈ wB := inB (List.mem_of_getElem? (i := 4) (by decide +kernel)) rfl
theorem sel_X2_hasMast : Cond.selects RX2 yX2_hasMast yX2_hasMast ∈ wB := inB (List.mem_of_getElem? (i := 5) (by decide +kernel)) rfl
theorem sel_X2_boatsWith : Cond.selects RX2 yX2_boatsWith yX2_boatsWith ∈ wB := inB (List.mem_of_getElem? (i := 6) (by decide +kernel)) rfl
theorem sel_X2_isDeepEnough : Cond.selects RX2 yX2_isDeepEnough yX2_isDeepEnough ∈ wB := inB (List.mem_of_getElem? (i := 7) (by decide +kernel)) rfl
theorem sel_X2_craneBears : Cond.selects RX2 yX2_craneBears yX2_craneBears ∈ wB := inB (List.mem_of_getElem? (i := 8) (by decide +kernel)) rfl
theorem sel_X2_cradleFor : Cond.selects RX2 yX2_cradleFor yX2_cradleFor ∈ wB := inB (List.mem_of_getElem? (i := 9) (by decide +kernel)) rfl
theorem sel_X2_hasFreeCradle : Cond.selects RX2 yX2_hasFreeCradle yX2_hasFreeCradle ∈ wB := inB (List.mem_of_getElem? (i := 10) (by decide +kernel)) rfl
theorem sel_X2_hasRoom : Cond.selects RX2 yX2_hasRoom yX2_hasRoom ∈ wB := inB (List.mem_of_getElem? (i := 11) (by decide +kernel)) rfl
theorem sel_X2_metresLeft : Cond.selects RX2 yX2_metresLeft yX2_metresLeft ∈ wB := inB (List.mem_of_getElem? (i := 12) (by decide +kernel)) rfl
theorem sel_X2_putAtOuterEnd : Cond.selects RX2 yX2_putAtOuterEnd yX2_putAtOuterEnd ∈ wB := inB (List.mem_of_getElem? (i := 13) (by decide +kernel)) rfl
theorem sel_X2_takeLift : Cond.selects RX2 yX2_takeLift yX2_takeLift ∈ wB := inB (List.mem_of_getElem? (i := 14) (by decide +kernel)) rfl
theorem sel_X2_standsIn : Cond.selects RX2 yX2_standsIn yX2_standsIn ∈ wB := inB (List.mem_of_getElem? (i := 15) (by decide +kernel)) rfl
theorem sel_X2_rackFor : Cond.selects RX2 yX2_rackFor yX2_rackFor ∈ wB := inB (List.mem_of_getElem? (i := 16) (by decide +kernel)) rfl
theorem sel_X1_readThing : Cond.selects RX1 yX1_readThing yX1_readThing ∈ wB := inB (List.mem_of_getElem? (i := 17) (by decide +kernel)) rfl
theorem sel_X1_readNumber : Cond.selects RX1 yX1_readNumber yX1_readNumber ∈ wB := inB (List.mem_of_getElem? (i := 18) (by decide +kernel)) rfl
theorem sel_X1_digit : Cond.selects RX1 yX1_digit yX1_digit ∈ wB := inB (List.mem_of_getElem? (i := 19) (by decide +kernel)) rfl
theorem sel_X1_readCharacter : Cond.selects RX1 yX1_readCharacter yX1_readCharacter ∈ wB := inB (List.mem_of_getElem? (i := 20) (by decide +kernel)) rfl
theorem sel_X1_add : Cond.selects RX1 yX1_add yX1_add ∈ wB := inB (List.mem_of_getElem? (i := 21) (by decide +kernel)) rfl
theorem sel_X1_has : Cond.selects RX1 yX1_has yX1_has ∈ wB := inB (List.mem_of_getElem? (i := 22) (by decide +kernel)) rfl
theorem sel_X3_doThing : Cond.selects RX3 yX3_doThing yX3_doThing ∈ wB := inB (List.mem_of_getElem? (i := 23) (by decide +kernel)) rfl
theorem sel_X4_boats : Cond.selects RX4 yX4_boats yX4_boats ∈ wB := inB (List.mem_of_getElem? (i := 24) (by decide +kernel)) rfl
theorem sel_X4_of : Cond.selects RX4 yX4_of yX4_of ∈ wB := inB (List.mem_of_getElem? (i := 25) (by decide +kernel)) rfl
theorem sel_X4_push : Cond.selects RX4 yX4_push yX4_push ∈ wB := inB (List.mem_of_getElem? (i := 26) (by decide +kernel)) rfl
theorem sel_X4_put : Cond.selects RX4 yX4_put yX4_put ∈ wB := inB (List.mem_of_getElem? (i := 27) (by decide +kernel)) rfl
theorem sel_X4_isBoat : Cond.selects RX4 yX4_isBoat yX4_isBoat ∈ wB := inB (List.mem_of_getElem? (i := 28) (by decide +kernel)) rfl
theorem sel_X4_isAshore : Cond.selects RX4 yX4_isAshore yX4_isAshore ∈ wB := inB (List.mem_of_getElem? (i := 29) (by decide +kernel)) rfl
theorem sel_X4_taken : Cond.selects RX4 yX4_taken yX4_taken ∈ wB := inB (List.mem_of_getElem? (i := 30) (by decide +kernel)) rfl
theorem sel_X4_change : Cond.selects RX4 yX4_change yX4_change ∈ wB := inB (List.mem_of_getElem? (i := 31) (by decide +kernel)) rfl
theorem sel_X4_metresTaken : Cond.selects RX4 yX4_metresTaken yX4_metresTaken ∈ wB := inB (List.mem_of_getElem? (i := 32) (by decide +kernel)) rfl
theorem sel_X4_isIn : Cond.selects RX4 yX4_isIn yX4_isIn ∈ wB := inB (List.mem_of_getElem? (i := 33) (by decide +kernel)) rfl
theorem sel_X4_noLift : Cond.selects RX4 yX4_noLift yX4_noLift ∈ wB := inB (List.mem_of_getElem? (i := 34) (by decide +kernel)) rfl
theorem sel_X4_whyNoLift : Cond.selects RX4 yX4_whyNoLift yX4_whyNoLift ∈ wB := inB (List.mem_of_getElem? (i := 35) (by decide +kernel)) rfl
theorem sel_X4_tideAt : Cond.selects RX4 yX4_tideAt yX4_tideAt ∈ wB := inB (List.mem_of_getElem? (i := 36) (by decide +kernel)) rfl
theorem sel_X4_cradleFor : Cond.selects RX4 yX4_cradleFor yX4_cradleFor ∈ wB := inB (List.mem_of_getElem? (i := 37) (by decide +kernel)) rfl
theorem sel_X4_isFree : Cond.selects RX4 yX4_isFree yX4_isFree ∈ wB := inB (List.mem_of_getElem? (i := 38) (by decide +kernel)) rfl
theorem sel_X4_hasRoom : Cond.selects RX4 yX4_hasRoom yX4_hasRoom ∈ wB := inB (List.mem_of_getElem? (i := 39) (by decide +kernel)) rfl
theorem sel_X4_metresLeft : Cond.selects RX4 yX4_metresLeft yX4_metresLeft ∈ wB := inB (List.mem_of_getElem? (i := 40) (by decide +kernel)) rfl
theorem sel_X4_liftsLeft : Cond.selects RX4 yX4_liftsLeft yX4_liftsLeft ∈ wB := inB (List.mem_of_getElem? (i := 41) (by decide +kernel)) rfl
theorem sel_X4_doLift : Cond.selects RX4 yX4_doLift yX4_doLift ∈ wB := inB (List.mem_of_getElem? (i := 42) (by decide +kernel)) rfl
theorem sel_X4_stand : Cond.selects RX4 yX4_stand yX4_stand ∈ wB := inB (List.mem_of_getElem? (i := 43) (by decide +kernel)) rfl
theorem sel_X4_useCrane : Cond.selects RX4 yX4_useCrane yX4_useCrane ∈ wB := inB (List.mem_of_getElem? (i := 44) (by decide +kernel)) rfl
theorem sel_X4_boatsIn : Cond.selects RX4 yX4_boatsIn yX4_boatsIn ∈ wB := inB (List.mem_of_getElem? (i := 45) (by decide +kernel)) rfl
theorem sel_X4_noLaunch : Cond.selects RX4 yX4_noLaunch yX4_noLaunch ∈ wB := inB (List.mem_of_getElem? (i := 46) (by decide +kernel)) rfl
theorem sel_X4_whyNoLaunch : Cond.selects RX4 yX4_whyNoLaunch yX4_whyNoLaunch ∈ wB := inB (List.mem_of_getElem? (i := 47) (by decide +kernel)) rfl
theorem sel_X4_blockersOf : Cond.selects RX4 yX4_blockersOf yX4_blockersOf ∈ wB := inB (List.mem_of_getElem? (i := 48) (by decide +kernel)) rfl
theorem sel_X4_placeOf : Cond.selects RX4 yX4_placeOf yX4_placeOf ∈ wB := inB (List.mem_of_getElem? (i := 49) (by decide +kernel)) rfl
theorem sel_X4_doLaunch : Cond.selects RX4 yX4_doLaunch yX4_doLaunch ∈ wB := inB (List.mem_of_getElem? (i := 50) (by decide +kernel)) rfl
theorem sel_X4_noMove : Cond.selects RX4 yX4_noMove yX4_noMove ∈ wB := inB (List.mem_of_getElem? (i := 51) (by decide +kernel)) rfl
theorem sel_X4_doMove : Cond.selects RX4 yX4_doMove yX4_doMove ∈ wB := inB (List.mem_of_getElem? (i := 52) (by decide +kernel)) rfl
theorem sel_X4_noMast : Cond.selects RX4 yX4_noMast yX4_noMast ∈ wB := inB (List.mem_of_getElem? (i := 53) (by decide +kernel)) rfl
theorem sel_X4_rackFor : Cond.selects RX4 yX4_rackFor yX4_rackFor ∈ wB := inB (List.mem_of_getElem? (i := 54) (by decide +kernel)) rfl
theorem sel_X4_mastsIn : Cond.selects RX4 yX4_mastsIn yX4_mastsIn ∈ wB := inB (List.mem_of_getElem? (i := 55) (by decide +kernel)) rfl
theorem sel_X4_doMast : Cond.selects RX4 yX4_doMast yX4_doMast ∈ wB := inB (List.mem_of_getElem? (i := 56) (by decide +kernel)) rfl
theorem sel_X4_noPass : Cond.selects RX4 yX4_noPass yX4_noPass ∈ wB := inB (List.mem_of_getElem? (i := 57) (by decide +kernel)) rfl
theorem sel_X4_doPass : Cond.selects RX4 yX4_doPass yX4_doPass ∈ wB := inB (List.mem_of_getElem? (i := 58) (by decide +kernel)) rfl
theorem sel_X4_findFault : Cond.selects RX4 yX4_findFault yX4_findFault ∈ wB := inB (List.mem_of_getElem? (i := 59) (by decide +kernel)) rfl
theorem sel_X4_readCommand : Cond.selects RX4 yX4_readCommand yX4_readCommand ∈ wB := inB (List.mem_of_getElem? (i := 60) (by decide +kernel)) rfl
theorem sel_X4_at : Cond.selects RX4 yX4_at yX4_at ∈ wB := inB (List.mem_of_getElem? (i := 61) (by decide +kernel)) rfl
theorem sel_X4_readNumber : Cond.selects RX4 yX4_readNumber yX4_readNumber ∈ wB := inB (List.mem_of_getElem? (i := 62) (by decide +kernel)) rfl
theorem sel_X4_noCommand : Cond.selects RX4 yX4_noCommand yX4_noCommand ∈ wB := inB (List.mem_of_getElem? (i := 63) (by decide +kernel)) rfl
theorem sel_X4_doCommand : Cond.selects RX4 yX4_doCommand yX4_doCommand ∈ wB := inB (List.mem_of_getElem? (i := 64) (by decide +kernel)) rfl
theorem sel_X4_boatAt : Cond.selects RX4 yX4_boatAt yX4_boatAt ∈ wB := inB (List.mem_of_getElem? (i := 65) (by decide +kernel)) rfl
theorem ini_L : Cond.initialized RL ∈ wB := inB (List.mem_of_getElem? (i := 66) (by decide +kernel)) rfl
theorem ini_X3 : Cond.initialized RX3 ∈ wB := inB (List.mem_of_getElem? (i := 67) (by decide +kernel)) rfl
theorem ini_X2 : Cond.initialized RX2 ∈ wB := inB (List.mem_of_getElem? (i := 68) (by decide +kernel)) rfl
theorem ini_X0 : Cond.initialized RX0 ∈ wB := inB (List.mem_of_getElem? (i := 69) (by decide +kernel)) rfl
theorem ini_X1 : Cond.initialized RX1 ∈ wB := inB (List.mem_of_getElem? (i := 70) (by decide +kernel)) rfl
theorem ini_X4 : Cond.initialized RX4 ∈ wB := inB (List.mem_of_getElem? (i := 71) (by decide +kernel)) rfl
theorem ini_java_lang_System : Cond.initialized "java/lang/System" ∈ wB := inB (List.mem_of_getElem? (i := 72) (by decide +kernel)) rfl
theorem ini_java_lang_Math : Cond.initialized "java/lang/Math" ∈ wB := inB (List.mem_of_getElem? (i := 73) (by decide +kernel)) rfl
theorem cl_L_7 : Cond.classLink RL 7 RX3 ∈ wB := inB (List.mem_of_getElem? (i := 74) (by decide +kernel)) rfl
theorem inst_X3 : Cond.instantiable RX3 7 ∈ wB := inB (List.mem_of_getElem? (i := 75) (by decide +kernel)) rfl
theorem lk_L_9 : Cond.methodLink RL 9 yX3_init ∈ wB := inB (List.mem_of_getElem? (i := 76) (by decide +kernel)) rfl
theorem ins_X3_init : Cond.instanceMethod yX3_init ∈ wB := inB (List.mem_of_getElem? (i := 77) (by decide +kernel)) rfl
theorem cod_X3_init : Cond.code yX3_init cX3_init 1 none ∈ wB := inB (List.mem_of_getElem? (i := 78) (by decide +kernel)) rfl
theorem lk_X3_1 : Cond.methodLink RX3 1 objectInit ∈ wB := inB (List.mem_of_getElem? (i := 79) (by decide +kernel)) rfl
theorem ins_Object : Cond.instanceMethod objectInit ∈ wB := inB (List.mem_of_getElem? (i := 80) (by decide +kernel)) rfl
theorem cod_Object : Cond.code objectInit ⟨#[0xb1]⟩ 1 none ∈ wB := inB (List.mem_of_getElem? (i := 81) (by decide +kernel)) rfl
theorem cl_X3_7 : Cond.classLink RX3 7 RX2 ∈ wB := inB (List.mem_of_getElem? (i := 82) (by decide +kernel)) rfl
theorem inst_X2 : Cond.instantiable RX2 8 ∈ wB := inB (List.mem_of_getElem? (i := 83) (by decide +kernel)) rfl
theorem lk_X3_9 : Cond.methodLink RX3 9 yX2_init ∈ wB := inB (List.mem_of_getElem? (i := 84) (by decide +kernel)) rfl
theorem ins_X2_init : Cond.instanceMethod yX2_init ∈ wB := inB (List.mem_of_getElem? (i := 85) (by decide +kernel)) rfl
theorem cod_X2_init : Cond.code yX2_init cX2_init 2 none ∈ wB := inB (List.mem_of_getElem? (i := 86) (by decide +kernel)) rfl
theorem lk_X2_3 : Cond.methodLink RX2 3 objectInit ∈ wB := inB (List.mem_of_getElem? (i := 87) (by decide +kernel)) rfl
theorem lk_X2_37 : Cond.methodLink RX2 37 yX2_forget ∈ wB := inB (List.mem_of_getElem? (i := 88) (by decide +kernel)) rfl
theorem ins_X2_forget : Cond.instanceMethod yX2_forget ∈ wB := inB (List.mem_of_getElem? (i := 90) (by decide +kernel)) rfl
theorem cod_X2_forget : Cond.code yX2_forget cX2_forget 3 none ∈ wB := inB (List.mem_of_getElem? (i := 91) (by decide +kernel)) rfl
theorem lk_X2_59 : Cond.methodLink RX2 59 yX2_note ∈ wB := inB (List.mem_of_getElem? (i := 92) (by decide +kernel)) rfl
theorem ins_X2_note : Cond.instanceMethod yX2_note ∈ wB := inB (List.mem_of_getElem? (i := 94) (by decide +kernel)) rfl
theorem cod_X2_note : Cond.code yX2_note cX2_note 4 none ∈ wB := inB (List.mem_of_getElem? (i := 95) (by decide +kernel)) rfl
theorem lk_X2_55 : Cond.methodLink RX2 55 yX2_hasPlaceFor ∈ wB := inB (List.mem_of_getElem? (i := 96) (by decide +kernel)) rfl
theorem stc_X2_hasPlaceFor : Cond.static yX2_hasPlaceFor ∈ wB := inB (List.mem_of_getElem? (i := 97) (by decide +kernel)) rfl
theorem cod_X2_hasPlaceFor : Cond.code yX2_hasPlaceFor cX2_hasPlaceFor 2 (some .boolean) ∈ wB := inB (List.mem_of_getElem? (i := 98) (by decide +kernel)) rfl
theorem lk_X2_51 : Cond.methodLink RX2 51 yX2_isFact ∈ wB := inB (List.mem_of_getElem? (i := 99) (by decide +kernel)) rfl
theorem stc_X2_isFact : Cond.static yX2_isFact ∈ wB := inB (List.mem_of_getElem? (i := 100) (by decide +kernel)) rfl
theorem cod_X2_isFact : Cond.code yX2_isFact cX2_isFact 1 (some .boolean) ∈ wB := inB (List.mem_of_getElem? (i := 101) (by decide +kernel)) rfl
theorem fl_X2_11 : Cond.fieldLink RX2 11 "WinterYard$Yard" "facts" "[I" ∈ wB := inB (List.mem_of_getElem? (i := 102) (by decide +kernel)) rfl
theorem fl_X2_15 : Cond.fieldLink RX2 15 "WinterYard$Yard" "cradles" "[I" ∈ wB := inB (List.mem_of_getElem? (i := 103) (by decide +kernel)) rfl
theorem fl_X2_18 : Cond.fieldLink RX2 18 "WinterYard$Yard" "metres" "[I" ∈ wB := inB (List.mem_of_getElem? (i := 104) (by decide +kernel)) rfl
theorem fl_X2_21 : Cond.fieldLink RX2 21 "WinterYard$Yard" "settings" "[I" ∈ wB := inB (List.mem_of_getElem? (i := 105) (by decide +kernel)) rfl
theorem fl_X2_24 : Cond.fieldLink RX2 24 "WinterYard$Yard" "day" "I" ∈ wB := inB (List.mem_of_getElem? (i := 106) (by decide +kernel)) rfl
theorem fl_X2_28 : Cond.fieldLink RX2 28 "WinterYard$Yard" "liftsToday" "I" ∈ wB := inB (List.mem_of_getElem? (i := 107) (by decide +kernel)) rfl
theorem fl_X2_31 : Cond.fieldLink RX2 31 "WinterYard$Yard" "lifts" "I" ∈ wB := inB (List.mem_of_getElem? (i := 108) (by decide +kernel)) rfl
theorem fl_X2_34 : Cond.fieldLink RX2 34 "WinterYard$Yard" "launches" "I" ∈ wB := inB (List.mem_of_getElem? (i := 109) (by decide +kernel)) rfl
theorem arrc_int : Cond.arrayClass .int ∈ wB := inB (List.mem_of_getElem? (i := 127) (by decide +kernel)) rfl
theorem cl_X3_23 : Cond.classLink RX3 23 RX0 ∈ wB := inB (List.mem_of_getElem? (i := 128) (by decide +kernel)) rfl
theorem inst_X0 : Cond.instantiable RX0 3 ∈ wB := inB (List.mem_of_getElem? (i := 129) (by decide +kernel)) rfl
theorem lk_X3_25 : Cond.methodLink RX3 25 yX0_init ∈ wB := inB (List.mem_of_getElem? (i := 130) (by decide +kernel)) rfl
theorem ins_X0_init : Cond.instanceMethod yX0_init ∈ wB := inB (List.mem_of_getElem? (i := 131) (by decide +kernel)) rfl
theorem cod_X0_init : Cond.code yX0_init cX0_init 2 none ∈ wB := inB (List.mem_of_getElem? (i := 132) (by decide +kernel)) rfl
theorem lk_X0_5 : Cond.methodLink RX0 5 objectInit ∈ wB := inB (List.mem_of_getElem? (i := 133) (by decide +kernel)) rfl
theorem cl_X0_11 : Cond.classLink RX0 11 RX2 ∈ wB := inB (List.mem_of_getElem? (i := 134) (by decide +kernel)) rfl
theorem aov : Cond.arrayOver (.object "WinterYard$Yard") ∈ lw_tbl := List.mem_of_getElem? (i := 135) (by decide +kernel)
theorem lk_X0_24 : Cond.methodLink RX0 24 yX2_init ∈ wB := inB (List.mem_of_getElem? (i := 136) (by decide +kernel)) rfl
theorem fl_X0_13 : Cond.fieldLink RX0 13 "WinterYard$History" "slots" "[LWinterYard$Yard;" ∈ wB := inB (List.mem_of_getElem? (i := 137) (by decide +kernel)) rfl
theorem fl_X0_17 : Cond.fieldLink RX0 17 "WinterYard$History" "oldest" "I" ∈ wB := inB (List.mem_of_getElem? (i := 138) (by decide +kernel)) rfl
theorem fl_X0_21 : Cond.fieldLink RX0 21 "WinterYard$History" "recorded" "I" ∈ wB := inB (List.mem_of_getElem? (i := 139) (by decide +kernel)) rfl
theorem cl_X3_30 : Cond.classLink RX3 30 RX1 ∈ wB := inB (List.mem_of_getElem? (i := 147) (by decide +kernel)) rfl
theorem inst_X1 : Cond.instantiable RX1 7 ∈ wB := inB (List.mem_of_getElem? (i := 148) (by decide +kernel)) rfl
theorem nest_X3_32 : Cond.methodLinkNest RX3 32 yX1_init RX3 ∈ lw_tbl := List.mem_of_getElem? (i := 149) (by decide +kernel)
theorem ins_X1_init : Cond.instanceMethod yX1_init ∈ wB := inB (List.mem_of_getElem? (i := 150) (by decide +kernel)) rfl
theorem cod_X1_init : Cond.code yX1_init cX1_init 1 none ∈ wB := inB (List.mem_of_getElem? (i := 151) (by decide +kernel)) rfl
theorem lk_X1_5 : Cond.methodLink RX1 5 objectInit ∈ wB := inB (List.mem_of_getElem? (i := 152) (by decide +kernel)) rfl
theorem fl_X1_11 : Cond.fieldLink RX1 11 "WinterYard$Plan" "text" "[C" ∈ wB := inB (List.mem_of_getElem? (i := 153) (by decide +kernel)) rfl
theorem fl_X1_15 : Cond.fieldLink RX1 15 "WinterYard$Plan" "length" "I" ∈ wB := inB (List.mem_of_getElem? (i := 154) (by decide +kernel)) rfl
theorem fl_X1_19 : Cond.fieldLink RX1 19 "WinterYard$Plan" "at" "I" ∈ wB := inB (List.mem_of_getElem? (i := 155) (by decide +kernel)) rfl
theorem fl_X1_22 : Cond.fieldLink RX1 22 "WinterYard$Plan" "signs" "[C" ∈ wB := inB (List.mem_of_getElem? (i := 156) (by decide +kernel)) rfl
theorem fl_X1_25 : Cond.fieldLink RX1 25 "WinterYard$Plan" "firsts" "[I" ∈ wB := inB (List.mem_of_getElem? (i := 157) (by decide +kernel)) rfl
theorem fl_X1_29 : Cond.fieldLink RX1 29 "WinterYard$Plan" "seconds" "[I" ∈ wB := inB (List.mem_of_getElem? (i := 158) (by decide +kernel)) rfl
theorem fl_X1_32 : Cond.fieldLink RX1 32 "WinterYard$Plan" "things" "I" ∈ wB := inB (List.mem_of_getElem? (i := 159) (by decide +kernel)) rfl
theorem arrc_char : Cond.arrayClass .char ∈ wB := inB (List.mem_of_getElem? (i := 175) (by decide +kernel)) rfl
theorem fl_X3_10 : Cond.fieldLink RX3 10 "WinterYard" "yard" "LWinterYard$Yard;" ∈ wB := inB (List.mem_of_getElem? (i := 176) (by decide +kernel)) rfl
theorem fl_X3_16 : Cond.fieldLink RX3 16 "WinterYard" "snapshot" "LWinterYard$Yard;" ∈ wB := inB (List.mem_of_getElem? (i := 177) (by decide +kernel)) rfl
theorem fl_X3_19 : Cond.fieldLink RX3 19 "WinterYard" "hasSnapshot" "Z" ∈ wB := inB (List.mem_of_getElem? (i := 178) (by decide +kernel)) rfl
theorem fl_X3_26 : Cond.fieldLink RX3 26 "WinterYard" "history" "LWinterYard$History;" ∈ wB := inB (List.mem_of_getElem? (i := 179) (by decide +kernel)) rfl
theorem fl_X3_33 : Cond.fieldLink RX3 33 "WinterYard" "plan" "LWinterYard$Plan;" ∈ wB := inB (List.mem_of_getElem? (i := 180) (by decide +kernel)) rfl
theorem fl_X3_37 : Cond.fieldLink RX3 37 "WinterYard" "stopNumber" "I" ∈ wB := inB (List.mem_of_getElem? (i := 181) (by decide +kernel)) rfl
theorem fl_X3_41 : Cond.fieldLink RX3 41 "WinterYard" "stopError" "I" ∈ wB := inB (List.mem_of_getElem? (i := 182) (by decide +kernel)) rfl
theorem lk_L_13 : Cond.methodLink RL 13 yX3_come ∈ wB := inB (List.mem_of_getElem? (i := 198) (by decide +kernel)) rfl
theorem ins_X3_come : Cond.instanceMethod yX3_come ∈ wB := inB (List.mem_of_getElem? (i := 199) (by decide +kernel)) rfl
theorem sel_X3_come : Cond.selects RX3 yX3_come yX3_come ∈ wB := inB (List.mem_of_getElem? (i := 200) (by decide +kernel)) rfl
theorem cod_X3_come : Cond.code yX3_come cX3_come 5 (some .int) ∈ wB := inB (List.mem_of_getElem? (i := 201) (by decide +kernel)) rfl
theorem lk_X3_44 : Cond.methodLink RX3 44 yX0_prepare ∈ wB := inB (List.mem_of_getElem? (i := 202) (by decide +kernel)) rfl
theorem ins_X0_prepare : Cond.instanceMethod yX0_prepare ∈ wB := inB (List.mem_of_getElem? (i := 203) (by decide +kernel)) rfl
theorem sel_X0_prepare : Cond.selects RX0 yX0_prepare yX0_prepare ∈ wB := inB (List.mem_of_getElem? (i := 204) (by decide +kernel)) rfl
theorem cod_X0_prepare : Cond.code yX0_prepare cX0_prepare 2 none ∈ wB := inB (List.mem_of_getElem? (i := 205) (by decide +kernel)) rfl
theorem lk_X0_25 : Cond.methodLink RX0 25 yX0_behindLatest ∈ wB := inB (List.mem_of_getElem? (i := 206) (by decide +kernel)) rfl
theorem ins_X0_behindLatest : Cond.instanceMethod yX0_behindLatest ∈ wB := inB (List.mem_of_getElem? (i := 208) (by decide +kernel)) rfl
theorem cod_X0_behindLatest : Cond.code yX0_behindLatest cX0_behindLatest 1 (some (.object "WinterYard$Yard")) ∈ wB := inB (List.mem_of_getElem? (i := 209) (by decide +kernel)) rfl
theorem lk_X0_29 : Cond.methodLink RX0 29 yX2_copyFrom ∈ wB := inB (List.mem_of_getElem? (i := 210) (by decide +kernel)) rfl
theorem ins_X2_copyFrom : Cond.instanceMethod yX2_copyFrom ∈ wB := inB (List.mem_of_getElem? (i := 211) (by decide +kernel)) rfl
theorem sel_X2_copyFrom : Cond.selects RX2 yX2_copyFrom yX2_copyFrom ∈ wB := inB (List.mem_of_getElem? (i := 212) (by decide +kernel)) rfl
theorem cod_X2_copyFrom : Cond.code yX2_copyFrom cX2_copyFrom 2 none ∈ wB := inB (List.mem_of_getElem? (i := 213) (by decide +kernel)) rfl
theorem lk_X2_41 : Cond.methodLink RX2 41 arraycopyName ∈ wB := inB (List.mem_of_getElem? (i := 214) (by decide +kernel)) rfl
theorem stc_arraycopyName : Cond.static arraycopyName ∈ wB := inB (List.mem_of_getElem? (i := 215) (by decide +kernel)) rfl
theorem nat_arraycopy : Cond.native arraycopyName ∈ wB := inB (List.mem_of_getElem? (i := 216) (by decide +kernel)) rfl
theorem lk_X3_48 : Cond.methodLink RX3 48 yX2_addBoat ∈ wB := inB (List.mem_of_getElem? (i := 217) (by decide +kernel)) rfl
theorem ins_X2_addBoat : Cond.instanceMethod yX2_addBoat ∈ wB := inB (List.mem_of_getElem? (i := 218) (by decide +kernel)) rfl
theorem sel_X2_addBoat : Cond.selects RX2 yX2_addBoat yX2_addBoat ∈ wB := inB (List.mem_of_getElem? (i := 219) (by decide +kernel)) rfl
theorem cod_X2_addBoat : Cond.code yX2_addBoat cX2_addBoat 6 (some .int) ∈ wB := inB (List.mem_of_getElem? (i := 220) (by decide +kernel)) rfl
theorem lk_X2_63 : Cond.methodLink RX2 63 yX2_isKind ∈ wB := inB (List.mem_of_getElem? (i := 221) (by decide +kernel)) rfl
theorem stc_X2_isKind : Cond.static yX2_isKind ∈ wB := inB (List.mem_of_getElem? (i := 222) (by decide +kernel)) rfl
theorem cod_X2_isKind : Cond.code yX2_isKind cX2_isKind 1 (some .boolean) ∈ wB := inB (List.mem_of_getElem? (i := 223) (by decide +kernel)) rfl
theorem nest_X2_66 : Cond.methodLinkNest RX2 66 yX3_within RX3 ∈ lw_tbl := List.mem_of_getElem? (i := 224) (by decide +kernel)
theorem stc_X3_within : Cond.static yX3_within ∈ wB := inB (List.mem_of_getElem? (i := 225) (by decide +kernel)) rfl
theorem cod_X3_within : Cond.code yX3_within cX3_within 3 (some .boolean) ∈ wB := inB (List.mem_of_getElem? (i := 226) (by decide +kernel)) rfl
theorem lk_X2_70 : Cond.methodLink RX2 70 yX2_lowestFreeNumber ∈ wB := inB (List.mem_of_getElem? (i := 227) (by decide +kernel)) rfl
theorem ins_X2_lowestFreeNumber : Cond.instanceMethod yX2_lowestFreeNumber ∈ wB := inB (List.mem_of_getElem? (i := 229) (by decide +kernel)) rfl
theorem cod_X2_lowestFreeNumber : Cond.code yX2_lowestFreeNumber cX2_lowestFreeNumber 2 (some .int) ∈ wB := inB (List.mem_of_getElem? (i := 230) (by decide +kernel)) rfl
theorem lk_X2_77 : Cond.methodLink RX2 77 yX2_knows ∈ wB := inB (List.mem_of_getElem? (i := 231) (by decide +kernel)) rfl
theorem ins_X2_knows : Cond.instanceMethod yX2_knows ∈ wB := inB (List.mem_of_getElem? (i := 232) (by decide +kernel)) rfl
theorem sel_X2_knows : Cond.selects RX2 yX2_knows yX2_knows ∈ wB := inB (List.mem_of_getElem? (i := 233) (by decide +kernel)) rfl
theorem cod_X2_knows : Cond.code yX2_knows cX2_knows 2 (some .boolean) ∈ wB := inB (List.mem_of_getElem? (i := 234) (by decide +kernel)) rfl
theorem lk_X2_47 : Cond.methodLink RX2 47 yX2_fact ∈ wB := inB (List.mem_of_getElem? (i := 235) (by decide +kernel)) rfl
theorem ins_X2_fact : Cond.instanceMethod yX2_fact ∈ wB := inB (List.mem_of_getElem? (i := 236) (by decide +kernel)) rfl
theorem sel_X2_fact : Cond.selects RX2 yX2_fact yX2_fact ∈ wB := inB (List.mem_of_getElem? (i := 237) (by decide +kernel)) rfl
theorem cod_X2_fact : Cond.code yX2_fact cX2_fact 3 (some .int) ∈ wB := inB (List.mem_of_getElem? (i := 238) (by decide +kernel)) rfl
theorem lk_X2_74 : Cond.methodLink RX2 74 yX2_noteAfloat ∈ wB := inB (List.mem_of_getElem? (i := 239) (by decide +kernel)) rfl
theorem ins_X2_noteAfloat : Cond.instanceMethod yX2_noteAfloat ∈ wB := inB (List.mem_of_getElem? (i := 241) (by decide +kernel)) rfl
theorem cod_X2_noteAfloat : Cond.code yX2_noteAfloat cX2_noteAfloat 2 none ∈ wB := inB (List.mem_of_getElem? (i := 242) (by decide +kernel)) rfl
theorem lk_X3_52 : Cond.methodLink RX3 52 yX0_settle ∈ wB := inB (List.mem_of_getElem? (i := 243) (by decide +kernel)) rfl
theorem ins_X0_settle : Cond.instanceMethod yX0_settle ∈ wB := inB (List.mem_of_getElem? (i := 244) (by decide +kernel)) rfl
theorem sel_X0_settle : Cond.selects RX0 yX0_settle yX0_settle ∈ wB := inB (List.mem_of_getElem? (i := 245) (by decide +kernel)) rfl
theorem cod_X0_settle : Cond.code yX0_settle cX0_settle 2 (some .int) ∈ wB := inB (List.mem_of_getElem? (i := 246) (by decide +kernel)) rfl
theorem lk_L_18 : Cond.methodLink RL 18 yX3_goAway ∈ wB := inB (List.mem_of_getElem? (i := 247) (by decide +kernel)) rfl
theorem ins_X3_goAway : Cond.instanceMethod yX3_goAway ∈ wB := inB (List.mem_of_getElem? (i := 248) (by decide +kernel)) rfl
theorem sel_X3_goAway : Cond.selects RX3 yX3_goAway yX3_goAway ∈ wB := inB (List.mem_of_getElem? (i := 249) (by decide +kernel)) rfl
theorem cod_X3_goAway : Cond.code yX3_goAway cX3_goAway 2 (some .int) ∈ wB := inB (List.mem_of_getElem? (i := 250) (by decide +kernel)) rfl
theorem lk_X3_56 : Cond.methodLink RX3 56 yX2_removeBoat ∈ wB := inB (List.mem_of_getElem? (i := 251) (by decide +kernel)) rfl
theorem ins_X2_removeBoat : Cond.instanceMethod yX2_removeBoat ∈ wB := inB (List.mem_of_getElem? (i := 252) (by decide +kernel)) rfl
theorem sel_X2_removeBoat : Cond.selects RX2 yX2_removeBoat yX2_removeBoat ∈ wB := inB (List.mem_of_getElem? (i := 253) (by decide +kernel)) rfl
theorem cod_X2_removeBoat : Cond.code yX2_removeBoat cX2_removeBoat 2 (some .int) ∈ wB := inB (List.mem_of_getElem? (i := 254) (by decide +kernel)) rfl
theorem lk_X2_80 : Cond.methodLink RX2 80 yX2_isAshore ∈ wB := inB (List.mem_of_getElem? (i := 255) (by decide +kernel)) rfl
theorem ins_X2_isAshore : Cond.instanceMethod yX2_isAshore ∈ wB := inB (List.mem_of_getElem? (i := 256) (by decide +kernel)) rfl
theorem sel_X2_isAshore : Cond.selects RX2 yX2_isAshore yX2_isAshore ∈ wB := inB (List.mem_of_getElem? (i := 257) (by decide +kernel)) rfl
theorem cod_X2_isAshore : Cond.code yX2_isAshore cX2_isAshore 2 (some .boolean) ∈ wB := inB (List.mem_of_getElem? (i := 258) (by decide +kernel)) rfl
theorem lk_X2_83 : Cond.methodLink RX2 83 yX2_hasMast ∈ wB := inB (List.mem_of_getElem? (i := 259) (by decide +kernel)) rfl
theorem ins_X2_hasMast : Cond.instanceMethod yX2_hasMast ∈ wB := inB (List.mem_of_getElem? (i := 261) (by decide +kernel)) rfl
theorem cod_X2_hasMast : Cond.code yX2_hasMast cX2_hasMast 2 (some .boolean) ∈ wB := inB (List.mem_of_getElem? (i := 262) (by decide +kernel)) rfl
theorem lk_X2_86 : Cond.methodLink RX2 86 yX2_boats ∈ wB := inB (List.mem_of_getElem? (i := 263) (by decide +kernel)) rfl
theorem ins_X2_boats : Cond.instanceMethod yX2_boats ∈ wB := inB (List.mem_of_getElem? (i := 264) (by decide +kernel)) rfl
theorem sel_X2_boats : Cond.selects RX2 yX2_boats yX2_boats ∈ wB := inB (List.mem_of_getElem? (i := 265) (by decide +kernel)) rfl
theorem cod_X2_boats : Cond.code yX2_boats cX2_boats 1 (some .int) ∈ wB := inB (List.mem_of_getElem? (i := 266) (by decide +kernel)) rfl
theorem lk_X2_89 : Cond.methodLink RX2 89 yX2_boatsWith ∈ wB := inB (List.mem_of_getElem? (i := 267) (by decide +kernel)) rfl
theorem ins_X2_boatsWith : Cond.instanceMethod yX2_boatsWith ∈ wB := inB (List.mem_of_getElem? (i := 269) (by decide +kernel)) rfl
theorem cod_X2_boatsWith : Cond.code yX2_boatsWith cX2_boatsWith 5 (some .int) ∈ wB := inB (List.mem_of_getElem? (i := 270) (by decide +kernel)) rfl
theorem lk_L_23 : Cond.methodLink RL 23 yX3_setCradles ∈ wB := inB (List.mem_of_getElem? (i := 271) (by decide +kernel)) rfl
theorem ins_X3_setCradles : Cond.instanceMethod yX3_setCradles ∈ wB := inB (List.mem_of_getElem? (i := 272) (by decide +kernel)) rfl
theorem sel_X3_setCradles : Cond.selects RX3 yX3_setCradles yX3_setCradles ∈ wB := inB (List.mem_of_getElem? (i := 273) (by decide +kernel)) rfl
theorem cod_X3_setCradles : Cond.code yX3_setCradles cX3_setCradles 3 (some .int) ∈ wB := inB (List.mem_of_getElem? (i := 274) (by decide +kernel)) rfl
theorem lk_X3_59 : Cond.methodLink RX3 59 yX2_changeCradles ∈ wB := inB (List.mem_of_getElem? (i := 275) (by decide +kernel)) rfl
theorem ins_X2_changeCradles : Cond.instanceMethod yX2_changeCradles ∈ wB := inB (List.mem_of_getElem? (i := 276) (by decide +kernel)) rfl
theorem sel_X2_changeCradles : Cond.selects RX2 yX2_changeCradles yX2_changeCradles ∈ wB := inB (List.mem_of_getElem? (i := 277) (by decide +kernel)) rfl
theorem cod_X2_changeCradles : Cond.code yX2_changeCradles cX2_changeCradles 4 (some .int) ∈ wB := inB (List.mem_of_getElem? (i := 278) (by decide +kernel)) rfl
theorem lk_X2_95 : Cond.methodLink RX2 95 yX2_cradlesTaken ∈ wB := inB (List.mem_of_getElem? (i := 279) (by decide +kernel)) rfl
theorem ins_X2_cradlesTaken : Cond.instanceMethod yX2_cradlesTaken ∈ wB := inB (List.mem_of_getElem? (i := 280) (by decide +kernel)) rfl
theorem sel_X2_cradlesTaken : Cond.selects RX2 yX2_cradlesTaken yX2_cradlesTaken ∈ wB := inB (List.mem_of_getElem? (i := 281) (by decide +kernel)) rfl
theorem cod_X2_cradlesTaken : Cond.code yX2_cradlesTaken cX2_cradlesTaken 2 (some .int) ∈ wB := inB (List.mem_of_getElem? (i := 282) (by decide +kernel)) rfl
theorem lk_L_28 : Cond.methodLink RL 28 yX3_setRow ∈ wB := inB (List.mem_of_getElem? (i := 283) (by decide +kernel)) rfl
theorem ins_X3_setRow : Cond.instanceMethod yX3_setRow ∈ wB := inB (List.mem_of_getElem? (i := 284) (by decide +kernel)) rfl
theorem sel_X3_setRow : Cond.selects RX3 yX3_setRow yX3_setRow ∈ wB := inB (List.mem_of_getElem? (i := 285) (by decide +kernel)) rfl
theorem cod_X3_setRow : Cond.code yX3_setRow cX3_setRow 3 (some .int) ∈ wB := inB (List.mem_of_getElem? (i := 286) (by decide +kernel)) rfl
theorem lk_X3_63 : Cond.methodLink RX3 63 yX2_changeRow ∈ wB := inB (List.mem_of_getElem? (i := 287) (by decide +kernel)) rfl
theorem ins_X2_changeRow : Cond.instanceMethod yX2_changeRow ∈ wB := inB (List.mem_of_getElem? (i := 288) (by decide +kernel)) rfl
theorem sel_X2_changeRow : Cond.selects RX2 yX2_changeRow yX2_changeRow ∈ wB := inB (List.mem_of_getElem? (i := 289) (by decide +kernel)) rfl
theorem cod_X2_changeRow : Cond.code yX2_changeRow cX2_changeRow 4 (some .int) ∈ wB := inB (List.mem_of_getElem? (i := 290) (by decide +kernel)) rfl
theorem lk_X2_111 : Cond.methodLink RX2 111 yX2_isRow ∈ wB := inB (List.mem_of_getElem? (i := 291) (by decide +kernel)) rfl
theorem stc_X2_isRow : Cond.static yX2_isRow ∈ wB := inB (List.mem_of_getElem? (i := 292) (by decide +kernel)) rfl
theorem cod_X2_isRow : Cond.code yX2_isRow cX2_isRow 1 (some .boolean) ∈ wB := inB (List.mem_of_getElem? (i := 293) (by decide +kernel)) rfl
theorem lk_X2_117 : Cond.methodLink RX2 117 yX2_metresTaken ∈ wB := inB (List.mem_of_getElem? (i := 294) (by decide +kernel)) rfl
theorem ins_X2_metresTaken : Cond.instanceMethod yX2_metresTaken ∈ wB := inB (List.mem_of_getElem? (i := 295) (by decide +kernel)) rfl
theorem sel_X2_metresTaken : Cond.selects RX2 yX2_metresTaken yX2_metresTaken ∈ wB := inB (List.mem_of_getElem? (i := 296) (by decide +kernel)) rfl
theorem cod_X2_metresTaken : Cond.code yX2_metresTaken cX2_metresTaken 4 (some .int) ∈ wB := inB (List.mem_of_getElem? (i := 297) (by decide +kernel)) rfl
theorem lk_L_32 : Cond.methodLink RL 32 yX3_set ∈ wB := inB (List.mem_of_getElem? (i := 298) (by decide +kernel)) rfl
theorem ins_X3_set : Cond.instanceMethod yX3_set ∈ wB := inB (List.mem_of_getElem? (i := 299) (by decide +kernel)) rfl
theorem sel_X3_set : Cond.selects RX3 yX3_set yX3_set ∈ wB := inB (List.mem_of_getElem? (i := 300) (by decide +kernel)) rfl
theorem cod_X3_set : Cond.code yX3_set cX3_set 3 (some .int) ∈ wB := inB (List.mem_of_getElem? (i := 301) (by decide +kernel)) rfl
theorem lk_X3_66 : Cond.methodLink RX3 66 yX2_changeSetting ∈ wB := inB (List.mem_of_getElem? (i := 302) (by decide +kernel)) rfl
theorem ins_X2_changeSetting : Cond.instanceMethod yX2_changeSetting ∈ wB := inB (List.mem_of_getElem? (i := 303) (by decide +kernel)) rfl
theorem sel_X2_changeSetting : Cond.selects RX2 yX2_changeSetting yX2_changeSetting ∈ wB := inB (List.mem_of_getElem? (i := 304) (by decide +kernel)) rfl
theorem cod_X2_changeSetting : Cond.code yX2_changeSetting cX2_changeSetting 4 (some .int) ∈ wB := inB (List.mem_of_getElem? (i := 305) (by decide +kernel)) rfl
theorem lk_X2_132 : Cond.methodLink RX2 132 yX2_isSetting ∈ wB := inB (List.mem_of_getElem? (i := 306) (by decide +kernel)) rfl
theorem stc_X2_isSetting : Cond.static yX2_isSetting ∈ wB := inB (List.mem_of_getElem? (i := 307) (by decide +kernel)) rfl
theorem cod_X2_isSetting : Cond.code yX2_isSetting cX2_isSetting 1 (some .boolean) ∈ wB := inB (List.mem_of_getElem? (i := 308) (by decide +kernel)) rfl
theorem fl_X2_135 : Cond.fieldLink RX2 135 "WinterYard$Yard" "LEAST_SETTING" "[I" ∈ wB := inB (List.mem_of_getElem? (i := 309) (by decide +kernel)) rfl
theorem lst_LEAST_SETTING : Cond.laysStatic RX2 "LEAST_SETTING" "[I" ∈ lw_tbl := List.mem_of_getElem? (i := 310) (by decide +kernel)
theorem fl_X2_138 : Cond.fieldLink RX2 138 "WinterYard$Yard" "GREATEST_SETTING" "[I" ∈ wB := inB (List.mem_of_getElem? (i := 311) (by decide +kernel)) rfl
theorem lst_GREATEST_SETTING : Cond.laysStatic RX2 "GREATEST_SETTING" "[I" ∈ lw_tbl := List.mem_of_getElem? (i := 312) (by decide +kernel)
theorem lk_L_36 : Cond.methodLink RL 36 yX3_lift ∈ wB := inB (List.mem_of_getElem? (i := 313) (by decide +kernel)) rfl
theorem ins_X3_lift : Cond.instanceMethod yX3_lift ∈ wB := inB (List.mem_of_getElem? (i := 314) (by decide +kernel)) rfl
theorem sel_X3_lift : Cond.selects RX3 yX3_lift yX3_lift ∈ wB := inB (List.mem_of_getElem? (i := 315) (by decide +kernel)) rfl
theorem cod_X3_lift : Cond.code yX3_lift cX3_lift 3 (some .int) ∈ wB := inB (List.mem_of_getElem? (i := 316) (by decide +kernel)) rfl
theorem lk_X3_69 : Cond.methodLink RX3 69 yX2_liftInto ∈ wB := inB (List.mem_of_getElem? (i := 317) (by decide +kernel)) rfl
theorem ins_X2_liftInto : Cond.instanceMethod yX2_liftInto ∈ wB := inB (List.mem_of_getElem? (i := 318) (by decide +kernel)) rfl
theorem sel_X2_liftInto : Cond.selects RX2 yX2_liftInto yX2_liftInto ∈ wB := inB (List.mem_of_getElem? (i := 319) (by decide +kernel)) rfl
theorem cod_X2_liftInto : Cond.code yX2_liftInto cX2_liftInto 4 (some .int) ∈ wB := inB (List.mem_of_getElem? (i := 320) (by decide +kernel)) rfl
theorem lk_X2_161 : Cond.methodLink RX2 161 yX2_whyNoLift ∈ wB := inB (List.mem_of_getElem? (i := 321) (by decide +kernel)) rfl
theorem ins_X2_whyNoLift : Cond.instanceMethod yX2_whyNoLift ∈ wB := inB (List.mem_of_getElem? (i := 322) (by decide +kernel)) rfl
theorem sel_X2_whyNoLift : Cond.selects RX2 yX2_whyNoLift yX2_whyNoLift ∈ wB := inB (List.mem_of_getElem? (i := 323) (by decide +kernel)) rfl
theorem cod_X2_whyNoLift : Cond.code yX2_whyNoLift cX2_whyNoLift 3 (some .int) ∈ wB := inB (List.mem_of_getElem? (i := 324) (by decide +kernel)) rfl
theorem lk_X2_149 : Cond.methodLink RX2 149 yX2_isDeepEnough ∈ wB := inB (List.mem_of_getElem? (i := 325) (by decide +kernel)) rfl
theorem ins_X2_isDeepEnough : Cond.instanceMethod yX2_isDeepEnough ∈ wB := inB (List.mem_of_getElem? (i := 327) (by decide +kernel)) rfl
theorem cod_X2_isDeepEnough : Cond.code yX2_isDeepEnough cX2_isDeepEnough 3 (some .boolean) ∈ wB := inB (List.mem_of_getElem? (i := 328) (by decide +kernel)) rfl
theorem lk_X2_146 : Cond.methodLink RX2 146 yX2_tideOn ∈ wB := inB (List.mem_of_getElem? (i := 329) (by decide +kernel)) rfl
theorem ins_X2_tideOn : Cond.instanceMethod yX2_tideOn ∈ wB := inB (List.mem_of_getElem? (i := 330) (by decide +kernel)) rfl
theorem sel_X2_tideOn : Cond.selects RX2 yX2_tideOn yX2_tideOn ∈ wB := inB (List.mem_of_getElem? (i := 331) (by decide +kernel)) rfl
theorem cod_X2_tideOn : Cond.code yX2_tideOn cX2_tideOn 2 (some .int) ∈ wB := inB (List.mem_of_getElem? (i := 332) (by decide +kernel)) rfl
theorem lk_X2_183 : Cond.methodLink RX2 183 Lib.Math.abs.name ∈ wB := inB (List.mem_of_getElem? (i := 333) (by decide +kernel)) rfl
theorem stc_Lib_Math_abs_name : Cond.static Lib.Math.abs.name ∈ wB := inB (List.mem_of_getElem? (i := 334) (by decide +kernel)) rfl
theorem cod_abs : Cond.code Lib.Math.abs.name Lib.Math.abs.code 1 (some .int) ∈ wB := inB (List.mem_of_getElem? (i := 335) (by decide +kernel)) rfl
theorem lk_X2_152 : Cond.methodLink RX2 152 yX2_craneBears ∈ wB := inB (List.mem_of_getElem? (i := 336) (by decide +kernel)) rfl
theorem ins_X2_craneBears : Cond.instanceMethod yX2_craneBears ∈ wB := inB (List.mem_of_getElem? (i := 338) (by decide +kernel)) rfl
theorem cod_X2_craneBears : Cond.code yX2_craneBears cX2_craneBears 2 (some .boolean) ∈ wB := inB (List.mem_of_getElem? (i := 339) (by decide +kernel)) rfl
theorem lk_X2_155 : Cond.methodLink RX2 155 yX2_cradleFor ∈ wB := inB (List.mem_of_getElem? (i := 340) (by decide +kernel)) rfl
theorem ins_X2_cradleFor : Cond.instanceMethod yX2_cradleFor ∈ wB := inB (List.mem_of_getElem? (i := 342) (by decide +kernel)) rfl
theorem cod_X2_cradleFor : Cond.code yX2_cradleFor cX2_cradleFor 5 (some .int) ∈ wB := inB (List.mem_of_getElem? (i := 343) (by decide +kernel)) rfl
theorem lk_X2_102 : Cond.methodLink RX2 102 yX2_hasFreeCradle ∈ wB := inB (List.mem_of_getElem? (i := 344) (by decide +kernel)) rfl
theorem ins_X2_hasFreeCradle : Cond.instanceMethod yX2_hasFreeCradle ∈ wB := inB (List.mem_of_getElem? (i := 346) (by decide +kernel)) rfl
theorem cod_X2_hasFreeCradle : Cond.code yX2_hasFreeCradle cX2_hasFreeCradle 2 (some .boolean) ∈ wB := inB (List.mem_of_getElem? (i := 347) (by decide +kernel)) rfl
theorem lk_X2_99 : Cond.methodLink RX2 99 yX2_cradlesOf ∈ wB := inB (List.mem_of_getElem? (i := 348) (by decide +kernel)) rfl
theorem ins_X2_cradlesOf : Cond.instanceMethod yX2_cradlesOf ∈ wB := inB (List.mem_of_getElem? (i := 349) (by decide +kernel)) rfl
theorem sel_X2_cradlesOf : Cond.selects RX2 yX2_cradlesOf yX2_cradlesOf ∈ wB := inB (List.mem_of_getElem? (i := 350) (by decide +kernel)) rfl
theorem cod_X2_cradlesOf : Cond.code yX2_cradlesOf cX2_cradlesOf 2 (some .int) ∈ wB := inB (List.mem_of_getElem? (i := 351) (by decide +kernel)) rfl
theorem lk_X2_105 : Cond.methodLink RX2 105 yX2_bears ∈ wB := inB (List.mem_of_getElem? (i := 352) (by decide +kernel)) rfl
theorem stc_X2_bears : Cond.static yX2_bears ∈ wB := inB (List.mem_of_getElem? (i := 353) (by decide +kernel)) rfl
theorem cod_X2_bears : Cond.code yX2_bears cX2_bears 1 (some .int) ∈ wB := inB (List.mem_of_getElem? (i := 354) (by decide +kernel)) rfl
theorem fl_X2_92 : Cond.fieldLink RX2 92 "WinterYard$Yard" "BEARS" "[I" ∈ wB := inB (List.mem_of_getElem? (i := 355) (by decide +kernel)) rfl
theorem lst_BEARS : Cond.laysStatic RX2 "BEARS" "[I" ∈ lw_tbl := List.mem_of_getElem? (i := 356) (by decide +kernel)
theorem lk_X2_108 : Cond.methodLink RX2 108 yX2_otherKindFor ∈ wB := inB (List.mem_of_getElem? (i := 357) (by decide +kernel)) rfl
theorem stc_X2_otherKindFor : Cond.static yX2_otherKindFor ∈ wB := inB (List.mem_of_getElem? (i := 358) (by decide +kernel)) rfl
theorem cod_X2_otherKindFor : Cond.code yX2_otherKindFor cX2_otherKindFor 1 (some .int) ∈ wB := inB (List.mem_of_getElem? (i := 359) (by decide +kernel)) rfl
theorem lk_X2_129 : Cond.methodLink RX2 129 yX2_hasRoom ∈ wB := inB (List.mem_of_getElem? (i := 360) (by decide +kernel)) rfl
theorem ins_X2_hasRoom : Cond.instanceMethod yX2_hasRoom ∈ wB := inB (List.mem_of_getElem? (i := 362) (by decide +kernel)) rfl
theorem cod_X2_hasRoom : Cond.code yX2_hasRoom cX2_hasRoom 3 (some .boolean) ∈ wB := inB (List.mem_of_getElem? (i := 363) (by decide +kernel)) rfl
theorem lk_X2_120 : Cond.methodLink RX2 120 yX2_metresLeft ∈ wB := inB (List.mem_of_getElem? (i := 364) (by decide +kernel)) rfl
theorem ins_X2_metresLeft : Cond.instanceMethod yX2_metresLeft ∈ wB := inB (List.mem_of_getElem? (i := 366) (by decide +kernel)) rfl
theorem cod_X2_metresLeft : Cond.code yX2_metresLeft cX2_metresLeft 2 (some .int) ∈ wB := inB (List.mem_of_getElem? (i := 367) (by decide +kernel)) rfl
theorem lk_X2_114 : Cond.methodLink RX2 114 yX2_metresOf ∈ wB := inB (List.mem_of_getElem? (i := 368) (by decide +kernel)) rfl
theorem ins_X2_metresOf : Cond.instanceMethod yX2_metresOf ∈ wB := inB (List.mem_of_getElem? (i := 369) (by decide +kernel)) rfl
theorem sel_X2_metresOf : Cond.selects RX2 yX2_metresOf yX2_metresOf ∈ wB := inB (List.mem_of_getElem? (i := 370) (by decide +kernel)) rfl
theorem cod_X2_metresOf : Cond.code yX2_metresOf cX2_metresOf 2 (some .int) ∈ wB := inB (List.mem_of_getElem? (i := 371) (by decide +kernel)) rfl
theorem lk_X2_158 : Cond.methodLink RX2 158 yX2_liftsLeft ∈ wB := inB (List.mem_of_getElem? (i := 372) (by decide +kernel)) rfl
theorem ins_X2_liftsLeft : Cond.instanceMethod yX2_liftsLeft ∈ wB := inB (List.mem_of_getElem? (i := 373) (by decide +kernel)) rfl
theorem sel_X2_liftsLeft : Cond.selects RX2 yX2_liftsLeft yX2_liftsLeft ∈ wB := inB (List.mem_of_getElem? (i := 374) (by decide +kernel)) rfl
theorem cod_X2_liftsLeft : Cond.code yX2_liftsLeft cX2_liftsLeft 1 (some .int) ∈ wB := inB (List.mem_of_getElem? (i := 375) (by decide +kernel)) rfl
theorem lk_X2_141 : Cond.methodLink RX2 141 Lib.Math.max.name ∈ wB := inB (List.mem_of_getElem? (i := 376) (by decide +kernel)) rfl
theorem stc_Lib_Math_max_name : Cond.static Lib.Math.max.name ∈ wB := inB (List.mem_of_getElem? (i := 377) (by decide +kernel)) rfl
theorem cod_max : Cond.code Lib.Math.max.name Lib.Math.max.code 2 (some .int) ∈ wB := inB (List.mem_of_getElem? (i := 378) (by decide +kernel)) rfl
theorem lk_X2_164 : Cond.methodLink RX2 164 yX2_putAtOuterEnd ∈ wB := inB (List.mem_of_getElem? (i := 379) (by decide +kernel)) rfl
theorem ins_X2_putAtOuterEnd : Cond.instanceMethod yX2_putAtOuterEnd ∈ wB := inB (List.mem_of_getElem? (i := 381) (by decide +kernel)) rfl
theorem cod_X2_putAtOuterEnd : Cond.code yX2_putAtOuterEnd cX2_putAtOuterEnd 3 none ∈ wB := inB (List.mem_of_getElem? (i := 382) (by decide +kernel)) rfl
theorem lk_X2_126 : Cond.methodLink RX2 126 yX2_boatsIn ∈ wB := inB (List.mem_of_getElem? (i := 383) (by decide +kernel)) rfl
theorem ins_X2_boatsIn : Cond.instanceMethod yX2_boatsIn ∈ wB := inB (List.mem_of_getElem? (i := 384) (by decide +kernel)) rfl
theorem sel_X2_boatsIn : Cond.selects RX2 yX2_boatsIn yX2_boatsIn ∈ wB := inB (List.mem_of_getElem? (i := 385) (by decide +kernel)) rfl
theorem cod_X2_boatsIn : Cond.code yX2_boatsIn cX2_boatsIn 2 (some .int) ∈ wB := inB (List.mem_of_getElem? (i := 386) (by decide +kernel)) rfl
theorem lk_X2_168 : Cond.methodLink RX2 168 yX2_takeLift ∈ wB := inB (List.mem_of_getElem? (i := 387) (by decide +kernel)) rfl
theorem ins_X2_takeLift : Cond.instanceMethod yX2_takeLift ∈ wB := inB (List.mem_of_getElem? (i := 389) (by decide +kernel)) rfl
theorem cod_X2_takeLift : Cond.code yX2_takeLift cX2_takeLift 1 none ∈ wB := inB (List.mem_of_getElem? (i := 390) (by decide +kernel)) rfl
theorem lk_L_40 : Cond.methodLink RL 40 yX3_launch ∈ wB := inB (List.mem_of_getElem? (i := 391) (by decide +kernel)) rfl
theorem ins_X3_launch : Cond.instanceMethod yX3_launch ∈ wB := inB (List.mem_of_getElem? (i := 392) (by decide +kernel)) rfl
theorem sel_X3_launch : Cond.selects RX3 yX3_launch yX3_launch ∈ wB := inB (List.mem_of_getElem? (i := 393) (by decide +kernel)) rfl
theorem cod_X3_launch : Cond.code yX3_launch cX3_launch 2 (some .int) ∈ wB := inB (List.mem_of_getElem? (i := 394) (by decide +kernel)) rfl
theorem lk_X3_72 : Cond.methodLink RX3 72 yX2_putAfloat ∈ wB := inB (List.mem_of_getElem? (i := 395) (by decide +kernel)) rfl
theorem ins_X2_putAfloat : Cond.instanceMethod yX2_putAfloat ∈ wB := inB (List.mem_of_getElem? (i := 396) (by decide +kernel)) rfl
theorem sel_X2_putAfloat : Cond.selects RX2 yX2_putAfloat yX2_putAfloat ∈ wB := inB (List.mem_of_getElem? (i := 397) (by decide +kernel)) rfl
theorem cod_X2_putAfloat : Cond.code yX2_putAfloat cX2_putAfloat 4 (some .int) ∈ wB := inB (List.mem_of_getElem? (i := 398) (by decide +kernel)) rfl
theorem lk_X2_174 : Cond.methodLink RX2 174 yX2_whyNoLaunch ∈ wB := inB (List.mem_of_getElem? (i := 399) (by decide +kernel)) rfl
theorem ins_X2_whyNoLaunch : Cond.instanceMethod yX2_whyNoLaunch ∈ wB := inB (List.mem_of_getElem? (i := 400) (by decide +kernel)) rfl
theorem sel_X2_whyNoLaunch : Cond.selects RX2 yX2_whyNoLaunch yX2_whyNoLaunch ∈ wB := inB (List.mem_of_getElem? (i := 401) (by decide +kernel)) rfl
theorem cod_X2_whyNoLaunch : Cond.code yX2_whyNoLaunch cX2_whyNoLaunch 2 (some .int) ∈ wB := inB (List.mem_of_getElem? (i := 402) (by decide +kernel)) rfl
theorem lk_X2_171 : Cond.methodLink RX2 171 yX2_boatsFartherOut ∈ wB := inB (List.mem_of_getElem? (i := 403) (by decide +kernel)) rfl
theorem ins_X2_boatsFartherOut : Cond.instanceMethod yX2_boatsFartherOut ∈ wB := inB (List.mem_of_getElem? (i := 404) (by decide +kernel)) rfl
theorem sel_X2_boatsFartherOut : Cond.selects RX2 yX2_boatsFartherOut yX2_boatsFartherOut ∈ wB := inB (List.mem_of_getElem? (i := 405) (by decide +kernel)) rfl
theorem cod_X2_boatsFartherOut : Cond.code yX2_boatsFartherOut cX2_boatsFartherOut 2 (some .int) ∈ wB := inB (List.mem_of_getElem? (i := 406) (by decide +kernel)) rfl
theorem lk_L_44 : Cond.methodLink RL 44 yX3_move ∈ wB := inB (List.mem_of_getElem? (i := 407) (by decide +kernel)) rfl
theorem ins_X3_move : Cond.instanceMethod yX3_move ∈ wB := inB (List.mem_of_getElem? (i := 408) (by decide +kernel)) rfl
theorem sel_X3_move : Cond.selects RX3 yX3_move yX3_move ∈ wB := inB (List.mem_of_getElem? (i := 409) (by decide +kernel)) rfl
theorem cod_X3_move : Cond.code yX3_move cX3_move 3 (some .int) ∈ wB := inB (List.mem_of_getElem? (i := 410) (by decide +kernel)) rfl
theorem lk_X3_75 : Cond.methodLink RX3 75 yX2_moveTo ∈ wB := inB (List.mem_of_getElem? (i := 411) (by decide +kernel)) rfl
theorem ins_X2_moveTo : Cond.instanceMethod yX2_moveTo ∈ wB := inB (List.mem_of_getElem? (i := 412) (by decide +kernel)) rfl
theorem sel_X2_moveTo : Cond.selects RX2 yX2_moveTo yX2_moveTo ∈ wB := inB (List.mem_of_getElem? (i := 413) (by decide +kernel)) rfl
theorem cod_X2_moveTo : Cond.code yX2_moveTo cX2_moveTo 3 (some .int) ∈ wB := inB (List.mem_of_getElem? (i := 414) (by decide +kernel)) rfl
theorem lk_X2_123 : Cond.methodLink RX2 123 yX2_standsIn ∈ wB := inB (List.mem_of_getElem? (i := 415) (by decide +kernel)) rfl
theorem ins_X2_standsIn : Cond.instanceMethod yX2_standsIn ∈ wB := inB (List.mem_of_getElem? (i := 417) (by decide +kernel)) rfl
theorem cod_X2_standsIn : Cond.code yX2_standsIn cX2_standsIn 3 (some .boolean) ∈ wB := inB (List.mem_of_getElem? (i := 418) (by decide +kernel)) rfl
theorem lk_L_48 : Cond.methodLink RL 48 yX3_mast ∈ wB := inB (List.mem_of_getElem? (i := 419) (by decide +kernel)) rfl
theorem ins_X3_mast : Cond.instanceMethod yX3_mast ∈ wB := inB (List.mem_of_getElem? (i := 420) (by decide +kernel)) rfl
theorem sel_X3_mast : Cond.selects RX3 yX3_mast yX3_mast ∈ wB := inB (List.mem_of_getElem? (i := 421) (by decide +kernel)) rfl
theorem cod_X3_mast : Cond.code yX3_mast cX3_mast 3 (some .int) ∈ wB := inB (List.mem_of_getElem? (i := 422) (by decide +kernel)) rfl
theorem lk_X3_78 : Cond.methodLink RX3 78 yX2_putMastUp ∈ wB := inB (List.mem_of_getElem? (i := 423) (by decide +kernel)) rfl
theorem ins_X2_putMastUp : Cond.instanceMethod yX2_putMastUp ∈ wB := inB (List.mem_of_getElem? (i := 424) (by decide +kernel)) rfl
theorem sel_X2_putMastUp : Cond.selects RX2 yX2_putMastUp yX2_putMastUp ∈ wB := inB (List.mem_of_getElem? (i := 425) (by decide +kernel)) rfl
theorem cod_X2_putMastUp : Cond.code yX2_putMastUp cX2_putMastUp 3 (some .int) ∈ wB := inB (List.mem_of_getElem? (i := 426) (by decide +kernel)) rfl
theorem lk_X3_81 : Cond.methodLink RX3 81 yX2_takeMastOff ∈ wB := inB (List.mem_of_getElem? (i := 427) (by decide +kernel)) rfl
theorem ins_X2_takeMastOff : Cond.instanceMethod yX2_takeMastOff ∈ wB := inB (List.mem_of_getElem? (i := 428) (by decide +kernel)) rfl
theorem sel_X2_takeMastOff : Cond.selects RX2 yX2_takeMastOff yX2_takeMastOff ∈ wB := inB (List.mem_of_getElem? (i := 429) (by decide +kernel)) rfl
theorem cod_X2_takeMastOff : Cond.code yX2_takeMastOff cX2_takeMastOff 3 (some .int) ∈ wB := inB (List.mem_of_getElem? (i := 430) (by decide +kernel)) rfl
theorem lk_X2_180 : Cond.methodLink RX2 180 yX2_rackFor ∈ wB := inB (List.mem_of_getElem? (i := 431) (by decide +kernel)) rfl
theorem ins_X2_rackFor : Cond.instanceMethod yX2_rackFor ∈ wB := inB (List.mem_of_getElem? (i := 433) (by decide +kernel)) rfl
theorem cod_X2_rackFor : Cond.code yX2_rackFor cX2_rackFor 3 (some .int) ∈ wB := inB (List.mem_of_getElem? (i := 434) (by decide +kernel)) rfl
theorem lk_X2_177 : Cond.methodLink RX2 177 yX2_mastsIn ∈ wB := inB (List.mem_of_getElem? (i := 435) (by decide +kernel)) rfl
theorem ins_X2_mastsIn : Cond.instanceMethod yX2_mastsIn ∈ wB := inB (List.mem_of_getElem? (i := 436) (by decide +kernel)) rfl
theorem sel_X2_mastsIn : Cond.selects RX2 yX2_mastsIn yX2_mastsIn ∈ wB := inB (List.mem_of_getElem? (i := 437) (by decide +kernel)) rfl
theorem cod_X2_mastsIn : Cond.code yX2_mastsIn cX2_mastsIn 2 (some .int) ∈ wB := inB (List.mem_of_getElem? (i := 438) (by decide +kernel)) rfl
theorem lk_L_53 : Cond.methodLink RL 53 yX3_work ∈ wB := inB (List.mem_of_getElem? (i := 439) (by decide +kernel)) rfl
theorem ins_X3_work : Cond.instanceMethod yX3_work ∈ wB := inB (List.mem_of_getElem? (i := 440) (by decide +kernel)) rfl
theorem sel_X3_work : Cond.selects RX3 yX3_work yX3_work ∈ wB := inB (List.mem_of_getElem? (i := 441) (by decide +kernel)) rfl
theorem cod_X3_work : Cond.code yX3_work cX3_work 3 (some .int) ∈ wB := inB (List.mem_of_getElem? (i := 442) (by decide +kernel)) rfl
theorem lk_X3_84 : Cond.methodLink RX3 84 yX2_orderWork ∈ wB := inB (List.mem_of_getElem? (i := 443) (by decide +kernel)) rfl
theorem ins_X2_orderWork : Cond.instanceMethod yX2_orderWork ∈ wB := inB (List.mem_of_getElem? (i := 444) (by decide +kernel)) rfl
theorem sel_X2_orderWork : Cond.selects RX2 yX2_orderWork yX2_orderWork ∈ wB := inB (List.mem_of_getElem? (i := 445) (by decide +kernel)) rfl
theorem cod_X2_orderWork : Cond.code yX2_orderWork cX2_orderWork 4 (some .int) ∈ wB := inB (List.mem_of_getElem? (i := 446) (by decide +kernel)) rfl
theorem lk_L_57 : Cond.methodLink RL 57 yX3_pass ∈ wB := inB (List.mem_of_getElem? (i := 447) (by decide +kernel)) rfl
theorem ins_X3_pass : Cond.instanceMethod yX3_pass ∈ wB := inB (List.mem_of_getElem? (i := 448) (by decide +kernel)) rfl
theorem sel_X3_pass : Cond.selects RX3 yX3_pass yX3_pass ∈ wB := inB (List.mem_of_getElem? (i := 449) (by decide +kernel)) rfl
theorem cod_X3_pass : Cond.code yX3_pass cX3_pass 2 (some .int) ∈ wB := inB (List.mem_of_getElem? (i := 450) (by decide +kernel)) rfl
theorem lk_X3_87 : Cond.methodLink RX3 87 yX2_letPass ∈ wB := inB (List.mem_of_getElem? (i := 451) (by decide +kernel)) rfl
theorem ins_X2_letPass : Cond.instanceMethod yX2_letPass ∈ wB := inB (List.mem_of_getElem? (i := 452) (by decide +kernel)) rfl
theorem sel_X2_letPass : Cond.selects RX2 yX2_letPass yX2_letPass ∈ wB := inB (List.mem_of_getElem? (i := 453) (by decide +kernel)) rfl
theorem cod_X2_letPass : Cond.code yX2_letPass cX2_letPass 3 (some .int) ∈ wB := inB (List.mem_of_getElem? (i := 454) (by decide +kernel)) rfl
theorem lk_L_61 : Cond.methodLink RL 61 yX3_type ∈ wB := inB (List.mem_of_getElem? (i := 455) (by decide +kernel)) rfl
theorem ins_X3_type : Cond.instanceMethod yX3_type ∈ wB := inB (List.mem_of_getElem? (i := 456) (by decide +kernel)) rfl
theorem sel_X3_type : Cond.selects RX3 yX3_type yX3_type ∈ wB := inB (List.mem_of_getElem? (i := 457) (by decide +kernel)) rfl
theorem cod_X3_type : Cond.code yX3_type cX3_type 2 (some .int) ∈ wB := inB (List.mem_of_getElem? (i := 458) (by decide +kernel)) rfl
theorem lk_X3_90 : Cond.methodLink RX3 90 yX1_append ∈ wB := inB (List.mem_of_getElem? (i := 459) (by decide +kernel)) rfl
theorem ins_X1_append : Cond.instanceMethod yX1_append ∈ wB := inB (List.mem_of_getElem? (i := 460) (by decide +kernel)) rfl
theorem sel_X1_append : Cond.selects RX1 yX1_append yX1_append ∈ wB := inB (List.mem_of_getElem? (i := 461) (by decide +kernel)) rfl
theorem cod_X1_append : Cond.code yX1_append cX1_append 2 (some .int) ∈ wB := inB (List.mem_of_getElem? (i := 462) (by decide +kernel)) rfl
theorem lk_L_66 : Cond.methodLink RL 66 yX3_clearText ∈ wB := inB (List.mem_of_getElem? (i := 463) (by decide +kernel)) rfl
theorem ins_X3_clearText : Cond.instanceMethod yX3_clearText ∈ wB := inB (List.mem_of_getElem? (i := 464) (by decide +kernel)) rfl
theorem sel_X3_clearText : Cond.selects RX3 yX3_clearText yX3_clearText ∈ wB := inB (List.mem_of_getElem? (i := 465) (by decide +kernel)) rfl
theorem cod_X3_clearText : Cond.code yX3_clearText cX3_clearText 1 (some .int) ∈ wB := inB (List.mem_of_getElem? (i := 466) (by decide +kernel)) rfl
theorem lk_X3_94 : Cond.methodLink RX3 94 yX1_empty ∈ wB := inB (List.mem_of_getElem? (i := 467) (by decide +kernel)) rfl
theorem ins_X1_empty : Cond.instanceMethod yX1_empty ∈ wB := inB (List.mem_of_getElem? (i := 468) (by decide +kernel)) rfl
theorem sel_X1_empty : Cond.selects RX1 yX1_empty yX1_empty ∈ wB := inB (List.mem_of_getElem? (i := 469) (by decide +kernel)) rfl
theorem cod_X1_empty : Cond.code yX1_empty cX1_empty 2 (some .int) ∈ wB := inB (List.mem_of_getElem? (i := 470) (by decide +kernel)) rfl
theorem lk_L_71 : Cond.methodLink RL 71 yX3_perform ∈ wB := inB (List.mem_of_getElem? (i := 471) (by decide +kernel)) rfl
theorem ins_X3_perform : Cond.instanceMethod yX3_perform ∈ wB := inB (List.mem_of_getElem? (i := 472) (by decide +kernel)) rfl
theorem sel_X3_perform : Cond.selects RX3 yX3_perform yX3_perform ∈ wB := inB (List.mem_of_getElem? (i := 473) (by decide +kernel)) rfl
theorem cod_X3_perform : Cond.code yX3_perform cX3_perform 5 (some .int) ∈ wB := inB (List.mem_of_getElem? (i := 474) (by decide +kernel)) rfl
theorem lk_X3_98 : Cond.methodLink RX3 98 yX1_read ∈ wB := inB (List.mem_of_getElem? (i := 475) (by decide +kernel)) rfl
theorem ins_X1_read : Cond.instanceMethod yX1_read ∈ wB := inB (List.mem_of_getElem? (i := 476) (by decide +kernel)) rfl
theorem sel_X1_read : Cond.selects RX1 yX1_read yX1_read ∈ wB := inB (List.mem_of_getElem? (i := 477) (by decide +kernel)) rfl
theorem cod_X1_read : Cond.code yX1_read cX1_read 2 (some .int) ∈ wB := inB (List.mem_of_getElem? (i := 478) (by decide +kernel)) rfl
theorem lk_X1_39 : Cond.methodLink RX1 39 yX1_readThing ∈ wB := inB (List.mem_of_getElem? (i := 479) (by decide +kernel)) rfl
theorem ins_X1_readThing : Cond.instanceMethod yX1_readThing ∈ wB := inB (List.mem_of_getElem? (i := 481) (by decide +kernel)) rfl
theorem cod_X1_readThing : Cond.code yX1_readThing cX1_readThing 4 (some .boolean) ∈ wB := inB (List.mem_of_getElem? (i := 482) (by decide +kernel)) rfl
theorem lk_X1_47 : Cond.methodLink RX1 47 yX1_readNumber ∈ wB := inB (List.mem_of_getElem? (i := 483) (by decide +kernel)) rfl
theorem ins_X1_readNumber : Cond.instanceMethod yX1_readNumber ∈ wB := inB (List.mem_of_getElem? (i := 485) (by decide +kernel)) rfl
theorem cod_X1_readNumber : Cond.code yX1_readNumber cX1_readNumber 5 (some .int) ∈ wB := inB (List.mem_of_getElem? (i := 486) (by decide +kernel)) rfl
theorem lk_X1_55 : Cond.methodLink RX1 55 yX1_digit ∈ wB := inB (List.mem_of_getElem? (i := 487) (by decide +kernel)) rfl
theorem ins_X1_digit : Cond.instanceMethod yX1_digit ∈ wB := inB (List.mem_of_getElem? (i := 489) (by decide +kernel)) rfl
theorem cod_X1_digit : Cond.code yX1_digit cX1_digit 1 (some .int) ∈ wB := inB (List.mem_of_getElem? (i := 490) (by decide +kernel)) rfl
theorem lk_X1_43 : Cond.methodLink RX1 43 yX1_readCharacter ∈ wB := inB (List.mem_of_getElem? (i := 491) (by decide +kernel)) rfl
theorem ins_X1_readCharacter : Cond.instanceMethod yX1_readCharacter ∈ wB := inB (List.mem_of_getElem? (i := 493) (by decide +kernel)) rfl
theorem cod_X1_readCharacter : Cond.code yX1_readCharacter cX1_readCharacter 2 (some .boolean) ∈ wB := inB (List.mem_of_getElem? (i := 494) (by decide +kernel)) rfl
theorem lk_X1_51 : Cond.methodLink RX1 51 yX1_add ∈ wB := inB (List.mem_of_getElem? (i := 495) (by decide +kernel)) rfl
theorem ins_X1_add : Cond.instanceMethod yX1_add ∈ wB := inB (List.mem_of_getElem? (i := 497) (by decide +kernel)) rfl
theorem cod_X1_add : Cond.code yX1_add cX1_add 4 (some .boolean) ∈ wB := inB (List.mem_of_getElem? (i := 498) (by decide +kernel)) rfl
theorem lk_X3_101 : Cond.methodLink RX3 101 yX1_things ∈ wB := inB (List.mem_of_getElem? (i := 499) (by decide +kernel)) rfl
theorem ins_X1_things : Cond.instanceMethod yX1_things ∈ wB := inB (List.mem_of_getElem? (i := 500) (by decide +kernel)) rfl
theorem sel_X1_things : Cond.selects RX1 yX1_things yX1_things ∈ wB := inB (List.mem_of_getElem? (i := 501) (by decide +kernel)) rfl
theorem cod_X1_things : Cond.code yX1_things cX1_things 1 (some .int) ∈ wB := inB (List.mem_of_getElem? (i := 502) (by decide +kernel)) rfl
theorem lk_X3_104 : Cond.methodLink RX3 104 yX1_sign ∈ wB := inB (List.mem_of_getElem? (i := 503) (by decide +kernel)) rfl
theorem ins_X1_sign : Cond.instanceMethod yX1_sign ∈ wB := inB (List.mem_of_getElem? (i := 504) (by decide +kernel)) rfl
theorem sel_X1_sign : Cond.selects RX1 yX1_sign yX1_sign ∈ wB := inB (List.mem_of_getElem? (i := 505) (by decide +kernel)) rfl
theorem cod_X1_sign : Cond.code yX1_sign cX1_sign 2 (some .char) ∈ wB := inB (List.mem_of_getElem? (i := 506) (by decide +kernel)) rfl
theorem lk_X1_35 : Cond.methodLink RX1 35 yX1_has ∈ wB := inB (List.mem_of_getElem? (i := 507) (by decide +kernel)) rfl
theorem ins_X1_has : Cond.instanceMethod yX1_has ∈ wB := inB (List.mem_of_getElem? (i := 509) (by decide +kernel)) rfl
theorem cod_X1_has : Cond.code yX1_has cX1_has 2 (some .boolean) ∈ wB := inB (List.mem_of_getElem? (i := 510) (by decide +kernel)) rfl
theorem lk_X3_108 : Cond.methodLink RX3 108 yX1_first ∈ wB := inB (List.mem_of_getElem? (i := 511) (by decide +kernel)) rfl
theorem ins_X1_first : Cond.instanceMethod yX1_first ∈ wB := inB (List.mem_of_getElem? (i := 512) (by decide +kernel)) rfl
theorem sel_X1_first : Cond.selects RX1 yX1_first yX1_first ∈ wB := inB (List.mem_of_getElem? (i := 513) (by decide +kernel)) rfl
theorem cod_X1_first : Cond.code yX1_first cX1_first 2 (some .int) ∈ wB := inB (List.mem_of_getElem? (i := 514) (by decide +kernel)) rfl
theorem lk_X3_111 : Cond.methodLink RX3 111 yX1_second ∈ wB := inB (List.mem_of_getElem? (i := 515) (by decide +kernel)) rfl
theorem ins_X1_second : Cond.instanceMethod yX1_second ∈ wB := inB (List.mem_of_getElem? (i := 516) (by decide +kernel)) rfl
theorem sel_X1_second : Cond.selects RX1 yX1_second yX1_second ∈ wB := inB (List.mem_of_getElem? (i := 517) (by decide +kernel)) rfl
theorem cod_X1_second : Cond.code yX1_second cX1_second 2 (some .int) ∈ wB := inB (List.mem_of_getElem? (i := 518) (by decide +kernel)) rfl
theorem lk_X3_114 : Cond.methodLink RX3 114 yX3_doThing ∈ wB := inB (List.mem_of_getElem? (i := 519) (by decide +kernel)) rfl
theorem ins_X3_doThing : Cond.instanceMethod yX3_doThing ∈ wB := inB (List.mem_of_getElem? (i := 521) (by decide +kernel)) rfl
theorem cod_X3_doThing : Cond.code yX3_doThing cX3_doThing 4 (some .int) ∈ wB := inB (List.mem_of_getElem? (i := 522) (by decide +kernel)) rfl
theorem lk_X3_118 : Cond.methodLink RX3 118 yX0_takeBack ∈ wB := inB (List.mem_of_getElem? (i := 523) (by decide +kernel)) rfl
theorem ins_X0_takeBack : Cond.instanceMethod yX0_takeBack ∈ wB := inB (List.mem_of_getElem? (i := 524) (by decide +kernel)) rfl
theorem sel_X0_takeBack : Cond.selects RX0 yX0_takeBack yX0_takeBack ∈ wB := inB (List.mem_of_getElem? (i := 525) (by decide +kernel)) rfl
theorem cod_X0_takeBack : Cond.code yX0_takeBack cX0_takeBack 2 none ∈ wB := inB (List.mem_of_getElem? (i := 526) (by decide +kernel)) rfl
theorem lk_L_75 : Cond.methodLink RL 75 yX3_stopped ∈ wB := inB (List.mem_of_getElem? (i := 527) (by decide +kernel)) rfl
theorem ins_X3_stopped : Cond.instanceMethod yX3_stopped ∈ wB := inB (List.mem_of_getElem? (i := 528) (by decide +kernel)) rfl
theorem sel_X3_stopped : Cond.selects RX3 yX3_stopped yX3_stopped ∈ wB := inB (List.mem_of_getElem? (i := 529) (by decide +kernel)) rfl
theorem cod_X3_stopped : Cond.code yX3_stopped cX3_stopped 2 (some .int) ∈ wB := inB (List.mem_of_getElem? (i := 530) (by decide +kernel)) rfl
theorem lk_L_79 : Cond.methodLink RL 79 yX3_undo ∈ wB := inB (List.mem_of_getElem? (i := 531) (by decide +kernel)) rfl
theorem ins_X3_undo : Cond.instanceMethod yX3_undo ∈ wB := inB (List.mem_of_getElem? (i := 532) (by decide +kernel)) rfl
theorem sel_X3_undo : Cond.selects RX3 yX3_undo yX3_undo ∈ wB := inB (List.mem_of_getElem? (i := 533) (by decide +kernel)) rfl
theorem cod_X3_undo : Cond.code yX3_undo cX3_undo 1 (some .int) ∈ wB := inB (List.mem_of_getElem? (i := 534) (by decide +kernel)) rfl
theorem lk_X3_121 : Cond.methodLink RX3 121 yX0_stepBack ∈ wB := inB (List.mem_of_getElem? (i := 535) (by decide +kernel)) rfl
theorem ins_X0_stepBack : Cond.instanceMethod yX0_stepBack ∈ wB := inB (List.mem_of_getElem? (i := 536) (by decide +kernel)) rfl
theorem sel_X0_stepBack : Cond.selects RX0 yX0_stepBack yX0_stepBack ∈ wB := inB (List.mem_of_getElem? (i := 537) (by decide +kernel)) rfl
theorem cod_X0_stepBack : Cond.code yX0_stepBack cX0_stepBack 2 (some .int) ∈ wB := inB (List.mem_of_getElem? (i := 538) (by decide +kernel)) rfl
theorem lk_X0_33 : Cond.methodLink RX0 33 yX0_takeBack ∈ wB := inB (List.mem_of_getElem? (i := 539) (by decide +kernel)) rfl
theorem lk_L_83 : Cond.methodLink RL 83 yX3_keep ∈ wB := inB (List.mem_of_getElem? (i := 540) (by decide +kernel)) rfl
theorem ins_X3_keep : Cond.instanceMethod yX3_keep ∈ wB := inB (List.mem_of_getElem? (i := 541) (by decide +kernel)) rfl
theorem sel_X3_keep : Cond.selects RX3 yX3_keep yX3_keep ∈ wB := inB (List.mem_of_getElem? (i := 542) (by decide +kernel)) rfl
theorem cod_X3_keep : Cond.code yX3_keep cX3_keep 1 (some .int) ∈ wB := inB (List.mem_of_getElem? (i := 543) (by decide +kernel)) rfl
theorem lk_X3_125 : Cond.methodLink RX3 125 yX2_copyFrom ∈ wB := inB (List.mem_of_getElem? (i := 544) (by decide +kernel)) rfl
theorem lk_X3_128 : Cond.methodLink RX3 128 yX2_boats ∈ wB := inB (List.mem_of_getElem? (i := 545) (by decide +kernel)) rfl
theorem lk_L_87 : Cond.methodLink RL 87 yX3_restore ∈ wB := inB (List.mem_of_getElem? (i := 546) (by decide +kernel)) rfl
theorem ins_X3_restore : Cond.instanceMethod yX3_restore ∈ wB := inB (List.mem_of_getElem? (i := 547) (by decide +kernel)) rfl
theorem sel_X3_restore : Cond.selects RX3 yX3_restore yX3_restore ∈ wB := inB (List.mem_of_getElem? (i := 548) (by decide +kernel)) rfl
theorem cod_X3_restore : Cond.code yX3_restore cX3_restore 1 (some .int) ∈ wB := inB (List.mem_of_getElem? (i := 549) (by decide +kernel)) rfl
theorem lk_L_91 : Cond.methodLink RL 91 yX3_boat ∈ wB := inB (List.mem_of_getElem? (i := 550) (by decide +kernel)) rfl
theorem ins_X3_boat : Cond.instanceMethod yX3_boat ∈ wB := inB (List.mem_of_getElem? (i := 551) (by decide +kernel)) rfl
theorem sel_X3_boat : Cond.selects RX3 yX3_boat yX3_boat ∈ wB := inB (List.mem_of_getElem? (i := 552) (by decide +kernel)) rfl
theorem cod_X3_boat : Cond.code yX3_boat cX3_boat 3 (some .int) ∈ wB := inB (List.mem_of_getElem? (i := 553) (by decide +kernel)) rfl
theorem lk_X3_131 : Cond.methodLink RX3 131 yX2_knows ∈ wB := inB (List.mem_of_getElem? (i := 554) (by decide +kernel)) rfl
theorem lk_X3_135 : Cond.methodLink RX3 135 yX2_isFact ∈ wB := inB (List.mem_of_getElem? (i := 555) (by decide +kernel)) rfl
theorem lk_X3_138 : Cond.methodLink RX3 138 yX2_fact ∈ wB := inB (List.mem_of_getElem? (i := 556) (by decide +kernel)) rfl
theorem lk_L_95 : Cond.methodLink RL 95 yX3_row ∈ wB := inB (List.mem_of_getElem? (i := 557) (by decide +kernel)) rfl
theorem ins_X3_row : Cond.instanceMethod yX3_row ∈ wB := inB (List.mem_of_getElem? (i := 558) (by decide +kernel)) rfl
theorem sel_X3_row : Cond.selects RX3 yX3_row yX3_row ∈ wB := inB (List.mem_of_getElem? (i := 559) (by decide +kernel)) rfl
theorem cod_X3_row : Cond.code yX3_row cX3_row 3 (some .int) ∈ wB := inB (List.mem_of_getElem? (i := 560) (by decide +kernel)) rfl
theorem lk_X3_141 : Cond.methodLink RX3 141 yX2_isRow ∈ wB := inB (List.mem_of_getElem? (i := 561) (by decide +kernel)) rfl
theorem lk_X3_144 : Cond.methodLink RX3 144 yX2_metresOf ∈ wB := inB (List.mem_of_getElem? (i := 562) (by decide +kernel)) rfl
theorem lk_X3_147 : Cond.methodLink RX3 147 yX2_metresTaken ∈ wB := inB (List.mem_of_getElem? (i := 563) (by decide +kernel)) rfl
theorem lk_X3_150 : Cond.methodLink RX3 150 yX2_boatsIn ∈ wB := inB (List.mem_of_getElem? (i := 564) (by decide +kernel)) rfl
theorem lk_X3_153 : Cond.methodLink RX3 153 yX2_boatAt ∈ wB := inB (List.mem_of_getElem? (i := 565) (by decide +kernel)) rfl
theorem ins_X2_boatAt : Cond.instanceMethod yX2_boatAt ∈ wB := inB (List.mem_of_getElem? (i := 566) (by decide +kernel)) rfl
theorem sel_X2_boatAt : Cond.selects RX2 yX2_boatAt yX2_boatAt ∈ wB := inB (List.mem_of_getElem? (i := 567) (by decide +kernel)) rfl
theorem cod_X2_boatAt : Cond.code yX2_boatAt cX2_boatAt 4 (some .int) ∈ wB := inB (List.mem_of_getElem? (i := 568) (by decide +kernel)) rfl
theorem lk_L_99 : Cond.methodLink RL 99 yX3_stands ∈ wB := inB (List.mem_of_getElem? (i := 569) (by decide +kernel)) rfl
theorem ins_X3_stands : Cond.instanceMethod yX3_stands ∈ wB := inB (List.mem_of_getElem? (i := 570) (by decide +kernel)) rfl
theorem sel_X3_stands : Cond.selects RX3 yX3_stands yX3_stands ∈ wB := inB (List.mem_of_getElem? (i := 571) (by decide +kernel)) rfl
theorem cod_X3_stands : Cond.code yX3_stands cX3_stands 3 (some .int) ∈ wB := inB (List.mem_of_getElem? (i := 572) (by decide +kernel)) rfl
theorem lk_L_103 : Cond.methodLink RL 103 yX3_cradle ∈ wB := inB (List.mem_of_getElem? (i := 573) (by decide +kernel)) rfl
theorem ins_X3_cradle : Cond.instanceMethod yX3_cradle ∈ wB := inB (List.mem_of_getElem? (i := 574) (by decide +kernel)) rfl
theorem sel_X3_cradle : Cond.selects RX3 yX3_cradle yX3_cradle ∈ wB := inB (List.mem_of_getElem? (i := 575) (by decide +kernel)) rfl
theorem cod_X3_cradle : Cond.code yX3_cradle cX3_cradle 3 (some .int) ∈ wB := inB (List.mem_of_getElem? (i := 576) (by decide +kernel)) rfl
theorem lk_X3_156 : Cond.methodLink RX3 156 yX2_isKind ∈ wB := inB (List.mem_of_getElem? (i := 577) (by decide +kernel)) rfl
theorem lk_X3_159 : Cond.methodLink RX3 159 yX2_cradlesOf ∈ wB := inB (List.mem_of_getElem? (i := 578) (by decide +kernel)) rfl
theorem lk_X3_162 : Cond.methodLink RX3 162 yX2_cradlesTaken ∈ wB := inB (List.mem_of_getElem? (i := 579) (by decide +kernel)) rfl
theorem lk_X3_165 : Cond.methodLink RX3 165 yX2_bears ∈ wB := inB (List.mem_of_getElem? (i := 580) (by decide +kernel)) rfl
theorem lk_L_107 : Cond.methodLink RL 107 yX3_tide ∈ wB := inB (List.mem_of_getElem? (i := 581) (by decide +kernel)) rfl
theorem ins_X3_tide : Cond.instanceMethod yX3_tide ∈ wB := inB (List.mem_of_getElem? (i := 582) (by decide +kernel)) rfl
theorem sel_X3_tide : Cond.selects RX3 yX3_tide yX3_tide ∈ wB := inB (List.mem_of_getElem? (i := 583) (by decide +kernel)) rfl
theorem cod_X3_tide : Cond.code yX3_tide cX3_tide 2 (some .int) ∈ wB := inB (List.mem_of_getElem? (i := 584) (by decide +kernel)) rfl
theorem lk_X3_168 : Cond.methodLink RX3 168 yX3_within ∈ wB := inB (List.mem_of_getElem? (i := 585) (by decide +kernel)) rfl
theorem lk_X3_172 : Cond.methodLink RX3 172 yX2_tideOn ∈ wB := inB (List.mem_of_getElem? (i := 586) (by decide +kernel)) rfl
theorem lk_L_111 : Cond.methodLink RL 111 yX3_liftReason ∈ wB := inB (List.mem_of_getElem? (i := 587) (by decide +kernel)) rfl
theorem ins_X3_liftReason : Cond.instanceMethod yX3_liftReason ∈ wB := inB (List.mem_of_getElem? (i := 588) (by decide +kernel)) rfl
theorem sel_X3_liftReason : Cond.selects RX3 yX3_liftReason yX3_liftReason ∈ wB := inB (List.mem_of_getElem? (i := 589) (by decide +kernel)) rfl
theorem cod_X3_liftReason : Cond.code yX3_liftReason cX3_liftReason 3 (some .int) ∈ wB := inB (List.mem_of_getElem? (i := 590) (by decide +kernel)) rfl
theorem lk_X3_175 : Cond.methodLink RX3 175 yX2_whyNoLift ∈ wB := inB (List.mem_of_getElem? (i := 591) (by decide +kernel)) rfl
theorem lk_L_115 : Cond.methodLink RL 115 yX3_launchReason ∈ wB := inB (List.mem_of_getElem? (i := 592) (by decide +kernel)) rfl
theorem ins_X3_launchReason : Cond.instanceMethod yX3_launchReason ∈ wB := inB (List.mem_of_getElem? (i := 593) (by decide +kernel)) rfl
theorem sel_X3_launchReason : Cond.selects RX3 yX3_launchReason yX3_launchReason ∈ wB := inB (List.mem_of_getElem? (i := 594) (by decide +kernel)) rfl
theorem cod_X3_launchReason : Cond.code yX3_launchReason cX3_launchReason 2 (some .int) ∈ wB := inB (List.mem_of_getElem? (i := 595) (by decide +kernel)) rfl
theorem lk_X3_178 : Cond.methodLink RX3 178 yX2_whyNoLaunch ∈ wB := inB (List.mem_of_getElem? (i := 596) (by decide +kernel)) rfl
theorem lk_L_119 : Cond.methodLink RL 119 yX3_blockers ∈ wB := inB (List.mem_of_getElem? (i := 597) (by decide +kernel)) rfl
theorem ins_X3_blockers : Cond.instanceMethod yX3_blockers ∈ wB := inB (List.mem_of_getElem? (i := 598) (by decide +kernel)) rfl
theorem sel_X3_blockers : Cond.selects RX3 yX3_blockers yX3_blockers ∈ wB := inB (List.mem_of_getElem? (i := 599) (by decide +kernel)) rfl
theorem cod_X3_blockers : Cond.code yX3_blockers cX3_blockers 2 (some .int) ∈ wB := inB (List.mem_of_getElem? (i := 600) (by decide +kernel)) rfl
theorem lk_X3_181 : Cond.methodLink RX3 181 yX2_isAshore ∈ wB := inB (List.mem_of_getElem? (i := 601) (by decide +kernel)) rfl
theorem lk_X3_184 : Cond.methodLink RX3 184 yX2_boatsFartherOut ∈ wB := inB (List.mem_of_getElem? (i := 602) (by decide +kernel)) rfl
theorem lk_L_123 : Cond.methodLink RL 123 yX3_launchDay ∈ wB := inB (List.mem_of_getElem? (i := 603) (by decide +kernel)) rfl
theorem ins_X3_launchDay : Cond.instanceMethod yX3_launchDay ∈ wB := inB (List.mem_of_getElem? (i := 604) (by decide +kernel)) rfl
theorem sel_X3_launchDay : Cond.selects RX3 yX3_launchDay yX3_launchDay ∈ wB := inB (List.mem_of_getElem? (i := 605) (by decide +kernel)) rfl
theorem cod_X3_launchDay : Cond.code yX3_launchDay cX3_launchDay 2 (some .int) ∈ wB := inB (List.mem_of_getElem? (i := 606) (by decide +kernel)) rfl
theorem lk_X3_187 : Cond.methodLink RX3 187 yX2_firstLaunchDay ∈ wB := inB (List.mem_of_getElem? (i := 607) (by decide +kernel)) rfl
theorem ins_X2_firstLaunchDay : Cond.instanceMethod yX2_firstLaunchDay ∈ wB := inB (List.mem_of_getElem? (i := 608) (by decide +kernel)) rfl
theorem sel_X2_firstLaunchDay : Cond.selects RX2 yX2_firstLaunchDay yX2_firstLaunchDay ∈ wB := inB (List.mem_of_getElem? (i := 609) (by decide +kernel)) rfl
theorem cod_X2_firstLaunchDay : Cond.code yX2_firstLaunchDay cX2_firstLaunchDay 4 (some .int) ∈ wB := inB (List.mem_of_getElem? (i := 610) (by decide +kernel)) rfl
theorem lk_L_127 : Cond.methodLink RL 127 yX3_bestRow ∈ wB := inB (List.mem_of_getElem? (i := 611) (by decide +kernel)) rfl
theorem ins_X3_bestRow : Cond.instanceMethod yX3_bestRow ∈ wB := inB (List.mem_of_getElem? (i := 612) (by decide +kernel)) rfl
theorem sel_X3_bestRow : Cond.selects RX3 yX3_bestRow yX3_bestRow ∈ wB := inB (List.mem_of_getElem? (i := 613) (by decide +kernel)) rfl
theorem cod_X3_bestRow : Cond.code yX3_bestRow cX3_bestRow 2 (some .int) ∈ wB := inB (List.mem_of_getElem? (i := 614) (by decide +kernel)) rfl
theorem lk_X3_190 : Cond.methodLink RX3 190 yX2_tightestRow ∈ wB := inB (List.mem_of_getElem? (i := 615) (by decide +kernel)) rfl
theorem ins_X2_tightestRow : Cond.instanceMethod yX2_tightestRow ∈ wB := inB (List.mem_of_getElem? (i := 616) (by decide +kernel)) rfl
theorem sel_X2_tightestRow : Cond.selects RX2 yX2_tightestRow yX2_tightestRow ∈ wB := inB (List.mem_of_getElem? (i := 617) (by decide +kernel)) rfl
theorem cod_X2_tightestRow : Cond.code yX2_tightestRow cX2_tightestRow 5 (some .int) ∈ wB := inB (List.mem_of_getElem? (i := 618) (by decide +kernel)) rfl
theorem lk_L_131 : Cond.methodLink RL 131 yX3_count ∈ wB := inB (List.mem_of_getElem? (i := 619) (by decide +kernel)) rfl
theorem ins_X3_count : Cond.instanceMethod yX3_count ∈ wB := inB (List.mem_of_getElem? (i := 620) (by decide +kernel)) rfl
theorem sel_X3_count : Cond.selects RX3 yX3_count yX3_count ∈ wB := inB (List.mem_of_getElem? (i := 621) (by decide +kernel)) rfl
theorem cod_X3_count : Cond.code yX3_count cX3_count 2 (some .int) ∈ wB := inB (List.mem_of_getElem? (i := 622) (by decide +kernel)) rfl
theorem lk_X3_193 : Cond.methodLink RX3 193 yX2_today ∈ wB := inB (List.mem_of_getElem? (i := 623) (by decide +kernel)) rfl
theorem ins_X2_today : Cond.instanceMethod yX2_today ∈ wB := inB (List.mem_of_getElem? (i := 624) (by decide +kernel)) rfl
theorem sel_X2_today : Cond.selects RX2 yX2_today yX2_today ∈ wB := inB (List.mem_of_getElem? (i := 625) (by decide +kernel)) rfl
theorem cod_X2_today : Cond.code yX2_today cX2_today 1 (some .int) ∈ wB := inB (List.mem_of_getElem? (i := 626) (by decide +kernel)) rfl
theorem lk_X3_196 : Cond.methodLink RX3 196 yX2_liftsLeft ∈ wB := inB (List.mem_of_getElem? (i := 627) (by decide +kernel)) rfl
theorem lk_X3_199 : Cond.methodLink RX3 199 yX2_boatsAshore ∈ wB := inB (List.mem_of_getElem? (i := 628) (by decide +kernel)) rfl
theorem ins_X2_boatsAshore : Cond.instanceMethod yX2_boatsAshore ∈ wB := inB (List.mem_of_getElem? (i := 629) (by decide +kernel)) rfl
theorem sel_X2_boatsAshore : Cond.selects RX2 yX2_boatsAshore yX2_boatsAshore ∈ wB := inB (List.mem_of_getElem? (i := 630) (by decide +kernel)) rfl
theorem cod_X2_boatsAshore : Cond.code yX2_boatsAshore cX2_boatsAshore 1 (some .int) ∈ wB := inB (List.mem_of_getElem? (i := 631) (by decide +kernel)) rfl
theorem lk_X3_202 : Cond.methodLink RX3 202 yX2_boatsWithWork ∈ wB := inB (List.mem_of_getElem? (i := 632) (by decide +kernel)) rfl
theorem ins_X2_boatsWithWork : Cond.instanceMethod yX2_boatsWithWork ∈ wB := inB (List.mem_of_getElem? (i := 633) (by decide +kernel)) rfl
theorem sel_X2_boatsWithWork : Cond.selects RX2 yX2_boatsWithWork yX2_boatsWithWork ∈ wB := inB (List.mem_of_getElem? (i := 634) (by decide +kernel)) rfl
theorem cod_X2_boatsWithWork : Cond.code yX2_boatsWithWork cX2_boatsWithWork 3 (some .int) ∈ wB := inB (List.mem_of_getElem? (i := 635) (by decide +kernel)) rfl
theorem lk_X3_205 : Cond.methodLink RX3 205 yX2_liftsSoFar ∈ wB := inB (List.mem_of_getElem? (i := 636) (by decide +kernel)) rfl
theorem ins_X2_liftsSoFar : Cond.instanceMethod yX2_liftsSoFar ∈ wB := inB (List.mem_of_getElem? (i := 637) (by decide +kernel)) rfl
theorem sel_X2_liftsSoFar : Cond.selects RX2 yX2_liftsSoFar yX2_liftsSoFar ∈ wB := inB (List.mem_of_getElem? (i := 638) (by decide +kernel)) rfl
theorem cod_X2_liftsSoFar : Cond.code yX2_liftsSoFar cX2_liftsSoFar 1 (some .int) ∈ wB := inB (List.mem_of_getElem? (i := 639) (by decide +kernel)) rfl
theorem lk_X3_208 : Cond.methodLink RX3 208 yX2_launchesSoFar ∈ wB := inB (List.mem_of_getElem? (i := 640) (by decide +kernel)) rfl
theorem ins_X2_launchesSoFar : Cond.instanceMethod yX2_launchesSoFar ∈ wB := inB (List.mem_of_getElem? (i := 641) (by decide +kernel)) rfl
theorem sel_X2_launchesSoFar : Cond.selects RX2 yX2_launchesSoFar yX2_launchesSoFar ∈ wB := inB (List.mem_of_getElem? (i := 642) (by decide +kernel)) rfl
theorem cod_X2_launchesSoFar : Cond.code yX2_launchesSoFar cX2_launchesSoFar 1 (some .int) ∈ wB := inB (List.mem_of_getElem? (i := 643) (by decide +kernel)) rfl
theorem lk_X3_211 : Cond.methodLink RX3 211 yX2_mastsIn ∈ wB := inB (List.mem_of_getElem? (i := 644) (by decide +kernel)) rfl
theorem lk_X3_214 : Cond.methodLink RX3 214 yX2_setting ∈ wB := inB (List.mem_of_getElem? (i := 645) (by decide +kernel)) rfl
theorem ins_X2_setting : Cond.instanceMethod yX2_setting ∈ wB := inB (List.mem_of_getElem? (i := 646) (by decide +kernel)) rfl
theorem sel_X2_setting : Cond.selects RX2 yX2_setting yX2_setting ∈ wB := inB (List.mem_of_getElem? (i := 647) (by decide +kernel)) rfl
theorem cod_X2_setting : Cond.code yX2_setting cX2_setting 2 (some .int) ∈ wB := inB (List.mem_of_getElem? (i := 648) (by decide +kernel)) rfl
theorem lk_X3_217 : Cond.methodLink RX3 217 yX0_states ∈ wB := inB (List.mem_of_getElem? (i := 649) (by decide +kernel)) rfl
theorem ins_X0_states : Cond.instanceMethod yX0_states ∈ wB := inB (List.mem_of_getElem? (i := 650) (by decide +kernel)) rfl
theorem sel_X0_states : Cond.selects RX0 yX0_states yX0_states ∈ wB := inB (List.mem_of_getElem? (i := 651) (by decide +kernel)) rfl
theorem cod_X0_states : Cond.code yX0_states cX0_states 1 (some .int) ∈ wB := inB (List.mem_of_getElem? (i := 652) (by decide +kernel)) rfl
theorem lk_X3_220 : Cond.methodLink RX3 220 yX1_length ∈ wB := inB (List.mem_of_getElem? (i := 653) (by decide +kernel)) rfl
theorem ins_X1_length : Cond.instanceMethod yX1_length ∈ wB := inB (List.mem_of_getElem? (i := 654) (by decide +kernel)) rfl
theorem sel_X1_length : Cond.selects RX1 yX1_length yX1_length ∈ wB := inB (List.mem_of_getElem? (i := 655) (by decide +kernel)) rfl
theorem cod_X1_length : Cond.code yX1_length cX1_length 1 (some .int) ∈ wB := inB (List.mem_of_getElem? (i := 656) (by decide +kernel)) rfl
theorem cl_L_10 : Cond.classLink RL 10 RX4 ∈ wB := inB (List.mem_of_getElem? (i := 657) (by decide +kernel)) rfl
theorem inst_X4 : Cond.instantiable RX4 13 ∈ wB := inB (List.mem_of_getElem? (i := 658) (by decide +kernel)) rfl
theorem lk_L_12 : Cond.methodLink RL 12 yX4_init ∈ wB := inB (List.mem_of_getElem? (i := 659) (by decide +kernel)) rfl
theorem ins_X4_init : Cond.instanceMethod yX4_init ∈ wB := inB (List.mem_of_getElem? (i := 660) (by decide +kernel)) rfl
theorem cod_X4_init : Cond.code yX4_init cX4_init 2 none ∈ wB := inB (List.mem_of_getElem? (i := 661) (by decide +kernel)) rfl
theorem lk_X4_1 : Cond.methodLink RX4 1 objectInit ∈ wB := inB (List.mem_of_getElem? (i := 662) (by decide +kernel)) rfl
theorem fl_X4_7 : Cond.fieldLink RX4 7 "WinterYardModel" "z" "[I" ∈ wB := inB (List.mem_of_getElem? (i := 663) (by decide +kernel)) rfl
theorem fl_X4_13 : Cond.fieldLink RX4 13 "WinterYardModel" "aside" "[I" ∈ wB := inB (List.mem_of_getElem? (i := 664) (by decide +kernel)) rfl
theorem fl_X4_16 : Cond.fieldLink RX4 16 "WinterYardModel" "old" "[I" ∈ wB := inB (List.mem_of_getElem? (i := 665) (by decide +kernel)) rfl
theorem fl_X4_74 : Cond.fieldLink RX4 74 "WinterYardModel" "states" "I" ∈ wB := inB (List.mem_of_getElem? (i := 666) (by decide +kernel)) rfl
theorem fl_X4_19 : Cond.fieldLink RX4 19 "WinterYardModel" "kept" "[I" ∈ wB := inB (List.mem_of_getElem? (i := 667) (by decide +kernel)) rfl
theorem fl_X4_77 : Cond.fieldLink RX4 77 "WinterYardModel" "isKept" "Z" ∈ wB := inB (List.mem_of_getElem? (i := 668) (by decide +kernel)) rfl
theorem fl_X4_22 : Cond.fieldLink RX4 22 "WinterYardModel" "text" "[I" ∈ wB := inB (List.mem_of_getElem? (i := 669) (by decide +kernel)) rfl
theorem fl_X4_166 : Cond.fieldLink RX4 166 "WinterYardModel" "length" "I" ∈ wB := inB (List.mem_of_getElem? (i := 670) (by decide +kernel)) rfl
theorem fl_X4_25 : Cond.fieldLink RX4 25 "WinterYardModel" "stopNumber" "I" ∈ wB := inB (List.mem_of_getElem? (i := 671) (by decide +kernel)) rfl
theorem fl_X4_29 : Cond.fieldLink RX4 29 "WinterYardModel" "stopError" "I" ∈ wB := inB (List.mem_of_getElem? (i := 672) (by decide +kernel)) rfl
theorem fl_X4_181 : Cond.fieldLink RX4 181 "WinterYardModel" "sign" "I" ∈ wB := inB (List.mem_of_getElem? (i := 673) (by decide +kernel)) rfl
theorem fl_X4_175 : Cond.fieldLink RX4 175 "WinterYardModel" "first" "I" ∈ wB := inB (List.mem_of_getElem? (i := 674) (by decide +kernel)) rfl
theorem fl_X4_178 : Cond.fieldLink RX4 178 "WinterYardModel" "second" "I" ∈ wB := inB (List.mem_of_getElem? (i := 675) (by decide +kernel)) rfl
theorem lk_L_82 : Cond.methodLink RL 82 yX4_undo ∈ wB := inB (List.mem_of_getElem? (i := 703) (by decide +kernel)) rfl
theorem ins_X4_undo : Cond.instanceMethod yX4_undo ∈ wB := inB (List.mem_of_getElem? (i := 704) (by decide +kernel)) rfl
theorem sel_X4_undo : Cond.selects RX4 yX4_undo yX4_undo ∈ wB := inB (List.mem_of_getElem? (i := 705) (by decide +kernel)) rfl
theorem cod_X4_undo : Cond.code yX4_undo cX4_undo 2 (some .int) ∈ wB := inB (List.mem_of_getElem? (i := 706) (by decide +kernel)) rfl
theorem lk_L_86 : Cond.methodLink RL 86 yX4_keep ∈ wB := inB (List.mem_of_getElem? (i := 707) (by decide +kernel)) rfl
theorem ins_X4_keep : Cond.instanceMethod yX4_keep ∈ wB := inB (List.mem_of_getElem? (i := 708) (by decide +kernel)) rfl
theorem sel_X4_keep : Cond.selects RX4 yX4_keep yX4_keep ∈ wB := inB (List.mem_of_getElem? (i := 709) (by decide +kernel)) rfl
theorem cod_X4_keep : Cond.code yX4_keep cX4_keep 2 (some .int) ∈ wB := inB (List.mem_of_getElem? (i := 710) (by decide +kernel)) rfl
theorem lk_X4_81 : Cond.methodLink RX4 81 yX4_boats ∈ wB := inB (List.mem_of_getElem? (i := 711) (by decide +kernel)) rfl
theorem ins_X4_boats : Cond.instanceMethod yX4_boats ∈ wB := inB (List.mem_of_getElem? (i := 713) (by decide +kernel)) rfl
theorem cod_X4_boats : Cond.code yX4_boats cX4_boats 3 (some .int) ∈ wB := inB (List.mem_of_getElem? (i := 714) (by decide +kernel)) rfl
theorem lk_X4_36 : Cond.methodLink RX4 36 yX4_of ∈ wB := inB (List.mem_of_getElem? (i := 715) (by decide +kernel)) rfl
theorem ins_X4_of : Cond.instanceMethod yX4_of ∈ wB := inB (List.mem_of_getElem? (i := 717) (by decide +kernel)) rfl
theorem cod_X4_of : Cond.code yX4_of cX4_of 3 (some .int) ∈ wB := inB (List.mem_of_getElem? (i := 718) (by decide +kernel)) rfl
theorem lk_L_90 : Cond.methodLink RL 90 yX4_restore ∈ wB := inB (List.mem_of_getElem? (i := 719) (by decide +kernel)) rfl
theorem ins_X4_restore : Cond.instanceMethod yX4_restore ∈ wB := inB (List.mem_of_getElem? (i := 720) (by decide +kernel)) rfl
theorem sel_X4_restore : Cond.selects RX4 yX4_restore yX4_restore ∈ wB := inB (List.mem_of_getElem? (i := 721) (by decide +kernel)) rfl
theorem cod_X4_restore : Cond.code yX4_restore cX4_restore 2 (some .int) ∈ wB := inB (List.mem_of_getElem? (i := 722) (by decide +kernel)) rfl
theorem lk_X4_85 : Cond.methodLink RX4 85 yX4_push ∈ wB := inB (List.mem_of_getElem? (i := 723) (by decide +kernel)) rfl
theorem ins_X4_push : Cond.instanceMethod yX4_push ∈ wB := inB (List.mem_of_getElem? (i := 725) (by decide +kernel)) rfl
theorem cod_X4_push : Cond.code yX4_push cX4_push 3 none ∈ wB := inB (List.mem_of_getElem? (i := 726) (by decide +kernel)) rfl
theorem lk_L_17 : Cond.methodLink RL 17 yX4_come ∈ wB := inB (List.mem_of_getElem? (i := 727) (by decide +kernel)) rfl
theorem ins_X4_come : Cond.instanceMethod yX4_come ∈ wB := inB (List.mem_of_getElem? (i := 728) (by decide +kernel)) rfl
theorem sel_X4_come : Cond.selects RX4 yX4_come yX4_come ∈ wB := inB (List.mem_of_getElem? (i := 729) (by decide +kernel)) rfl
theorem cod_X4_come : Cond.code yX4_come cX4_come 6 (some .int) ∈ wB := inB (List.mem_of_getElem? (i := 730) (by decide +kernel)) rfl
theorem lk_X4_89 : Cond.methodLink RX4 89 yX4_isKind ∈ wB := inB (List.mem_of_getElem? (i := 731) (by decide +kernel)) rfl
theorem stc_X4_isKind : Cond.static yX4_isKind ∈ wB := inB (List.mem_of_getElem? (i := 732) (by decide +kernel)) rfl
theorem cod_X4_isKind : Cond.code yX4_isKind cX4_isKind 1 (some .boolean) ∈ wB := inB (List.mem_of_getElem? (i := 733) (by decide +kernel)) rfl
theorem lk_X4_32 : Cond.methodLink RX4 32 yX4_in ∈ wB := inB (List.mem_of_getElem? (i := 734) (by decide +kernel)) rfl
theorem stc_X4_in : Cond.static yX4_in ∈ wB := inB (List.mem_of_getElem? (i := 735) (by decide +kernel)) rfl
theorem cod_X4_in : Cond.code yX4_in cX4_in 3 (some .boolean) ∈ wB := inB (List.mem_of_getElem? (i := 736) (by decide +kernel)) rfl
theorem lk_X4_70 : Cond.methodLink RX4 70 yX4_put ∈ wB := inB (List.mem_of_getElem? (i := 737) (by decide +kernel)) rfl
theorem ins_X4_put : Cond.instanceMethod yX4_put ∈ wB := inB (List.mem_of_getElem? (i := 739) (by decide +kernel)) rfl
theorem cod_X4_put : Cond.code yX4_put cX4_put 4 none ∈ wB := inB (List.mem_of_getElem? (i := 740) (by decide +kernel)) rfl
theorem lk_L_22 : Cond.methodLink RL 22 yX4_goAway ∈ wB := inB (List.mem_of_getElem? (i := 741) (by decide +kernel)) rfl
theorem ins_X4_goAway : Cond.instanceMethod yX4_goAway ∈ wB := inB (List.mem_of_getElem? (i := 742) (by decide +kernel)) rfl
theorem sel_X4_goAway : Cond.selects RX4 yX4_goAway yX4_goAway ∈ wB := inB (List.mem_of_getElem? (i := 743) (by decide +kernel)) rfl
theorem cod_X4_goAway : Cond.code yX4_goAway cX4_goAway 2 (some .int) ∈ wB := inB (List.mem_of_getElem? (i := 744) (by decide +kernel)) rfl
theorem lk_X4_92 : Cond.methodLink RX4 92 yX4_isBoat ∈ wB := inB (List.mem_of_getElem? (i := 745) (by decide +kernel)) rfl
theorem ins_X4_isBoat : Cond.instanceMethod yX4_isBoat ∈ wB := inB (List.mem_of_getElem? (i := 747) (by decide +kernel)) rfl
theorem cod_X4_isBoat : Cond.code yX4_isBoat cX4_isBoat 2 (some .boolean) ∈ wB := inB (List.mem_of_getElem? (i := 748) (by decide +kernel)) rfl
theorem lk_X4_40 : Cond.methodLink RX4 40 yX4_isAshore ∈ wB := inB (List.mem_of_getElem? (i := 749) (by decide +kernel)) rfl
theorem ins_X4_isAshore : Cond.instanceMethod yX4_isAshore ∈ wB := inB (List.mem_of_getElem? (i := 751) (by decide +kernel)) rfl
theorem cod_X4_isAshore : Cond.code yX4_isAshore cX4_isAshore 2 (some .boolean) ∈ wB := inB (List.mem_of_getElem? (i := 752) (by decide +kernel)) rfl
theorem lk_L_27 : Cond.methodLink RL 27 yX4_setCradles ∈ wB := inB (List.mem_of_getElem? (i := 753) (by decide +kernel)) rfl
theorem ins_X4_setCradles : Cond.instanceMethod yX4_setCradles ∈ wB := inB (List.mem_of_getElem? (i := 754) (by decide +kernel)) rfl
theorem sel_X4_setCradles : Cond.selects RX4 yX4_setCradles yX4_setCradles ∈ wB := inB (List.mem_of_getElem? (i := 755) (by decide +kernel)) rfl
theorem cod_X4_setCradles : Cond.code yX4_setCradles cX4_setCradles 3 (some .int) ∈ wB := inB (List.mem_of_getElem? (i := 756) (by decide +kernel)) rfl
theorem lk_X4_44 : Cond.methodLink RX4 44 yX4_taken ∈ wB := inB (List.mem_of_getElem? (i := 757) (by decide +kernel)) rfl
theorem ins_X4_taken : Cond.instanceMethod yX4_taken ∈ wB := inB (List.mem_of_getElem? (i := 759) (by decide +kernel)) rfl
theorem cod_X4_taken : Cond.code yX4_taken cX4_taken 4 (some .int) ∈ wB := inB (List.mem_of_getElem? (i := 760) (by decide +kernel)) rfl
theorem lk_X4_95 : Cond.methodLink RX4 95 yX4_change ∈ wB := inB (List.mem_of_getElem? (i := 761) (by decide +kernel)) rfl
theorem ins_X4_change : Cond.instanceMethod yX4_change ∈ wB := inB (List.mem_of_getElem? (i := 763) (by decide +kernel)) rfl
theorem cod_X4_change : Cond.code yX4_change cX4_change 4 (some .int) ∈ wB := inB (List.mem_of_getElem? (i := 764) (by decide +kernel)) rfl
theorem lk_L_31 : Cond.methodLink RL 31 yX4_setRow ∈ wB := inB (List.mem_of_getElem? (i := 765) (by decide +kernel)) rfl
theorem ins_X4_setRow : Cond.instanceMethod yX4_setRow ∈ wB := inB (List.mem_of_getElem? (i := 766) (by decide +kernel)) rfl
theorem sel_X4_setRow : Cond.selects RX4 yX4_setRow yX4_setRow ∈ wB := inB (List.mem_of_getElem? (i := 767) (by decide +kernel)) rfl
theorem cod_X4_setRow : Cond.code yX4_setRow cX4_setRow 3 (some .int) ∈ wB := inB (List.mem_of_getElem? (i := 768) (by decide +kernel)) rfl
theorem lk_X4_98 : Cond.methodLink RX4 98 yX4_isRow ∈ wB := inB (List.mem_of_getElem? (i := 769) (by decide +kernel)) rfl
theorem stc_X4_isRow : Cond.static yX4_isRow ∈ wB := inB (List.mem_of_getElem? (i := 770) (by decide +kernel)) rfl
theorem cod_X4_isRow : Cond.code yX4_isRow cX4_isRow 1 (some .boolean) ∈ wB := inB (List.mem_of_getElem? (i := 771) (by decide +kernel)) rfl
theorem lk_X4_58 : Cond.methodLink RX4 58 yX4_metresTaken ∈ wB := inB (List.mem_of_getElem? (i := 772) (by decide +kernel)) rfl
theorem ins_X4_metresTaken : Cond.instanceMethod yX4_metresTaken ∈ wB := inB (List.mem_of_getElem? (i := 774) (by decide +kernel)) rfl
theorem cod_X4_metresTaken : Cond.code yX4_metresTaken cX4_metresTaken 4 (some .int) ∈ wB := inB (List.mem_of_getElem? (i := 775) (by decide +kernel)) rfl
theorem lk_X4_54 : Cond.methodLink RX4 54 yX4_isIn ∈ wB := inB (List.mem_of_getElem? (i := 776) (by decide +kernel)) rfl
theorem ins_X4_isIn : Cond.instanceMethod yX4_isIn ∈ wB := inB (List.mem_of_getElem? (i := 778) (by decide +kernel)) rfl
theorem cod_X4_isIn : Cond.code yX4_isIn cX4_isIn 3 (some .boolean) ∈ wB := inB (List.mem_of_getElem? (i := 779) (by decide +kernel)) rfl
theorem lk_L_35 : Cond.methodLink RL 35 yX4_set ∈ wB := inB (List.mem_of_getElem? (i := 780) (by decide +kernel)) rfl
theorem ins_X4_set : Cond.instanceMethod yX4_set ∈ wB := inB (List.mem_of_getElem? (i := 781) (by decide +kernel)) rfl
theorem sel_X4_set : Cond.selects RX4 yX4_set yX4_set ∈ wB := inB (List.mem_of_getElem? (i := 782) (by decide +kernel)) rfl
theorem cod_X4_set : Cond.code yX4_set cX4_set 4 (some .int) ∈ wB := inB (List.mem_of_getElem? (i := 783) (by decide +kernel)) rfl
theorem lk_L_39 : Cond.methodLink RL 39 yX4_lift ∈ wB := inB (List.mem_of_getElem? (i := 784) (by decide +kernel)) rfl
theorem ins_X4_lift : Cond.instanceMethod yX4_lift ∈ wB := inB (List.mem_of_getElem? (i := 785) (by decide +kernel)) rfl
theorem sel_X4_lift : Cond.selects RX4 yX4_lift yX4_lift ∈ wB := inB (List.mem_of_getElem? (i := 786) (by decide +kernel)) rfl
theorem cod_X4_lift : Cond.code yX4_lift cX4_lift 4 (some .int) ∈ wB := inB (List.mem_of_getElem? (i := 787) (by decide +kernel)) rfl
theorem lk_X4_123 : Cond.methodLink RX4 123 yX4_noLift ∈ wB := inB (List.mem_of_getElem? (i := 788) (by decide +kernel)) rfl
theorem ins_X4_noLift : Cond.instanceMethod yX4_noLift ∈ wB := inB (List.mem_of_getElem? (i := 790) (by decide +kernel)) rfl
theorem cod_X4_noLift : Cond.code yX4_noLift cX4_noLift 4 (some .int) ∈ wB := inB (List.mem_of_getElem? (i := 791) (by decide +kernel)) rfl
theorem lk_X4_113 : Cond.methodLink RX4 113 yX4_whyNoLift ∈ wB := inB (List.mem_of_getElem? (i := 792) (by decide +kernel)) rfl
theorem ins_X4_whyNoLift : Cond.instanceMethod yX4_whyNoLift ∈ wB := inB (List.mem_of_getElem? (i := 794) (by decide +kernel)) rfl
theorem cod_X4_whyNoLift : Cond.code yX4_whyNoLift cX4_whyNoLift 3 (some .int) ∈ wB := inB (List.mem_of_getElem? (i := 795) (by decide +kernel)) rfl
theorem lk_X4_101 : Cond.methodLink RX4 101 yX4_tideAt ∈ wB := inB (List.mem_of_getElem? (i := 796) (by decide +kernel)) rfl
theorem ins_X4_tideAt : Cond.instanceMethod yX4_tideAt ∈ wB := inB (List.mem_of_getElem? (i := 798) (by decide +kernel)) rfl
theorem cod_X4_tideAt : Cond.code yX4_tideAt cX4_tideAt 3 (some .int) ∈ wB := inB (List.mem_of_getElem? (i := 799) (by decide +kernel)) rfl
theorem lk_X4_104 : Cond.methodLink RX4 104 yX4_cradleFor ∈ wB := inB (List.mem_of_getElem? (i := 800) (by decide +kernel)) rfl
theorem ins_X4_cradleFor : Cond.instanceMethod yX4_cradleFor ∈ wB := inB (List.mem_of_getElem? (i := 802) (by decide +kernel)) rfl
theorem cod_X4_cradleFor : Cond.code yX4_cradleFor cX4_cradleFor 5 (some .int) ∈ wB := inB (List.mem_of_getElem? (i := 803) (by decide +kernel)) rfl
theorem lk_X4_48 : Cond.methodLink RX4 48 yX4_isFree ∈ wB := inB (List.mem_of_getElem? (i := 804) (by decide +kernel)) rfl
theorem ins_X4_isFree : Cond.instanceMethod yX4_isFree ∈ wB := inB (List.mem_of_getElem? (i := 806) (by decide +kernel)) rfl
theorem cod_X4_isFree : Cond.code yX4_isFree cX4_isFree 2 (some .boolean) ∈ wB := inB (List.mem_of_getElem? (i := 807) (by decide +kernel)) rfl
theorem lk_X4_51 : Cond.methodLink RX4 51 yX4_bears ∈ wB := inB (List.mem_of_getElem? (i := 808) (by decide +kernel)) rfl
theorem stc_X4_bears : Cond.static yX4_bears ∈ wB := inB (List.mem_of_getElem? (i := 809) (by decide +kernel)) rfl
theorem cod_X4_bears : Cond.code yX4_bears cX4_bears 1 (some .int) ∈ wB := inB (List.mem_of_getElem? (i := 810) (by decide +kernel)) rfl
theorem lk_X4_107 : Cond.methodLink RX4 107 yX4_hasRoom ∈ wB := inB (List.mem_of_getElem? (i := 811) (by decide +kernel)) rfl
theorem ins_X4_hasRoom : Cond.instanceMethod yX4_hasRoom ∈ wB := inB (List.mem_of_getElem? (i := 813) (by decide +kernel)) rfl
theorem cod_X4_hasRoom : Cond.code yX4_hasRoom cX4_hasRoom 3 (some .boolean) ∈ wB := inB (List.mem_of_getElem? (i := 814) (by decide +kernel)) rfl
theorem lk_X4_61 : Cond.methodLink RX4 61 yX4_metresLeft ∈ wB := inB (List.mem_of_getElem? (i := 815) (by decide +kernel)) rfl
theorem ins_X4_metresLeft : Cond.instanceMethod yX4_metresLeft ∈ wB := inB (List.mem_of_getElem? (i := 817) (by decide +kernel)) rfl
theorem cod_X4_metresLeft : Cond.code yX4_metresLeft cX4_metresLeft 2 (some .int) ∈ wB := inB (List.mem_of_getElem? (i := 818) (by decide +kernel)) rfl
theorem lk_X4_110 : Cond.methodLink RX4 110 yX4_liftsLeft ∈ wB := inB (List.mem_of_getElem? (i := 819) (by decide +kernel)) rfl
theorem ins_X4_liftsLeft : Cond.instanceMethod yX4_liftsLeft ∈ wB := inB (List.mem_of_getElem? (i := 821) (by decide +kernel)) rfl
theorem cod_X4_liftsLeft : Cond.code yX4_liftsLeft cX4_liftsLeft 1 (some .int) ∈ wB := inB (List.mem_of_getElem? (i := 822) (by decide +kernel)) rfl
theorem lk_X4_126 : Cond.methodLink RX4 126 yX4_doLift ∈ wB := inB (List.mem_of_getElem? (i := 823) (by decide +kernel)) rfl
theorem ins_X4_doLift : Cond.instanceMethod yX4_doLift ∈ wB := inB (List.mem_of_getElem? (i := 825) (by decide +kernel)) rfl
theorem cod_X4_doLift : Cond.code yX4_doLift cX4_doLift 3 (some .int) ∈ wB := inB (List.mem_of_getElem? (i := 826) (by decide +kernel)) rfl
theorem lk_X4_116 : Cond.methodLink RX4 116 yX4_stand ∈ wB := inB (List.mem_of_getElem? (i := 827) (by decide +kernel)) rfl
theorem ins_X4_stand : Cond.instanceMethod yX4_stand ∈ wB := inB (List.mem_of_getElem? (i := 829) (by decide +kernel)) rfl
theorem cod_X4_stand : Cond.code yX4_stand cX4_stand 3 none ∈ wB := inB (List.mem_of_getElem? (i := 830) (by decide +kernel)) rfl
theorem lk_X4_120 : Cond.methodLink RX4 120 yX4_useCrane ∈ wB := inB (List.mem_of_getElem? (i := 831) (by decide +kernel)) rfl
theorem ins_X4_useCrane : Cond.instanceMethod yX4_useCrane ∈ wB := inB (List.mem_of_getElem? (i := 833) (by decide +kernel)) rfl
theorem cod_X4_useCrane : Cond.code yX4_useCrane cX4_useCrane 1 none ∈ wB := inB (List.mem_of_getElem? (i := 834) (by decide +kernel)) rfl
theorem lk_X4_64 : Cond.methodLink RX4 64 yX4_boatsIn ∈ wB := inB (List.mem_of_getElem? (i := 835) (by decide +kernel)) rfl
theorem ins_X4_boatsIn : Cond.instanceMethod yX4_boatsIn ∈ wB := inB (List.mem_of_getElem? (i := 837) (by decide +kernel)) rfl
theorem cod_X4_boatsIn : Cond.code yX4_boatsIn cX4_boatsIn 4 (some .int) ∈ wB := inB (List.mem_of_getElem? (i := 838) (by decide +kernel)) rfl
theorem lk_L_43 : Cond.methodLink RL 43 yX4_launch ∈ wB := inB (List.mem_of_getElem? (i := 839) (by decide +kernel)) rfl
theorem ins_X4_launch : Cond.instanceMethod yX4_launch ∈ wB := inB (List.mem_of_getElem? (i := 840) (by decide +kernel)) rfl
theorem sel_X4_launch : Cond.selects RX4 yX4_launch yX4_launch ∈ wB := inB (List.mem_of_getElem? (i := 841) (by decide +kernel)) rfl
theorem cod_X4_launch : Cond.code yX4_launch cX4_launch 3 (some .int) ∈ wB := inB (List.mem_of_getElem? (i := 842) (by decide +kernel)) rfl
theorem lk_X4_135 : Cond.methodLink RX4 135 yX4_noLaunch ∈ wB := inB (List.mem_of_getElem? (i := 843) (by decide +kernel)) rfl
theorem ins_X4_noLaunch : Cond.instanceMethod yX4_noLaunch ∈ wB := inB (List.mem_of_getElem? (i := 845) (by decide +kernel)) rfl
theorem cod_X4_noLaunch : Cond.code yX4_noLaunch cX4_noLaunch 3 (some .int) ∈ wB := inB (List.mem_of_getElem? (i := 846) (by decide +kernel)) rfl
theorem lk_X4_132 : Cond.methodLink RX4 132 yX4_whyNoLaunch ∈ wB := inB (List.mem_of_getElem? (i := 847) (by decide +kernel)) rfl
theorem ins_X4_whyNoLaunch : Cond.instanceMethod yX4_whyNoLaunch ∈ wB := inB (List.mem_of_getElem? (i := 849) (by decide +kernel)) rfl
theorem cod_X4_whyNoLaunch : Cond.code yX4_whyNoLaunch cX4_whyNoLaunch 2 (some .int) ∈ wB := inB (List.mem_of_getElem? (i := 850) (by decide +kernel)) rfl
theorem lk_X4_129 : Cond.methodLink RX4 129 yX4_blockersOf ∈ wB := inB (List.mem_of_getElem? (i := 851) (by decide +kernel)) rfl
theorem ins_X4_blockersOf : Cond.instanceMethod yX4_blockersOf ∈ wB := inB (List.mem_of_getElem? (i := 853) (by decide +kernel)) rfl
theorem cod_X4_blockersOf : Cond.code yX4_blockersOf cX4_blockersOf 2 (some .int) ∈ wB := inB (List.mem_of_getElem? (i := 854) (by decide +kernel)) rfl
theorem lk_X4_67 : Cond.methodLink RX4 67 yX4_placeOf ∈ wB := inB (List.mem_of_getElem? (i := 855) (by decide +kernel)) rfl
theorem ins_X4_placeOf : Cond.instanceMethod yX4_placeOf ∈ wB := inB (List.mem_of_getElem? (i := 857) (by decide +kernel)) rfl
theorem cod_X4_placeOf : Cond.code yX4_placeOf cX4_placeOf 4 (some .int) ∈ wB := inB (List.mem_of_getElem? (i := 858) (by decide +kernel)) rfl
theorem lk_X4_138 : Cond.methodLink RX4 138 yX4_doLaunch ∈ wB := inB (List.mem_of_getElem? (i := 859) (by decide +kernel)) rfl
theorem ins_X4_doLaunch : Cond.instanceMethod yX4_doLaunch ∈ wB := inB (List.mem_of_getElem? (i := 861) (by decide +kernel)) rfl
theorem cod_X4_doLaunch : Cond.code yX4_doLaunch cX4_doLaunch 3 (some .int) ∈ wB := inB (List.mem_of_getElem? (i := 862) (by decide +kernel)) rfl
theorem lk_L_47 : Cond.methodLink RL 47 yX4_move ∈ wB := inB (List.mem_of_getElem? (i := 863) (by decide +kernel)) rfl
theorem ins_X4_move : Cond.instanceMethod yX4_move ∈ wB := inB (List.mem_of_getElem? (i := 864) (by decide +kernel)) rfl
theorem sel_X4_move : Cond.selects RX4 yX4_move yX4_move ∈ wB := inB (List.mem_of_getElem? (i := 865) (by decide +kernel)) rfl
theorem cod_X4_move : Cond.code yX4_move cX4_move 4 (some .int) ∈ wB := inB (List.mem_of_getElem? (i := 866) (by decide +kernel)) rfl
theorem lk_X4_141 : Cond.methodLink RX4 141 yX4_noMove ∈ wB := inB (List.mem_of_getElem? (i := 867) (by decide +kernel)) rfl
theorem ins_X4_noMove : Cond.instanceMethod yX4_noMove ∈ wB := inB (List.mem_of_getElem? (i := 869) (by decide +kernel)) rfl
theorem cod_X4_noMove : Cond.code yX4_noMove cX4_noMove 3 (some .int) ∈ wB := inB (List.mem_of_getElem? (i := 870) (by decide +kernel)) rfl
theorem lk_X4_144 : Cond.methodLink RX4 144 yX4_doMove ∈ wB := inB (List.mem_of_getElem? (i := 871) (by decide +kernel)) rfl
theorem ins_X4_doMove : Cond.instanceMethod yX4_doMove ∈ wB := inB (List.mem_of_getElem? (i := 873) (by decide +kernel)) rfl
theorem cod_X4_doMove : Cond.code yX4_doMove cX4_doMove 3 (some .int) ∈ wB := inB (List.mem_of_getElem? (i := 874) (by decide +kernel)) rfl
theorem lk_L_52 : Cond.methodLink RL 52 yX4_mast ∈ wB := inB (List.mem_of_getElem? (i := 875) (by decide +kernel)) rfl
theorem ins_X4_mast : Cond.instanceMethod yX4_mast ∈ wB := inB (List.mem_of_getElem? (i := 876) (by decide +kernel)) rfl
theorem sel_X4_mast : Cond.selects RX4 yX4_mast yX4_mast ∈ wB := inB (List.mem_of_getElem? (i := 877) (by decide +kernel)) rfl
theorem cod_X4_mast : Cond.code yX4_mast cX4_mast 4 (some .int) ∈ wB := inB (List.mem_of_getElem? (i := 878) (by decide +kernel)) rfl
theorem lk_X4_153 : Cond.methodLink RX4 153 yX4_noMast ∈ wB := inB (List.mem_of_getElem? (i := 879) (by decide +kernel)) rfl
theorem ins_X4_noMast : Cond.instanceMethod yX4_noMast ∈ wB := inB (List.mem_of_getElem? (i := 881) (by decide +kernel)) rfl
theorem cod_X4_noMast : Cond.code yX4_noMast cX4_noMast 3 (some .int) ∈ wB := inB (List.mem_of_getElem? (i := 882) (by decide +kernel)) rfl
theorem lk_X4_150 : Cond.methodLink RX4 150 yX4_rackFor ∈ wB := inB (List.mem_of_getElem? (i := 883) (by decide +kernel)) rfl
theorem ins_X4_rackFor : Cond.instanceMethod yX4_rackFor ∈ wB := inB (List.mem_of_getElem? (i := 885) (by decide +kernel)) rfl
theorem cod_X4_rackFor : Cond.code yX4_rackFor cX4_rackFor 2 (some .int) ∈ wB := inB (List.mem_of_getElem? (i := 886) (by decide +kernel)) rfl
theorem lk_X4_147 : Cond.methodLink RX4 147 yX4_mastsIn ∈ wB := inB (List.mem_of_getElem? (i := 887) (by decide +kernel)) rfl
theorem ins_X4_mastsIn : Cond.instanceMethod yX4_mastsIn ∈ wB := inB (List.mem_of_getElem? (i := 889) (by decide +kernel)) rfl
theorem cod_X4_mastsIn : Cond.code yX4_mastsIn cX4_mastsIn 4 (some .int) ∈ wB := inB (List.mem_of_getElem? (i := 890) (by decide +kernel)) rfl
theorem lk_X4_157 : Cond.methodLink RX4 157 yX4_doMast ∈ wB := inB (List.mem_of_getElem? (i := 891) (by decide +kernel)) rfl
theorem ins_X4_doMast : Cond.instanceMethod yX4_doMast ∈ wB := inB (List.mem_of_getElem? (i := 893) (by decide +kernel)) rfl
theorem cod_X4_doMast : Cond.code yX4_doMast cX4_doMast 4 (some .int) ∈ wB := inB (List.mem_of_getElem? (i := 894) (by decide +kernel)) rfl
theorem lk_L_56 : Cond.methodLink RL 56 yX4_work ∈ wB := inB (List.mem_of_getElem? (i := 895) (by decide +kernel)) rfl
theorem ins_X4_work : Cond.instanceMethod yX4_work ∈ wB := inB (List.mem_of_getElem? (i := 896) (by decide +kernel)) rfl
theorem sel_X4_work : Cond.selects RX4 yX4_work yX4_work ∈ wB := inB (List.mem_of_getElem? (i := 897) (by decide +kernel)) rfl
theorem cod_X4_work : Cond.code yX4_work cX4_work 3 (some .int) ∈ wB := inB (List.mem_of_getElem? (i := 898) (by decide +kernel)) rfl
theorem lk_L_60 : Cond.methodLink RL 60 yX4_pass ∈ wB := inB (List.mem_of_getElem? (i := 899) (by decide +kernel)) rfl
theorem ins_X4_pass : Cond.instanceMethod yX4_pass ∈ wB := inB (List.mem_of_getElem? (i := 900) (by decide +kernel)) rfl
theorem sel_X4_pass : Cond.selects RX4 yX4_pass yX4_pass ∈ wB := inB (List.mem_of_getElem? (i := 901) (by decide +kernel)) rfl
theorem cod_X4_pass : Cond.code yX4_pass cX4_pass 3 (some .int) ∈ wB := inB (List.mem_of_getElem? (i := 902) (by decide +kernel)) rfl
theorem lk_X4_160 : Cond.methodLink RX4 160 yX4_noPass ∈ wB := inB (List.mem_of_getElem? (i := 903) (by decide +kernel)) rfl
theorem ins_X4_noPass : Cond.instanceMethod yX4_noPass ∈ wB := inB (List.mem_of_getElem? (i := 905) (by decide +kernel)) rfl
theorem cod_X4_noPass : Cond.code yX4_noPass cX4_noPass 2 (some .int) ∈ wB := inB (List.mem_of_getElem? (i := 906) (by decide +kernel)) rfl
theorem lk_X4_163 : Cond.methodLink RX4 163 yX4_doPass ∈ wB := inB (List.mem_of_getElem? (i := 907) (by decide +kernel)) rfl
theorem ins_X4_doPass : Cond.instanceMethod yX4_doPass ∈ wB := inB (List.mem_of_getElem? (i := 909) (by decide +kernel)) rfl
theorem cod_X4_doPass : Cond.code yX4_doPass cX4_doPass 3 (some .int) ∈ wB := inB (List.mem_of_getElem? (i := 910) (by decide +kernel)) rfl
theorem lk_L_65 : Cond.methodLink RL 65 yX4_type ∈ wB := inB (List.mem_of_getElem? (i := 911) (by decide +kernel)) rfl
theorem ins_X4_type : Cond.instanceMethod yX4_type ∈ wB := inB (List.mem_of_getElem? (i := 912) (by decide +kernel)) rfl
theorem sel_X4_type : Cond.selects RX4 yX4_type yX4_type ∈ wB := inB (List.mem_of_getElem? (i := 913) (by decide +kernel)) rfl
theorem cod_X4_type : Cond.code yX4_type cX4_type 2 (some .int) ∈ wB := inB (List.mem_of_getElem? (i := 914) (by decide +kernel)) rfl
theorem lk_L_70 : Cond.methodLink RL 70 yX4_clearText ∈ wB := inB (List.mem_of_getElem? (i := 915) (by decide +kernel)) rfl
theorem ins_X4_clearText : Cond.instanceMethod yX4_clearText ∈ wB := inB (List.mem_of_getElem? (i := 916) (by decide +kernel)) rfl
theorem sel_X4_clearText : Cond.selects RX4 yX4_clearText yX4_clearText ∈ wB := inB (List.mem_of_getElem? (i := 917) (by decide +kernel)) rfl
theorem cod_X4_clearText : Cond.code yX4_clearText cX4_clearText 2 (some .int) ∈ wB := inB (List.mem_of_getElem? (i := 918) (by decide +kernel)) rfl
theorem lk_L_74 : Cond.methodLink RL 74 yX4_perform ∈ wB := inB (List.mem_of_getElem? (i := 919) (by decide +kernel)) rfl
theorem ins_X4_perform : Cond.instanceMethod yX4_perform ∈ wB := inB (List.mem_of_getElem? (i := 920) (by decide +kernel)) rfl
theorem sel_X4_perform : Cond.selects RX4 yX4_perform yX4_perform ∈ wB := inB (List.mem_of_getElem? (i := 921) (by decide +kernel)) rfl
theorem cod_X4_perform : Cond.code yX4_perform cX4_perform 5 (some .int) ∈ wB := inB (List.mem_of_getElem? (i := 922) (by decide +kernel)) rfl
theorem lk_X4_191 : Cond.methodLink RX4 191 yX4_findFault ∈ wB := inB (List.mem_of_getElem? (i := 923) (by decide +kernel)) rfl
theorem ins_X4_findFault : Cond.instanceMethod yX4_findFault ∈ wB := inB (List.mem_of_getElem? (i := 925) (by decide +kernel)) rfl
theorem cod_X4_findFault : Cond.code yX4_findFault cX4_findFault 2 (some .int) ∈ wB := inB (List.mem_of_getElem? (i := 926) (by decide +kernel)) rfl
theorem lk_X4_188 : Cond.methodLink RX4 188 yX4_readCommand ∈ wB := inB (List.mem_of_getElem? (i := 927) (by decide +kernel)) rfl
theorem ins_X4_readCommand : Cond.instanceMethod yX4_readCommand ∈ wB := inB (List.mem_of_getElem? (i := 929) (by decide +kernel)) rfl
theorem cod_X4_readCommand : Cond.code yX4_readCommand cX4_readCommand 3 (some .int) ∈ wB := inB (List.mem_of_getElem? (i := 930) (by decide +kernel)) rfl
theorem lk_X4_169 : Cond.methodLink RX4 169 yX4_at ∈ wB := inB (List.mem_of_getElem? (i := 931) (by decide +kernel)) rfl
theorem ins_X4_at : Cond.instanceMethod yX4_at ∈ wB := inB (List.mem_of_getElem? (i := 933) (by decide +kernel)) rfl
theorem cod_X4_at : Cond.code yX4_at cX4_at 2 (some .int) ∈ wB := inB (List.mem_of_getElem? (i := 934) (by decide +kernel)) rfl
theorem lk_X4_184 : Cond.methodLink RX4 184 yX4_readNumber ∈ wB := inB (List.mem_of_getElem? (i := 935) (by decide +kernel)) rfl
theorem ins_X4_readNumber : Cond.instanceMethod yX4_readNumber ∈ wB := inB (List.mem_of_getElem? (i := 937) (by decide +kernel)) rfl
theorem cod_X4_readNumber : Cond.code yX4_readNumber cX4_readNumber 6 (some .int) ∈ wB := inB (List.mem_of_getElem? (i := 938) (by decide +kernel)) rfl
theorem lk_X4_172 : Cond.methodLink RX4 172 yX4_isDigit ∈ wB := inB (List.mem_of_getElem? (i := 939) (by decide +kernel)) rfl
theorem stc_X4_isDigit : Cond.static yX4_isDigit ∈ wB := inB (List.mem_of_getElem? (i := 940) (by decide +kernel)) rfl
theorem cod_X4_isDigit : Cond.code yX4_isDigit cX4_isDigit 1 (some .boolean) ∈ wB := inB (List.mem_of_getElem? (i := 941) (by decide +kernel)) rfl
theorem lk_X4_194 : Cond.methodLink RX4 194 yX4_noCommand ∈ wB := inB (List.mem_of_getElem? (i := 942) (by decide +kernel)) rfl
theorem ins_X4_noCommand : Cond.instanceMethod yX4_noCommand ∈ wB := inB (List.mem_of_getElem? (i := 944) (by decide +kernel)) rfl
theorem cod_X4_noCommand : Cond.code yX4_noCommand cX4_noCommand 1 (some .int) ∈ wB := inB (List.mem_of_getElem? (i := 945) (by decide +kernel)) rfl
theorem lk_X4_197 : Cond.methodLink RX4 197 yX4_doCommand ∈ wB := inB (List.mem_of_getElem? (i := 946) (by decide +kernel)) rfl
theorem ins_X4_doCommand : Cond.instanceMethod yX4_doCommand ∈ wB := inB (List.mem_of_getElem? (i := 948) (by decide +kernel)) rfl
theorem cod_X4_doCommand : Cond.code yX4_doCommand cX4_doCommand 1 (some .int) ∈ wB := inB (List.mem_of_getElem? (i := 949) (by decide +kernel)) rfl
theorem lk_L_78 : Cond.methodLink RL 78 yX4_stopped ∈ wB := inB (List.mem_of_getElem? (i := 950) (by decide +kernel)) rfl
theorem ins_X4_stopped : Cond.instanceMethod yX4_stopped ∈ wB := inB (List.mem_of_getElem? (i := 951) (by decide +kernel)) rfl
theorem sel_X4_stopped : Cond.selects RX4 yX4_stopped yX4_stopped ∈ wB := inB (List.mem_of_getElem? (i := 952) (by decide +kernel)) rfl
theorem cod_X4_stopped : Cond.code yX4_stopped cX4_stopped 2 (some .int) ∈ wB := inB (List.mem_of_getElem? (i := 953) (by decide +kernel)) rfl
theorem lk_L_94 : Cond.methodLink RL 94 yX4_boat ∈ wB := inB (List.mem_of_getElem? (i := 954) (by decide +kernel)) rfl
theorem ins_X4_boat : Cond.instanceMethod yX4_boat ∈ wB := inB (List.mem_of_getElem? (i := 955) (by decide +kernel)) rfl
theorem sel_X4_boat : Cond.selects RX4 yX4_boat yX4_boat ∈ wB := inB (List.mem_of_getElem? (i := 956) (by decide +kernel)) rfl
theorem cod_X4_boat : Cond.code yX4_boat cX4_boat 3 (some .int) ∈ wB := inB (List.mem_of_getElem? (i := 957) (by decide +kernel)) rfl
theorem lk_L_98 : Cond.methodLink RL 98 yX4_row ∈ wB := inB (List.mem_of_getElem? (i := 958) (by decide +kernel)) rfl
theorem ins_X4_row : Cond.instanceMethod yX4_row ∈ wB := inB (List.mem_of_getElem? (i := 959) (by decide +kernel)) rfl
theorem sel_X4_row : Cond.selects RX4 yX4_row yX4_row ∈ wB := inB (List.mem_of_getElem? (i := 960) (by decide +kernel)) rfl
theorem cod_X4_row : Cond.code yX4_row cX4_row 3 (some .int) ∈ wB := inB (List.mem_of_getElem? (i := 961) (by decide +kernel)) rfl
theorem lk_X4_200 : Cond.methodLink RX4 200 yX4_boatAt ∈ wB := inB (List.mem_of_getElem? (i := 962) (by decide +kernel)) rfl
theorem ins_X4_boatAt : Cond.instanceMethod yX4_boatAt ∈ wB := inB (List.mem_of_getElem? (i := 964) (by decide +kernel)) rfl
theorem cod_X4_boatAt : Cond.code yX4_boatAt cX4_boatAt 5 (some .int) ∈ wB := inB (List.mem_of_getElem? (i := 965) (by decide +kernel)) rfl
theorem lk_L_102 : Cond.methodLink RL 102 yX4_stands ∈ wB := inB (List.mem_of_getElem? (i := 966) (by decide +kernel)) rfl
theorem ins_X4_stands : Cond.instanceMethod yX4_stands ∈ wB := inB (List.mem_of_getElem? (i := 967) (by decide +kernel)) rfl
theorem sel_X4_stands : Cond.selects RX4 yX4_stands yX4_stands ∈ wB := inB (List.mem_of_getElem? (i := 968) (by decide +kernel)) rfl
theorem cod_X4_stands : Cond.code yX4_stands cX4_stands 3 (some .int) ∈ wB := inB (List.mem_of_getElem? (i := 969) (by decide +kernel)) rfl
theorem lk_L_106 : Cond.methodLink RL 106 yX4_cradle ∈ wB := inB (List.mem_of_getElem? (i := 970) (by decide +kernel)) rfl
theorem ins_X4_cradle : Cond.instanceMethod yX4_cradle ∈ wB := inB (List.mem_of_getElem? (i := 971) (by decide +kernel)) rfl
theorem sel_X4_cradle : Cond.selects RX4 yX4_cradle yX4_cradle ∈ wB := inB (List.mem_of_getElem? (i := 972) (by decide +kernel)) rfl
theorem cod_X4_cradle : Cond.code yX4_cradle cX4_cradle 3 (some .int) ∈ wB := inB (List.mem_of_getElem? (i := 973) (by decide +kernel)) rfl
theorem lk_L_110 : Cond.methodLink RL 110 yX4_tide ∈ wB := inB (List.mem_of_getElem? (i := 974) (by decide +kernel)) rfl
theorem ins_X4_tide : Cond.instanceMethod yX4_tide ∈ wB := inB (List.mem_of_getElem? (i := 975) (by decide +kernel)) rfl
theorem sel_X4_tide : Cond.selects RX4 yX4_tide yX4_tide ∈ wB := inB (List.mem_of_getElem? (i := 976) (by decide +kernel)) rfl
theorem cod_X4_tide : Cond.code yX4_tide cX4_tide 2 (some .int) ∈ wB := inB (List.mem_of_getElem? (i := 977) (by decide +kernel)) rfl
theorem lk_L_114 : Cond.methodLink RL 114 yX4_liftReason ∈ wB := inB (List.mem_of_getElem? (i := 978) (by decide +kernel)) rfl
theorem ins_X4_liftReason : Cond.instanceMethod yX4_liftReason ∈ wB := inB (List.mem_of_getElem? (i := 979) (by decide +kernel)) rfl
theorem sel_X4_liftReason : Cond.selects RX4 yX4_liftReason yX4_liftReason ∈ wB := inB (List.mem_of_getElem? (i := 980) (by decide +kernel)) rfl
theorem cod_X4_liftReason : Cond.code yX4_liftReason cX4_liftReason 3 (some .int) ∈ wB := inB (List.mem_of_getElem? (i := 981) (by decide +kernel)) rfl
theorem lk_L_118 : Cond.methodLink RL 118 yX4_launchReason ∈ wB := inB (List.mem_of_getElem? (i := 982) (by decide +kernel)) rfl
theorem ins_X4_launchReason : Cond.instanceMethod yX4_launchReason ∈ wB := inB (List.mem_of_getElem? (i := 983) (by decide +kernel)) rfl
theorem sel_X4_launchReason : Cond.selects RX4 yX4_launchReason yX4_launchReason ∈ wB := inB (List.mem_of_getElem? (i := 984) (by decide +kernel)) rfl
theorem cod_X4_launchReason : Cond.code yX4_launchReason cX4_launchReason 2 (some .int) ∈ wB := inB (List.mem_of_getElem? (i := 985) (by decide +kernel)) rfl
theorem lk_L_122 : Cond.methodLink RL 122 yX4_blockers ∈ wB := inB (List.mem_of_getElem? (i := 986) (by decide +kernel)) rfl
theorem ins_X4_blockers : Cond.instanceMethod yX4_blockers ∈ wB := inB (List.mem_of_getElem? (i := 987) (by decide +kernel)) rfl
theorem sel_X4_blockers : Cond.selects RX4 yX4_blockers yX4_blockers ∈ wB := inB (List.mem_of_getElem? (i := 988) (by decide +kernel)) rfl
theorem cod_X4_blockers : Cond.code yX4_blockers cX4_blockers 2 (some .int) ∈ wB := inB (List.mem_of_getElem? (i := 989) (by decide +kernel)) rfl
theorem lk_L_126 : Cond.methodLink RL 126 yX4_launchDay ∈ wB := inB (List.mem_of_getElem? (i := 990) (by decide +kernel)) rfl
theorem ins_X4_launchDay : Cond.instanceMethod yX4_launchDay ∈ wB := inB (List.mem_of_getElem? (i := 991) (by decide +kernel)) rfl
theorem sel_X4_launchDay : Cond.selects RX4 yX4_launchDay yX4_launchDay ∈ wB := inB (List.mem_of_getElem? (i := 992) (by decide +kernel)) rfl
theorem cod_X4_launchDay : Cond.code yX4_launchDay cX4_launchDay 6 (some .int) ∈ wB := inB (List.mem_of_getElem? (i := 993) (by decide +kernel)) rfl
theorem lk_L_130 : Cond.methodLink RL 130 yX4_bestRow ∈ wB := inB (List.mem_of_getElem? (i := 994) (by decide +kernel)) rfl
theorem ins_X4_bestRow : Cond.instanceMethod yX4_bestRow ∈ wB := inB (List.mem_of_getElem? (i := 995) (by decide +kernel)) rfl
theorem sel_X4_bestRow : Cond.selects RX4 yX4_bestRow yX4_bestRow ∈ wB := inB (List.mem_of_getElem? (i := 996) (by decide +kernel)) rfl
theorem cod_X4_bestRow : Cond.code yX4_bestRow cX4_bestRow 5 (some .int) ∈ wB := inB (List.mem_of_getElem? (i := 997) (by decide +kernel)) rfl
theorem lk_L_134 : Cond.methodLink RL 134 yX4_count ∈ wB := inB (List.mem_of_getElem? (i := 998) (by decide +kernel)) rfl
theorem ins_X4_count : Cond.instanceMethod yX4_count ∈ wB := inB (List.mem_of_getElem? (i := 999) (by decide +kernel)) rfl
theorem sel_X4_count : Cond.selects RX4 yX4_count yX4_count ∈ wB := inB (List.mem_of_getElem? (i := 1000) (by decide +kernel)) rfl
theorem cod_X4_count : Cond.code yX4_count cX4_count 5 (some .int) ∈ wB := inB (List.mem_of_getElem? (i := 1001) (by decide +kernel)) rfl
theorem uw_X0 : ∀ w ∈ u_ws RX0 TX0 3, w ∈ wB := fun w h => inB ((by decide +kernel : ∀ w ∈ u_ws RX0 TX0 3, w ∈ lw_tbl) w h) ((by decide +kernel : ∀ w ∈ u_ws RX0 TX0 3, goodWord w = true) w h)
theorem uw_X1 : ∀ w ∈ u_ws RX1 TX1 7, w ∈ wB := fun w h => inB ((by decide +kernel : ∀ w ∈ u_ws RX1 TX1 7, w ∈ lw_tbl) w h) ((by decide +kernel : ∀ w ∈ u_ws RX1 TX1 7, goodWord w = true) w h)
theorem uw_X2 : ∀ w ∈ u_ws RX2 TX2 8, w ∈ wB := fun w h => inB ((by decide +kernel : ∀ w ∈ u_ws RX2 TX2 8, w ∈ lw_tbl) w h) ((by decide +kernel : ∀ w ∈ u_ws RX2 TX2 8, goodWord w = true) w h)
theorem uw_X3 : ∀ w ∈ u_ws RX3 TX3 7, w ∈ wB := fun w h => inB ((by decide +kernel : ∀ w ∈ u_ws RX3 TX3 7, w ∈ lw_tbl) w h) ((by decide +kernel : ∀ w ∈ u_ws RX3 TX3 7, goodWord w = true) w h)
theorem uw_X4 : ∀ w ∈ u_ws RX4 TX4 13, w ∈ wB := fun w h => inB ((by decide +kernel : ∀ w ∈ u_ws RX4 TX4 13, w ∈ lw_tbl) w h) ((by decide +kernel : ∀ w ∈ u_ws RX4 TX4 13, goodWord w = true) w h)
/-- what a call needs of the callee -/
def CIv (y : MethodName) (b : ByteArray) (n : Nat) (rt : Option FieldType) (np : Nat) : Prop := (y.cls ≠ "java/lang/invoke/MethodHandle" ∧ y.cls ≠ "java/lang/invoke/VarHandle" ∧ (parseMethodDescriptor y.desc).map (fun d => d.parameters.length) = some np) ∧ n ≤ 21 ∧ Cond.code y b n rt ∈ wB ∧ Cond.initialized y.cls ∈ wB ∧ Cond.instanceMethod y ∈ wB ∧ Cond.selects y.cls y y ∈ wB
def CIs (y : MethodName) (b : ByteArray) (n : Nat) (rt : Option FieldType) (np : Nat) : Prop := (y.cls ≠ "java/lang/invoke/MethodHandle" ∧ y.cls ≠ "java/lang/invoke/VarHandle" ∧ (parseMethodDescriptor y.desc).map (fun d => d.parameters.length) = some np) ∧ n ≤ 21 ∧ Cond.code y b n rt ∈ wB ∧ Cond.initialized y.cls ∈ wB ∧ Cond.static y ∈ wB
theorem ci_X2_forget : CIv yX2_forget cX2_forget 3 none 1 := ⟨by decide +kernel, by decide, cod_X2_forget, ini_X2, ins_X2_forget, sel_X2_forget⟩
theorem ci_X2_note : CIv yX2_note cX2_note 4 none 3 := ⟨by decide +kernel, by decide, cod_X2_note, ini_X2, ins_X2_note, sel_X2_note⟩
theorem ci_X2_hasPlaceFor : CIs yX2_hasPlaceFor cX2_hasPlaceFor 2 (some .boolean) 2 := ⟨by decide +kernel, by decide, cod_X2_hasPlaceFor, ini_X2, stc_X2_hasPlaceFor⟩
theorem ci_X2_isFact : CIs yX2_isFact cX2_isFact 1 (some .boolean) 1 := ⟨by decide +kernel, by decide, cod_X2_isFact, ini_X2, stc_X2_isFact⟩
theorem ci_X3_come : CIv yX3_come cX3_come 5 (some .int) 4 := ⟨by decide +kernel, by decide, cod_X3_come, ini_X3, ins_X3_come, sel_X3_come⟩
theorem ci_X0_prepare : CIv yX0_prepare cX0_prepare 2 none 1 := ⟨by decide +kernel, by decide, cod_X0_prepare, ini_X0, ins_X0_prepare, sel_X0_prepare⟩
theorem ci_X0_behindLatest : CIv yX0_behindLatest cX0_behindLatest 1 (some (.object "WinterYard$Yard")) 0 := ⟨by decide +kernel, by decide, cod_X0_behindLatest, ini_X0, ins_X0_behindLatest, sel_X0_behindLatest⟩
theorem ci_X2_copyFrom : CIv yX2_copyFrom cX2_copyFrom 2 none 1 := ⟨by decide +kernel, by decide, cod_X2_copyFrom, ini_X2, ins_X2_copyFrom, sel_X2_copyFrom⟩
theorem ci_X2_addBoat : CIv yX2_addBoat cX2_addBoat 6 (some .int) 4 := ⟨by decide +kernel, by decide, cod_X2_addBoat, ini_X2, ins_X2_addBoat, sel_X2_addBoat⟩
theorem ci_X2_isKind : CIs yX2_isKind cX2_isKind 1 (some .boolean) 1 := ⟨by decide +kernel, by decide, cod_X2_isKind, ini_X2, stc_X2_isKind⟩
theorem ci_X3_within : CIs yX3_within cX3_within 3 (some .boolean) 3 := ⟨by decide +kernel, by decide, cod_X3_within, ini_X3, stc_X3_within⟩
theorem ci_X2_lowestFreeNumber : CIv yX2_lowestFreeNumber cX2_lowestFreeNumber 2 (some .int) 0 := ⟨by decide +kernel, by decide, cod_X2_lowestFreeNumber, ini_X2, ins_X2_lowestFreeNumber, sel_X2_lowestFreeNumber⟩
theorem ci_X2_knows : CIv yX2_knows cX2_knows 2 (some .boolean) 1 := ⟨by decide +kernel, by decide, cod_X2_knows, ini_X2, ins_X2_knows, sel_X2_knows⟩
theorem ci_X2_fact : CIv yX2_fact cX2_fact 3 (some .int) 2 := ⟨by decide +kernel, by decide, cod_X2_fact, ini_X2, ins_X2_fact, sel_X2_fact⟩
theorem ci_X2_noteAfloat : CIv yX2_noteAfloat cX2_noteAfloat 2 none 1 := ⟨by decide +kernel, by decide, cod_X2_noteAfloat, ini_X2, ins_X2_noteAfloat, sel_X2_noteAfloat⟩
theorem ci_X0_settle : CIv yX0_settle cX0_settle 2 (some .int) 1 := ⟨by decide +kernel, by decide, cod_X0_settle, ini_X0, ins_X0_settle, sel_X0_settle⟩
theorem ci_X3_goAway : CIv yX3_goAway cX3_goAway 2 (some .int) 1 := ⟨by decide +kernel, by decide, cod_X3_goAway, ini_X3, ins_X3_goAway, sel_X3_goAway⟩
theorem ci_X2_removeBoat : CIv yX2_removeBoat cX2_removeBoat 2 (some .int) 1 := ⟨by decide +kernel, by decide, cod_X2_removeBoat, ini_X2, ins_X2_removeBoat, sel_X2_removeBoat⟩
theorem ci_X2_isAshore : CIv yX2_isAshore cX2_isAshore 2 (some .boolean) 1 := ⟨by decide +kernel, by decide, cod_X2_isAshore, ini_X2, ins_X2_isAshore, sel_X2_isAshore⟩
theorem ci_X2_hasMast : CIv yX2_hasMast cX2_hasMast 2 (some .boolean) 1 := ⟨by decide +kernel, by decide, cod_X2_hasMast, ini_X2, ins_X2_hasMast, sel_X2_hasMast⟩
theorem ci_X2_boats : CIv yX2_boats cX2_boats 1 (some .int) 0 := ⟨by decide +kernel, by decide, cod_X2_boats, ini_X2, ins_X2_boats, sel_X2_boats⟩
theorem ci_X2_boatsWith : CIv yX2_boatsWith cX2_boatsWith 5 (some .int) 2 := ⟨by decide +kernel, by decide, cod_X2_boatsWith, ini_X2, ins_X2_boatsWith, sel_X2_boatsWith⟩
theorem ci_X3_setCradles : CIv yX3_setCradles cX3_setCradles 3 (some .int) 2 := ⟨by decide +kernel, by decide, cod_X3_setCradles, ini_X3, ins_X3_setCradles, sel_X3_setCradles⟩
theorem ci_X2_changeCradles : CIv yX2_changeCradles cX2_changeCradles 4 (some .int) 2 := ⟨by decide +kernel, by decide, cod_X2_changeCradles, ini_X2, ins_X2_changeCradles, sel_X2_changeCradles⟩
theorem ci_X2_cradlesTaken : CIv yX2_cradlesTaken cX2_cradlesTaken 2 (some .int) 1 := ⟨by decide +kernel, by decide, cod_X2_cradlesTaken, ini_X2, ins_X2_cradlesTaken, sel_X2_cradlesTaken⟩
theorem ci_X3_setRow : CIv yX3_setRow cX3_setRow 3 (some .int) 2 := ⟨by decide +kernel, by decide, cod_X3_setRow, ini_X3, ins_X3_setRow, sel_X3_setRow⟩
theorem ci_X2_changeRow : CIv yX2_changeRow cX2_changeRow 4 (some .int) 2 := ⟨by decide +kernel, by decide, cod_X2_changeRow, ini_X2, ins_X2_changeRow, sel_X2_changeRow⟩
theorem ci_X2_isRow : CIs yX2_isRow cX2_isRow 1 (some .boolean) 1 := ⟨by decide +kernel, by decide, cod_X2_isRow, ini_X2, stc_X2_isRow⟩
theorem ci_X2_metresTaken : CIv yX2_metresTaken cX2_metresTaken 4 (some .int) 1 := ⟨by decide +kernel, by decide, cod_X2_metresTaken, ini_X2, ins_X2_metresTaken, sel_X2_metresTaken⟩
theorem ci_X3_set : CIv yX3_set cX3_set 3 (some .int) 2 := ⟨by decide +kernel, by decide, cod_X3_set, ini_X3, ins_X3_set, sel_X3_set⟩
theorem ci_X2_changeSetting : CIv yX2_changeSetting cX2_changeSetting 4 (some .int) 2 := ⟨by decide +kernel, by decide, cod_X2_changeSetting, ini_X2, ins_X2_changeSetting, sel_X2_changeSetting⟩
theorem ci_X2_isSetting : CIs yX2_isSetting cX2_isSetting 1 (some .boolean) 1 := ⟨by decide +kernel, by decide, cod_X2_isSetting, ini_X2, stc_X2_isSetting⟩
theorem ci_X3_lift : CIv yX3_lift cX3_lift 3 (some .int) 2 := ⟨by decide +kernel, by decide, cod_X3_lift, ini_X3, ins_X3_lift, sel_X3_lift⟩
theorem ci_X2_liftInto : CIv yX2_liftInto cX2_liftInto 4 (some .int) 2 := ⟨by decide +kernel, by decide, cod_X2_liftInto, ini_X2, ins_X2_liftInto, sel_X2_liftInto⟩
theorem ci_X2_whyNoLift : CIv yX2_whyNoLift cX2_whyNoLift 3 (some .int) 2 := ⟨by decide +kernel, by decide, cod_X2_whyNoLift, ini_X2, ins_X2_whyNoLift, sel_X2_whyNoLift⟩
theorem ci_X2_isDeepEnough : CIv yX2_isDeepEnough cX2_isDeepEnough 3 (some .boolean) 2 := ⟨by decide +kernel, by decide, cod_X2_isDeepEnough, ini_X2, ins_X2_isDeepEnough, sel_X2_isDeepEnough⟩
theorem ci_X2_tideOn : CIv yX2_tideOn cX2_tideOn 2 (some .int) 1 := ⟨by decide +kernel, by decide, cod_X2_tideOn, ini_X2, ins_X2_tideOn, sel_X2_tideOn⟩
theorem ci_X2_craneBears : CIv yX2_craneBears cX2_craneBears 2 (some .boolean) 1 := ⟨by decide +kernel, by decide, cod_X2_craneBears, ini_X2, ins_X2_craneBears, sel_X2_craneBears⟩
theorem ci_X2_cradleFor : CIv yX2_cradleFor cX2_cradleFor 5 (some .int) 1 := ⟨by decide +kernel, by decide, cod_X2_cradleFor, ini_X2, ins_X2_cradleFor, sel_X2_cradleFor⟩
theorem ci_X2_hasFreeCradle : CIv yX2_hasFreeCradle cX2_hasFreeCradle 2 (some .boolean) 1 := ⟨by decide +kernel, by decide, cod_X2_hasFreeCradle, ini_X2, ins_X2_hasFreeCradle, sel_X2_hasFreeCradle⟩
theorem ci_X2_cradlesOf : CIv yX2_cradlesOf cX2_cradlesOf 2 (some .int) 1 := ⟨by decide +kernel, by decide, cod_X2_cradlesOf, ini_X2, ins_X2_cradlesOf, sel_X2_cradlesOf⟩
theorem ci_X2_bears : CIs yX2_bears cX2_bears 1 (some .int) 1 := ⟨by decide +kernel, by decide, cod_X2_bears, ini_X2, stc_X2_bears⟩
theorem ci_X2_otherKindFor : CIs yX2_otherKindFor cX2_otherKindFor 1 (some .int) 1 := ⟨by decide +kernel, by decide, cod_X2_otherKindFor, ini_X2, stc_X2_otherKindFor⟩
theorem ci_X2_hasRoom : CIv yX2_hasRoom cX2_hasRoom 3 (some .boolean) 2 := ⟨by decide +kernel, by decide, cod_X2_hasRoom, ini_X2, ins_X2_hasRoom, sel_X2_hasRoom⟩
theorem ci_X2_metresLeft : CIv yX2_metresLeft cX2_metresLeft 2 (some .int) 1 := ⟨by decide +kernel, by decide, cod_X2_metresLeft, ini_X2, ins_X2_metresLeft, sel_X2_metresLeft⟩
theorem ci_X2_metresOf : CIv yX2_metresOf cX2_metresOf 2 (some .int) 1 := ⟨by decide +kernel, by decide, cod_X2_metresOf, ini_X2, ins_X2_metresOf, sel_X2_metresOf⟩
theorem ci_X2_liftsLeft : CIv yX2_liftsLeft cX2_liftsLeft 1 (some .int) 0 := ⟨by decide +kernel, by decide, cod_X2_liftsLeft, ini_X2, ins_X2_liftsLeft, sel_X2_liftsLeft⟩
theorem ci_X2_putAtOuterEnd : CIv yX2_putAtOuterEnd cX2_putAtOuterEnd 3 none 2 := ⟨by decide +kernel, by decide, cod_X2_putAtOuterEnd, ini_X2, ins_X2_putAtOuterEnd, sel_X2_putAtOuterEnd⟩
theorem ci_X2_boatsIn : CIv yX2_boatsIn cX2_boatsIn 2 (some .int) 1 := ⟨by decide +kernel, by decide, cod_X2_boatsIn, ini_X2, ins_X2_boatsIn, sel_X2_boatsIn⟩
theorem ci_X2_takeLift : CIv yX2_takeLift cX2_takeLift 1 none 0 := ⟨by decide +kernel, by decide, cod_X2_takeLift, ini_X2, ins_X2_takeLift, sel_X2_takeLift⟩
theorem ci_X3_launch : CIv yX3_launch cX3_launch 2 (some .int) 1 := ⟨by decide +kernel, by decide, cod_X3_launch, ini_X3, ins_X3_launch, sel_X3_launch⟩
theorem ci_X2_putAfloat : CIv yX2_putAfloat cX2_putAfloat 4 (some .int) 1 := ⟨by decide +kernel, by decide, cod_X2_putAfloat, ini_X2, ins_X2_putAfloat, sel_X2_putAfloat⟩
theorem ci_X2_whyNoLaunch : CIv yX2_whyNoLaunch cX2_whyNoLaunch 2 (some .int) 1 := ⟨by decide +kernel, by decide, cod_X2_whyNoLaunch, ini_X2, ins_X2_whyNoLaunch, sel_X2_whyNoLaunch⟩
theorem ci_X2_boatsFartherOut : CIv yX2_boatsFartherOut cX2_boatsFartherOut 2 (some .int) 1 := ⟨by decide +kernel, by decide, cod_X2_boatsFartherOut, ini_X2, ins_X2_boatsFartherOut, sel_X2_boatsFartherOut⟩
theorem ci_X3_move : CIv yX3_move cX3_move 3 (some .int) 2 := ⟨by decide +kernel, by decide, cod_X3_move, ini_X3, ins_X3_move, sel_X3_move⟩
theorem ci_X2_moveTo : CIv yX2_moveTo cX2_moveTo 3 (some .int) 2 := ⟨by decide +kernel, by decide, cod_X2_moveTo, ini_X2, ins_X2_moveTo, sel_X2_moveTo⟩
theorem ci_X2_standsIn : CIv yX2_standsIn cX2_standsIn 3 (some .boolean) 2 := ⟨by decide +kernel, by decide, cod_X2_standsIn, ini_X2, ins_X2_standsIn, sel_X2_standsIn⟩
theorem ci_X3_mast : CIv yX3_mast cX3_mast 3 (some .int) 2 := ⟨by decide +kernel, by decide, cod_X3_mast, ini_X3, ins_X3_mast, sel_X3_mast⟩
theorem ci_X2_putMastUp : CIv yX2_putMastUp cX2_putMastUp 3 (some .int) 1 := ⟨by decide +kernel, by decide, cod_X2_putMastUp, ini_X2, ins_X2_putMastUp, sel_X2_putMastUp⟩
theorem ci_X2_takeMastOff : CIv yX2_takeMastOff cX2_takeMastOff 3 (some .int) 1 := ⟨by decide +kernel, by decide, cod_X2_takeMastOff, ini_X2, ins_X2_takeMastOff, sel_X2_takeMastOff⟩
theorem ci_X2_rackFor : CIv yX2_rackFor cX2_rackFor 3 (some .int) 1 := ⟨by decide +kernel, by decide, cod_X2_rackFor, ini_X2, ins_X2_rackFor, sel_X2_rackFor⟩
theorem ci_X2_mastsIn : CIv yX2_mastsIn cX2_mastsIn 2 (some .int) 1 := ⟨by decide +kernel, by decide, cod_X2_mastsIn, ini_X2, ins_X2_mastsIn, sel_X2_mastsIn⟩
theorem ci_X3_work : CIv yX3_work cX3_work 3 (some .int) 2 := ⟨by decide +kernel, by decide, cod_X3_work, ini_X3, ins_X3_work, sel_X3_work⟩
theorem ci_X2_orderWork : CIv yX2_orderWork cX2_orderWork 4 (some .int) 2 := ⟨by decide +kernel, by decide, cod_X2_orderWork, ini_X2, ins_X2_orderWork, sel_X2_orderWork⟩
theorem ci_X3_pass : CIv yX3_pass cX3_pass 2 (some .int) 1 := ⟨by decide +kernel, by decide, cod_X3_pass, ini_X3, ins_X3_pass, sel_X3_pass⟩
theorem ci_X2_letPass : CIv yX2_letPass cX2_letPass 3 (some .int) 1 := ⟨by decide +kernel, by decide, cod_X2_letPass, ini_X2, ins_X2_letPass, sel_X2_letPass⟩
theorem ci_X3_type : CIv yX3_type cX3_type 2 (some .int) 1 := ⟨by decide +kernel, by decide, cod_X3_type, ini_X3, ins_X3_type, sel_X3_type⟩
theorem ci_X1_append : CIv yX1_append cX1_append 2 (some .int) 1 := ⟨by decide +kernel, by decide, cod_X1_append, ini_X1, ins_X1_append, sel_X1_append⟩
theorem ci_X3_clearText : CIv yX3_clearText cX3_clearText 1 (some .int) 0 := ⟨by decide +kernel, by decide, cod_X3_clearText, ini_X3, ins_X3_clearText, sel_X3_clearText⟩
theorem ci_X1_empty : CIv yX1_empty cX1_empty 2 (some .int) 0 := ⟨by decide +kernel, by decide, cod_X1_empty, ini_X1, ins_X1_empty, sel_X1_empty⟩
theorem ci_X3_perform : CIv yX3_perform cX3_perform 5 (some .int) 0 := ⟨by decide +kernel, by decide, cod_X3_perform, ini_X3, ins_X3_perform, sel_X3_perform⟩
theorem ci_X1_read : CIv yX1_read cX1_read 2 (some .int) 0 := ⟨by decide +kernel, by decide, cod_X1_read, ini_X1, ins_X1_read, sel_X1_read⟩
theorem ci_X1_readThing : CIv yX1_readThing cX1_readThing 4 (some .boolean) 0 := ⟨by decide +kernel, by decide, cod_X1_readThing, ini_X1, ins_X1_readThing, sel_X1_readThing⟩
theorem ci_X1_readNumber : CIv yX1_readNumber cX1_readNumber 5 (some .int) 2 := ⟨by decide +kernel, by decide, cod_X1_readNumber, ini_X1, ins_X1_readNumber, sel_X1_readNumber⟩
theorem ci_X1_digit : CIv yX1_digit cX1_digit 1 (some .int) 0 := ⟨by decide +kernel, by decide, cod_X1_digit, ini_X1, ins_X1_digit, sel_X1_digit⟩
theorem ci_X1_readCharacter : CIv yX1_readCharacter cX1_readCharacter 2 (some .boolean) 1 := ⟨by decide +kernel, by decide, cod_X1_readCharacter, ini_X1, ins_X1_readCharacter, sel_X1_readCharacter⟩
theorem ci_X1_add : CIv yX1_add cX1_add 4 (some .boolean) 3 := ⟨by decide +kernel, by decide, cod_X1_add, ini_X1, ins_X1_add, sel_X1_add⟩
theorem ci_X1_things : CIv yX1_things cX1_things 1 (some .int) 0 := ⟨by decide +kernel, by decide, cod_X1_things, ini_X1, ins_X1_things, sel_X1_things⟩
theorem ci_X1_sign : CIv yX1_sign cX1_sign 2 (some .char) 1 := ⟨by decide +kernel, by decide, cod_X1_sign, ini_X1, ins_X1_sign, sel_X1_sign⟩
theorem ci_X1_has : CIv yX1_has cX1_has 2 (some .boolean) 1 := ⟨by decide +kernel, by decide, cod_X1_has, ini_X1, ins_X1_has, sel_X1_has⟩
theorem ci_X1_first : CIv yX1_first cX1_first 2 (some .int) 1 := ⟨by decide +kernel, by decide, cod_X1_first, ini_X1, ins_X1_first, sel_X1_first⟩
theorem ci_X1_second : CIv yX1_second cX1_second 2 (some .int) 1 := ⟨by decide +kernel, by decide, cod_X1_second, ini_X1, ins_X1_second, sel_X1_second⟩
theorem ci_X3_doThing : CIv yX3_doThing cX3_doThing 4 (some .int) 3 := ⟨by decide +kernel, by decide, cod_X3_doThing, ini_X3, ins_X3_doThing, sel_X3_doThing⟩
theorem ci_X0_takeBack : CIv yX0_takeBack cX0_takeBack 2 none 1 := ⟨by decide +kernel, by decide, cod_X0_takeBack, ini_X0, ins_X0_takeBack, sel_X0_takeBack⟩
theorem ci_X3_stopped : CIv yX3_stopped cX3_stopped 2 (some .int) 1 := ⟨by decide +kernel, by decide, cod_X3_stopped, ini_X3, ins_X3_stopped, sel_X3_stopped⟩
theorem ci_X3_undo : CIv yX3_undo cX3_undo 1 (some .int) 0 := ⟨by decide +kernel, by decide, cod_X3_undo, ini_X3, ins_X3_undo, sel_X3_undo⟩
theorem ci_X0_stepBack : CIv yX0_stepBack cX0_stepBack 2 (some .int) 1 := ⟨by decide +kernel, by decide, cod_X0_stepBack, ini_X0, ins_X0_stepBack, sel_X0_stepBack⟩
theorem ci_X3_keep : CIv yX3_keep cX3_keep 1 (some .int) 0 := ⟨by decide +kernel, by decide, cod_X3_keep, ini_X3, ins_X3_keep, sel_X3_keep⟩
theorem ci_X3_restore : CIv yX3_restore cX3_restore 1 (some .int) 0 := ⟨by decide +kernel, by decide, cod_X3_restore, ini_X3, ins_X3_restore, sel_X3_restore⟩
theorem ci_X3_boat : CIv yX3_boat cX3_boat 3 (some .int) 2 := ⟨by decide +kernel, by decide, cod_X3_boat, ini_X3, ins_X3_boat, sel_X3_boat⟩
theorem ci_X3_row : CIv yX3_row cX3_row 3 (some .int) 2 := ⟨by decide +kernel, by decide, cod_X3_row, ini_X3, ins_X3_row, sel_X3_row⟩
theorem ci_X2_boatAt : CIv yX2_boatAt cX2_boatAt 4 (some .int) 2 := ⟨by decide +kernel, by decide, cod_X2_boatAt, ini_X2, ins_X2_boatAt, sel_X2_boatAt⟩
theorem ci_X3_stands : CIv yX3_stands cX3_stands 3 (some .int) 2 := ⟨by decide +kernel, by decide, cod_X3_stands, ini_X3, ins_X3_stands, sel_X3_stands⟩
theorem ci_X3_cradle : CIv yX3_cradle cX3_cradle 3 (some .int) 2 := ⟨by decide +kernel, by decide, cod_X3_cradle, ini_X3, ins_X3_cradle, sel_X3_cradle⟩
theorem ci_X3_tide : CIv yX3_tide cX3_tide 2 (some .int) 1 := ⟨by decide +kernel, by decide, cod_X3_tide, ini_X3, ins_X3_tide, sel_X3_tide⟩
theorem ci_X3_liftReason : CIv yX3_liftReason cX3_liftReason 3 (some .int) 2 := ⟨by decide +kernel, by decide, cod_X3_liftReason, ini_X3, ins_X3_liftReason, sel_X3_liftReason⟩
theorem ci_X3_launchReason : CIv yX3_launchReason cX3_launchReason 2 (some .int) 1 := ⟨by decide +kernel, by decide, cod_X3_launchReason, ini_X3, ins_X3_launchReason, sel_X3_launchReason⟩
theorem ci_X3_blockers : CIv yX3_blockers cX3_blockers 2 (some .int) 1 := ⟨by decide +kernel, by decide, cod_X3_blockers, ini_X3, ins_X3_blockers, sel_X3_blockers⟩
theorem ci_X3_launchDay : CIv yX3_launchDay cX3_launchDay 2 (some .int) 1 := ⟨by decide +kernel, by decide, cod_X3_launchDay, ini_X3, ins_X3_launchDay, sel_X3_launchDay⟩
theorem ci_X2_firstLaunchDay : CIv yX2_firstLaunchDay cX2_firstLaunchDay 4 (some .int) 1 := ⟨by decide +kernel, by decide, cod_X2_firstLaunchDay, ini_X2, ins_X2_firstLaunchDay, sel_X2_firstLaunchDay⟩
theorem ci_X3_bestRow : CIv yX3_bestRow cX3_bestRow 2 (some .int) 1 := ⟨by decide +kernel, by decide, cod_X3_bestRow, ini_X3, ins_X3_bestRow, sel_X3_bestRow⟩
theorem ci_X2_tightestRow : CIv yX2_tightestRow cX2_tightestRow 5 (some .int) 1 := ⟨by decide +kernel, by decide, cod_X2_tightestRow, ini_X2, ins_X2_tightestRow, sel_X2_tightestRow⟩
theorem ci_X3_count : CIv yX3_count cX3_count 2 (some .int) 1 := ⟨by decide +kernel, by decide, cod_X3_count, ini_X3, ins_X3_count, sel_X3_count⟩
theorem ci_X2_today : CIv yX2_today cX2_today 1 (some .int) 0 := ⟨by decide +kernel, by decide, cod_X2_today, ini_X2, ins_X2_today, sel_X2_today⟩
theorem ci_X2_boatsAshore : CIv yX2_boatsAshore cX2_boatsAshore 1 (some .int) 0 := ⟨by decide +kernel, by decide, cod_X2_boatsAshore, ini_X2, ins_X2_boatsAshore, sel_X2_boatsAshore⟩
theorem ci_X2_boatsWithWork : CIv yX2_boatsWithWork cX2_boatsWithWork 3 (some .int) 0 := ⟨by decide +kernel, by decide, cod_X2_boatsWithWork, ini_X2, ins_X2_boatsWithWork, sel_X2_boatsWithWork⟩
theorem ci_X2_liftsSoFar : CIv yX2_liftsSoFar cX2_liftsSoFar 1 (some .int) 0 := ⟨by decide +kernel, by decide, cod_X2_liftsSoFar, ini_X2, ins_X2_liftsSoFar, sel_X2_liftsSoFar⟩
theorem ci_X2_launchesSoFar : CIv yX2_launchesSoFar cX2_launchesSoFar 1 (some .int) 0 := ⟨by decide +kernel, by decide, cod_X2_launchesSoFar, ini_X2, ins_X2_launchesSoFar, sel_X2_launchesSoFar⟩
theorem ci_X2_setting : CIv yX2_setting cX2_setting 2 (some .int) 1 := ⟨by decide +kernel, by decide, cod_X2_setting, ini_X2, ins_X2_setting, sel_X2_setting⟩
theorem ci_X0_states : CIv yX0_states cX0_states 1 (some .int) 0 := ⟨by decide +kernel, by decide, cod_X0_states, ini_X0, ins_X0_states, sel_X0_states⟩
theorem ci_X1_length : CIv yX1_length cX1_length 1 (some .int) 0 := ⟨by decide +kernel, by decide, cod_X1_length, ini_X1, ins_X1_length, sel_X1_length⟩
theorem ci_X4_undo : CIv yX4_undo cX4_undo 2 (some .int) 0 := ⟨by decide +kernel, by decide, cod_X4_undo, ini_X4, ins_X4_undo, sel_X4_undo⟩
theorem ci_X4_keep : CIv yX4_keep cX4_keep 2 (some .int) 0 := ⟨by decide +kernel, by decide, cod_X4_keep, ini_X4, ins_X4_keep, sel_X4_keep⟩
theorem ci_X4_boats : CIv yX4_boats cX4_boats 3 (some .int) 0 := ⟨by decide +kernel, by decide, cod_X4_boats, ini_X4, ins_X4_boats, sel_X4_boats⟩
theorem ci_X4_of : CIv yX4_of cX4_of 3 (some .int) 2 := ⟨by decide +kernel, by decide, cod_X4_of, ini_X4, ins_X4_of, sel_X4_of⟩
theorem ci_X4_restore : CIv yX4_restore cX4_restore 2 (some .int) 0 := ⟨by decide +kernel, by decide, cod_X4_restore, ini_X4, ins_X4_restore, sel_X4_restore⟩
theorem ci_X4_push : CIv yX4_push cX4_push 3 none 1 := ⟨by decide +kernel, by decide, cod_X4_push, ini_X4, ins_X4_push, sel_X4_push⟩
theorem ci_X4_come : CIv yX4_come cX4_come 6 (some .int) 4 := ⟨by decide +kernel, by decide, cod_X4_come, ini_X4, ins_X4_come, sel_X4_come⟩
theorem ci_X4_isKind : CIs yX4_isKind cX4_isKind 1 (some .boolean) 1 := ⟨by decide +kernel, by decide, cod_X4_isKind, ini_X4, stc_X4_isKind⟩
theorem ci_X4_in : CIs yX4_in cX4_in 3 (some .boolean) 3 := ⟨by decide +kernel, by decide, cod_X4_in, ini_X4, stc_X4_in⟩
theorem ci_X4_put : CIv yX4_put cX4_put 4 none 3 := ⟨by decide +kernel, by decide, cod_X4_put, ini_X4, ins_X4_put, sel_X4_put⟩
theorem ci_X4_goAway : CIv yX4_goAway cX4_goAway 2 (some .int) 1 := ⟨by decide +kernel, by decide, cod_X4_goAway, ini_X4, ins_X4_goAway, sel_X4_goAway⟩
theorem ci_X4_isBoat : CIv yX4_isBoat cX4_isBoat 2 (some .boolean) 1 := ⟨by decide +kernel, by decide, cod_X4_isBoat, ini_X4, ins_X4_isBoat, sel_X4_isBoat⟩
theorem ci_X4_isAshore : CIv yX4_isAshore cX4_isAshore 2 (some .boolean) 1 := ⟨by decide +kernel, by decide, cod_X4_isAshore, ini_X4, ins_X4_isAshore, sel_X4_isAshore⟩
theorem ci_X4_setCradles : CIv yX4_setCradles cX4_setCradles 3 (some .int) 2 := ⟨by decide +kernel, by decide, cod_X4_setCradles, ini_X4, ins_X4_setCradles, sel_X4_setCradles⟩
theorem ci_X4_taken : CIv yX4_taken cX4_taken 4 (some .int) 1 := ⟨by decide +kernel, by decide, cod_X4_taken, ini_X4, ins_X4_taken, sel_X4_taken⟩
theorem ci_X4_change : CIv yX4_change cX4_change 4 (some .int) 2 := ⟨by decide +kernel, by decide, cod_X4_change, ini_X4, ins_X4_change, sel_X4_change⟩
theorem ci_X4_setRow : CIv yX4_setRow cX4_setRow 3 (some .int) 2 := ⟨by decide +kernel, by decide, cod_X4_setRow, ini_X4, ins_X4_setRow, sel_X4_setRow⟩
theorem ci_X4_isRow : CIs yX4_isRow cX4_isRow 1 (some .boolean) 1 := ⟨by decide +kernel, by decide, cod_X4_isRow, ini_X4, stc_X4_isRow⟩
theorem ci_X4_metresTaken : CIv yX4_metresTaken cX4_metresTaken 4 (some .int) 1 := ⟨by decide +kernel, by decide, cod_X4_metresTaken, ini_X4, ins_X4_metresTaken, sel_X4_metresTaken⟩
theorem ci_X4_isIn : CIv yX4_isIn cX4_isIn 3 (some .boolean) 2 := ⟨by decide +kernel, by decide, cod_X4_isIn, ini_X4, ins_X4_isIn, sel_X4_isIn⟩
theorem ci_X4_set : CIv yX4_set cX4_set 4 (some .int) 2 := ⟨by decide +kernel, by decide, cod_X4_set, ini_X4, ins_X4_set, sel_X4_set⟩
theorem ci_X4_lift : CIv yX4_lift cX4_lift 4 (some .int) 2 := ⟨by decide +kernel, by decide, cod_X4_lift, ini_X4, ins_X4_lift, sel_X4_lift⟩
theorem ci_X4_noLift : CIv yX4_noLift cX4_noLift 4 (some .int) 2 := ⟨by decide +kernel, by decide, cod_X4_noLift, ini_X4, ins_X4_noLift, sel_X4_noLift⟩
theorem ci_X4_whyNoLift : CIv yX4_whyNoLift cX4_whyNoLift 3 (some .int) 2 := ⟨by decide +kernel, by decide, cod_X4_whyNoLift, ini_X4, ins_X4_whyNoLift, sel_X4_whyNoLift⟩
theorem ci_X4_tideAt : CIv yX4_tideAt cX4_tideAt 3 (some .int) 1 := ⟨by decide +kernel, by decide, cod_X4_tideAt, ini_X4, ins_X4_tideAt, sel_X4_tideAt⟩
theorem ci_X4_cradleFor : CIv yX4_cradleFor cX4_cradleFor 5 (some .int) 1 := ⟨by decide +kernel, by decide, cod_X4_cradleFor, ini_X4, ins_X4_cradleFor, sel_X4_cradleFor⟩
theorem ci_X4_isFree : CIv yX4_isFree cX4_isFree 2 (some .boolean) 1 := ⟨by decide +kernel, by decide, cod_X4_isFree, ini_X4, ins_X4_isFree, sel_X4_isFree⟩
theorem ci_X4_bears : CIs yX4_bears cX4_bears 1 (some .int) 1 := ⟨by decide +kernel, by decide, cod_X4_bears, ini_X4, stc_X4_bears⟩
theorem ci_X4_hasRoom : CIv yX4_hasRoom cX4_hasRoom 3 (some .boolean) 2 := ⟨by decide +kernel, by decide, cod_X4_hasRoom, ini_X4, ins_X4_hasRoom, sel_X4_hasRoom⟩
theorem ci_X4_metresLeft : CIv yX4_metresLeft cX4_metresLeft 2 (some .int) 1 := ⟨by decide +kernel, by decide, cod_X4_metresLeft, ini_X4, ins_X4_metresLeft, sel_X4_metresLeft⟩
theorem ci_X4_liftsLeft : CIv yX4_liftsLeft cX4_liftsLeft 1 (some .int) 0 := ⟨by decide +kernel, by decide, cod_X4_liftsLeft, ini_X4, ins_X4_liftsLeft, sel_X4_liftsLeft⟩
theorem ci_X4_doLift : CIv yX4_doLift cX4_doLift 3 (some .int) 2 := ⟨by decide +kernel, by decide, cod_X4_doLift, ini_X4, ins_X4_doLift, sel_X4_doLift⟩
theorem ci_X4_stand : CIv yX4_stand cX4_stand 3 none 2 := ⟨by decide +kernel, by decide, cod_X4_stand, ini_X4, ins_X4_stand, sel_X4_stand⟩
theorem ci_X4_useCrane : CIv yX4_useCrane cX4_useCrane 1 none 0 := ⟨by decide +kernel, by decide, cod_X4_useCrane, ini_X4, ins_X4_useCrane, sel_X4_useCrane⟩
theorem ci_X4_boatsIn : CIv yX4_boatsIn cX4_boatsIn 4 (some .int) 1 := ⟨by decide +kernel, by decide, cod_X4_boatsIn, ini_X4, ins_X4_boatsIn, sel_X4_boatsIn⟩
theorem ci_X4_launch : CIv yX4_launch cX4_launch 3 (some .int) 1 := ⟨by decide +kernel, by decide, cod_X4_launch, ini_X4, ins_X4_launch, sel_X4_launch⟩
theorem ci_X4_noLaunch : CIv yX4_noLaunch cX4_noLaunch 3 (some .int) 1 := ⟨by decide +kernel, by decide, cod_X4_noLaunch, ini_X4, ins_X4_noLaunch, sel_X4_noLaunch⟩
theorem ci_X4_whyNoLaunch : CIv yX4_whyNoLaunch cX4_whyNoLaunch 2 (some .int) 1 := ⟨by decide +kernel, by decide, cod_X4_whyNoLaunch, ini_X4, ins_X4_whyNoLaunch, sel_X4_whyNoLaunch⟩
theorem ci_X4_blockersOf : CIv yX4_blockersOf cX4_blockersOf 2 (some .int) 1 := ⟨by decide +kernel, by decide, cod_X4_blockersOf, ini_X4, ins_X4_blockersOf, sel_X4_blockersOf⟩
theorem ci_X4_placeOf : CIv yX4_placeOf cX4_placeOf 4 (some .int) 1 := ⟨by decide +kernel, by decide, cod_X4_placeOf, ini_X4, ins_X4_placeOf, sel_X4_placeOf⟩
theorem ci_X4_doLaunch : CIv yX4_doLaunch cX4_doLaunch 3 (some .int) 1 := ⟨by decide +kernel, by decide, cod_X4_doLaunch, ini_X4, ins_X4_doLaunch, sel_X4_doLaunch⟩
theorem ci_X4_move : CIv yX4_move cX4_move 4 (some .int) 2 := ⟨by decide +kernel, by decide, cod_X4_move, ini_X4, ins_X4_move, sel_X4_move⟩
theorem ci_X4_noMove : CIv yX4_noMove cX4_noMove 3 (some .int) 2 := ⟨by decide +kernel, by decide, cod_X4_noMove, ini_X4, ins_X4_noMove, sel_X4_noMove⟩
theorem ci_X4_doMove : CIv yX4_doMove cX4_doMove 3 (some .int) 2 := ⟨by decide +kernel, by decide, cod_X4_doMove, ini_X4, ins_X4_doMove, sel_X4_doMove⟩
theorem ci_X4_mast : CIv yX4_mast cX4_mast 4 (some .int) 2 := ⟨by decide +kernel, by decide, cod_X4_mast, ini_X4, ins_X4_mast, sel_X4_mast⟩
theorem ci_X4_noMast : CIv yX4_noMast cX4_noMast 3 (some .int) 2 := ⟨by decide +kernel, by decide, cod_X4_noMast, ini_X4, ins_X4_noMast, sel_X4_noMast⟩
theorem ci_X4_rackFor : CIv yX4_rackFor cX4_rackFor 2 (some .int) 1 := ⟨by decide +kernel, by decide, cod_X4_rackFor, ini_X4, ins_X4_rackFor, sel_X4_rackFor⟩
theorem ci_X4_mastsIn : CIv yX4_mastsIn cX4_mastsIn 4 (some .int) 1 := ⟨by decide +kernel, by decide, cod_X4_mastsIn, ini_X4, ins_X4_mastsIn, sel_X4_mastsIn⟩
theorem ci_X4_doMast : CIv yX4_doMast cX4_doMast 4 (some .int) 2 := ⟨by decide +kernel, by decide, cod_X4_doMast, ini_X4, ins_X4_doMast, sel_X4_doMast⟩
theorem ci_X4_work : CIv yX4_work cX4_work 3 (some .int) 2 := ⟨by decide +kernel, by decide, cod_X4_work, ini_X4, ins_X4_work, sel_X4_work⟩
theorem ci_X4_pass : CIv yX4_pass cX4_pass 3 (some .int) 1 := ⟨by decide +kernel, by decide, cod_X4_pass, ini_X4, ins_X4_pass, sel_X4_pass⟩
theorem ci_X4_noPass : CIv yX4_noPass cX4_noPass 2 (some .int) 1 := ⟨by decide +kernel, by decide, cod_X4_noPass, ini_X4, ins_X4_noPass, sel_X4_noPass⟩
theorem ci_X4_doPass : CIv yX4_doPass cX4_doPass 3 (some .int) 1 := ⟨by decide +kernel, by decide, cod_X4_doPass, ini_X4, ins_X4_doPass, sel_X4_doPass⟩
theorem ci_X4_type : CIv yX4_type cX4_type 2 (some .int) 1 := ⟨by decide +kernel, by decide, cod_X4_type, ini_X4, ins_X4_type, sel_X4_type⟩
theorem ci_X4_clearText : CIv yX4_clearText cX4_clearText 2 (some .int) 0 := ⟨by decide +kernel, by decide, cod_X4_clearText, ini_X4, ins_X4_clearText, sel_X4_clearText⟩
theorem ci_X4_perform : CIv yX4_perform cX4_perform 5 (some .int) 0 := ⟨by decide +kernel, by decide, cod_X4_perform, ini_X4, ins_X4_perform, sel_X4_perform⟩
theorem ci_X4_findFault : CIv yX4_findFault cX4_findFault 2 (some .int) 0 := ⟨by decide +kernel, by decide, cod_X4_findFault, ini_X4, ins_X4_findFault, sel_X4_findFault⟩
theorem ci_X4_readCommand : CIv yX4_readCommand cX4_readCommand 3 (some .int) 1 := ⟨by decide +kernel, by decide, cod_X4_readCommand, ini_X4, ins_X4_readCommand, sel_X4_readCommand⟩
theorem ci_X4_at : CIv yX4_at cX4_at 2 (some .int) 1 := ⟨by decide +kernel, by decide, cod_X4_at, ini_X4, ins_X4_at, sel_X4_at⟩
theorem ci_X4_readNumber : CIv yX4_readNumber cX4_readNumber 6 (some .int) 3 := ⟨by decide +kernel, by decide, cod_X4_readNumber, ini_X4, ins_X4_readNumber, sel_X4_readNumber⟩
theorem ci_X4_isDigit : CIs yX4_isDigit cX4_isDigit 1 (some .boolean) 1 := ⟨by decide +kernel, by decide, cod_X4_isDigit, ini_X4, stc_X4_isDigit⟩
theorem ci_X4_noCommand : CIv yX4_noCommand cX4_noCommand 1 (some .int) 0 := ⟨by decide +kernel, by decide, cod_X4_noCommand, ini_X4, ins_X4_noCommand, sel_X4_noCommand⟩
theorem ci_X4_doCommand : CIv yX4_doCommand cX4_doCommand 1 (some .int) 0 := ⟨by decide +kernel, by decide, cod_X4_doCommand, ini_X4, ins_X4_doCommand, sel_X4_doCommand⟩
theorem ci_X4_stopped : CIv yX4_stopped cX4_stopped 2 (some .int) 1 := ⟨by decide +kernel, by decide, cod_X4_stopped, ini_X4, ins_X4_stopped, sel_X4_stopped⟩
theorem ci_X4_boat : CIv yX4_boat cX4_boat 3 (some .int) 2 := ⟨by decide +kernel, by decide, cod_X4_boat, ini_X4, ins_X4_boat, sel_X4_boat⟩
theorem ci_X4_row : CIv yX4_row cX4_row 3 (some .int) 2 := ⟨by decide +kernel, by decide, cod_X4_row, ini_X4, ins_X4_row, sel_X4_row⟩
theorem ci_X4_boatAt : CIv yX4_boatAt cX4_boatAt 5 (some .int) 2 := ⟨by decide +kernel, by decide, cod_X4_boatAt, ini_X4, ins_X4_boatAt, sel_X4_boatAt⟩
theorem ci_X4_stands : CIv yX4_stands cX4_stands 3 (some .int) 2 := ⟨by decide +kernel, by decide, cod_X4_stands, ini_X4, ins_X4_stands, sel_X4_stands⟩
theorem ci_X4_cradle : CIv yX4_cradle cX4_cradle 3 (some .int) 2 := ⟨by decide +kernel, by decide, cod_X4_cradle, ini_X4, ins_X4_cradle, sel_X4_cradle⟩
theorem ci_X4_tide : CIv yX4_tide cX4_tide 2 (some .int) 1 := ⟨by decide +kernel, by decide, cod_X4_tide, ini_X4, ins_X4_tide, sel_X4_tide⟩
theorem ci_X4_liftReason : CIv yX4_liftReason cX4_liftReason 3 (some .int) 2 := ⟨by decide +kernel, by decide, cod_X4_liftReason, ini_X4, ins_X4_liftReason, sel_X4_liftReason⟩
theorem ci_X4_launchReason : CIv yX4_launchReason cX4_launchReason 2 (some .int) 1 := ⟨by decide +kernel, by decide, cod_X4_launchReason, ini_X4, ins_X4_launchReason, sel_X4_launchReason⟩
theorem ci_X4_blockers : CIv yX4_blockers cX4_blockers 2 (some .int) 1 := ⟨by decide +kernel, by decide, cod_X4_blockers, ini_X4, ins_X4_blockers, sel_X4_blockers⟩
theorem ci_X4_launchDay : CIv yX4_launchDay cX4_launchDay 6 (some .int) 1 := ⟨by decide +kernel, by decide, cod_X4_launchDay, ini_X4, ins_X4_launchDay, sel_X4_launchDay⟩
theorem ci_X4_bestRow : CIv yX4_bestRow cX4_bestRow 5 (some .int) 1 := ⟨by decide +kernel, by decide, cod_X4_bestRow, ini_X4, ins_X4_bestRow, sel_X4_bestRow⟩
theorem ci_X4_count : CIv yX4_count cX4_count 5 (some .int) 1 := ⟨by decide +kernel, by decide, cod_X4_count, ini_X4, ins_X4_count, sel_X4_count⟩
