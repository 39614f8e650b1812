/-! one list of words for all methods: the good ones of the tables -/
def wB : List Cond := lw_tbl.filter goodWord
theorem inB {w : Cond} (h : w ∈ lw_tbl) (g : goodWord w = true) : w ∈ wB := List.mem_filter.mpr ⟨h, g⟩
theorem wB_tbl {w : Cond} (h : w ∈ wB) : w ∈ lw_tbl := (List.mem_filter.mp h).1
theorem wB_good {w : Cond} (h : w ∈ wB) : (w.onTables && w.keeps) = true ∨ ∃ ty, w = .arrayClass ty := good_of_word (List.mem_filter.mp h).2
theorem sel_X2_forget : Cond.selects RX2 yX2_forget yX2_forget ∈ wB := inB (List.mem_of_getElem? (i := 0) (by decide +kernel)) rfl
theorem sel_X2_note : Cond.selects RX2 yX2_note yX2_note ∈ wB := inB (List.mem_of_getElem? (i := 1) (by decide +kernel)) rfl
theorem sel_X0_behindLatest : Cond.selects RX0 yX0_behindLatest yX0_behindLatest ∈ wB := inB (List.mem_of_getElem? (i := 2) (by decide +kernel)) rfl
theorem sel_X2_boatsWith : Cond.selects RX2 yX2_boatsWith yX2_boatsWith ∈ wB := inB (List.mem_of_getElem? (i := 3) (by decide +kernel)) rfl
theorem sel_X2_standsIn : Cond.selects RX2 yX2_standsIn yX2_standsIn ∈ wB := inB (List.mem_of_getElem? (i := 4) (by decide +kernel)) rfl
theorem sel_X2_lowestFreeNumber : Cond.selects RX2 yX2_lowestFreeNumber yX2_lowestFreeNumber ∈ wB := inB (List.mem_of_getElem? (i := 5) (by decide +kernel)) rfl
theorem sel_X2_noteAfloat : Cond.selects RX2 yX2_noteAfloat yX2_noteAfloat ∈ wB := inB (List.mem_of_getElem? (i := 6) (by decide +kernel)) rfl
theorem sel_X2_hasMast : Cond.selects RX2 yX2_hasMast yX2_hasMast ∈ wB := inB (List.mem_of_getElem? (i := 7) (by decide +kernel)) rfl
theorem sel_X2_isDeepEnough : Cond.selects RX2 yX2_isDeepEnough yX2_isDeepEnough ∈ wB := inB (List.mem_of_getElem? (i := 8) (by decide +kernel)) rfl
theorem sel_X2_craneBears : Cond.selects RX2 yX2_craneBears yX2_craneBears ∈ wB := inB (List.mem_of_getElem? (i := 9) (by decide +kernel)) rfl
theorem sel_X2_cradleFor : Cond.selects RX2 yX2_cradleFor yX2_cradleFor ∈ wB := inB (List.mem_of_getElem? (i := 10) (by decide +kernel)) rfl
theorem sel_X2_hasFreeCradle : Cond.selects RX2 yX2_hasFreeCradle yX2_hasFreeCradle ∈ wB := inB (List.mem_of_getElem? (i := 11) (by decide +kernel)) rfl
theorem sel_X2_hasRoom : Cond.selects RX2 yX2_hasRoom yX2_hasRoom ∈ wB := inB (List.mem_of_getElem? (i := 12) (by decide +kernel)) rfl
theorem sel_X2_metresLeft : Cond.selects RX2 yX2_metresLeft yX2_metresLeft ∈ wB := inB (List.mem_of_getElem? (i := 13) (by decide +kernel)) rfl
theorem sel_X2_putAtOuterEnd : Cond.selects RX2 yX2_putAtOuterEnd yX2_putAtOuterEnd ∈ wB := inB (List.mem_of_getElem? (i := 14) (by decide +kernel)) rfl
theorem sel_X2_takeLift : Cond.selects RX2 yX2_takeLift yX2_takeLift ∈ wB := inB (List.mem_of_getElem? (i := 15) (by decide +kernel)) rfl
theorem sel_X2_rackFor : Cond.selects RX2 yX2_rackFor yX2_rackFor ∈ wB := inB (List.mem_of_getElem? (i := 16) (by decide +kernel)) rfl
theorem ini_L : Cond.initialized RL ∈ wB := inB (List.mem_of_getElem? (i := 17) (by decide +kernel)) rfl
theorem ini_X3 : Cond.initialized RX3 ∈ wB := inB (List.mem_of_getElem? (i := 18) (by decide +kernel)) rfl
theorem ini_X2 : Cond.initialized RX2 ∈ wB := inB (List.mem_of_getElem? (i := 19) (by decide +kernel)) rfl
theorem ini_X0 : Cond.initialized RX0 ∈ wB := inB (List.mem_of_getElem? (i := 20) (by decide +kernel)) rfl
theorem ini_X1 : Cond.initialized RX1 ∈ wB := inB (List.mem_of_getElem? (i := 21) (by decide +kernel)) rfl
theorem ini_java_lang_Math : Cond.initialized "java/lang/Math" ∈ wB := inB (List.mem_of_getElem? (i := 22) (by decide +kernel)) rfl
theorem ini_java_lang_System : Cond.initialized "java/lang/System" ∈ wB := inB (List.mem_of_getElem? (i := 23) (by decide +kernel)) rfl
theorem cl_L_46 : Cond.classLink RL 46 RX3 ∈ wB := inB (List.mem_of_getElem? (i := 24) (by decide +kernel)) rfl
theorem inst_X3 : Cond.instantiable RX3 7 ∈ wB := inB (List.mem_of_getElem? (i := 25) (by decide +kernel)) rfl
theorem lk_L_131 : Cond.methodLink RL 131 yX3_init ∈ wB := inB (List.mem_of_getElem? (i := 26) (by decide +kernel)) rfl
theorem ins_X3_init : Cond.instanceMethod yX3_init ∈ wB := inB (List.mem_of_getElem? (i := 27) (by decide +kernel)) rfl
theorem cod_X3_init : Cond.code yX3_init cX3_init 1 none ∈ wB := inB (List.mem_of_getElem? (i := 28) (by decide +kernel)) rfl
theorem lk_X3_1 : Cond.methodLink RX3 1 objectInit ∈ wB := inB (List.mem_of_getElem? (i := 29) (by decide +kernel)) rfl
theorem ins_Object : Cond.instanceMethod objectInit ∈ wB := inB (List.mem_of_getElem? (i := 30) (by decide +kernel)) rfl
theorem cod_Object : Cond.code objectInit ⟨#[0xb1]⟩ 1 none ∈ wB := inB (List.mem_of_getElem? (i := 31) (by decide +kernel)) rfl
theorem cl_X3_7 : Cond.classLink RX3 7 RX2 ∈ wB := inB (List.mem_of_getElem? (i := 32) (by decide +kernel)) rfl
theorem inst_X2 : Cond.instantiable RX2 8 ∈ wB := inB (List.mem_of_getElem? (i := 33) (by decide +kernel)) rfl
theorem lk_X3_9 : Cond.methodLink RX3 9 yX2_init ∈ wB := inB (List.mem_of_getElem? (i := 34) (by decide +kernel)) rfl
theorem ins_X2_init : Cond.instanceMethod yX2_init ∈ wB := inB (List.mem_of_getElem? (i := 35) (by decide +kernel)) rfl
theorem cod_X2_init : Cond.code yX2_init cX2_init 2 none ∈ wB := inB (List.mem_of_getElem? (i := 36) (by decide +kernel)) rfl
theorem lk_X2_3 : Cond.methodLink RX2 3 objectInit ∈ wB := inB (List.mem_of_getElem? (i := 37) (by decide +kernel)) rfl
theorem lk_X2_37 : Cond.methodLink RX2 37 yX2_forget ∈ wB := inB (List.mem_of_getElem? (i := 38) (by decide +kernel)) rfl
theorem ins_X2_forget : Cond.instanceMethod yX2_forget ∈ wB := inB (List.mem_of_getElem? (i := 40) (by decide +kernel)) rfl
theorem cod_X2_forget : Cond.code yX2_forget cX2_forget 3 none ∈ wB := inB (List.mem_of_getElem? (i := 41) (by decide +kernel)) rfl
theorem lk_X2_59 : Cond.methodLink RX2 59 yX2_note ∈ wB := inB (List.mem_of_getElem? (i := 42) (by decide +kernel)) rfl
theorem ins_X2_note : Cond.instanceMethod yX2_note ∈ wB := inB (List.mem_of_getElem? (i := 44) (by decide +kernel)) rfl
theorem cod_X2_note : Cond.code yX2_note cX2_note 4 none ∈ wB := inB (List.mem_of_getElem? (i := 45) (by decide +kernel)) rfl
theorem lk_X2_55 : Cond.methodLink RX2 55 yX2_hasPlaceFor ∈ wB := inB (List.mem_of_getElem? (i := 46) (by decide +kernel)) rfl
theorem stc_X2_hasPlaceFor : Cond.static yX2_hasPlaceFor ∈ wB := inB (List.mem_of_getElem? (i := 47) (by decide +kernel)) rfl
theorem cod_X2_hasPlaceFor : Cond.code yX2_hasPlaceFor cX2_hasPlaceFor 2 (some .boolean) ∈ wB := inB (List.mem_of_getElem? (i := 48) (by decide +kernel)) rfl
theorem lk_X2_51 : Cond.methodLink RX2 51 yX2_isFact ∈ wB := inB (List.mem_of_getElem? (i := 49) (by decide +kernel)) rfl
theorem stc_X2_isFact : Cond.static yX2_isFact ∈ wB := inB (List.mem_of_getElem? (i := 50) (by decide +kernel)) rfl
theorem cod_X2_isFact : Cond.code yX2_isFact cX2_isFact 1 (some .boolean) ∈ wB := inB (List.mem_of_getElem? (i := 51) (by decide +kernel)) rfl
theorem fl_X2_11 : Cond.fieldLink RX2 11 "WinterYard$Yard" "facts" "[I" ∈ wB := inB (List.mem_of_getElem? (i := 52) (by decide +kernel)) rfl
theorem fl_X2_15 : Cond.fieldLink RX2 15 "WinterYard$Yard" "cradles" "[I" ∈ wB := inB (List.mem_of_getElem? (i := 53) (by decide +kernel)) rfl
theorem fl_X2_18 : Cond.fieldLink RX2 18 "WinterYard$Yard" "metres" "[I" ∈ wB := inB (List.mem_of_getElem? (i := 54) (by decide +kernel)) rfl
theorem fl_X2_21 : Cond.fieldLink RX2 21 "WinterYard$Yard" "settings" "[I" ∈ wB := inB (List.mem_of_getElem? (i := 55) (by decide +kernel)) rfl
theorem fl_X2_24 : Cond.fieldLink RX2 24 "WinterYard$Yard" "day" "I" ∈ wB := inB (List.mem_of_getElem? (i := 56) (by decide +kernel)) rfl
theorem fl_X2_28 : Cond.fieldLink RX2 28 "WinterYard$Yard" "liftsToday" "I" ∈ wB := inB (List.mem_of_getElem? (i := 57) (by decide +kernel)) rfl
theorem fl_X2_31 : Cond.fieldLink RX2 31 "WinterYard$Yard" "lifts" "I" ∈ wB := inB (List.mem_of_getElem? (i := 58) (by decide +kernel)) rfl
theorem fl_X2_34 : Cond.fieldLink RX2 34 "WinterYard$Yard" "launches" "I" ∈ wB := inB (List.mem_of_getElem? (i := 59) (by decide +kernel)) rfl
theorem arrc_int : Cond.arrayClass .int ∈ wB := inB (List.mem_of_getElem? (i := 77) (by decide +kernel)) rfl
theorem cl_X3_23 : Cond.classLink RX3 23 RX0 ∈ wB := inB (List.mem_of_getElem? (i := 78) (by decide +kernel)) rfl
theorem inst_X0 : Cond.instantiable RX0 3 ∈ wB := inB (List.mem_of_getElem? (i := 79) (by decide +kernel)) rfl
theorem lk_X3_25 : Cond.methodLink RX3 25 yX0_init ∈ wB := inB (List.mem_of_getElem? (i := 80) (by decide +kernel)) rfl
theorem ins_X0_init : Cond.instanceMethod yX0_init ∈ wB := inB (List.mem_of_getElem? (i := 81) (by decide +kernel)) rfl
theorem cod_X0_init : Cond.code yX0_init cX0_init 2 none ∈ wB := inB (List.mem_of_getElem? (i := 82) (by decide +kernel)) rfl
theorem lk_X0_5 : Cond.methodLink RX0 5 objectInit ∈ wB := inB (List.mem_of_getElem? (i := 83) (by decide +kernel)) rfl
theorem cl_X0_11 : Cond.classLink RX0 11 RX2 ∈ wB := inB (List.mem_of_getElem? (i := 84) (by decide +kernel)) rfl
theorem aov : Cond.arrayOver (.object "WinterYard$Yard") ∈ lw_tbl := List.mem_of_getElem? (i := 85) (by decide +kernel)
theorem lk_X0_24 : Cond.methodLink RX0 24 yX2_init ∈ wB := inB (List.mem_of_getElem? (i := 86) (by decide +kernel)) rfl
theorem fl_X0_13 : Cond.fieldLink RX0 13 "WinterYard$History" "slots" "[LWinterYard$Yard;" ∈ wB := inB (List.mem_of_getElem? (i := 87) (by decide +kernel)) rfl
theorem fl_X0_17 : Cond.fieldLink RX0 17 "WinterYard$History" "oldest" "I" ∈ wB := inB (List.mem_of_getElem? (i := 88) (by decide +kernel)) rfl
theorem fl_X0_21 : Cond.fieldLink RX0 21 "WinterYard$History" "recorded" "I" ∈ wB := inB (List.mem_of_getElem? (i := 89) (by decide +kernel)) rfl
theorem cl_X3_30 : Cond.classLink RX3 30 RX1 ∈ wB := inB (List.mem_of_getElem? (i := 97) (by decide +kernel)) rfl
theorem inst_X1 : Cond.instantiable RX1 7 ∈ wB := inB (List.mem_of_getElem? (i := 98) (by decide +kernel)) rfl
theorem nest_X3_32 : Cond.methodLinkNest RX3 32 yX1_init RX3 ∈ lw_tbl := List.mem_of_getElem? (i := 99) (by decide +kernel)
theorem ins_X1_init : Cond.instanceMethod yX1_init ∈ wB := inB (List.mem_of_getElem? (i := 100) (by decide +kernel)) rfl
theorem cod_X1_init : Cond.code yX1_init cX1_init 1 none ∈ wB := inB (List.mem_of_getElem? (i := 101) (by decide +kernel)) rfl
theorem lk_X1_5 : Cond.methodLink RX1 5 objectInit ∈ wB := inB (List.mem_of_getElem? (i := 102) (by decide +kernel)) rfl
theorem fl_X1_11 : Cond.fieldLink RX1 11 "WinterYard$Plan" "text" "[C" ∈ wB := inB (List.mem_of_getElem? (i := 103) (by decide +kernel)) rfl
theorem fl_X1_15 : Cond.fieldLink RX1 15 "WinterYard$Plan" "length" "I" ∈ wB := inB (List.mem_of_getElem? (i := 104) (by decide +kernel)) rfl
theorem fl_X1_19 : Cond.fieldLink RX1 19 "WinterYard$Plan" "at" "I" ∈ wB := inB (List.mem_of_getElem? (i := 105) (by decide +kernel)) rfl
theorem fl_X1_22 : Cond.fieldLink RX1 22 "WinterYard$Plan" "signs" "[C" ∈ wB := inB (List.mem_of_getElem? (i := 106) (by decide +kernel)) rfl
theorem fl_X1_25 : Cond.fieldLink RX1 25 "WinterYard$Plan" "firsts" "[I" ∈ wB := inB (List.mem_of_getElem? (i := 107) (by decide +kernel)) rfl
theorem fl_X1_29 : Cond.fieldLink RX1 29 "WinterYard$Plan" "seconds" "[I" ∈ wB := inB (List.mem_of_getElem? (i := 108) (by decide +kernel)) rfl
theorem fl_X1_32 : Cond.fieldLink RX1 32 "WinterYard$Plan" "things" "I" ∈ wB := inB (List.mem_of_getElem? (i := 109) (by decide +kernel)) rfl
theorem arrc_char : Cond.arrayClass .char ∈ wB := inB (List.mem_of_getElem? (i := 125) (by decide +kernel)) rfl
theorem fl_X3_10 : Cond.fieldLink RX3 10 "WinterYard" "yard" "LWinterYard$Yard;" ∈ wB := inB (List.mem_of_getElem? (i := 126) (by decide +kernel)) rfl
theorem fl_X3_16 : Cond.fieldLink RX3 16 "WinterYard" "snapshot" "LWinterYard$Yard;" ∈ wB := inB (List.mem_of_getElem? (i := 127) (by decide +kernel)) rfl
theorem fl_X3_19 : Cond.fieldLink RX3 19 "WinterYard" "hasSnapshot" "Z" ∈ wB := inB (List.mem_of_getElem? (i := 128) (by decide +kernel)) rfl
theorem fl_X3_26 : Cond.fieldLink RX3 26 "WinterYard" "history" "LWinterYard$History;" ∈ wB := inB (List.mem_of_getElem? (i := 129) (by decide +kernel)) rfl
theorem fl_X3_33 : Cond.fieldLink RX3 33 "WinterYard" "plan" "LWinterYard$Plan;" ∈ wB := inB (List.mem_of_getElem? (i := 130) (by decide +kernel)) rfl
theorem fl_X3_37 : Cond.fieldLink RX3 37 "WinterYard" "stopNumber" "I" ∈ wB := inB (List.mem_of_getElem? (i := 131) (by decide +kernel)) rfl
theorem fl_X3_41 : Cond.fieldLink RX3 41 "WinterYard" "stopError" "I" ∈ wB := inB (List.mem_of_getElem? (i := 132) (by decide +kernel)) rfl
theorem lk_L_63 : Cond.methodLink RL 63 yX3_pass ∈ wB := inB (List.mem_of_getElem? (i := 148) (by decide +kernel)) rfl
theorem ins_X3_pass : Cond.instanceMethod yX3_pass ∈ wB := inB (List.mem_of_getElem? (i := 149) (by decide +kernel)) rfl
theorem sel_X3_pass : Cond.selects RX3 yX3_pass yX3_pass ∈ wB := inB (List.mem_of_getElem? (i := 150) (by decide +kernel)) rfl
theorem cod_X3_pass : Cond.code yX3_pass cX3_pass 2 (some .int) ∈ wB := inB (List.mem_of_getElem? (i := 151) (by decide +kernel)) rfl
theorem lk_X3_44 : Cond.methodLink RX3 44 yX0_prepare ∈ wB := inB (List.mem_of_getElem? (i := 152) (by decide +kernel)) rfl
theorem ins_X0_prepare : Cond.instanceMethod yX0_prepare ∈ wB := inB (List.mem_of_getElem? (i := 153) (by decide +kernel)) rfl
theorem sel_X0_prepare : Cond.selects RX0 yX0_prepare yX0_prepare ∈ wB := inB (List.mem_of_getElem? (i := 154) (by decide +kernel)) rfl
theorem cod_X0_prepare : Cond.code yX0_prepare cX0_prepare 2 none ∈ wB := inB (List.mem_of_getElem? (i := 155) (by decide +kernel)) rfl
theorem lk_X0_25 : Cond.methodLink RX0 25 yX0_behindLatest ∈ wB := inB (List.mem_of_getElem? (i := 156) (by decide +kernel)) rfl
theorem ins_X0_behindLatest : Cond.instanceMethod yX0_behindLatest ∈ wB := inB (List.mem_of_getElem? (i := 158) (by decide +kernel)) rfl
theorem cod_X0_behindLatest : Cond.code yX0_behindLatest cX0_behindLatest 1 (some (.object "WinterYard$Yard")) ∈ wB := inB (List.mem_of_getElem? (i := 159) (by decide +kernel)) rfl
theorem lk_X0_29 : Cond.methodLink RX0 29 yX2_copyFrom ∈ wB := inB (List.mem_of_getElem? (i := 160) (by decide +kernel)) rfl
theorem ins_X2_copyFrom : Cond.instanceMethod yX2_copyFrom ∈ wB := inB (List.mem_of_getElem? (i := 161) (by decide +kernel)) rfl
theorem sel_X2_copyFrom : Cond.selects RX2 yX2_copyFrom yX2_copyFrom ∈ wB := inB (List.mem_of_getElem? (i := 162) (by decide +kernel)) rfl
theorem cod_X2_copyFrom : Cond.code yX2_copyFrom cX2_copyFrom 2 none ∈ wB := inB (List.mem_of_getElem? (i := 163) (by decide +kernel)) rfl
theorem lk_X2_41 : Cond.methodLink RX2 41 arraycopyName ∈ wB := inB (List.mem_of_getElem? (i := 164) (by decide +kernel)) rfl
theorem stc_arraycopyName : Cond.static arraycopyName ∈ wB := inB (List.mem_of_getElem? (i := 165) (by decide +kernel)) rfl
theorem nat_arraycopy : Cond.native arraycopyName ∈ wB := inB (List.mem_of_getElem? (i := 166) (by decide +kernel)) rfl
theorem lk_X3_87 : Cond.methodLink RX3 87 yX2_letPass ∈ wB := inB (List.mem_of_getElem? (i := 167) (by decide +kernel)) rfl
theorem ins_X2_letPass : Cond.instanceMethod yX2_letPass ∈ wB := inB (List.mem_of_getElem? (i := 168) (by decide +kernel)) rfl
theorem sel_X2_letPass : Cond.selects RX2 yX2_letPass yX2_letPass ∈ wB := inB (List.mem_of_getElem? (i := 169) (by decide +kernel)) rfl
theorem cod_X2_letPass : Cond.code yX2_letPass cX2_letPass 3 (some .int) ∈ wB := inB (List.mem_of_getElem? (i := 170) (by decide +kernel)) rfl
theorem nest_X2_66 : Cond.methodLinkNest RX2 66 yX3_within RX3 ∈ lw_tbl := List.mem_of_getElem? (i := 171) (by decide +kernel)
theorem stc_X3_within : Cond.static yX3_within ∈ wB := inB (List.mem_of_getElem? (i := 172) (by decide +kernel)) rfl
theorem cod_X3_within : Cond.code yX3_within cX3_within 3 (some .boolean) ∈ wB := inB (List.mem_of_getElem? (i := 173) (by decide +kernel)) rfl
theorem lk_X2_80 : Cond.methodLink RX2 80 yX2_isAshore ∈ wB := inB (List.mem_of_getElem? (i := 174) (by decide +kernel)) rfl
theorem ins_X2_isAshore : Cond.instanceMethod yX2_isAshore ∈ wB := inB (List.mem_of_getElem? (i := 175) (by decide +kernel)) rfl
theorem sel_X2_isAshore : Cond.selects RX2 yX2_isAshore yX2_isAshore ∈ wB := inB (List.mem_of_getElem? (i := 176) (by decide +kernel)) rfl
theorem cod_X2_isAshore : Cond.code yX2_isAshore cX2_isAshore 2 (some .boolean) ∈ wB := inB (List.mem_of_getElem? (i := 177) (by decide +kernel)) rfl
theorem lk_X2_47 : Cond.methodLink RX2 47 yX2_fact ∈ wB := inB (List.mem_of_getElem? (i := 178) (by decide +kernel)) rfl
theorem ins_X2_fact : Cond.instanceMethod yX2_fact ∈ wB := inB (List.mem_of_getElem? (i := 179) (by decide +kernel)) rfl
theorem sel_X2_fact : Cond.selects RX2 yX2_fact yX2_fact ∈ wB := inB (List.mem_of_getElem? (i := 180) (by decide +kernel)) rfl
theorem cod_X2_fact : Cond.code yX2_fact cX2_fact 3 (some .int) ∈ wB := inB (List.mem_of_getElem? (i := 181) (by decide +kernel)) rfl
theorem lk_X2_141 : Cond.methodLink RX2 141 Lib.Math.max.name ∈ wB := inB (List.mem_of_getElem? (i := 182) (by decide +kernel)) rfl
theorem stc_Lib_Math_max_name : Cond.static Lib.Math.max.name ∈ wB := inB (List.mem_of_getElem? (i := 183) (by decide +kernel)) rfl
theorem cod_max : Cond.code Lib.Math.max.name Lib.Math.max.code 2 (some .int) ∈ wB := inB (List.mem_of_getElem? (i := 184) (by decide +kernel)) rfl
theorem lk_X2_146 : Cond.methodLink RX2 146 yX2_tideOn ∈ wB := inB (List.mem_of_getElem? (i := 185) (by decide +kernel)) rfl
theorem ins_X2_tideOn : Cond.instanceMethod yX2_tideOn ∈ wB := inB (List.mem_of_getElem? (i := 186) (by decide +kernel)) rfl
theorem sel_X2_tideOn : Cond.selects RX2 yX2_tideOn yX2_tideOn ∈ wB := inB (List.mem_of_getElem? (i := 187) (by decide +kernel)) rfl
theorem cod_X2_tideOn : Cond.code yX2_tideOn cX2_tideOn 2 (some .int) ∈ wB := inB (List.mem_of_getElem? (i := 188) (by decide +kernel)) rfl
theorem lk_X2_183 : Cond.methodLink RX2 183 Lib.Math.abs.name ∈ wB := inB (List.mem_of_getElem? (i := 189) (by decide +kernel)) rfl
theorem stc_Lib_Math_abs_name : Cond.static Lib.Math.abs.name ∈ wB := inB (List.mem_of_getElem? (i := 190) (by decide +kernel)) rfl
theorem cod_abs : Cond.code Lib.Math.abs.name Lib.Math.abs.code 1 (some .int) ∈ wB := inB (List.mem_of_getElem? (i := 191) (by decide +kernel)) rfl
theorem lk_X3_52 : Cond.methodLink RX3 52 yX0_settle ∈ wB := inB (List.mem_of_getElem? (i := 192) (by decide +kernel)) rfl
theorem ins_X0_settle : Cond.instanceMethod yX0_settle ∈ wB := inB (List.mem_of_getElem? (i := 193) (by decide +kernel)) rfl
theorem sel_X0_settle : Cond.selects RX0 yX0_settle yX0_settle ∈ wB := inB (List.mem_of_getElem? (i := 194) (by decide +kernel)) rfl
theorem cod_X0_settle : Cond.code yX0_settle cX0_settle 2 (some .int) ∈ wB := inB (List.mem_of_getElem? (i := 195) (by decide +kernel)) rfl
theorem lk_L_143 : Cond.methodLink RL 143 yX3_stopped ∈ wB := inB (List.mem_of_getElem? (i := 196) (by decide +kernel)) rfl
theorem ins_X3_stopped : Cond.instanceMethod yX3_stopped ∈ wB := inB (List.mem_of_getElem? (i := 197) (by decide +kernel)) rfl
theorem sel_X3_stopped : Cond.selects RX3 yX3_stopped yX3_stopped ∈ wB := inB (List.mem_of_getElem? (i := 198) (by decide +kernel)) rfl
theorem cod_X3_stopped : Cond.code yX3_stopped cX3_stopped 2 (some .int) ∈ wB := inB (List.mem_of_getElem? (i := 199) (by decide +kernel)) rfl
theorem lk_L_136 : Cond.methodLink RL 136 yX3_undo ∈ wB := inB (List.mem_of_getElem? (i := 200) (by decide +kernel)) rfl
theorem ins_X3_undo : Cond.instanceMethod yX3_undo ∈ wB := inB (List.mem_of_getElem? (i := 201) (by decide +kernel)) rfl
theorem sel_X3_undo : Cond.selects RX3 yX3_undo yX3_undo ∈ wB := inB (List.mem_of_getElem? (i := 202) (by decide +kernel)) rfl
theorem cod_X3_undo : Cond.code yX3_undo cX3_undo 1 (some .int) ∈ wB := inB (List.mem_of_getElem? (i := 203) (by decide +kernel)) rfl
theorem lk_X3_121 : Cond.methodLink RX3 121 yX0_stepBack ∈ wB := inB (List.mem_of_getElem? (i := 204) (by decide +kernel)) rfl
theorem ins_X0_stepBack : Cond.instanceMethod yX0_stepBack ∈ wB := inB (List.mem_of_getElem? (i := 205) (by decide +kernel)) rfl
theorem sel_X0_stepBack : Cond.selects RX0 yX0_stepBack yX0_stepBack ∈ wB := inB (List.mem_of_getElem? (i := 206) (by decide +kernel)) rfl
theorem cod_X0_stepBack : Cond.code yX0_stepBack cX0_stepBack 2 (some .int) ∈ wB := inB (List.mem_of_getElem? (i := 207) (by decide +kernel)) rfl
theorem lk_X0_33 : Cond.methodLink RX0 33 yX0_takeBack ∈ wB := inB (List.mem_of_getElem? (i := 208) (by decide +kernel)) rfl
theorem ins_X0_takeBack : Cond.instanceMethod yX0_takeBack ∈ wB := inB (List.mem_of_getElem? (i := 209) (by decide +kernel)) rfl
theorem sel_X0_takeBack : Cond.selects RX0 yX0_takeBack yX0_takeBack ∈ wB := inB (List.mem_of_getElem? (i := 210) (by decide +kernel)) rfl
theorem cod_X0_takeBack : Cond.code yX0_takeBack cX0_takeBack 2 none ∈ wB := inB (List.mem_of_getElem? (i := 211) (by decide +kernel)) rfl
theorem lk_L_140 : Cond.methodLink RL 140 yX3_restore ∈ wB := inB (List.mem_of_getElem? (i := 212) (by decide +kernel)) rfl
theorem ins_X3_restore : Cond.instanceMethod yX3_restore ∈ wB := inB (List.mem_of_getElem? (i := 213) (by decide +kernel)) rfl
theorem sel_X3_restore : Cond.selects RX3 yX3_restore yX3_restore ∈ wB := inB (List.mem_of_getElem? (i := 214) (by decide +kernel)) rfl
theorem cod_X3_restore : Cond.code yX3_restore cX3_restore 1 (some .int) ∈ wB := inB (List.mem_of_getElem? (i := 215) (by decide +kernel)) rfl
theorem lk_X3_125 : Cond.methodLink RX3 125 yX2_copyFrom ∈ wB := inB (List.mem_of_getElem? (i := 216) (by decide +kernel)) rfl
theorem lk_X3_128 : Cond.methodLink RX3 128 yX2_boats ∈ wB := inB (List.mem_of_getElem? (i := 217) (by decide +kernel)) rfl
theorem ins_X2_boats : Cond.instanceMethod yX2_boats ∈ wB := inB (List.mem_of_getElem? (i := 218) (by decide +kernel)) rfl
theorem sel_X2_boats : Cond.selects RX2 yX2_boats yX2_boats ∈ wB := inB (List.mem_of_getElem? (i := 219) (by decide +kernel)) rfl
theorem cod_X2_boats : Cond.code yX2_boats cX2_boats 1 (some .int) ∈ wB := inB (List.mem_of_getElem? (i := 220) (by decide +kernel)) rfl
theorem lk_X2_89 : Cond.methodLink RX2 89 yX2_boatsWith ∈ wB := inB (List.mem_of_getElem? (i := 221) (by decide +kernel)) rfl
theorem ins_X2_boatsWith : Cond.instanceMethod yX2_boatsWith ∈ wB := inB (List.mem_of_getElem? (i := 223) (by decide +kernel)) rfl
theorem cod_X2_boatsWith : Cond.code yX2_boatsWith cX2_boatsWith 5 (some .int) ∈ wB := inB (List.mem_of_getElem? (i := 224) (by decide +kernel)) rfl
theorem lk_L_93 : Cond.methodLink RL 93 yX3_boat ∈ wB := inB (List.mem_of_getElem? (i := 225) (by decide +kernel)) rfl
theorem ins_X3_boat : Cond.instanceMethod yX3_boat ∈ wB := inB (List.mem_of_getElem? (i := 226) (by decide +kernel)) rfl
theorem sel_X3_boat : Cond.selects RX3 yX3_boat yX3_boat ∈ wB := inB (List.mem_of_getElem? (i := 227) (by decide +kernel)) rfl
theorem cod_X3_boat : Cond.code yX3_boat cX3_boat 3 (some .int) ∈ wB := inB (List.mem_of_getElem? (i := 228) (by decide +kernel)) rfl
theorem lk_X3_131 : Cond.methodLink RX3 131 yX2_knows ∈ wB := inB (List.mem_of_getElem? (i := 229) (by decide +kernel)) rfl
theorem ins_X2_knows : Cond.instanceMethod yX2_knows ∈ wB := inB (List.mem_of_getElem? (i := 230) (by decide +kernel)) rfl
theorem sel_X2_knows : Cond.selects RX2 yX2_knows yX2_knows ∈ wB := inB (List.mem_of_getElem? (i := 231) (by decide +kernel)) rfl
theorem cod_X2_knows : Cond.code yX2_knows cX2_knows 2 (some .boolean) ∈ wB := inB (List.mem_of_getElem? (i := 232) (by decide +kernel)) rfl
theorem lk_X3_135 : Cond.methodLink RX3 135 yX2_isFact ∈ wB := inB (List.mem_of_getElem? (i := 233) (by decide +kernel)) rfl
theorem lk_X3_138 : Cond.methodLink RX3 138 yX2_fact ∈ wB := inB (List.mem_of_getElem? (i := 234) (by decide +kernel)) rfl
theorem lk_L_118 : Cond.methodLink RL 118 yX3_row ∈ wB := inB (List.mem_of_getElem? (i := 235) (by decide +kernel)) rfl
theorem ins_X3_row : Cond.instanceMethod yX3_row ∈ wB := inB (List.mem_of_getElem? (i := 236) (by decide +kernel)) rfl
theorem sel_X3_row : Cond.selects RX3 yX3_row yX3_row ∈ wB := inB (List.mem_of_getElem? (i := 237) (by decide +kernel)) rfl
theorem cod_X3_row : Cond.code yX3_row cX3_row 3 (some .int) ∈ wB := inB (List.mem_of_getElem? (i := 238) (by decide +kernel)) rfl
theorem lk_X3_141 : Cond.methodLink RX3 141 yX2_isRow ∈ wB := inB (List.mem_of_getElem? (i := 239) (by decide +kernel)) rfl
theorem stc_X2_isRow : Cond.static yX2_isRow ∈ wB := inB (List.mem_of_getElem? (i := 240) (by decide +kernel)) rfl
theorem cod_X2_isRow : Cond.code yX2_isRow cX2_isRow 1 (some .boolean) ∈ wB := inB (List.mem_of_getElem? (i := 241) (by decide +kernel)) rfl
theorem lk_X3_144 : Cond.methodLink RX3 144 yX2_metresOf ∈ wB := inB (List.mem_of_getElem? (i := 242) (by decide +kernel)) rfl
theorem ins_X2_metresOf : Cond.instanceMethod yX2_metresOf ∈ wB := inB (List.mem_of_getElem? (i := 243) (by decide +kernel)) rfl
theorem sel_X2_metresOf : Cond.selects RX2 yX2_metresOf yX2_metresOf ∈ wB := inB (List.mem_of_getElem? (i := 244) (by decide +kernel)) rfl
theorem cod_X2_metresOf : Cond.code yX2_metresOf cX2_metresOf 2 (some .int) ∈ wB := inB (List.mem_of_getElem? (i := 245) (by decide +kernel)) rfl
theorem lk_X2_111 : Cond.methodLink RX2 111 yX2_isRow ∈ wB := inB (List.mem_of_getElem? (i := 246) (by decide +kernel)) rfl
theorem lk_X3_147 : Cond.methodLink RX3 147 yX2_metresTaken ∈ wB := inB (List.mem_of_getElem? (i := 247) (by decide +kernel)) rfl
theorem ins_X2_metresTaken : Cond.instanceMethod yX2_metresTaken ∈ wB := inB (List.mem_of_getElem? (i := 248) (by decide +kernel)) rfl
theorem sel_X2_metresTaken : Cond.selects RX2 yX2_metresTaken yX2_metresTaken ∈ wB := inB (List.mem_of_getElem? (i := 249) (by decide +kernel)) rfl
theorem cod_X2_metresTaken : Cond.code yX2_metresTaken cX2_metresTaken 4 (some .int) ∈ wB := inB (List.mem_of_getElem? (i := 250) (by decide +kernel)) rfl
theorem lk_X3_150 : Cond.methodLink RX3 150 yX2_boatsIn ∈ wB := inB (List.mem_of_getElem? (i := 251) (by decide +kernel)) rfl
theorem ins_X2_boatsIn : Cond.instanceMethod yX2_boatsIn ∈ wB := inB (List.mem_of_getElem? (i := 252) (by decide +kernel)) rfl
theorem sel_X2_boatsIn : Cond.selects RX2 yX2_boatsIn yX2_boatsIn ∈ wB := inB (List.mem_of_getElem? (i := 253) (by decide +kernel)) rfl
theorem cod_X2_boatsIn : Cond.code yX2_boatsIn cX2_boatsIn 2 (some .int) ∈ wB := inB (List.mem_of_getElem? (i := 254) (by decide +kernel)) rfl
theorem lk_X3_153 : Cond.methodLink RX3 153 yX2_boatAt ∈ wB := inB (List.mem_of_getElem? (i := 255) (by decide +kernel)) rfl
theorem ins_X2_boatAt : Cond.instanceMethod yX2_boatAt ∈ wB := inB (List.mem_of_getElem? (i := 256) (by decide +kernel)) rfl
theorem sel_X2_boatAt : Cond.selects RX2 yX2_boatAt yX2_boatAt ∈ wB := inB (List.mem_of_getElem? (i := 257) (by decide +kernel)) rfl
theorem cod_X2_boatAt : Cond.code yX2_boatAt cX2_boatAt 4 (some .int) ∈ wB := inB (List.mem_of_getElem? (i := 258) (by decide +kernel)) rfl
theorem lk_X2_123 : Cond.methodLink RX2 123 yX2_standsIn ∈ wB := inB (List.mem_of_getElem? (i := 259) (by decide +kernel)) rfl
theorem ins_X2_standsIn : Cond.instanceMethod yX2_standsIn ∈ wB := inB (List.mem_of_getElem? (i := 261) (by decide +kernel)) rfl
theorem cod_X2_standsIn : Cond.code yX2_standsIn cX2_standsIn 3 (some .boolean) ∈ wB := inB (List.mem_of_getElem? (i := 262) (by decide +kernel)) rfl
theorem lk_L_115 : Cond.methodLink RL 115 yX3_stands ∈ wB := inB (List.mem_of_getElem? (i := 263) (by decide +kernel)) rfl
theorem ins_X3_stands : Cond.instanceMethod yX3_stands ∈ wB := inB (List.mem_of_getElem? (i := 264) (by decide +kernel)) rfl
theorem sel_X3_stands : Cond.selects RX3 yX3_stands yX3_stands ∈ wB := inB (List.mem_of_getElem? (i := 265) (by decide +kernel)) rfl
theorem cod_X3_stands : Cond.code yX3_stands cX3_stands 3 (some .int) ∈ wB := inB (List.mem_of_getElem? (i := 266) (by decide +kernel)) rfl
theorem lk_L_121 : Cond.methodLink RL 121 yX3_cradle ∈ wB := inB (List.mem_of_getElem? (i := 267) (by decide +kernel)) rfl
theorem ins_X3_cradle : Cond.instanceMethod yX3_cradle ∈ wB := inB (List.mem_of_getElem? (i := 268) (by decide +kernel)) rfl
theorem sel_X3_cradle : Cond.selects RX3 yX3_cradle yX3_cradle ∈ wB := inB (List.mem_of_getElem? (i := 269) (by decide +kernel)) rfl
theorem cod_X3_cradle : Cond.code yX3_cradle cX3_cradle 3 (some .int) ∈ wB := inB (List.mem_of_getElem? (i := 270) (by decide +kernel)) rfl
theorem lk_X3_156 : Cond.methodLink RX3 156 yX2_isKind ∈ wB := inB (List.mem_of_getElem? (i := 271) (by decide +kernel)) rfl
theorem stc_X2_isKind : Cond.static yX2_isKind ∈ wB := inB (List.mem_of_getElem? (i := 272) (by decide +kernel)) rfl
theorem cod_X2_isKind : Cond.code yX2_isKind cX2_isKind 1 (some .boolean) ∈ wB := inB (List.mem_of_getElem? (i := 273) (by decide +kernel)) rfl
theorem lk_X3_159 : Cond.methodLink RX3 159 yX2_cradlesOf ∈ wB := inB (List.mem_of_getElem? (i := 274) (by decide +kernel)) rfl
theorem ins_X2_cradlesOf : Cond.instanceMethod yX2_cradlesOf ∈ wB := inB (List.mem_of_getElem? (i := 275) (by decide +kernel)) rfl
theorem sel_X2_cradlesOf : Cond.selects RX2 yX2_cradlesOf yX2_cradlesOf ∈ wB := inB (List.mem_of_getElem? (i := 276) (by decide +kernel)) rfl
theorem cod_X2_cradlesOf : Cond.code yX2_cradlesOf cX2_cradlesOf 2 (some .int) ∈ wB := inB (List.mem_of_getElem? (i := 277) (by decide +kernel)) rfl
theorem lk_X2_63 : Cond.methodLink RX2 63 yX2_isKind ∈ wB := inB (List.mem_of_getElem? (i := 278) (by decide +kernel)) rfl
theorem lk_X3_162 : Cond.methodLink RX3 162 yX2_cradlesTaken ∈ wB := inB (List.mem_of_getElem? (i := 279) (by decide +kernel)) rfl
theorem ins_X2_cradlesTaken : Cond.instanceMethod yX2_cradlesTaken ∈ wB := inB (List.mem_of_getElem? (i := 280) (by decide +kernel)) rfl
theorem sel_X2_cradlesTaken : Cond.selects RX2 yX2_cradlesTaken yX2_cradlesTaken ∈ wB := inB (List.mem_of_getElem? (i := 281) (by decide +kernel)) rfl
theorem cod_X2_cradlesTaken : Cond.code yX2_cradlesTaken cX2_cradlesTaken 2 (some .int) ∈ wB := inB (List.mem_of_getElem? (i := 282) (by decide +kernel)) rfl
theorem lk_X3_165 : Cond.methodLink RX3 165 yX2_bears ∈ wB := inB (List.mem_of_getElem? (i := 283) (by decide +kernel)) rfl
theorem stc_X2_bears : Cond.static yX2_bears ∈ wB := inB (List.mem_of_getElem? (i := 284) (by decide +kernel)) rfl
theorem cod_X2_bears : Cond.code yX2_bears cX2_bears 1 (some .int) ∈ wB := inB (List.mem_of_getElem? (i := 285) (by decide +kernel)) rfl
theorem fl_X2_92 : Cond.fieldLink RX2 92 "WinterYard$Yard" "BEARS" "[I" ∈ wB := inB (List.mem_of_getElem? (i := 286) (by decide +kernel)) rfl
theorem lst_BEARS : Cond.laysStatic RX2 "BEARS" "[I" ∈ lw_tbl := List.mem_of_getElem? (i := 287) (by decide +kernel)
theorem lk_L_129 : Cond.methodLink RL 129 yX3_tide ∈ wB := inB (List.mem_of_getElem? (i := 288) (by decide +kernel)) rfl
theorem ins_X3_tide : Cond.instanceMethod yX3_tide ∈ wB := inB (List.mem_of_getElem? (i := 289) (by decide +kernel)) rfl
theorem sel_X3_tide : Cond.selects RX3 yX3_tide yX3_tide ∈ wB := inB (List.mem_of_getElem? (i := 290) (by decide +kernel)) rfl
theorem cod_X3_tide : Cond.code yX3_tide cX3_tide 2 (some .int) ∈ wB := inB (List.mem_of_getElem? (i := 291) (by decide +kernel)) rfl
theorem lk_X3_168 : Cond.methodLink RX3 168 yX3_within ∈ wB := inB (List.mem_of_getElem? (i := 292) (by decide +kernel)) rfl
theorem lk_X3_172 : Cond.methodLink RX3 172 yX2_tideOn ∈ wB := inB (List.mem_of_getElem? (i := 293) (by decide +kernel)) rfl
theorem lk_L_123 : Cond.methodLink RL 123 yX3_count ∈ wB := inB (List.mem_of_getElem? (i := 294) (by decide +kernel)) rfl
theorem ins_X3_count : Cond.instanceMethod yX3_count ∈ wB := inB (List.mem_of_getElem? (i := 295) (by decide +kernel)) rfl
theorem sel_X3_count : Cond.selects RX3 yX3_count yX3_count ∈ wB := inB (List.mem_of_getElem? (i := 296) (by decide +kernel)) rfl
theorem cod_X3_count : Cond.code yX3_count cX3_count 2 (some .int) ∈ wB := inB (List.mem_of_getElem? (i := 297) (by decide +kernel)) rfl
theorem lk_X3_193 : Cond.methodLink RX3 193 yX2_today ∈ wB := inB (List.mem_of_getElem? (i := 298) (by decide +kernel)) rfl
theorem ins_X2_today : Cond.instanceMethod yX2_today ∈ wB := inB (List.mem_of_getElem? (i := 299) (by decide +kernel)) rfl
theorem sel_X2_today : Cond.selects RX2 yX2_today yX2_today ∈ wB := inB (List.mem_of_getElem? (i := 300) (by decide +kernel)) rfl
theorem cod_X2_today : Cond.code yX2_today cX2_today 1 (some .int) ∈ wB := inB (List.mem_of_getElem? (i := 301) (by decide +kernel)) rfl
theorem lk_X3_196 : Cond.methodLink RX3 196 yX2_liftsLeft ∈ wB := inB (List.mem_of_getElem? (i := 302) (by decide +kernel)) rfl
theorem ins_X2_liftsLeft : Cond.instanceMethod yX2_liftsLeft ∈ wB := inB (List.mem_of_getElem? (i := 303) (by decide +kernel)) rfl
theorem sel_X2_liftsLeft : Cond.selects RX2 yX2_liftsLeft yX2_liftsLeft ∈ wB := inB (List.mem_of_getElem? (i := 304) (by decide +kernel)) rfl
theorem cod_X2_liftsLeft : Cond.code yX2_liftsLeft cX2_liftsLeft 1 (some .int) ∈ wB := inB (List.mem_of_getElem? (i := 305) (by decide +kernel)) rfl
theorem lk_X3_199 : Cond.methodLink RX3 199 yX2_boatsAshore ∈ wB := inB (List.mem_of_getElem? (i := 306) (by decide +kernel)) rfl
theorem ins_X2_boatsAshore : Cond.instanceMethod yX2_boatsAshore ∈ wB := inB (List.mem_of_getElem? (i := 307) (by decide +kernel)) rfl
theorem sel_X2_boatsAshore : Cond.selects RX2 yX2_boatsAshore yX2_boatsAshore ∈ wB := inB (List.mem_of_getElem? (i := 308) (by decide +kernel)) rfl
theorem cod_X2_boatsAshore : Cond.code yX2_boatsAshore cX2_boatsAshore 1 (some .int) ∈ wB := inB (List.mem_of_getElem? (i := 309) (by decide +kernel)) rfl
theorem lk_X3_202 : Cond.methodLink RX3 202 yX2_boatsWithWork ∈ wB := inB (List.mem_of_getElem? (i := 310) (by decide +kernel)) rfl
theorem ins_X2_boatsWithWork : Cond.instanceMethod yX2_boatsWithWork ∈ wB := inB (List.mem_of_getElem? (i := 311) (by decide +kernel)) rfl
theorem sel_X2_boatsWithWork : Cond.selects RX2 yX2_boatsWithWork yX2_boatsWithWork ∈ wB := inB (List.mem_of_getElem? (i := 312) (by decide +kernel)) rfl
theorem cod_X2_boatsWithWork : Cond.code yX2_boatsWithWork cX2_boatsWithWork 3 (some .int) ∈ wB := inB (List.mem_of_getElem? (i := 313) (by decide +kernel)) rfl
theorem lk_X3_205 : Cond.methodLink RX3 205 yX2_liftsSoFar ∈ wB := inB (List.mem_of_getElem? (i := 314) (by decide +kernel)) rfl
theorem ins_X2_liftsSoFar : Cond.instanceMethod yX2_liftsSoFar ∈ wB := inB (List.mem_of_getElem? (i := 315) (by decide +kernel)) rfl
theorem sel_X2_liftsSoFar : Cond.selects RX2 yX2_liftsSoFar yX2_liftsSoFar ∈ wB := inB (List.mem_of_getElem? (i := 316) (by decide +kernel)) rfl
theorem cod_X2_liftsSoFar : Cond.code yX2_liftsSoFar cX2_liftsSoFar 1 (some .int) ∈ wB := inB (List.mem_of_getElem? (i := 317) (by decide +kernel)) rfl
theorem lk_X3_208 : Cond.methodLink RX3 208 yX2_launchesSoFar ∈ wB := inB (List.mem_of_getElem? (i := 318) (by decide +kernel)) rfl
theorem ins_X2_launchesSoFar : Cond.instanceMethod yX2_launchesSoFar ∈ wB := inB (List.mem_of_getElem? (i := 319) (by decide +kernel)) rfl
theorem sel_X2_launchesSoFar : Cond.selects RX2 yX2_launchesSoFar yX2_launchesSoFar ∈ wB := inB (List.mem_of_getElem? (i := 320) (by decide +kernel)) rfl
theorem cod_X2_launchesSoFar : Cond.code yX2_launchesSoFar cX2_launchesSoFar 1 (some .int) ∈ wB := inB (List.mem_of_getElem? (i := 321) (by decide +kernel)) rfl
theorem lk_X3_211 : Cond.methodLink RX3 211 yX2_mastsIn ∈ wB := inB (List.mem_of_getElem? (i := 322) (by decide +kernel)) rfl
theorem ins_X2_mastsIn : Cond.instanceMethod yX2_mastsIn ∈ wB := inB (List.mem_of_getElem? (i := 323) (by decide +kernel)) rfl
theorem sel_X2_mastsIn : Cond.selects RX2 yX2_mastsIn yX2_mastsIn ∈ wB := inB (List.mem_of_getElem? (i := 324) (by decide +kernel)) rfl
theorem cod_X2_mastsIn : Cond.code yX2_mastsIn cX2_mastsIn 2 (some .int) ∈ wB := inB (List.mem_of_getElem? (i := 325) (by decide +kernel)) rfl
theorem lk_X3_214 : Cond.methodLink RX3 214 yX2_setting ∈ wB := inB (List.mem_of_getElem? (i := 326) (by decide +kernel)) rfl
theorem ins_X2_setting : Cond.instanceMethod yX2_setting ∈ wB := inB (List.mem_of_getElem? (i := 327) (by decide +kernel)) rfl
theorem sel_X2_setting : Cond.selects RX2 yX2_setting yX2_setting ∈ wB := inB (List.mem_of_getElem? (i := 328) (by decide +kernel)) rfl
theorem cod_X2_setting : Cond.code yX2_setting cX2_setting 2 (some .int) ∈ wB := inB (List.mem_of_getElem? (i := 329) (by decide +kernel)) rfl
theorem lk_X2_132 : Cond.methodLink RX2 132 yX2_isSetting ∈ wB := inB (List.mem_of_getElem? (i := 330) (by decide +kernel)) rfl
theorem stc_X2_isSetting : Cond.static yX2_isSetting ∈ wB := inB (List.mem_of_getElem? (i := 331) (by decide +kernel)) rfl
theorem cod_X2_isSetting : Cond.code yX2_isSetting cX2_isSetting 1 (some .boolean) ∈ wB := inB (List.mem_of_getElem? (i := 332) (by decide +kernel)) rfl
theorem lk_X3_217 : Cond.methodLink RX3 217 yX0_states ∈ wB := inB (List.mem_of_getElem? (i := 333) (by decide +kernel)) rfl
theorem ins_X0_states : Cond.instanceMethod yX0_states ∈ wB := inB (List.mem_of_getElem? (i := 334) (by decide +kernel)) rfl
theorem sel_X0_states : Cond.selects RX0 yX0_states yX0_states ∈ wB := inB (List.mem_of_getElem? (i := 335) (by decide +kernel)) rfl
theorem cod_X0_states : Cond.code yX0_states cX0_states 1 (some .int) ∈ wB := inB (List.mem_of_getElem? (i := 336) (by decide +kernel)) rfl
theorem lk_X3_220 : Cond.methodLink RX3 220 yX1_length ∈ wB := inB (List.mem_of_getElem? (i := 337) (by decide +kernel)) rfl
theorem ins_X1_length : Cond.instanceMethod yX1_length ∈ wB := inB (List.mem_of_getElem? (i := 338) (by decide +kernel)) rfl
theorem sel_X1_length : Cond.selects RX1 yX1_length yX1_length ∈ wB := inB (List.mem_of_getElem? (i := 339) (by decide +kernel)) rfl
theorem cod_X1_length : Cond.code yX1_length cX1_length 1 (some .int) ∈ wB := inB (List.mem_of_getElem? (i := 340) (by decide +kernel)) rfl
theorem lk_L_146 : Cond.methodLink RL 146 yL_cell ∈ wB := inB (List.mem_of_getElem? (i := 341) (by decide +kernel)) rfl
theorem stc_L_cell : Cond.static yL_cell ∈ wB := inB (List.mem_of_getElem? (i := 342) (by decide +kernel)) rfl
theorem cod_L_cell : Cond.code yL_cell cL_cell 2 (some .int) ∈ wB := inB (List.mem_of_getElem? (i := 343) (by decide +kernel)) rfl
theorem con_L_7 : Cond.constant RL 7 (1291169091 : Int32) ∈ wB := inB (List.mem_of_getElem? (i := 344) (by decide +kernel)) rfl
theorem lk_L_41 : Cond.methodLink RL 41 yL_low ∈ wB := inB (List.mem_of_getElem? (i := 345) (by decide +kernel)) rfl
theorem stc_L_low : Cond.static yL_low ∈ wB := inB (List.mem_of_getElem? (i := 346) (by decide +kernel)) rfl
theorem cod_L_low : Cond.code yL_low cL_low 2 (some .int) ∈ wB := inB (List.mem_of_getElem? (i := 347) (by decide +kernel)) rfl
theorem con_L_8 : Cond.constant RL 8 (2147483647 : Int32) ∈ wB := inB (List.mem_of_getElem? (i := 348) (by decide +kernel)) rfl
theorem lk_L_150 : Cond.methodLink RL 150 yL_yard ∈ wB := inB (List.mem_of_getElem? (i := 349) (by decide +kernel)) rfl
theorem stc_L_yard : Cond.static yL_yard ∈ wB := inB (List.mem_of_getElem? (i := 350) (by decide +kernel)) rfl
set_option maxRecDepth 100000 in
theorem cod_L_yard : Cond.code yL_yard cL_yard 12 (some .boolean) ∈ wB := inB (List.mem_of_getElem? (i := 351) rfl) rfl
theorem lk_L_9 : Cond.methodLink RL 9 yL_of ∈ wB := inB (List.mem_of_getElem? (i := 352) (by decide +kernel)) rfl
theorem stc_L_of : Cond.static yL_of ∈ wB := inB (List.mem_of_getElem? (i := 353) (by decide +kernel)) rfl
theorem cod_L_of : Cond.code yL_of cL_of 3 (some .int) ∈ wB := inB (List.mem_of_getElem? (i := 354) (by decide +kernel)) rfl
theorem lk_L_45 : Cond.methodLink RL 45 yX3_come ∈ wB := inB (List.mem_of_getElem? (i := 355) (by decide +kernel)) rfl
theorem ins_X3_come : Cond.instanceMethod yX3_come ∈ wB := inB (List.mem_of_getElem? (i := 356) (by decide +kernel)) rfl
theorem sel_X3_come : Cond.selects RX3 yX3_come yX3_come ∈ wB := inB (List.mem_of_getElem? (i := 357) (by decide +kernel)) rfl
theorem cod_X3_come : Cond.code yX3_come cX3_come 5 (some .int) ∈ wB := inB (List.mem_of_getElem? (i := 358) (by decide +kernel)) rfl
theorem lk_X3_48 : Cond.methodLink RX3 48 yX2_addBoat ∈ wB := inB (List.mem_of_getElem? (i := 359) (by decide +kernel)) rfl
theorem ins_X2_addBoat : Cond.instanceMethod yX2_addBoat ∈ wB := inB (List.mem_of_getElem? (i := 360) (by decide +kernel)) rfl
theorem sel_X2_addBoat : Cond.selects RX2 yX2_addBoat yX2_addBoat ∈ wB := inB (List.mem_of_getElem? (i := 361) (by decide +kernel)) rfl
theorem cod_X2_addBoat : Cond.code yX2_addBoat cX2_addBoat 6 (some .int) ∈ wB := inB (List.mem_of_getElem? (i := 362) (by decide +kernel)) rfl
theorem lk_X2_70 : Cond.methodLink RX2 70 yX2_lowestFreeNumber ∈ wB := inB (List.mem_of_getElem? (i := 363) (by decide +kernel)) rfl
theorem ins_X2_lowestFreeNumber : Cond.instanceMethod yX2_lowestFreeNumber ∈ wB := inB (List.mem_of_getElem? (i := 365) (by decide +kernel)) rfl
theorem cod_X2_lowestFreeNumber : Cond.code yX2_lowestFreeNumber cX2_lowestFreeNumber 2 (some .int) ∈ wB := inB (List.mem_of_getElem? (i := 366) (by decide +kernel)) rfl
theorem lk_X2_77 : Cond.methodLink RX2 77 yX2_knows ∈ wB := inB (List.mem_of_getElem? (i := 367) (by decide +kernel)) rfl
theorem lk_X2_74 : Cond.methodLink RX2 74 yX2_noteAfloat ∈ wB := inB (List.mem_of_getElem? (i := 368) (by decide +kernel)) rfl
theorem ins_X2_noteAfloat : Cond.instanceMethod yX2_noteAfloat ∈ wB := inB (List.mem_of_getElem? (i := 370) (by decide +kernel)) rfl
theorem cod_X2_noteAfloat : Cond.code yX2_noteAfloat cX2_noteAfloat 2 none ∈ wB := inB (List.mem_of_getElem? (i := 371) (by decide +kernel)) rfl
theorem lk_L_51 : Cond.methodLink RL 51 yX3_goAway ∈ wB := inB (List.mem_of_getElem? (i := 372) (by decide +kernel)) rfl
theorem ins_X3_goAway : Cond.instanceMethod yX3_goAway ∈ wB := inB (List.mem_of_getElem? (i := 373) (by decide +kernel)) rfl
theorem sel_X3_goAway : Cond.selects RX3 yX3_goAway yX3_goAway ∈ wB := inB (List.mem_of_getElem? (i := 374) (by decide +kernel)) rfl
theorem cod_X3_goAway : Cond.code yX3_goAway cX3_goAway 2 (some .int) ∈ wB := inB (List.mem_of_getElem? (i := 375) (by decide +kernel)) rfl
theorem lk_X3_56 : Cond.methodLink RX3 56 yX2_removeBoat ∈ wB := inB (List.mem_of_getElem? (i := 376) (by decide +kernel)) rfl
theorem ins_X2_removeBoat : Cond.instanceMethod yX2_removeBoat ∈ wB := inB (List.mem_of_getElem? (i := 377) (by decide +kernel)) rfl
theorem sel_X2_removeBoat : Cond.selects RX2 yX2_removeBoat yX2_removeBoat ∈ wB := inB (List.mem_of_getElem? (i := 378) (by decide +kernel)) rfl
theorem cod_X2_removeBoat : Cond.code yX2_removeBoat cX2_removeBoat 2 (some .int) ∈ wB := inB (List.mem_of_getElem? (i := 379) (by decide +kernel)) rfl
theorem lk_X2_83 : Cond.methodLink RX2 83 yX2_hasMast ∈ wB := inB (List.mem_of_getElem? (i := 380) (by decide +kernel)) rfl
theorem ins_X2_hasMast : Cond.instanceMethod yX2_hasMast ∈ wB := inB (List.mem_of_getElem? (i := 382) (by decide +kernel)) rfl
theorem cod_X2_hasMast : Cond.code yX2_hasMast cX2_hasMast 2 (some .boolean) ∈ wB := inB (List.mem_of_getElem? (i := 383) (by decide +kernel)) rfl
theorem lk_X2_86 : Cond.methodLink RX2 86 yX2_boats ∈ wB := inB (List.mem_of_getElem? (i := 384) (by decide +kernel)) rfl
theorem lk_L_15 : Cond.methodLink RL 15 yL_taken ∈ wB := inB (List.mem_of_getElem? (i := 385) (by decide +kernel)) rfl
theorem stc_L_taken : Cond.static yL_taken ∈ wB := inB (List.mem_of_getElem? (i := 386) (by decide +kernel)) rfl
theorem cod_L_taken : Cond.code yL_taken cL_taken 4 (some .int) ∈ wB := inB (List.mem_of_getElem? (i := 387) (by decide +kernel)) rfl
theorem lk_L_54 : Cond.methodLink RL 54 yX3_setCradles ∈ wB := inB (List.mem_of_getElem? (i := 388) (by decide +kernel)) rfl
theorem ins_X3_setCradles : Cond.instanceMethod yX3_setCradles ∈ wB := inB (List.mem_of_getElem? (i := 389) (by decide +kernel)) rfl
theorem sel_X3_setCradles : Cond.selects RX3 yX3_setCradles yX3_setCradles ∈ wB := inB (List.mem_of_getElem? (i := 390) (by decide +kernel)) rfl
theorem cod_X3_setCradles : Cond.code yX3_setCradles cX3_setCradles 3 (some .int) ∈ wB := inB (List.mem_of_getElem? (i := 391) (by decide +kernel)) rfl
theorem lk_X3_59 : Cond.methodLink RX3 59 yX2_changeCradles ∈ wB := inB (List.mem_of_getElem? (i := 392) (by decide +kernel)) rfl
theorem ins_X2_changeCradles : Cond.instanceMethod yX2_changeCradles ∈ wB := inB (List.mem_of_getElem? (i := 393) (by decide +kernel)) rfl
theorem sel_X2_changeCradles : Cond.selects RX2 yX2_changeCradles yX2_changeCradles ∈ wB := inB (List.mem_of_getElem? (i := 394) (by decide +kernel)) rfl
theorem cod_X2_changeCradles : Cond.code yX2_changeCradles cX2_changeCradles 4 (some .int) ∈ wB := inB (List.mem_of_getElem? (i := 395) (by decide +kernel)) rfl
theorem lk_X2_95 : Cond.methodLink RX2 95 yX2_cradlesTaken ∈ wB := inB (List.mem_of_getElem? (i := 396) (by decide +kernel)) rfl
theorem lk_L_30 : Cond.methodLink RL 30 yL_room ∈ wB := inB (List.mem_of_getElem? (i := 397) (by decide +kernel)) rfl
theorem stc_L_room : Cond.static yL_room ∈ wB := inB (List.mem_of_getElem? (i := 398) (by decide +kernel)) rfl
theorem cod_L_room : Cond.code yL_room cL_room 6 (some .int) ∈ wB := inB (List.mem_of_getElem? (i := 399) (by decide +kernel)) rfl
theorem lk_L_57 : Cond.methodLink RL 57 yX3_setRow ∈ wB := inB (List.mem_of_getElem? (i := 400) (by decide +kernel)) rfl
theorem ins_X3_setRow : Cond.instanceMethod yX3_setRow ∈ wB := inB (List.mem_of_getElem? (i := 401) (by decide +kernel)) rfl
theorem sel_X3_setRow : Cond.selects RX3 yX3_setRow yX3_setRow ∈ wB := inB (List.mem_of_getElem? (i := 402) (by decide +kernel)) rfl
theorem cod_X3_setRow : Cond.code yX3_setRow cX3_setRow 3 (some .int) ∈ wB := inB (List.mem_of_getElem? (i := 403) (by decide +kernel)) rfl
theorem lk_X3_63 : Cond.methodLink RX3 63 yX2_changeRow ∈ wB := inB (List.mem_of_getElem? (i := 404) (by decide +kernel)) rfl
theorem ins_X2_changeRow : Cond.instanceMethod yX2_changeRow ∈ wB := inB (List.mem_of_getElem? (i := 405) (by decide +kernel)) rfl
theorem sel_X2_changeRow : Cond.selects RX2 yX2_changeRow yX2_changeRow ∈ wB := inB (List.mem_of_getElem? (i := 406) (by decide +kernel)) rfl
theorem cod_X2_changeRow : Cond.code yX2_changeRow cX2_changeRow 4 (some .int) ∈ wB := inB (List.mem_of_getElem? (i := 407) (by decide +kernel)) rfl
theorem lk_X2_117 : Cond.methodLink RX2 117 yX2_metresTaken ∈ wB := inB (List.mem_of_getElem? (i := 408) (by decide +kernel)) rfl
theorem lk_L_60 : Cond.methodLink RL 60 yX3_set ∈ wB := inB (List.mem_of_getElem? (i := 409) (by decide +kernel)) rfl
theorem ins_X3_set : Cond.instanceMethod yX3_set ∈ wB := inB (List.mem_of_getElem? (i := 410) (by decide +kernel)) rfl
theorem sel_X3_set : Cond.selects RX3 yX3_set yX3_set ∈ wB := inB (List.mem_of_getElem? (i := 411) (by decide +kernel)) rfl
theorem cod_X3_set : Cond.code yX3_set cX3_set 3 (some .int) ∈ wB := inB (List.mem_of_getElem? (i := 412) (by decide +kernel)) rfl
theorem lk_X3_66 : Cond.methodLink RX3 66 yX2_changeSetting ∈ wB := inB (List.mem_of_getElem? (i := 413) (by decide +kernel)) rfl
theorem ins_X2_changeSetting : Cond.instanceMethod yX2_changeSetting ∈ wB := inB (List.mem_of_getElem? (i := 414) (by decide +kernel)) rfl
theorem sel_X2_changeSetting : Cond.selects RX2 yX2_changeSetting yX2_changeSetting ∈ wB := inB (List.mem_of_getElem? (i := 415) (by decide +kernel)) rfl
theorem cod_X2_changeSetting : Cond.code yX2_changeSetting cX2_changeSetting 4 (some .int) ∈ wB := inB (List.mem_of_getElem? (i := 416) (by decide +kernel)) rfl
theorem fl_X2_135 : Cond.fieldLink RX2 135 "WinterYard$Yard" "LEAST_SETTING" "[I" ∈ wB := inB (List.mem_of_getElem? (i := 417) (by decide +kernel)) rfl
theorem lst_LEAST_SETTING : Cond.laysStatic RX2 "LEAST_SETTING" "[I" ∈ lw_tbl := List.mem_of_getElem? (i := 418) (by decide +kernel)
theorem fl_X2_138 : Cond.fieldLink RX2 138 "WinterYard$Yard" "GREATEST_SETTING" "[I" ∈ wB := inB (List.mem_of_getElem? (i := 419) (by decide +kernel)) rfl
theorem lst_GREATEST_SETTING : Cond.laysStatic RX2 "GREATEST_SETTING" "[I" ∈ lw_tbl := List.mem_of_getElem? (i := 420) (by decide +kernel)
theorem lk_L_23 : Cond.methodLink RL 23 yL_tide ∈ wB := inB (List.mem_of_getElem? (i := 421) (by decide +kernel)) rfl
theorem stc_L_tide : Cond.static yL_tide ∈ wB := inB (List.mem_of_getElem? (i := 422) (by decide +kernel)) rfl
theorem cod_L_tide : Cond.code yL_tide cL_tide 3 (some .int) ∈ wB := inB (List.mem_of_getElem? (i := 423) (by decide +kernel)) rfl
theorem lk_L_154 : Cond.methodLink RL 154 yL_boats ∈ wB := inB (List.mem_of_getElem? (i := 424) (by decide +kernel)) rfl
theorem stc_L_boats : Cond.static yL_boats ∈ wB := inB (List.mem_of_getElem? (i := 425) (by decide +kernel)) rfl
set_option maxRecDepth 100000 in
theorem cod_L_boats : Cond.code yL_boats cL_boats 13 (some .boolean) ∈ wB := inB (List.mem_of_getElem? (i := 426) rfl) rfl
theorem lk_L_66 : Cond.methodLink RL 66 yX3_lift ∈ wB := inB (List.mem_of_getElem? (i := 427) (by decide +kernel)) rfl
theorem ins_X3_lift : Cond.instanceMethod yX3_lift ∈ wB := inB (List.mem_of_getElem? (i := 428) (by decide +kernel)) rfl
theorem sel_X3_lift : Cond.selects RX3 yX3_lift yX3_lift ∈ wB := inB (List.mem_of_getElem? (i := 429) (by decide +kernel)) rfl
theorem cod_X3_lift : Cond.code yX3_lift cX3_lift 3 (some .int) ∈ wB := inB (List.mem_of_getElem? (i := 430) (by decide +kernel)) rfl
theorem lk_X3_69 : Cond.methodLink RX3 69 yX2_liftInto ∈ wB := inB (List.mem_of_getElem? (i := 431) (by decide +kernel)) rfl
theorem ins_X2_liftInto : Cond.instanceMethod yX2_liftInto ∈ wB := inB (List.mem_of_getElem? (i := 432) (by decide +kernel)) rfl
theorem sel_X2_liftInto : Cond.selects RX2 yX2_liftInto yX2_liftInto ∈ wB := inB (List.mem_of_getElem? (i := 433) (by decide +kernel)) rfl
theorem cod_X2_liftInto : Cond.code yX2_liftInto cX2_liftInto 4 (some .int) ∈ wB := inB (List.mem_of_getElem? (i := 434) (by decide +kernel)) rfl
theorem lk_X2_161 : Cond.methodLink RX2 161 yX2_whyNoLift ∈ wB := inB (List.mem_of_getElem? (i := 435) (by decide +kernel)) rfl
theorem ins_X2_whyNoLift : Cond.instanceMethod yX2_whyNoLift ∈ wB := inB (List.mem_of_getElem? (i := 436) (by decide +kernel)) rfl
theorem sel_X2_whyNoLift : Cond.selects RX2 yX2_whyNoLift yX2_whyNoLift ∈ wB := inB (List.mem_of_getElem? (i := 437) (by decide +kernel)) rfl
theorem cod_X2_whyNoLift : Cond.code yX2_whyNoLift cX2_whyNoLift 3 (some .int) ∈ wB := inB (List.mem_of_getElem? (i := 438) (by decide +kernel)) rfl
theorem lk_X2_149 : Cond.methodLink RX2 149 yX2_isDeepEnough ∈ wB := inB (List.mem_of_getElem? (i := 439) (by decide +kernel)) rfl
theorem ins_X2_isDeepEnough : Cond.instanceMethod yX2_isDeepEnough ∈ wB := inB (List.mem_of_getElem? (i := 441) (by decide +kernel)) rfl
theorem cod_X2_isDeepEnough : Cond.code yX2_isDeepEnough cX2_isDeepEnough 3 (some .boolean) ∈ wB := inB (List.mem_of_getElem? (i := 442) (by decide +kernel)) rfl
theorem lk_X2_152 : Cond.methodLink RX2 152 yX2_craneBears ∈ wB := inB (List.mem_of_getElem? (i := 443) (by decide +kernel)) rfl
theorem ins_X2_craneBears : Cond.instanceMethod yX2_craneBears ∈ wB := inB (List.mem_of_getElem? (i := 445) (by decide +kernel)) rfl
theorem cod_X2_craneBears : Cond.code yX2_craneBears cX2_craneBears 2 (some .boolean) ∈ wB := inB (List.mem_of_getElem? (i := 446) (by decide +kernel)) rfl
theorem lk_X2_155 : Cond.methodLink RX2 155 yX2_cradleFor ∈ wB := inB (List.mem_of_getElem? (i := 447) (by decide +kernel)) rfl
theorem ins_X2_cradleFor : Cond.instanceMethod yX2_cradleFor ∈ wB := inB (List.mem_of_getElem? (i := 449) (by decide +kernel)) rfl
theorem cod_X2_cradleFor : Cond.code yX2_cradleFor cX2_cradleFor 5 (some .int) ∈ wB := inB (List.mem_of_getElem? (i := 450) (by decide +kernel)) rfl
theorem lk_X2_102 : Cond.methodLink RX2 102 yX2_hasFreeCradle ∈ wB := inB (List.mem_of_getElem? (i := 451) (by decide +kernel)) rfl
theorem ins_X2_hasFreeCradle : Cond.instanceMethod yX2_hasFreeCradle ∈ wB := inB (List.mem_of_getElem? (i := 453) (by decide +kernel)) rfl
theorem cod_X2_hasFreeCradle : Cond.code yX2_hasFreeCradle cX2_hasFreeCradle 2 (some .boolean) ∈ wB := inB (List.mem_of_getElem? (i := 454) (by decide +kernel)) rfl
theorem lk_X2_99 : Cond.methodLink RX2 99 yX2_cradlesOf ∈ wB := inB (List.mem_of_getElem? (i := 455) (by decide +kernel)) rfl
theorem lk_X2_105 : Cond.methodLink RX2 105 yX2_bears ∈ wB := inB (List.mem_of_getElem? (i := 456) (by decide +kernel)) rfl
theorem lk_X2_108 : Cond.methodLink RX2 108 yX2_otherKindFor ∈ wB := inB (List.mem_of_getElem? (i := 457) (by decide +kernel)) rfl
theorem stc_X2_otherKindFor : Cond.static yX2_otherKindFor ∈ wB := inB (List.mem_of_getElem? (i := 458) (by decide +kernel)) rfl
theorem cod_X2_otherKindFor : Cond.code yX2_otherKindFor cX2_otherKindFor 1 (some .int) ∈ wB := inB (List.mem_of_getElem? (i := 459) (by decide +kernel)) rfl
theorem lk_X2_129 : Cond.methodLink RX2 129 yX2_hasRoom ∈ wB := inB (List.mem_of_getElem? (i := 460) (by decide +kernel)) rfl
theorem ins_X2_hasRoom : Cond.instanceMethod yX2_hasRoom ∈ wB := inB (List.mem_of_getElem? (i := 462) (by decide +kernel)) rfl
theorem cod_X2_hasRoom : Cond.code yX2_hasRoom cX2_hasRoom 3 (some .boolean) ∈ wB := inB (List.mem_of_getElem? (i := 463) (by decide +kernel)) rfl
theorem lk_X2_120 : Cond.methodLink RX2 120 yX2_metresLeft ∈ wB := inB (List.mem_of_getElem? (i := 464) (by decide +kernel)) rfl
theorem ins_X2_metresLeft : Cond.instanceMethod yX2_metresLeft ∈ wB := inB (List.mem_of_getElem? (i := 466) (by decide +kernel)) rfl
theorem cod_X2_metresLeft : Cond.code yX2_metresLeft cX2_metresLeft 2 (some .int) ∈ wB := inB (List.mem_of_getElem? (i := 467) (by decide +kernel)) rfl
theorem lk_X2_114 : Cond.methodLink RX2 114 yX2_metresOf ∈ wB := inB (List.mem_of_getElem? (i := 468) (by decide +kernel)) rfl
theorem lk_X2_158 : Cond.methodLink RX2 158 yX2_liftsLeft ∈ wB := inB (List.mem_of_getElem? (i := 469) (by decide +kernel)) rfl
theorem lk_X2_164 : Cond.methodLink RX2 164 yX2_putAtOuterEnd ∈ wB := inB (List.mem_of_getElem? (i := 470) (by decide +kernel)) rfl
theorem ins_X2_putAtOuterEnd : Cond.instanceMethod yX2_putAtOuterEnd ∈ wB := inB (List.mem_of_getElem? (i := 472) (by decide +kernel)) rfl
theorem cod_X2_putAtOuterEnd : Cond.code yX2_putAtOuterEnd cX2_putAtOuterEnd 3 none ∈ wB := inB (List.mem_of_getElem? (i := 473) (by decide +kernel)) rfl
theorem lk_X2_126 : Cond.methodLink RX2 126 yX2_boatsIn ∈ wB := inB (List.mem_of_getElem? (i := 474) (by decide +kernel)) rfl
theorem lk_X2_168 : Cond.methodLink RX2 168 yX2_takeLift ∈ wB := inB (List.mem_of_getElem? (i := 475) (by decide +kernel)) rfl
theorem ins_X2_takeLift : Cond.instanceMethod yX2_takeLift ∈ wB := inB (List.mem_of_getElem? (i := 477) (by decide +kernel)) rfl
theorem cod_X2_takeLift : Cond.code yX2_takeLift cX2_takeLift 1 none ∈ wB := inB (List.mem_of_getElem? (i := 478) (by decide +kernel)) rfl
theorem lk_L_69 : Cond.methodLink RL 69 yX3_launch ∈ wB := inB (List.mem_of_getElem? (i := 479) (by decide +kernel)) rfl
theorem ins_X3_launch : Cond.instanceMethod yX3_launch ∈ wB := inB (List.mem_of_getElem? (i := 480) (by decide +kernel)) rfl
theorem sel_X3_launch : Cond.selects RX3 yX3_launch yX3_launch ∈ wB := inB (List.mem_of_getElem? (i := 481) (by decide +kernel)) rfl
theorem cod_X3_launch : Cond.code yX3_launch cX3_launch 2 (some .int) ∈ wB := inB (List.mem_of_getElem? (i := 482) (by decide +kernel)) rfl
theorem lk_X3_72 : Cond.methodLink RX3 72 yX2_putAfloat ∈ wB := inB (List.mem_of_getElem? (i := 483) (by decide +kernel)) rfl
theorem ins_X2_putAfloat : Cond.instanceMethod yX2_putAfloat ∈ wB := inB (List.mem_of_getElem? (i := 484) (by decide +kernel)) rfl
theorem sel_X2_putAfloat : Cond.selects RX2 yX2_putAfloat yX2_putAfloat ∈ wB := inB (List.mem_of_getElem? (i := 485) (by decide +kernel)) rfl
theorem cod_X2_putAfloat : Cond.code yX2_putAfloat cX2_putAfloat 4 (some .int) ∈ wB := inB (List.mem_of_getElem? (i := 486) (by decide +kernel)) rfl
theorem lk_X2_174 : Cond.methodLink RX2 174 yX2_whyNoLaunch ∈ wB := inB (List.mem_of_getElem? (i := 487) (by decide +kernel)) rfl
theorem ins_X2_whyNoLaunch : Cond.instanceMethod yX2_whyNoLaunch ∈ wB := inB (List.mem_of_getElem? (i := 488) (by decide +kernel)) rfl
theorem sel_X2_whyNoLaunch : Cond.selects RX2 yX2_whyNoLaunch yX2_whyNoLaunch ∈ wB := inB (List.mem_of_getElem? (i := 489) (by decide +kernel)) rfl
theorem cod_X2_whyNoLaunch : Cond.code yX2_whyNoLaunch cX2_whyNoLaunch 2 (some .int) ∈ wB := inB (List.mem_of_getElem? (i := 490) (by decide +kernel)) rfl
theorem lk_X2_171 : Cond.methodLink RX2 171 yX2_boatsFartherOut ∈ wB := inB (List.mem_of_getElem? (i := 491) (by decide +kernel)) rfl
theorem ins_X2_boatsFartherOut : Cond.instanceMethod yX2_boatsFartherOut ∈ wB := inB (List.mem_of_getElem? (i := 492) (by decide +kernel)) rfl
theorem sel_X2_boatsFartherOut : Cond.selects RX2 yX2_boatsFartherOut yX2_boatsFartherOut ∈ wB := inB (List.mem_of_getElem? (i := 493) (by decide +kernel)) rfl
theorem cod_X2_boatsFartherOut : Cond.code yX2_boatsFartherOut cX2_boatsFartherOut 2 (some .int) ∈ wB := inB (List.mem_of_getElem? (i := 494) (by decide +kernel)) rfl
theorem lk_L_72 : Cond.methodLink RL 72 yX3_mast ∈ wB := inB (List.mem_of_getElem? (i := 495) (by decide +kernel)) rfl
theorem ins_X3_mast : Cond.instanceMethod yX3_mast ∈ wB := inB (List.mem_of_getElem? (i := 496) (by decide +kernel)) rfl
theorem sel_X3_mast : Cond.selects RX3 yX3_mast yX3_mast ∈ wB := inB (List.mem_of_getElem? (i := 497) (by decide +kernel)) rfl
theorem cod_X3_mast : Cond.code yX3_mast cX3_mast 3 (some .int) ∈ wB := inB (List.mem_of_getElem? (i := 498) (by decide +kernel)) rfl
theorem lk_X3_78 : Cond.methodLink RX3 78 yX2_putMastUp ∈ wB := inB (List.mem_of_getElem? (i := 499) (by decide +kernel)) rfl
theorem ins_X2_putMastUp : Cond.instanceMethod yX2_putMastUp ∈ wB := inB (List.mem_of_getElem? (i := 500) (by decide +kernel)) rfl
theorem sel_X2_putMastUp : Cond.selects RX2 yX2_putMastUp yX2_putMastUp ∈ wB := inB (List.mem_of_getElem? (i := 501) (by decide +kernel)) rfl
theorem cod_X2_putMastUp : Cond.code yX2_putMastUp cX2_putMastUp 3 (some .int) ∈ wB := inB (List.mem_of_getElem? (i := 502) (by decide +kernel)) rfl
theorem lk_X3_81 : Cond.methodLink RX3 81 yX2_takeMastOff ∈ wB := inB (List.mem_of_getElem? (i := 503) (by decide +kernel)) rfl
theorem ins_X2_takeMastOff : Cond.instanceMethod yX2_takeMastOff ∈ wB := inB (List.mem_of_getElem? (i := 504) (by decide +kernel)) rfl
theorem sel_X2_takeMastOff : Cond.selects RX2 yX2_takeMastOff yX2_takeMastOff ∈ wB := inB (List.mem_of_getElem? (i := 505) (by decide +kernel)) rfl
theorem cod_X2_takeMastOff : Cond.code yX2_takeMastOff cX2_takeMastOff 3 (some .int) ∈ wB := inB (List.mem_of_getElem? (i := 506) (by decide +kernel)) rfl
theorem lk_X2_180 : Cond.methodLink RX2 180 yX2_rackFor ∈ wB := inB (List.mem_of_getElem? (i := 507) (by decide +kernel)) rfl
theorem ins_X2_rackFor : Cond.instanceMethod yX2_rackFor ∈ wB := inB (List.mem_of_getElem? (i := 509) (by decide +kernel)) rfl
theorem cod_X2_rackFor : Cond.code yX2_rackFor cX2_rackFor 3 (some .int) ∈ wB := inB (List.mem_of_getElem? (i := 510) (by decide +kernel)) rfl
theorem lk_X2_177 : Cond.methodLink RX2 177 yX2_mastsIn ∈ wB := inB (List.mem_of_getElem? (i := 511) (by decide +kernel)) rfl
theorem lk_L_76 : Cond.methodLink RL 76 yX3_work ∈ wB := inB (List.mem_of_getElem? (i := 512) (by decide +kernel)) rfl
theorem ins_X3_work : Cond.instanceMethod yX3_work ∈ wB := inB (List.mem_of_getElem? (i := 513) (by decide +kernel)) rfl
theorem sel_X3_work : Cond.selects RX3 yX3_work yX3_work ∈ wB := inB (List.mem_of_getElem? (i := 514) (by decide +kernel)) rfl
theorem cod_X3_work : Cond.code yX3_work cX3_work 3 (some .int) ∈ wB := inB (List.mem_of_getElem? (i := 515) (by decide +kernel)) rfl
theorem lk_X3_84 : Cond.methodLink RX3 84 yX2_orderWork ∈ wB := inB (List.mem_of_getElem? (i := 516) (by decide +kernel)) rfl
theorem ins_X2_orderWork : Cond.instanceMethod yX2_orderWork ∈ wB := inB (List.mem_of_getElem? (i := 517) (by decide +kernel)) rfl
theorem sel_X2_orderWork : Cond.selects RX2 yX2_orderWork yX2_orderWork ∈ wB := inB (List.mem_of_getElem? (i := 518) (by decide +kernel)) rfl
theorem cod_X2_orderWork : Cond.code yX2_orderWork cX2_orderWork 4 (some .int) ∈ wB := inB (List.mem_of_getElem? (i := 519) (by decide +kernel)) rfl
theorem lk_L_79 : Cond.methodLink RL 79 yX3_move ∈ wB := inB (List.mem_of_getElem? (i := 520) (by decide +kernel)) rfl
theorem ins_X3_move : Cond.instanceMethod yX3_move ∈ wB := inB (List.mem_of_getElem? (i := 521) (by decide +kernel)) rfl
theorem sel_X3_move : Cond.selects RX3 yX3_move yX3_move ∈ wB := inB (List.mem_of_getElem? (i := 522) (by decide +kernel)) rfl
theorem cod_X3_move : Cond.code yX3_move cX3_move 3 (some .int) ∈ wB := inB (List.mem_of_getElem? (i := 523) (by decide +kernel)) rfl
theorem lk_X3_75 : Cond.methodLink RX3 75 yX2_moveTo ∈ wB := inB (List.mem_of_getElem? (i := 524) (by decide +kernel)) rfl
theorem ins_X2_moveTo : Cond.instanceMethod yX2_moveTo ∈ wB := inB (List.mem_of_getElem? (i := 525) (by decide +kernel)) rfl
theorem sel_X2_moveTo : Cond.selects RX2 yX2_moveTo yX2_moveTo ∈ wB := inB (List.mem_of_getElem? (i := 526) (by decide +kernel)) rfl
theorem cod_X2_moveTo : Cond.code yX2_moveTo cX2_moveTo 3 (some .int) ∈ wB := inB (List.mem_of_getElem? (i := 527) (by decide +kernel)) rfl
theorem lk_L_82 : Cond.methodLink RL 82 yL_liftReason ∈ wB := inB (List.mem_of_getElem? (i := 528) (by decide +kernel)) rfl
theorem stc_L_liftReason : Cond.static yL_liftReason ∈ wB := inB (List.mem_of_getElem? (i := 529) (by decide +kernel)) rfl
theorem cod_L_liftReason : Cond.code yL_liftReason cL_liftReason 5 (some .int) ∈ wB := inB (List.mem_of_getElem? (i := 530) (by decide +kernel)) rfl
theorem lk_L_26 : Cond.methodLink RL 26 yL_cradle ∈ wB := inB (List.mem_of_getElem? (i := 531) (by decide +kernel)) rfl
theorem stc_L_cradle : Cond.static yL_cradle ∈ wB := inB (List.mem_of_getElem? (i := 532) (by decide +kernel)) rfl
theorem cod_L_cradle : Cond.code yL_cradle cL_cradle 5 (some .int) ∈ wB := inB (List.mem_of_getElem? (i := 533) (by decide +kernel)) rfl
theorem lk_L_19 : Cond.methodLink RL 19 yL_bears ∈ wB := inB (List.mem_of_getElem? (i := 534) (by decide +kernel)) rfl
theorem stc_L_bears : Cond.static yL_bears ∈ wB := inB (List.mem_of_getElem? (i := 535) (by decide +kernel)) rfl
theorem cod_L_bears : Cond.code yL_bears cL_bears 1 (some .int) ∈ wB := inB (List.mem_of_getElem? (i := 536) (by decide +kernel)) rfl
theorem lk_L_34 : Cond.methodLink RL 34 yL_left ∈ wB := inB (List.mem_of_getElem? (i := 537) (by decide +kernel)) rfl
theorem stc_L_left : Cond.static yL_left ∈ wB := inB (List.mem_of_getElem? (i := 538) (by decide +kernel)) rfl
theorem cod_L_left : Cond.code yL_left cL_left 1 (some .int) ∈ wB := inB (List.mem_of_getElem? (i := 539) (by decide +kernel)) rfl
theorem lk_L_86 : Cond.methodLink RL 86 yL_stand ∈ wB := inB (List.mem_of_getElem? (i := 540) (by decide +kernel)) rfl
theorem stc_L_stand : Cond.static yL_stand ∈ wB := inB (List.mem_of_getElem? (i := 541) (by decide +kernel)) rfl
theorem cod_L_stand : Cond.code yL_stand cL_stand 4 none ∈ wB := inB (List.mem_of_getElem? (i := 542) (by decide +kernel)) rfl
theorem lk_L_90 : Cond.methodLink RL 90 yL_launchReason ∈ wB := inB (List.mem_of_getElem? (i := 543) (by decide +kernel)) rfl
theorem stc_L_launchReason : Cond.static yL_launchReason ∈ wB := inB (List.mem_of_getElem? (i := 544) (by decide +kernel)) rfl
theorem cod_L_launchReason : Cond.code yL_launchReason cL_launchReason 4 (some .int) ∈ wB := inB (List.mem_of_getElem? (i := 545) (by decide +kernel)) rfl
theorem lk_L_38 : Cond.methodLink RL 38 yL_place ∈ wB := inB (List.mem_of_getElem? (i := 546) (by decide +kernel)) rfl
theorem stc_L_place : Cond.static yL_place ∈ wB := inB (List.mem_of_getElem? (i := 547) (by decide +kernel)) rfl
theorem cod_L_place : Cond.code yL_place cL_place 4 (some .int) ∈ wB := inB (List.mem_of_getElem? (i := 548) (by decide +kernel)) rfl
theorem lk_L_132 : Cond.methodLink RL 132 yL_isSo ∈ wB := inB (List.mem_of_getElem? (i := 549) (by decide +kernel)) rfl
theorem stc_L_isSo : Cond.static yL_isSo ∈ wB := inB (List.mem_of_getElem? (i := 550) (by decide +kernel)) rfl
set_option maxRecDepth 100000 in
theorem cod_L_isSo : Cond.code yL_isSo cL_isSo 11 (some .boolean) ∈ wB := inB (List.mem_of_getElem? (i := 551) rfl) rfl
theorem lk_L_106 : Cond.methodLink RL 106 yX3_launchDay ∈ wB := inB (List.mem_of_getElem? (i := 552) (by decide +kernel)) rfl
theorem ins_X3_launchDay : Cond.instanceMethod yX3_launchDay ∈ wB := inB (List.mem_of_getElem? (i := 553) (by decide +kernel)) rfl
theorem sel_X3_launchDay : Cond.selects RX3 yX3_launchDay yX3_launchDay ∈ wB := inB (List.mem_of_getElem? (i := 554) (by decide +kernel)) rfl
theorem cod_X3_launchDay : Cond.code yX3_launchDay cX3_launchDay 2 (some .int) ∈ wB := inB (List.mem_of_getElem? (i := 555) (by decide +kernel)) rfl
theorem lk_X3_181 : Cond.methodLink RX3 181 yX2_isAshore ∈ wB := inB (List.mem_of_getElem? (i := 556) (by decide +kernel)) rfl
theorem lk_X3_187 : Cond.methodLink RX3 187 yX2_firstLaunchDay ∈ wB := inB (List.mem_of_getElem? (i := 557) (by decide +kernel)) rfl
theorem ins_X2_firstLaunchDay : Cond.instanceMethod yX2_firstLaunchDay ∈ wB := inB (List.mem_of_getElem? (i := 558) (by decide +kernel)) rfl
theorem sel_X2_firstLaunchDay : Cond.selects RX2 yX2_firstLaunchDay yX2_firstLaunchDay ∈ wB := inB (List.mem_of_getElem? (i := 559) (by decide +kernel)) rfl
theorem cod_X2_firstLaunchDay : Cond.code yX2_firstLaunchDay cX2_firstLaunchDay 4 (some .int) ∈ wB := inB (List.mem_of_getElem? (i := 560) (by decide +kernel)) rfl
theorem lk_L_111 : Cond.methodLink RL 111 yL_isBoat ∈ wB := inB (List.mem_of_getElem? (i := 561) (by decide +kernel)) rfl
theorem stc_L_isBoat : Cond.static yL_isBoat ∈ wB := inB (List.mem_of_getElem? (i := 562) (by decide +kernel)) rfl
set_option maxRecDepth 100000 in
theorem cod_L_isBoat : Cond.code yL_isBoat cL_isBoat 11 (some .boolean) ∈ wB := inB (List.mem_of_getElem? (i := 563) rfl) rfl
theorem lk_L_96 : Cond.methodLink RL 96 yX3_liftReason ∈ wB := inB (List.mem_of_getElem? (i := 564) (by decide +kernel)) rfl
theorem ins_X3_liftReason : Cond.instanceMethod yX3_liftReason ∈ wB := inB (List.mem_of_getElem? (i := 565) (by decide +kernel)) rfl
theorem sel_X3_liftReason : Cond.selects RX3 yX3_liftReason yX3_liftReason ∈ wB := inB (List.mem_of_getElem? (i := 566) (by decide +kernel)) rfl
theorem cod_X3_liftReason : Cond.code yX3_liftReason cX3_liftReason 3 (some .int) ∈ wB := inB (List.mem_of_getElem? (i := 567) (by decide +kernel)) rfl
theorem lk_X3_175 : Cond.methodLink RX3 175 yX2_whyNoLift ∈ wB := inB (List.mem_of_getElem? (i := 568) (by decide +kernel)) rfl
theorem lk_L_98 : Cond.methodLink RL 98 yX3_bestRow ∈ wB := inB (List.mem_of_getElem? (i := 569) (by decide +kernel)) rfl
theorem ins_X3_bestRow : Cond.instanceMethod yX3_bestRow ∈ wB := inB (List.mem_of_getElem? (i := 570) (by decide +kernel)) rfl
theorem sel_X3_bestRow : Cond.selects RX3 yX3_bestRow yX3_bestRow ∈ wB := inB (List.mem_of_getElem? (i := 571) (by decide +kernel)) rfl
theorem cod_X3_bestRow : Cond.code yX3_bestRow cX3_bestRow 2 (some .int) ∈ wB := inB (List.mem_of_getElem? (i := 572) (by decide +kernel)) rfl
theorem lk_X3_190 : Cond.methodLink RX3 190 yX2_tightestRow ∈ wB := inB (List.mem_of_getElem? (i := 573) (by decide +kernel)) rfl
theorem ins_X2_tightestRow : Cond.instanceMethod yX2_tightestRow ∈ wB := inB (List.mem_of_getElem? (i := 574) (by decide +kernel)) rfl
theorem sel_X2_tightestRow : Cond.selects RX2 yX2_tightestRow yX2_tightestRow ∈ wB := inB (List.mem_of_getElem? (i := 575) (by decide +kernel)) rfl
theorem cod_X2_tightestRow : Cond.code yX2_tightestRow cX2_tightestRow 5 (some .int) ∈ wB := inB (List.mem_of_getElem? (i := 576) (by decide +kernel)) rfl
theorem lk_L_101 : Cond.methodLink RL 101 yX3_launchReason ∈ wB := inB (List.mem_of_getElem? (i := 577) (by decide +kernel)) rfl
theorem ins_X3_launchReason : Cond.instanceMethod yX3_launchReason ∈ wB := inB (List.mem_of_getElem? (i := 578) (by decide +kernel)) rfl
theorem sel_X3_launchReason : Cond.selects RX3 yX3_launchReason yX3_launchReason ∈ wB := inB (List.mem_of_getElem? (i := 579) (by decide +kernel)) rfl
theorem cod_X3_launchReason : Cond.code yX3_launchReason cX3_launchReason 2 (some .int) ∈ wB := inB (List.mem_of_getElem? (i := 580) (by decide +kernel)) rfl
theorem lk_X3_178 : Cond.methodLink RX3 178 yX2_whyNoLaunch ∈ wB := inB (List.mem_of_getElem? (i := 581) (by decide +kernel)) rfl
theorem lk_L_103 : Cond.methodLink RL 103 yX3_blockers ∈ wB := inB (List.mem_of_getElem? (i := 582) (by decide +kernel)) rfl
theorem ins_X3_blockers : Cond.instanceMethod yX3_blockers ∈ wB := inB (List.mem_of_getElem? (i := 583) (by decide +kernel)) rfl
theorem sel_X3_blockers : Cond.selects RX3 yX3_blockers yX3_blockers ∈ wB := inB (List.mem_of_getElem? (i := 584) (by decide +kernel)) rfl
theorem cod_X3_blockers : Cond.code yX3_blockers cX3_blockers 2 (some .int) ∈ wB := inB (List.mem_of_getElem? (i := 585) (by decide +kernel)) rfl
theorem lk_X3_184 : Cond.methodLink RX3 184 yX2_boatsFartherOut ∈ wB := inB (List.mem_of_getElem? (i := 586) (by decide +kernel)) rfl
theorem lk_L_109 : Cond.methodLink RL 109 yL_launchDay ∈ wB := inB (List.mem_of_getElem? (i := 587) (by decide +kernel)) rfl
theorem stc_L_launchDay : Cond.static yL_launchDay ∈ wB := inB (List.mem_of_getElem? (i := 588) (by decide +kernel)) rfl
theorem cod_L_launchDay : Cond.code yL_launchDay cL_launchDay 4 (some .int) ∈ wB := inB (List.mem_of_getElem? (i := 589) (by decide +kernel)) rfl
theorem lk_L_126 : Cond.methodLink RL 126 yL_masts ∈ wB := inB (List.mem_of_getElem? (i := 590) (by decide +kernel)) rfl
theorem stc_L_masts : Cond.static yL_masts ∈ wB := inB (List.mem_of_getElem? (i := 591) (by decide +kernel)) rfl
theorem cod_L_masts : Cond.code yL_masts cL_masts 4 (some .int) ∈ wB := inB (List.mem_of_getElem? (i := 592) (by decide +kernel)) rfl
theorem uw_X0 : ∀ w ∈ u_ws RX0 TX0 3, w ∈ wB := fun w h => inB ((by decide +kernel : ∀ w ∈ u_ws RX0 TX0 3, w ∈ lw_tbl) w h) ((by decide +kernel : ∀ w ∈ u_ws RX0 TX0 3, goodWord w = true) w h)
theorem uw_X1 : ∀ w ∈ u_ws RX1 TX1 7, w ∈ wB := fun w h => inB ((by decide +kernel : ∀ w ∈ u_ws RX1 TX1 7, w ∈ lw_tbl) w h) ((by decide +kernel : ∀ w ∈ u_ws RX1 TX1 7, goodWord w = true) w h)
theorem uw_X2 : ∀ w ∈ u_ws RX2 TX2 8, w ∈ wB := fun w h => inB ((by decide +kernel : ∀ w ∈ u_ws RX2 TX2 8, w ∈ lw_tbl) w h) ((by decide +kernel : ∀ w ∈ u_ws RX2 TX2 8, goodWord w = true) w h)
theorem uw_X3 : ∀ w ∈ u_ws RX3 TX3 7, w ∈ wB := fun w h => inB ((by decide +kernel : ∀ w ∈ u_ws RX3 TX3 7, w ∈ lw_tbl) w h) ((by decide +kernel : ∀ w ∈ u_ws RX3 TX3 7, goodWord w = true) w h)
/-- what a call needs of the callee -/
def CIv (y : MethodName) (b : ByteArray) (n : Nat) (rt : Option FieldType) (np : Nat) : Prop := (y.cls ≠ "java/lang/invoke/MethodHandle" ∧ y.cls ≠ "java/lang/invoke/VarHandle" ∧ (parseMethodDescriptor y.desc).map (fun d => d.parameters.length) = some np) ∧ n ≤ 21 ∧ Cond.code y b n rt ∈ wB ∧ Cond.initialized y.cls ∈ wB ∧ Cond.instanceMethod y ∈ wB ∧ Cond.selects y.cls y y ∈ wB
def CIs (y : MethodName) (b : ByteArray) (n : Nat) (rt : Option FieldType) (np : Nat) : Prop := (y.cls ≠ "java/lang/invoke/MethodHandle" ∧ y.cls ≠ "java/lang/invoke/VarHandle" ∧ (parseMethodDescriptor y.desc).map (fun d => d.parameters.length) = some np) ∧ n ≤ 21 ∧ Cond.code y b n rt ∈ wB ∧ Cond.initialized y.cls ∈ wB ∧ Cond.static y ∈ wB
theorem ci_X2_forget : CIv yX2_forget cX2_forget 3 none 1 := ⟨by decide +kernel, by decide, cod_X2_forget, ini_X2, ins_X2_forget, sel_X2_forget⟩
theorem ci_X2_note : CIv yX2_note cX2_note 4 none 3 := ⟨by decide +kernel, by decide, cod_X2_note, ini_X2, ins_X2_note, sel_X2_note⟩
theorem ci_X2_hasPlaceFor : CIs yX2_hasPlaceFor cX2_hasPlaceFor 2 (some .boolean) 2 := ⟨by decide +kernel, by decide, cod_X2_hasPlaceFor, ini_X2, stc_X2_hasPlaceFor⟩
theorem ci_X2_isFact : CIs yX2_isFact cX2_isFact 1 (some .boolean) 1 := ⟨by decide +kernel, by decide, cod_X2_isFact, ini_X2, stc_X2_isFact⟩
theorem ci_X3_pass : CIv yX3_pass cX3_pass 2 (some .int) 1 := ⟨by decide +kernel, by decide, cod_X3_pass, ini_X3, ins_X3_pass, sel_X3_pass⟩
theorem ci_X0_prepare : CIv yX0_prepare cX0_prepare 2 none 1 := ⟨by decide +kernel, by decide, cod_X0_prepare, ini_X0, ins_X0_prepare, sel_X0_prepare⟩
theorem ci_X0_behindLatest : CIv yX0_behindLatest cX0_behindLatest 1 (some (.object "WinterYard$Yard")) 0 := ⟨by decide +kernel, by decide, cod_X0_behindLatest, ini_X0, ins_X0_behindLatest, sel_X0_behindLatest⟩
theorem ci_X2_copyFrom : CIv yX2_copyFrom cX2_copyFrom 2 none 1 := ⟨by decide +kernel, by decide, cod_X2_copyFrom, ini_X2, ins_X2_copyFrom, sel_X2_copyFrom⟩
theorem ci_X2_letPass : CIv yX2_letPass cX2_letPass 3 (some .int) 1 := ⟨by decide +kernel, by decide, cod_X2_letPass, ini_X2, ins_X2_letPass, sel_X2_letPass⟩
theorem ci_X3_within : CIs yX3_within cX3_within 3 (some .boolean) 3 := ⟨by decide +kernel, by decide, cod_X3_within, ini_X3, stc_X3_within⟩
theorem ci_X2_isAshore : CIv yX2_isAshore cX2_isAshore 2 (some .boolean) 1 := ⟨by decide +kernel, by decide, cod_X2_isAshore, ini_X2, ins_X2_isAshore, sel_X2_isAshore⟩
theorem ci_X2_fact : CIv yX2_fact cX2_fact 3 (some .int) 2 := ⟨by decide +kernel, by decide, cod_X2_fact, ini_X2, ins_X2_fact, sel_X2_fact⟩
theorem ci_X2_tideOn : CIv yX2_tideOn cX2_tideOn 2 (some .int) 1 := ⟨by decide +kernel, by decide, cod_X2_tideOn, ini_X2, ins_X2_tideOn, sel_X2_tideOn⟩
theorem ci_X0_settle : CIv yX0_settle cX0_settle 2 (some .int) 1 := ⟨by decide +kernel, by decide, cod_X0_settle, ini_X0, ins_X0_settle, sel_X0_settle⟩
theorem ci_X3_stopped : CIv yX3_stopped cX3_stopped 2 (some .int) 1 := ⟨by decide +kernel, by decide, cod_X3_stopped, ini_X3, ins_X3_stopped, sel_X3_stopped⟩
theorem ci_X3_undo : CIv yX3_undo cX3_undo 1 (some .int) 0 := ⟨by decide +kernel, by decide, cod_X3_undo, ini_X3, ins_X3_undo, sel_X3_undo⟩
theorem ci_X0_stepBack : CIv yX0_stepBack cX0_stepBack 2 (some .int) 1 := ⟨by decide +kernel, by decide, cod_X0_stepBack, ini_X0, ins_X0_stepBack, sel_X0_stepBack⟩
theorem ci_X0_takeBack : CIv yX0_takeBack cX0_takeBack 2 none 1 := ⟨by decide +kernel, by decide, cod_X0_takeBack, ini_X0, ins_X0_takeBack, sel_X0_takeBack⟩
theorem ci_X3_restore : CIv yX3_restore cX3_restore 1 (some .int) 0 := ⟨by decide +kernel, by decide, cod_X3_restore, ini_X3, ins_X3_restore, sel_X3_restore⟩
theorem ci_X2_boats : CIv yX2_boats cX2_boats 1 (some .int) 0 := ⟨by decide +kernel, by decide, cod_X2_boats, ini_X2, ins_X2_boats, sel_X2_boats⟩
theorem ci_X2_boatsWith : CIv yX2_boatsWith cX2_boatsWith 5 (some .int) 2 := ⟨by decide +kernel, by decide, cod_X2_boatsWith, ini_X2, ins_X2_boatsWith, sel_X2_boatsWith⟩
theorem ci_X3_boat : CIv yX3_boat cX3_boat 3 (some .int) 2 := ⟨by decide +kernel, by decide, cod_X3_boat, ini_X3, ins_X3_boat, sel_X3_boat⟩
theorem ci_X2_knows : CIv yX2_knows cX2_knows 2 (some .boolean) 1 := ⟨by decide +kernel, by decide, cod_X2_knows, ini_X2, ins_X2_knows, sel_X2_knows⟩
theorem ci_X3_row : CIv yX3_row cX3_row 3 (some .int) 2 := ⟨by decide +kernel, by decide, cod_X3_row, ini_X3, ins_X3_row, sel_X3_row⟩
theorem ci_X2_isRow : CIs yX2_isRow cX2_isRow 1 (some .boolean) 1 := ⟨by decide +kernel, by decide, cod_X2_isRow, ini_X2, stc_X2_isRow⟩
theorem ci_X2_metresOf : CIv yX2_metresOf cX2_metresOf 2 (some .int) 1 := ⟨by decide +kernel, by decide, cod_X2_metresOf, ini_X2, ins_X2_metresOf, sel_X2_metresOf⟩
theorem ci_X2_metresTaken : CIv yX2_metresTaken cX2_metresTaken 4 (some .int) 1 := ⟨by decide +kernel, by decide, cod_X2_metresTaken, ini_X2, ins_X2_metresTaken, sel_X2_metresTaken⟩
theorem ci_X2_boatsIn : CIv yX2_boatsIn cX2_boatsIn 2 (some .int) 1 := ⟨by decide +kernel, by decide, cod_X2_boatsIn, ini_X2, ins_X2_boatsIn, sel_X2_boatsIn⟩
theorem ci_X2_boatAt : CIv yX2_boatAt cX2_boatAt 4 (some .int) 2 := ⟨by decide +kernel, by decide, cod_X2_boatAt, ini_X2, ins_X2_boatAt, sel_X2_boatAt⟩
theorem ci_X2_standsIn : CIv yX2_standsIn cX2_standsIn 3 (some .boolean) 2 := ⟨by decide +kernel, by decide, cod_X2_standsIn, ini_X2, ins_X2_standsIn, sel_X2_standsIn⟩
theorem ci_X3_stands : CIv yX3_stands cX3_stands 3 (some .int) 2 := ⟨by decide +kernel, by decide, cod_X3_stands, ini_X3, ins_X3_stands, sel_X3_stands⟩
theorem ci_X3_cradle : CIv yX3_cradle cX3_cradle 3 (some .int) 2 := ⟨by decide +kernel, by decide, cod_X3_cradle, ini_X3, ins_X3_cradle, sel_X3_cradle⟩
theorem ci_X2_isKind : CIs yX2_isKind cX2_isKind 1 (some .boolean) 1 := ⟨by decide +kernel, by decide, cod_X2_isKind, ini_X2, stc_X2_isKind⟩
theorem ci_X2_cradlesOf : CIv yX2_cradlesOf cX2_cradlesOf 2 (some .int) 1 := ⟨by decide +kernel, by decide, cod_X2_cradlesOf, ini_X2, ins_X2_cradlesOf, sel_X2_cradlesOf⟩
theorem ci_X2_cradlesTaken : CIv yX2_cradlesTaken cX2_cradlesTaken 2 (some .int) 1 := ⟨by decide +kernel, by decide, cod_X2_cradlesTaken, ini_X2, ins_X2_cradlesTaken, sel_X2_cradlesTaken⟩
theorem ci_X2_bears : CIs yX2_bears cX2_bears 1 (some .int) 1 := ⟨by decide +kernel, by decide, cod_X2_bears, ini_X2, stc_X2_bears⟩
theorem ci_X3_tide : CIv yX3_tide cX3_tide 2 (some .int) 1 := ⟨by decide +kernel, by decide, cod_X3_tide, ini_X3, ins_X3_tide, sel_X3_tide⟩
theorem ci_X3_count : CIv yX3_count cX3_count 2 (some .int) 1 := ⟨by decide +kernel, by decide, cod_X3_count, ini_X3, ins_X3_count, sel_X3_count⟩
theorem ci_X2_today : CIv yX2_today cX2_today 1 (some .int) 0 := ⟨by decide +kernel, by decide, cod_X2_today, ini_X2, ins_X2_today, sel_X2_today⟩
theorem ci_X2_liftsLeft : CIv yX2_liftsLeft cX2_liftsLeft 1 (some .int) 0 := ⟨by decide +kernel, by decide, cod_X2_liftsLeft, ini_X2, ins_X2_liftsLeft, sel_X2_liftsLeft⟩
theorem ci_X2_boatsAshore : CIv yX2_boatsAshore cX2_boatsAshore 1 (some .int) 0 := ⟨by decide +kernel, by decide, cod_X2_boatsAshore, ini_X2, ins_X2_boatsAshore, sel_X2_boatsAshore⟩
theorem ci_X2_boatsWithWork : CIv yX2_boatsWithWork cX2_boatsWithWork 3 (some .int) 0 := ⟨by decide +kernel, by decide, cod_X2_boatsWithWork, ini_X2, ins_X2_boatsWithWork, sel_X2_boatsWithWork⟩
theorem ci_X2_liftsSoFar : CIv yX2_liftsSoFar cX2_liftsSoFar 1 (some .int) 0 := ⟨by decide +kernel, by decide, cod_X2_liftsSoFar, ini_X2, ins_X2_liftsSoFar, sel_X2_liftsSoFar⟩
theorem ci_X2_launchesSoFar : CIv yX2_launchesSoFar cX2_launchesSoFar 1 (some .int) 0 := ⟨by decide +kernel, by decide, cod_X2_launchesSoFar, ini_X2, ins_X2_launchesSoFar, sel_X2_launchesSoFar⟩
theorem ci_X2_mastsIn : CIv yX2_mastsIn cX2_mastsIn 2 (some .int) 1 := ⟨by decide +kernel, by decide, cod_X2_mastsIn, ini_X2, ins_X2_mastsIn, sel_X2_mastsIn⟩
theorem ci_X2_setting : CIv yX2_setting cX2_setting 2 (some .int) 1 := ⟨by decide +kernel, by decide, cod_X2_setting, ini_X2, ins_X2_setting, sel_X2_setting⟩
theorem ci_X2_isSetting : CIs yX2_isSetting cX2_isSetting 1 (some .boolean) 1 := ⟨by decide +kernel, by decide, cod_X2_isSetting, ini_X2, stc_X2_isSetting⟩
theorem ci_X0_states : CIv yX0_states cX0_states 1 (some .int) 0 := ⟨by decide +kernel, by decide, cod_X0_states, ini_X0, ins_X0_states, sel_X0_states⟩
theorem ci_X1_length : CIv yX1_length cX1_length 1 (some .int) 0 := ⟨by decide +kernel, by decide, cod_X1_length, ini_X1, ins_X1_length, sel_X1_length⟩
theorem ci_L_cell : CIs yL_cell cL_cell 2 (some .int) 2 := ⟨by decide +kernel, by decide, cod_L_cell, ini_L, stc_L_cell⟩
theorem ci_L_low : CIs yL_low cL_low 2 (some .int) 2 := ⟨by decide +kernel, by decide, cod_L_low, ini_L, stc_L_low⟩
theorem ci_L_yard : CIs yL_yard cL_yard 12 (some .boolean) 7 := ⟨by decide +kernel, by decide, cod_L_yard, ini_L, stc_L_yard⟩
theorem ci_L_of : CIs yL_of cL_of 3 (some .int) 3 := ⟨by decide +kernel, by decide, cod_L_of, ini_L, stc_L_of⟩
theorem ci_X3_come : CIv yX3_come cX3_come 5 (some .int) 4 := ⟨by decide +kernel, by decide, cod_X3_come, ini_X3, ins_X3_come, sel_X3_come⟩
theorem ci_X2_addBoat : CIv yX2_addBoat cX2_addBoat 6 (some .int) 4 := ⟨by decide +kernel, by decide, cod_X2_addBoat, ini_X2, ins_X2_addBoat, sel_X2_addBoat⟩
theorem ci_X2_lowestFreeNumber : CIv yX2_lowestFreeNumber cX2_lowestFreeNumber 2 (some .int) 0 := ⟨by decide +kernel, by decide, cod_X2_lowestFreeNumber, ini_X2, ins_X2_lowestFreeNumber, sel_X2_lowestFreeNumber⟩
theorem ci_X2_noteAfloat : CIv yX2_noteAfloat cX2_noteAfloat 2 none 1 := ⟨by decide +kernel, by decide, cod_X2_noteAfloat, ini_X2, ins_X2_noteAfloat, sel_X2_noteAfloat⟩
theorem ci_X3_goAway : CIv yX3_goAway cX3_goAway 2 (some .int) 1 := ⟨by decide +kernel, by decide, cod_X3_goAway, ini_X3, ins_X3_goAway, sel_X3_goAway⟩
theorem ci_X2_removeBoat : CIv yX2_removeBoat cX2_removeBoat 2 (some .int) 1 := ⟨by decide +kernel, by decide, cod_X2_removeBoat, ini_X2, ins_X2_removeBoat, sel_X2_removeBoat⟩
theorem ci_X2_hasMast : CIv yX2_hasMast cX2_hasMast 2 (some .boolean) 1 := ⟨by decide +kernel, by decide, cod_X2_hasMast, ini_X2, ins_X2_hasMast, sel_X2_hasMast⟩
theorem ci_L_taken : CIs yL_taken cL_taken 4 (some .int) 2 := ⟨by decide +kernel, by decide, cod_L_taken, ini_L, stc_L_taken⟩
theorem ci_X3_setCradles : CIv yX3_setCradles cX3_setCradles 3 (some .int) 2 := ⟨by decide +kernel, by decide, cod_X3_setCradles, ini_X3, ins_X3_setCradles, sel_X3_setCradles⟩
theorem ci_X2_changeCradles : CIv yX2_changeCradles cX2_changeCradles 4 (some .int) 2 := ⟨by decide +kernel, by decide, cod_X2_changeCradles, ini_X2, ins_X2_changeCradles, sel_X2_changeCradles⟩
theorem ci_L_room : CIs yL_room cL_room 6 (some .int) 4 := ⟨by decide +kernel, by decide, cod_L_room, ini_L, stc_L_room⟩
theorem ci_X3_setRow : CIv yX3_setRow cX3_setRow 3 (some .int) 2 := ⟨by decide +kernel, by decide, cod_X3_setRow, ini_X3, ins_X3_setRow, sel_X3_setRow⟩
theorem ci_X2_changeRow : CIv yX2_changeRow cX2_changeRow 4 (some .int) 2 := ⟨by decide +kernel, by decide, cod_X2_changeRow, ini_X2, ins_X2_changeRow, sel_X2_changeRow⟩
theorem ci_X3_set : CIv yX3_set cX3_set 3 (some .int) 2 := ⟨by decide +kernel, by decide, cod_X3_set, ini_X3, ins_X3_set, sel_X3_set⟩
theorem ci_X2_changeSetting : CIv yX2_changeSetting cX2_changeSetting 4 (some .int) 2 := ⟨by decide +kernel, by decide, cod_X2_changeSetting, ini_X2, ins_X2_changeSetting, sel_X2_changeSetting⟩
theorem ci_L_tide : CIs yL_tide cL_tide 3 (some .int) 2 := ⟨by decide +kernel, by decide, cod_L_tide, ini_L, stc_L_tide⟩
theorem ci_L_boats : CIs yL_boats cL_boats 13 (some .boolean) 7 := ⟨by decide +kernel, by decide, cod_L_boats, ini_L, stc_L_boats⟩
theorem ci_X3_lift : CIv yX3_lift cX3_lift 3 (some .int) 2 := ⟨by decide +kernel, by decide, cod_X3_lift, ini_X3, ins_X3_lift, sel_X3_lift⟩
theorem ci_X2_liftInto : CIv yX2_liftInto cX2_liftInto 4 (some .int) 2 := ⟨by decide +kernel, by decide, cod_X2_liftInto, ini_X2, ins_X2_liftInto, sel_X2_liftInto⟩
theorem ci_X2_whyNoLift : CIv yX2_whyNoLift cX2_whyNoLift 3 (some .int) 2 := ⟨by decide +kernel, by decide, cod_X2_whyNoLift, ini_X2, ins_X2_whyNoLift, sel_X2_whyNoLift⟩
theorem ci_X2_isDeepEnough : CIv yX2_isDeepEnough cX2_isDeepEnough 3 (some .boolean) 2 := ⟨by decide +kernel, by decide, cod_X2_isDeepEnough, ini_X2, ins_X2_isDeepEnough, sel_X2_isDeepEnough⟩
theorem ci_X2_craneBears : CIv yX2_craneBears cX2_craneBears 2 (some .boolean) 1 := ⟨by decide +kernel, by decide, cod_X2_craneBears, ini_X2, ins_X2_craneBears, sel_X2_craneBears⟩
theorem ci_X2_cradleFor : CIv yX2_cradleFor cX2_cradleFor 5 (some .int) 1 := ⟨by decide +kernel, by decide, cod_X2_cradleFor, ini_X2, ins_X2_cradleFor, sel_X2_cradleFor⟩
theorem ci_X2_hasFreeCradle : CIv yX2_hasFreeCradle cX2_hasFreeCradle 2 (some .boolean) 1 := ⟨by decide +kernel, by decide, cod_X2_hasFreeCradle, ini_X2, ins_X2_hasFreeCradle, sel_X2_hasFreeCradle⟩
theorem ci_X2_otherKindFor : CIs yX2_otherKindFor cX2_otherKindFor 1 (some .int) 1 := ⟨by decide +kernel, by decide, cod_X2_otherKindFor, ini_X2, stc_X2_otherKindFor⟩
theorem ci_X2_hasRoom : CIv yX2_hasRoom cX2_hasRoom 3 (some .boolean) 2 := ⟨by decide +kernel, by decide, cod_X2_hasRoom, ini_X2, ins_X2_hasRoom, sel_X2_hasRoom⟩
theorem ci_X2_metresLeft : CIv yX2_metresLeft cX2_metresLeft 2 (some .int) 1 := ⟨by decide +kernel, by decide, cod_X2_metresLeft, ini_X2, ins_X2_metresLeft, sel_X2_metresLeft⟩
theorem ci_X2_putAtOuterEnd : CIv yX2_putAtOuterEnd cX2_putAtOuterEnd 3 none 2 := ⟨by decide +kernel, by decide, cod_X2_putAtOuterEnd, ini_X2, ins_X2_putAtOuterEnd, sel_X2_putAtOuterEnd⟩
theorem ci_X2_takeLift : CIv yX2_takeLift cX2_takeLift 1 none 0 := ⟨by decide +kernel, by decide, cod_X2_takeLift, ini_X2, ins_X2_takeLift, sel_X2_takeLift⟩
theorem ci_X3_launch : CIv yX3_launch cX3_launch 2 (some .int) 1 := ⟨by decide +kernel, by decide, cod_X3_launch, ini_X3, ins_X3_launch, sel_X3_launch⟩
theorem ci_X2_putAfloat : CIv yX2_putAfloat cX2_putAfloat 4 (some .int) 1 := ⟨by decide +kernel, by decide, cod_X2_putAfloat, ini_X2, ins_X2_putAfloat, sel_X2_putAfloat⟩
theorem ci_X2_whyNoLaunch : CIv yX2_whyNoLaunch cX2_whyNoLaunch 2 (some .int) 1 := ⟨by decide +kernel, by decide, cod_X2_whyNoLaunch, ini_X2, ins_X2_whyNoLaunch, sel_X2_whyNoLaunch⟩
theorem ci_X2_boatsFartherOut : CIv yX2_boatsFartherOut cX2_boatsFartherOut 2 (some .int) 1 := ⟨by decide +kernel, by decide, cod_X2_boatsFartherOut, ini_X2, ins_X2_boatsFartherOut, sel_X2_boatsFartherOut⟩
theorem ci_X3_mast : CIv yX3_mast cX3_mast 3 (some .int) 2 := ⟨by decide +kernel, by decide, cod_X3_mast, ini_X3, ins_X3_mast, sel_X3_mast⟩
theorem ci_X2_putMastUp : CIv yX2_putMastUp cX2_putMastUp 3 (some .int) 1 := ⟨by decide +kernel, by decide, cod_X2_putMastUp, ini_X2, ins_X2_putMastUp, sel_X2_putMastUp⟩
theorem ci_X2_takeMastOff : CIv yX2_takeMastOff cX2_takeMastOff 3 (some .int) 1 := ⟨by decide +kernel, by decide, cod_X2_takeMastOff, ini_X2, ins_X2_takeMastOff, sel_X2_takeMastOff⟩
theorem ci_X2_rackFor : CIv yX2_rackFor cX2_rackFor 3 (some .int) 1 := ⟨by decide +kernel, by decide, cod_X2_rackFor, ini_X2, ins_X2_rackFor, sel_X2_rackFor⟩
theorem ci_X3_work : CIv yX3_work cX3_work 3 (some .int) 2 := ⟨by decide +kernel, by decide, cod_X3_work, ini_X3, ins_X3_work, sel_X3_work⟩
theorem ci_X2_orderWork : CIv yX2_orderWork cX2_orderWork 4 (some .int) 2 := ⟨by decide +kernel, by decide, cod_X2_orderWork, ini_X2, ins_X2_orderWork, sel_X2_orderWork⟩
theorem ci_X3_move : CIv yX3_move cX3_move 3 (some .int) 2 := ⟨by decide +kernel, by decide, cod_X3_move, ini_X3, ins_X3_move, sel_X3_move⟩
theorem ci_X2_moveTo : CIv yX2_moveTo cX2_moveTo 3 (some .int) 2 := ⟨by decide +kernel, by decide, cod_X2_moveTo, ini_X2, ins_X2_moveTo, sel_X2_moveTo⟩
theorem ci_L_liftReason : CIs yL_liftReason cL_liftReason 5 (some .int) 5 := ⟨by decide +kernel, by decide, cod_L_liftReason, ini_L, stc_L_liftReason⟩
theorem ci_L_cradle : CIs yL_cradle cL_cradle 5 (some .int) 3 := ⟨by decide +kernel, by decide, cod_L_cradle, ini_L, stc_L_cradle⟩
theorem ci_L_bears : CIs yL_bears cL_bears 1 (some .int) 1 := ⟨by decide +kernel, by decide, cod_L_bears, ini_L, stc_L_bears⟩
theorem ci_L_left : CIs yL_left cL_left 1 (some .int) 1 := ⟨by decide +kernel, by decide, cod_L_left, ini_L, stc_L_left⟩
theorem ci_L_stand : CIs yL_stand cL_stand 4 none 4 := ⟨by decide +kernel, by decide, cod_L_stand, ini_L, stc_L_stand⟩
theorem ci_L_launchReason : CIs yL_launchReason cL_launchReason 4 (some .int) 4 := ⟨by decide +kernel, by decide, cod_L_launchReason, ini_L, stc_L_launchReason⟩
theorem ci_L_place : CIs yL_place cL_place 4 (some .int) 3 := ⟨by decide +kernel, by decide, cod_L_place, ini_L, stc_L_place⟩
theorem ci_L_isSo : CIs yL_isSo cL_isSo 11 (some .boolean) 5 := ⟨by decide +kernel, by decide, cod_L_isSo, ini_L, stc_L_isSo⟩
theorem ci_X3_launchDay : CIv yX3_launchDay cX3_launchDay 2 (some .int) 1 := ⟨by decide +kernel, by decide, cod_X3_launchDay, ini_X3, ins_X3_launchDay, sel_X3_launchDay⟩
theorem ci_X2_firstLaunchDay : CIv yX2_firstLaunchDay cX2_firstLaunchDay 4 (some .int) 1 := ⟨by decide +kernel, by decide, cod_X2_firstLaunchDay, ini_X2, ins_X2_firstLaunchDay, sel_X2_firstLaunchDay⟩
theorem ci_L_isBoat : CIs yL_isBoat cL_isBoat 11 (some .boolean) 6 := ⟨by decide +kernel, by decide, cod_L_isBoat, ini_L, stc_L_isBoat⟩
theorem ci_X3_liftReason : CIv yX3_liftReason cX3_liftReason 3 (some .int) 2 := ⟨by decide +kernel, by decide, cod_X3_liftReason, ini_X3, ins_X3_liftReason, sel_X3_liftReason⟩
theorem ci_X3_bestRow : CIv yX3_bestRow cX3_bestRow 2 (some .int) 1 := ⟨by decide +kernel, by decide, cod_X3_bestRow, ini_X3, ins_X3_bestRow, sel_X3_bestRow⟩
theorem ci_X2_tightestRow : CIv yX2_tightestRow cX2_tightestRow 5 (some .int) 1 := ⟨by decide +kernel, by decide, cod_X2_tightestRow, ini_X2, ins_X2_tightestRow, sel_X2_tightestRow⟩
theorem ci_X3_launchReason : CIv yX3_launchReason cX3_launchReason 2 (some .int) 1 := ⟨by decide +kernel, by decide, cod_X3_launchReason, ini_X3, ins_X3_launchReason, sel_X3_launchReason⟩
theorem ci_X3_blockers : CIv yX3_blockers cX3_blockers 2 (some .int) 1 := ⟨by decide +kernel, by decide, cod_X3_blockers, ini_X3, ins_X3_blockers, sel_X3_blockers⟩
theorem ci_L_launchDay : CIs yL_launchDay cL_launchDay 4 (some .int) 3 := ⟨by decide +kernel, by decide, cod_L_launchDay, ini_L, stc_L_launchDay⟩
theorem ci_L_masts : CIs yL_masts cL_masts 4 (some .int) 2 := ⟨by decide +kernel, by decide, cod_L_masts, ini_L, stc_L_masts⟩
