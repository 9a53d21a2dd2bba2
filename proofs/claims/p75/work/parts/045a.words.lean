theorem iw_8 : ∀ w ∈ u_ws RX8 TX8 15, w ∈ GW := by
  have h1 : ∀ w ∈ u_ws RX8 TX8 15, w ∈ lw_tbl ∧ goodWord w = true := by decide +kernel
  exact fun w h => List.mem_filter.mpr (h1 w h)
theorem gm_443 : Cond.fieldLink "UncutTale" 10 "UncutTale" "tape" "LUncutTale$Tape;" ∈ GW := gm 443 (by decide +kernel) (by decide +kernel)
theorem fk_8_10 : FK "UncutTale" 10 8 0 := ⟨RX8, TX8, 15, rfl, by decide, iw_8, gm_443⟩
theorem iw_7 : ∀ w ∈ u_ws RX7 TX7 2, w ∈ GW := by
  have h1 : ∀ w ∈ u_ws RX7 TX7 2, w ∈ lw_tbl ∧ goodWord w = true := by decide +kernel
  exact fun w h => List.mem_filter.mpr (h1 w h)
theorem gm_141 : Cond.fieldLink "UncutTale$Tape" 15 "UncutTale$Tape" "length" "I" ∈ GW := gm 141 (by decide +kernel) (by decide +kernel)
theorem fk_7_15 : FK "UncutTale$Tape" 15 7 1 := ⟨RX7, TX7, 2, rfl, by decide, iw_7, gm_141⟩
theorem pn_X7_hasRoomForFive : plainName yX7_hasRoomForFive.cls = true := by decide +kernel
theorem hd_X7_hasRoomForFive : yX7_hasRoomForFive.cls ≠ "java/lang/invoke/MethodHandle" ∧ yX7_hasRoomForFive.cls ≠ "java/lang/invoke/VarHandle" ∧ (parseMethodDescriptor yX7_hasRoomForFive.desc).map (fun d => d.parameters.length) = some 0 := by decide +kernel
theorem gm_496 : Cond.code yX7_hasRoomForFive cX7_hasRoomForFive 1 (some .boolean) ∈ GW := gm 496 (by decide +kernel) (by decide +kernel)
theorem gm_494 : Cond.instanceMethod yX7_hasRoomForFive ∈ GW := gm 494 (by decide +kernel) (by decide +kernel)
theorem gm_495 : Cond.selects "UncutTale$Tape" yX7_hasRoomForFive yX7_hasRoomForFive ∈ GW := gm 495 (by decide +kernel) (by decide +kernel)
theorem gm_109 : Cond.initialized "UncutTale$Tape" ∈ GW := gm 109 (by decide +kernel) (by decide +kernel)
theorem mk_X7_hasRoomForFive : MK yX7_hasRoomForFive cX7_hasRoomForFive 1 (some .boolean) := ⟨gm_496, gm_494, gm_495, gm_109⟩
theorem gm_493 : Cond.methodLink "UncutTale" 98 yX7_hasRoomForFive ∈ GW := gm 493 (by decide +kernel) (by decide +kernel)
theorem gm_140 : Cond.fieldLink "UncutTale$Tape" 9 "UncutTale$Tape" "bytes" "[B" ∈ GW := gm 140 (by decide +kernel) (by decide +kernel)
theorem fk_7_9 : FK "UncutTale$Tape" 9 7 0 := ⟨RX7, TX7, 2, rfl, by decide, iw_7, gm_140⟩
theorem pk_7_15 : PK "UncutTale$Tape" 15 7 1 .int := ⟨RX7, TX7, 2, tyX7, rfl, by decide, iw_7, gm_141, tyX7_ok, nmX7, rfl, by decide +kernel⟩
theorem pn_X7_append : plainName yX7_append.cls = true := by decide +kernel
theorem hd_X7_append : yX7_append.cls ≠ "java/lang/invoke/MethodHandle" ∧ yX7_append.cls ≠ "java/lang/invoke/VarHandle" ∧ (parseMethodDescriptor yX7_append.desc).map (fun d => d.parameters.length) = some 1 := by decide +kernel
theorem gm_500 : Cond.code yX7_append cX7_append 3 none ∈ GW := gm 500 (by decide +kernel) (by decide +kernel)
theorem gm_498 : Cond.instanceMethod yX7_append ∈ GW := gm 498 (by decide +kernel) (by decide +kernel)
theorem gm_499 : Cond.selects "UncutTale$Tape" yX7_append yX7_append ∈ GW := gm 499 (by decide +kernel) (by decide +kernel)
theorem mk_X7_append : MK yX7_append cX7_append 3 none := ⟨gm_500, gm_498, gm_499, gm_109⟩
theorem gm_497 : Cond.methodLink "UncutTale" 102 yX7_append ∈ GW := gm 497 (by decide +kernel) (by decide +kernel)
theorem gm_142 : Cond.fieldLink "UncutTale" 106 "UncutTale$Tape" "length" "I" ∈ GW := gm 142 (by decide +kernel) (by decide +kernel)
theorem fk_8_106 : FK "UncutTale" 106 7 1 := ⟨RX7, TX7, 2, rfl, by decide, iw_7, gm_142⟩
theorem pn_X8_feed : plainName yX8_feed.cls = true := by decide +kernel
theorem pk_8_106 : PK "UncutTale" 106 7 1 .int := ⟨RX7, TX7, 2, tyX7, rfl, by decide, iw_7, gm_142, tyX7_ok, nmX7, rfl, by decide +kernel⟩
theorem pn_X8_end : plainName yX8_end.cls = true := by decide +kernel
theorem gm_445 : Cond.fieldLink "UncutTale" 28 "UncutTale" "parser" "LUncutTale$Parser;" ∈ GW := gm 445 (by decide +kernel) (by decide +kernel)
theorem fk_8_28 : FK "UncutTale" 28 8 2 := ⟨RX8, TX8, 15, rfl, by decide, iw_8, gm_445⟩
theorem iw_3 : ∀ w ∈ u_ws RX3 TX3 8, w ∈ GW := by
  have h1 : ∀ w ∈ u_ws RX3 TX3 8, w ∈ lw_tbl ∧ goodWord w = true := by decide +kernel
  exact fun w h => List.mem_filter.mpr (h1 w h)
theorem gm_266 : Cond.fieldLink "UncutTale$Parser" 19 "UncutTale$Parser" "draft" "LUncutTale$Story;" ∈ GW := gm 266 (by decide +kernel) (by decide +kernel)
theorem fk_3_19 : FK "UncutTale$Parser" 19 3 1 := ⟨RX3, TX3, 8, rfl, by decide, iw_3, gm_266⟩
theorem iw_6 : ∀ w ∈ u_ws RX6 TX6 18, w ∈ GW := by
  have h1 : ∀ w ∈ u_ws RX6 TX6 18, w ∈ lw_tbl ∧ goodWord w = true := by decide +kernel
  exact fun w h => List.mem_filter.mpr (h1 w h)
theorem gm_186 : Cond.fieldLink "UncutTale$Story" 42 "UncutTale$Story" "years" "I" ∈ GW := gm 186 (by decide +kernel) (by decide +kernel)
theorem pk_6_42 : PK "UncutTale$Story" 42 6 10 .int := ⟨RX6, TX6, 18, tyX6, rfl, by decide, iw_6, gm_186, tyX6_ok, nmX6, rfl, by decide +kernel⟩
theorem gm_193 : Cond.fieldLink "UncutTale$Story" 46 "UncutTale$Story" "law" "I" ∈ GW := gm 193 (by decide +kernel) (by decide +kernel)
theorem pk_6_46 : PK "UncutTale$Story" 46 6 11 .int := ⟨RX6, TX6, 18, tyX6, rfl, by decide, iw_6, gm_193, tyX6_ok, nmX6, rfl, by decide +kernel⟩
theorem gm_196 : Cond.fieldLink "UncutTale$Story" 49 "UncutTale$Story" "odds" "I" ∈ GW := gm 196 (by decide +kernel) (by decide +kernel)
theorem pk_6_49 : PK "UncutTale$Story" 49 6 12 .int := ⟨RX6, TX6, 18, tyX6, rfl, by decide, iw_6, gm_196, tyX6_ok, nmX6, rfl, by decide +kernel⟩
theorem gm_200 : Cond.fieldLink "UncutTale$Story" 52 "UncutTale$Story" "parts" "I" ∈ GW := gm 200 (by decide +kernel) (by decide +kernel)
theorem pk_6_52 : PK "UncutTale$Story" 52 6 13 .int := ⟨RX6, TX6, 18, tyX6, rfl, by decide, iw_6, gm_200, tyX6_ok, nmX6, rfl, by decide +kernel⟩
theorem gm_207 : Cond.fieldLink "UncutTale$Story" 55 "UncutTale$Story" "folds" "I" ∈ GW := gm 207 (by decide +kernel) (by decide +kernel)
theorem pk_6_55 : PK "UncutTale$Story" 55 6 14 .int := ⟨RX6, TX6, 18, tyX6, rfl, by decide, iw_6, gm_207, tyX6_ok, nmX6, rfl, by decide +kernel⟩
theorem gm_210 : Cond.fieldLink "UncutTale$Story" 58 "UncutTale$Story" "knives" "I" ∈ GW := gm 210 (by decide +kernel) (by decide +kernel)
theorem pk_6_58 : PK "UncutTale$Story" 58 6 15 .int := ⟨RX6, TX6, 18, tyX6, rfl, by decide, iw_6, gm_210, tyX6_ok, nmX6, rfl, by decide +kernel⟩
theorem gm_215 : Cond.fieldLink "UncutTale$Story" 61 "UncutTale$Story" "acts" "I" ∈ GW := gm 215 (by decide +kernel) (by decide +kernel)
theorem pk_6_61 : PK "UncutTale$Story" 61 6 16 .int := ⟨RX6, TX6, 18, tyX6, rfl, by decide, iw_6, gm_215, tyX6_ok, nmX6, rfl, by decide +kernel⟩
theorem gm_218 : Cond.fieldLink "UncutTale$Story" 64 "UncutTale$Story" "lines" "I" ∈ GW := gm 218 (by decide +kernel) (by decide +kernel)
theorem pk_6_64 : PK "UncutTale$Story" 64 6 17 .int := ⟨RX6, TX6, 18, tyX6, rfl, by decide, iw_6, gm_218, tyX6_ok, nmX6, rfl, by decide +kernel⟩
theorem pn_X6_clear : plainName yX6_clear.cls = true := by decide +kernel
theorem hd_X6_clear : yX6_clear.cls ≠ "java/lang/invoke/MethodHandle" ∧ yX6_clear.cls ≠ "java/lang/invoke/VarHandle" ∧ (parseMethodDescriptor yX6_clear.desc).map (fun d => d.parameters.length) = some 0 := by decide +kernel
theorem gm_516 : Cond.code yX6_clear cX6_clear 1 none ∈ GW := gm 516 (by decide +kernel) (by decide +kernel)
theorem gm_514 : Cond.instanceMethod yX6_clear ∈ GW := gm 514 (by decide +kernel) (by decide +kernel)
theorem gm_515 : Cond.selects "UncutTale$Story" yX6_clear yX6_clear ∈ GW := gm 515 (by decide +kernel) (by decide +kernel)
theorem gm_110 : Cond.initialized "UncutTale$Story" ∈ GW := gm 110 (by decide +kernel) (by decide +kernel)
theorem mk_X6_clear : MK yX6_clear cX6_clear 1 none := ⟨gm_516, gm_514, gm_515, gm_110⟩
theorem gm_513 : Cond.methodLink "UncutTale$Parser" 23 yX6_clear ∈ GW := gm 513 (by decide +kernel) (by decide +kernel)
theorem gm_271 : Cond.fieldLink "UncutTale$Parser" 28 "UncutTale$Parser" "fault" "I" ∈ GW := gm 271 (by decide +kernel) (by decide +kernel)
theorem pk_3_28 : PK "UncutTale$Parser" 28 3 6 .int := ⟨RX3, TX3, 8, tyX3, rfl, by decide, iw_3, gm_271, tyX3_ok, nmX3, rfl, by decide +kernel⟩
theorem gm_273 : Cond.fieldLink "UncutTale$Parser" 9 "UncutTale$Parser" "faultPlace" "I" ∈ GW := gm 273 (by decide +kernel) (by decide +kernel)
theorem pk_3_9 : PK "UncutTale$Parser" 9 3 7 .int := ⟨RX3, TX3, 8, tyX3, rfl, by decide, iw_3, gm_273, tyX3_ok, nmX3, rfl, by decide +kernel⟩
theorem gm_269 : Cond.fieldLink "UncutTale$Parser" 31 "UncutTale$Parser" "stop" "I" ∈ GW := gm 269 (by decide +kernel) (by decide +kernel)
theorem pk_3_31 : PK "UncutTale$Parser" 31 3 4 .int := ⟨RX3, TX3, 8, tyX3, rfl, by decide, iw_3, gm_269, tyX3_ok, nmX3, rfl, by decide +kernel⟩
theorem fk_3_31 : FK "UncutTale$Parser" 31 3 4 := ⟨RX3, TX3, 8, rfl, by decide, iw_3, gm_269⟩
theorem gm_268 : Cond.fieldLink "UncutTale$Parser" 137 "UncutTale$Parser" "start" "I" ∈ GW := gm 268 (by decide +kernel) (by decide +kernel)
theorem pk_3_137 : PK "UncutTale$Parser" 137 3 3 .int := ⟨RX3, TX3, 8, tyX3, rfl, by decide, iw_3, gm_268, tyX3_ok, nmX3, rfl, by decide +kernel⟩
theorem fk_3_137 : FK "UncutTale$Parser" 137 3 3 := ⟨RX3, TX3, 8, rfl, by decide, iw_3, gm_268⟩
theorem gm_265 : Cond.fieldLink "UncutTale$Parser" 15 "UncutTale$Parser" "tape" "LUncutTale$Tape;" ∈ GW := gm 265 (by decide +kernel) (by decide +kernel)
theorem fk_3_15 : FK "UncutTale$Parser" 15 3 0 := ⟨RX3, TX3, 8, rfl, by decide, iw_3, gm_265⟩
theorem gm_143 : Cond.fieldLink "UncutTale$Parser" 140 "UncutTale$Tape" "length" "I" ∈ GW := gm 143 (by decide +kernel) (by decide +kernel)
theorem fk_3_140 : FK "UncutTale$Parser" 140 7 1 := ⟨RX7, TX7, 2, rfl, by decide, iw_7, gm_143⟩
theorem pn_X7_at : plainName yX7_at.cls = true := by decide +kernel
theorem hd_X7_at : yX7_at.cls ≠ "java/lang/invoke/MethodHandle" ∧ yX7_at.cls ≠ "java/lang/invoke/VarHandle" ∧ (parseMethodDescriptor yX7_at.desc).map (fun d => d.parameters.length) = some 1 := by decide +kernel
theorem gm_524 : Cond.code yX7_at cX7_at 2 (some .int) ∈ GW := gm 524 (by decide +kernel) (by decide +kernel)
theorem gm_522 : Cond.instanceMethod yX7_at ∈ GW := gm 522 (by decide +kernel) (by decide +kernel)
theorem gm_523 : Cond.selects "UncutTale$Tape" yX7_at yX7_at ∈ GW := gm 523 (by decide +kernel) (by decide +kernel)
theorem mk_X7_at : MK yX7_at cX7_at 2 (some .int) := ⟨gm_524, gm_522, gm_523, gm_109⟩
theorem gm_521 : Cond.methodLink "UncutTale$Parser" 145 yX7_at ∈ GW := gm 521 (by decide +kernel) (by decide +kernel)
theorem pn_X3_kindOf : plainName yX3_kindOf.cls = true := by decide +kernel
theorem hd_X3_kindOf : yX3_kindOf.cls ≠ "java/lang/invoke/MethodHandle" ∧ yX3_kindOf.cls ≠ "java/lang/invoke/VarHandle" ∧ (parseMethodDescriptor yX3_kindOf.desc).map (fun d => d.parameters.length) = some 1 := by decide +kernel
theorem gm_527 : Cond.code yX3_kindOf cX3_kindOf 1 (some .int) ∈ GW := gm 527 (by decide +kernel) (by decide +kernel)
theorem gm_526 : Cond.static yX3_kindOf ∈ GW := gm 526 (by decide +kernel) (by decide +kernel)
theorem gm_111 : Cond.initialized "UncutTale$Parser" ∈ GW := gm 111 (by decide +kernel) (by decide +kernel)
theorem sk_X3_kindOf : SK yX3_kindOf cX3_kindOf 1 (some .int) := ⟨gm_527, gm_526, gm_111⟩
theorem gm_525 : Cond.methodLink "UncutTale$Parser" 148 yX3_kindOf ∈ GW := gm 525 (by decide +kernel) (by decide +kernel)
theorem gm_267 : Cond.fieldLink "UncutTale$Parser" 37 "UncutTale$Parser" "kind" "I" ∈ GW := gm 267 (by decide +kernel) (by decide +kernel)
theorem pk_3_37 : PK "UncutTale$Parser" 37 3 2 .int := ⟨RX3, TX3, 8, tyX3, rfl, by decide, iw_3, gm_267, tyX3_ok, nmX3, rfl, by decide +kernel⟩
theorem fk_3_37 : FK "UncutTale$Parser" 37 3 2 := ⟨RX3, TX3, 8, rfl, by decide, iw_3, gm_267⟩
theorem gm_270 : Cond.fieldLink "UncutTale$Parser" 118 "UncutTale$Parser" "value" "I" ∈ GW := gm 270 (by decide +kernel) (by decide +kernel)
theorem pk_3_118 : PK "UncutTale$Parser" 118 3 5 .int := ⟨RX3, TX3, 8, tyX3, rfl, by decide, iw_3, gm_270, tyX3_ok, nmX3, rfl, by decide +kernel⟩
theorem fk_3_118 : FK "UncutTale$Parser" 118 3 5 := ⟨RX3, TX3, 8, rfl, by decide, iw_3, gm_270⟩
theorem mw_e_mmin : Cond.code Lib.Math.min.name Lib.Math.min.code 2 (some .int) ∈ GW := gm 530 (by decide +kernel) (by decide +kernel)
theorem gm_528 : Cond.methodLink "UncutTale$Parser" 151 yJ9_min_7cf53 ∈ GW := gm 528 (by decide +kernel) (by decide +kernel)
theorem gm_529 : Cond.static yJ9_min_7cf53 ∈ GW := gm 529 (by decide +kernel) (by decide +kernel)
theorem gm_118 : Cond.initialized "java/lang/Math" ∈ GW := gm 118 (by decide +kernel) (by decide +kernel)
theorem pn_X3_advance : plainName yX3_advance.cls = true := by decide +kernel
theorem hd_X3_advance : yX3_advance.cls ≠ "java/lang/invoke/MethodHandle" ∧ yX3_advance.cls ≠ "java/lang/invoke/VarHandle" ∧ (parseMethodDescriptor yX3_advance.desc).map (fun d => d.parameters.length) = some 0 := by decide +kernel
theorem gm_520 : Cond.code yX3_advance cX3_advance 3 none ∈ GW := gm 520 (by decide +kernel) (by decide +kernel)
theorem gm_519 : Cond.instanceMethod yX3_advance ∈ GW := gm 519 (by decide +kernel) (by decide +kernel)
theorem gm_0 : Cond.selects "UncutTale$Parser" yX3_advance yX3_advance ∈ GW := gm 0 (by decide +kernel) (by decide +kernel)
theorem mk_X3_advance : MK yX3_advance cX3_advance 3 none := ⟨gm_520, gm_519, gm_0, gm_111⟩
theorem gm_517 : Cond.methodLink "UncutTale$Parser" 34 yX3_advance ∈ GW := gm 517 (by decide +kernel) (by decide +kernel)
theorem gm_219 : Cond.fieldLink "UncutTale$Parser" 44 "UncutTale$Story" "lines" "I" ∈ GW := gm 219 (by decide +kernel) (by decide +kernel)
theorem fk_3_44 : FK "UncutTale$Parser" 44 6 17 := ⟨RX6, TX6, 18, rfl, by decide, iw_6, gm_219⟩
theorem fk_3_28 : FK "UncutTale$Parser" 28 3 6 := ⟨RX3, TX3, 8, rfl, by decide, iw_3, gm_271⟩
theorem gm_2113 : Cond.fieldLink "java/lang/String" 9 "java/lang/String" "value" "[B" ∈ GW := gm 2113 (by decide +kernel) (by decide +kernel)
theorem gm_556 : Cond.fieldLink "java/lang/String" 38 "java/lang/String" "COMPACT_STRINGS" "Z" ∈ GW := gm 556 (by decide +kernel) (by decide +kernel)
theorem gm_2114 : Cond.fieldLink "java/lang/String" 15 "java/lang/String" "coder" "B" ∈ GW := gm 2114 (by decide +kernel) (by decide +kernel)
theorem pn_J0_coder_7d493 : plainName yJ0_coder_7d493.cls = true := by decide +kernel
theorem hd_J0_coder_7d493 : yJ0_coder_7d493.cls ≠ "java/lang/invoke/MethodHandle" ∧ yJ0_coder_7d493.cls ≠ "java/lang/invoke/VarHandle" ∧ (parseMethodDescriptor yJ0_coder_7d493.desc).map (fun d => d.parameters.length) = some 0 := by decide +kernel
theorem gm_555 : Cond.code yJ0_coder_7d493 cJ0_coder_7d493 1 (some .byte) ∈ GW := gm 555 (by decide +kernel) (by decide +kernel)
theorem gm_553 : Cond.instanceMethod yJ0_coder_7d493 ∈ GW := gm 553 (by decide +kernel) (by decide +kernel)
theorem gm_554 : Cond.selects "java/lang/String" yJ0_coder_7d493 yJ0_coder_7d493 ∈ GW := gm 554 (by decide +kernel) (by decide +kernel)
theorem gm_119 : Cond.initialized "java/lang/String" ∈ GW := gm 119 (by decide +kernel) (by decide +kernel)
theorem mk_J0_coder_7d493 : MK yJ0_coder_7d493 cJ0_coder_7d493 1 (some .byte) := ⟨gm_555, gm_553, gm_554, gm_119⟩
theorem gm_552 : Cond.methodLink "java/lang/String" 335 yJ0_coder_7d493 ∈ GW := gm 552 (by decide +kernel) (by decide +kernel)
theorem pn_J0_length_8abf5 : plainName yJ0_length_8abf5.cls = true := by decide +kernel
theorem hd_J0_length_8abf5 : yJ0_length_8abf5.cls ≠ "java/lang/invoke/MethodHandle" ∧ yJ0_length_8abf5.cls ≠ "java/lang/invoke/VarHandle" ∧ (parseMethodDescriptor yJ0_length_8abf5.desc).map (fun d => d.parameters.length) = some 0 := by decide +kernel
theorem gm_551 : Cond.code yJ0_length_8abf5 cJ0_length_8abf5 1 (some .int) ∈ GW := gm 551 (by decide +kernel) (by decide +kernel)
theorem gm_549 : Cond.instanceMethod yJ0_length_8abf5 ∈ GW := gm 549 (by decide +kernel) (by decide +kernel)
theorem gm_550 : Cond.selects "java/lang/String" yJ0_length_8abf5 yJ0_length_8abf5 ∈ GW := gm 550 (by decide +kernel) (by decide +kernel)
theorem mk_J0_length_8abf5 : MK yJ0_length_8abf5 cJ0_length_8abf5 1 (some .int) := ⟨gm_551, gm_549, gm_550, gm_119⟩
theorem gm_548 : Cond.methodLink "UncutTale$Parser" 156 yJ0_length_8abf5 ∈ GW := gm 548 (by decide +kernel) (by decide +kernel)
theorem pn_J0_isLatin1_aae02 : plainName yJ0_isLatin1_aae02.cls = true := by decide +kernel
theorem hd_J0_isLatin1_aae02 : yJ0_isLatin1_aae02.cls ≠ "java/lang/invoke/MethodHandle" ∧ yJ0_isLatin1_aae02.cls ≠ "java/lang/invoke/VarHandle" ∧ (parseMethodDescriptor yJ0_isLatin1_aae02.desc).map (fun d => d.parameters.length) = some 0 := by decide +kernel
theorem gm_565 : Cond.code yJ0_isLatin1_aae02 cJ0_isLatin1_aae02 1 (some .boolean) ∈ GW := gm 565 (by decide +kernel) (by decide +kernel)
theorem gm_563 : Cond.instanceMethod yJ0_isLatin1_aae02 ∈ GW := gm 563 (by decide +kernel) (by decide +kernel)
theorem gm_564 : Cond.selects "java/lang/String" yJ0_isLatin1_aae02 yJ0_isLatin1_aae02 ∈ GW := gm 564 (by decide +kernel) (by decide +kernel)
theorem mk_J0_isLatin1_aae02 : MK yJ0_isLatin1_aae02 cJ0_isLatin1_aae02 1 (some .boolean) := ⟨gm_565, gm_563, gm_564, gm_119⟩
theorem gm_562 : Cond.methodLink "java/lang/String" 492 yJ0_isLatin1_aae02 ∈ GW := gm 562 (by decide +kernel) (by decide +kernel)
theorem gm_572 : Cond.fieldLink "java/lang/String" 1053 "jdk/internal/util/Preconditions" "SIOOBE_FORMATTER" "Ljava/util/function/BiFunction;" ∈ GW := gm 572 (by decide +kernel) (by decide +kernel)
theorem pn_J3_checkIndex_8e157 : plainName yJ3_checkIndex_8e157.cls = true := by decide +kernel
theorem hd_J3_checkIndex_8e157 : yJ3_checkIndex_8e157.cls ≠ "java/lang/invoke/MethodHandle" ∧ yJ3_checkIndex_8e157.cls ≠ "java/lang/invoke/VarHandle" ∧ (parseMethodDescriptor yJ3_checkIndex_8e157.desc).map (fun d => d.parameters.length) = some 3 := by decide +kernel
theorem gm_576 : Cond.code yJ3_checkIndex_8e157 cJ3_checkIndex_8e157 3 (some .int) ∈ GW := gm 576 (by decide +kernel) (by decide +kernel)
theorem gm_575 : Cond.static yJ3_checkIndex_8e157 ∈ GW := gm 575 (by decide +kernel) (by decide +kernel)
theorem gm_121 : Cond.initialized "jdk/internal/util/Preconditions" ∈ GW := gm 121 (by decide +kernel) (by decide +kernel)
theorem sk_J3_checkIndex_8e157 : SK yJ3_checkIndex_8e157 cJ3_checkIndex_8e157 3 (some .int) := ⟨gm_576, gm_575, gm_121⟩
theorem gm_574 : Cond.methodLink "java/lang/String" 1059 yJ3_checkIndex_8e157 ∈ GW := gm 574 (by decide +kernel) (by decide +kernel)
theorem pn_J0_checkIndex_df160 : plainName yJ0_checkIndex_df160.cls = true := by decide +kernel
theorem hd_J0_checkIndex_df160 : yJ0_checkIndex_df160.cls ≠ "java/lang/invoke/MethodHandle" ∧ yJ0_checkIndex_df160.cls ≠ "java/lang/invoke/VarHandle" ∧ (parseMethodDescriptor yJ0_checkIndex_df160.desc).map (fun d => d.parameters.length) = some 2 := by decide +kernel
theorem gm_571 : Cond.code yJ0_checkIndex_df160 cJ0_checkIndex_df160 2 none ∈ GW := gm 571 (by decide +kernel) (by decide +kernel)
theorem gm_570 : Cond.static yJ0_checkIndex_df160 ∈ GW := gm 570 (by decide +kernel) (by decide +kernel)
theorem sk_J0_checkIndex_df160 : SK yJ0_checkIndex_df160 cJ0_checkIndex_df160 2 none := ⟨gm_571, gm_570, gm_119⟩
theorem gm_569 : Cond.methodLink "java/lang/StringLatin1" 9 yJ0_checkIndex_df160 ∈ GW := gm 569 (by decide +kernel) (by decide +kernel)
theorem pn_J1_charAt_3b067 : plainName yJ1_charAt_3b067.cls = true := by decide +kernel
theorem hd_J1_charAt_3b067 : yJ1_charAt_3b067.cls ≠ "java/lang/invoke/MethodHandle" ∧ yJ1_charAt_3b067.cls ≠ "java/lang/invoke/VarHandle" ∧ (parseMethodDescriptor yJ1_charAt_3b067.desc).map (fun d => d.parameters.length) = some 2 := by decide +kernel
theorem gm_568 : Cond.code yJ1_charAt_3b067 cJ1_charAt_3b067 2 (some .char) ∈ GW := gm 568 (by decide +kernel) (by decide +kernel)
theorem gm_567 : Cond.static yJ1_charAt_3b067 ∈ GW := gm 567 (by decide +kernel) (by decide +kernel)
theorem gm_120 : Cond.initialized "java/lang/StringLatin1" ∈ GW := gm 120 (by decide +kernel) (by decide +kernel)
theorem sk_J1_charAt_3b067 : SK yJ1_charAt_3b067 cJ1_charAt_3b067 2 (some .char) := ⟨gm_568, gm_567, gm_120⟩
theorem gm_566 : Cond.methodLink "java/lang/String" 495 yJ1_charAt_3b067 ∈ GW := gm 566 (by decide +kernel) (by decide +kernel)
theorem pn_J0_charAt_5068e : plainName yJ0_charAt_5068e.cls = true := by decide +kernel
theorem hd_J0_charAt_5068e : yJ0_charAt_5068e.cls ≠ "java/lang/invoke/MethodHandle" ∧ yJ0_charAt_5068e.cls ≠ "java/lang/invoke/VarHandle" ∧ (parseMethodDescriptor yJ0_charAt_5068e.desc).map (fun d => d.parameters.length) = some 1 := by decide +kernel
theorem gm_561 : Cond.code yJ0_charAt_5068e cJ0_charAt_5068e 2 (some .char) ∈ GW := gm 561 (by decide +kernel) (by decide +kernel)
theorem gm_559 : Cond.instanceMethod yJ0_charAt_5068e ∈ GW := gm 559 (by decide +kernel) (by decide +kernel)
theorem gm_560 : Cond.selects "java/lang/String" yJ0_charAt_5068e yJ0_charAt_5068e ∈ GW := gm 560 (by decide +kernel) (by decide +kernel)
theorem mk_J0_charAt_5068e : MK yJ0_charAt_5068e cJ0_charAt_5068e 2 (some .char) := ⟨gm_561, gm_559, gm_560, gm_119⟩
theorem gm_558 : Cond.methodLink "UncutTale$Parser" 161 yJ0_charAt_5068e ∈ GW := gm 558 (by decide +kernel) (by decide +kernel)
theorem pn_X3_isWord : plainName yX3_isWord.cls = true := by decide +kernel
theorem hd_X3_isWord : yX3_isWord.cls ≠ "java/lang/invoke/MethodHandle" ∧ yX3_isWord.cls ≠ "java/lang/invoke/VarHandle" ∧ (parseMethodDescriptor yX3_isWord.desc).map (fun d => d.parameters.length) = some 1 := by decide +kernel
theorem gm_547 : Cond.code yX3_isWord cX3_isWord 3 (some .boolean) ∈ GW := gm 547 (by decide +kernel) (by decide +kernel)
theorem gm_546 : Cond.instanceMethod yX3_isWord ∈ GW := gm 546 (by decide +kernel) (by decide +kernel)
theorem gm_4 : Cond.selects "UncutTale$Parser" yX3_isWord yX3_isWord ∈ GW := gm 4 (by decide +kernel) (by decide +kernel)
theorem mk_X3_isWord : MK yX3_isWord cX3_isWord 3 (some .boolean) := ⟨gm_547, gm_546, gm_4, gm_111⟩
theorem gm_544 : Cond.methodLink "UncutTale$Parser" 52 yX3_isWord ∈ GW := gm 544 (by decide +kernel) (by decide +kernel)
theorem gm_205 : Cond.fieldLink "UncutTale$Parser" 98 "UncutTale$Story" "parts" "I" ∈ GW := gm 205 (by decide +kernel) (by decide +kernel)
theorem fk_3_98 : FK "UncutTale$Parser" 98 6 13 := ⟨RX6, TX6, 18, rfl, by decide, iw_6, gm_205⟩
theorem pn_X3_refuse : plainName yX3_refuse.cls = true := by decide +kernel
theorem hd_X3_refuse : yX3_refuse.cls ≠ "java/lang/invoke/MethodHandle" ∧ yX3_refuse.cls ≠ "java/lang/invoke/VarHandle" ∧ (parseMethodDescriptor yX3_refuse.desc).map (fun d => d.parameters.length) = some 1 := by decide +kernel
theorem gm_599 : Cond.code yX3_refuse cX3_refuse 2 (some .boolean) ∈ GW := gm 599 (by decide +kernel) (by decide +kernel)
theorem gm_598 : Cond.instanceMethod yX3_refuse ∈ GW := gm 598 (by decide +kernel) (by decide +kernel)
theorem gm_5 : Cond.selects "UncutTale$Parser" yX3_refuse yX3_refuse ∈ GW := gm 5 (by decide +kernel) (by decide +kernel)
theorem mk_X3_refuse : MK yX3_refuse cX3_refuse 2 (some .boolean) := ⟨gm_599, gm_598, gm_5, gm_111⟩
theorem gm_596 : Cond.methodLink "UncutTale$Parser" 69 yX3_refuse ∈ GW := gm 596 (by decide +kernel) (by decide +kernel)
theorem pn_X3_takeWord : plainName yX3_takeWord.cls = true := by decide +kernel
theorem hd_X3_takeWord : yX3_takeWord.cls ≠ "java/lang/invoke/MethodHandle" ∧ yX3_takeWord.cls ≠ "java/lang/invoke/VarHandle" ∧ (parseMethodDescriptor yX3_takeWord.desc).map (fun d => d.parameters.length) = some 1 := by decide +kernel
theorem gm_543 : Cond.code yX3_takeWord cX3_takeWord 2 none ∈ GW := gm 543 (by decide +kernel) (by decide +kernel)
theorem gm_542 : Cond.instanceMethod yX3_takeWord ∈ GW := gm 542 (by decide +kernel) (by decide +kernel)
theorem gm_3 : Cond.selects "UncutTale$Parser" yX3_takeWord yX3_takeWord ∈ GW := gm 3 (by decide +kernel) (by decide +kernel)
theorem mk_X3_takeWord : MK yX3_takeWord cX3_takeWord 2 none := ⟨gm_543, gm_542, gm_3, gm_111⟩
theorem gm_540 : Cond.methodLink "UncutTale$Parser" 78 yX3_takeWord ∈ GW := gm 540 (by decide +kernel) (by decide +kernel)
theorem pn_X3_takeNumber : plainName yX3_takeNumber.cls = true := by decide +kernel
theorem hd_X3_takeNumber : yX3_takeNumber.cls ≠ "java/lang/invoke/MethodHandle" ∧ yX3_takeNumber.cls ≠ "java/lang/invoke/VarHandle" ∧ (parseMethodDescriptor yX3_takeNumber.desc).map (fun d => d.parameters.length) = some 2 := by decide +kernel
theorem gm_608 : Cond.code yX3_takeNumber cX3_takeNumber 4 (some .int) ∈ GW := gm 608 (by decide +kernel) (by decide +kernel)
theorem gm_607 : Cond.instanceMethod yX3_takeNumber ∈ GW := gm 607 (by decide +kernel) (by decide +kernel)
theorem gm_7 : Cond.selects "UncutTale$Parser" yX3_takeNumber yX3_takeNumber ∈ GW := gm 7 (by decide +kernel) (by decide +kernel)
theorem mk_X3_takeNumber : MK yX3_takeNumber cX3_takeNumber 4 (some .int) := ⟨gm_608, gm_607, gm_7, gm_111⟩
theorem gm_605 : Cond.methodLink "UncutTale$Parser" 114 yX3_takeNumber ∈ GW := gm 605 (by decide +kernel) (by decide +kernel)
theorem pn_X3_takeNamed : plainName yX3_takeNamed.cls = true := by decide +kernel
theorem hd_X3_takeNamed : yX3_takeNamed.cls ≠ "java/lang/invoke/MethodHandle" ∧ yX3_takeNamed.cls ≠ "java/lang/invoke/VarHandle" ∧ (parseMethodDescriptor yX3_takeNamed.desc).map (fun d => d.parameters.length) = some 3 := by decide +kernel
theorem gm_604 : Cond.code yX3_takeNamed cX3_takeNamed 4 (some .int) ∈ GW := gm 604 (by decide +kernel) (by decide +kernel)
theorem gm_603 : Cond.instanceMethod yX3_takeNamed ∈ GW := gm 603 (by decide +kernel) (by decide +kernel)
theorem gm_6 : Cond.selects "UncutTale$Parser" yX3_takeNamed yX3_takeNamed ∈ GW := gm 6 (by decide +kernel) (by decide +kernel)
theorem mk_X3_takeNamed : MK yX3_takeNamed cX3_takeNamed 4 (some .int) := ⟨gm_604, gm_603, gm_6, gm_111⟩
theorem gm_601 : Cond.methodLink "UncutTale$Parser" 84 yX3_takeNamed ∈ GW := gm 601 (by decide +kernel) (by decide +kernel)
theorem fk_6_52 : FK "UncutTale$Story" 52 6 13 := ⟨RX6, TX6, 18, rfl, by decide, iw_6, gm_200⟩
theorem gm_156 : Cond.fieldLink "UncutTale$Story" 9 "UncutTale$Story" "charm" "[I" ∈ GW := gm 156 (by decide +kernel) (by decide +kernel)
theorem fk_6_9 : FK "UncutTale$Story" 9 6 0 := ⟨RX6, TX6, 18, rfl, by decide, iw_6, gm_156⟩
theorem gm_160 : Cond.fieldLink "UncutTale$Story" 15 "UncutTale$Story" "tires" "[I" ∈ GW := gm 160 (by decide +kernel) (by decide +kernel)
theorem fk_6_15 : FK "UncutTale$Story" 15 6 1 := ⟨RX6, TX6, 18, rfl, by decide, iw_6, gm_160⟩
theorem gm_163 : Cond.fieldLink "UncutTale$Story" 18 "UncutTale$Story" "toldStiff" "[I" ∈ GW := gm 163 (by decide +kernel) (by decide +kernel)
theorem fk_6_18 : FK "UncutTale$Story" 18 6 2 := ⟨RX6, TX6, 18, rfl, by decide, iw_6, gm_163⟩
theorem pn_X6_addPart : plainName yX6_addPart.cls = true := by decide +kernel
theorem hd_X6_addPart : yX6_addPart.cls ≠ "java/lang/invoke/MethodHandle" ∧ yX6_addPart.cls ≠ "java/lang/invoke/VarHandle" ∧ (parseMethodDescriptor yX6_addPart.desc).map (fun d => d.parameters.length) = some 3 := by decide +kernel
theorem gm_622 : Cond.code yX6_addPart cX6_addPart 4 none ∈ GW := gm 622 (by decide +kernel) (by decide +kernel)
theorem gm_620 : Cond.instanceMethod yX6_addPart ∈ GW := gm 620 (by decide +kernel) (by decide +kernel)
theorem gm_621 : Cond.selects "UncutTale$Story" yX6_addPart yX6_addPart ∈ GW := gm 621 (by decide +kernel) (by decide +kernel)
theorem mk_X6_addPart : MK yX6_addPart cX6_addPart 4 none := ⟨gm_622, gm_620, gm_621, gm_110⟩
theorem gm_619 : Cond.methodLink "UncutTale$Parser" 107 yX6_addPart ∈ GW := gm 619 (by decide +kernel) (by decide +kernel)
theorem pn_X3_takePart : plainName yX3_takePart.cls = true := by decide +kernel
theorem hd_X3_takePart : yX3_takePart.cls ≠ "java/lang/invoke/MethodHandle" ∧ yX3_takePart.cls ≠ "java/lang/invoke/VarHandle" ∧ (parseMethodDescriptor yX3_takePart.desc).map (fun d => d.parameters.length) = some 0 := by decide +kernel
theorem gm_615 : Cond.code yX3_takePart cX3_takePart 4 (some .boolean) ∈ GW := gm 615 (by decide +kernel) (by decide +kernel)
theorem gm_614 : Cond.instanceMethod yX3_takePart ∈ GW := gm 614 (by decide +kernel) (by decide +kernel)
theorem gm_8 : Cond.selects "UncutTale$Parser" yX3_takePart yX3_takePart ∈ GW := gm 8 (by decide +kernel) (by decide +kernel)
theorem mk_X3_takePart : MK yX3_takePart cX3_takePart 4 (some .boolean) := ⟨gm_615, gm_614, gm_8, gm_111⟩
theorem gm_612 : Cond.methodLink "UncutTale$Parser" 56 yX3_takePart ∈ GW := gm 612 (by decide +kernel) (by decide +kernel)
theorem gm_208 : Cond.fieldLink "UncutTale$Parser" 111 "UncutTale$Story" "folds" "I" ∈ GW := gm 208 (by decide +kernel) (by decide +kernel)
theorem fk_3_111 : FK "UncutTale$Parser" 111 6 14 := ⟨RX6, TX6, 18, rfl, by decide, iw_6, gm_208⟩
theorem fk_6_55 : FK "UncutTale$Story" 55 6 14 := ⟨RX6, TX6, 18, rfl, by decide, iw_6, gm_207⟩
theorem gm_167 : Cond.fieldLink "UncutTale$Story" 21 "UncutTale$Story" "foldFrom" "[I" ∈ GW := gm 167 (by decide +kernel) (by decide +kernel)
theorem fk_6_21 : FK "UncutTale$Story" 21 6 3 := ⟨RX6, TX6, 18, rfl, by decide, iw_6, gm_167⟩
theorem gm_169 : Cond.fieldLink "UncutTale$Story" 24 "UncutTale$Story" "foldTo" "[I" ∈ GW := gm 169 (by decide +kernel) (by decide +kernel)
theorem fk_6_24 : FK "UncutTale$Story" 24 6 4 := ⟨RX6, TX6, 18, rfl, by decide, iw_6, gm_169⟩
theorem pn_X6_addFold : plainName yX6_addFold.cls = true := by decide +kernel
theorem hd_X6_addFold : yX6_addFold.cls ≠ "java/lang/invoke/MethodHandle" ∧ yX6_addFold.cls ≠ "java/lang/invoke/VarHandle" ∧ (parseMethodDescriptor yX6_addFold.desc).map (fun d => d.parameters.length) = some 2 := by decide +kernel
theorem gm_635 : Cond.code yX6_addFold cX6_addFold 3 none ∈ GW := gm 635 (by decide +kernel) (by decide +kernel)
theorem gm_633 : Cond.instanceMethod yX6_addFold ∈ GW := gm 633 (by decide +kernel) (by decide +kernel)
theorem gm_634 : Cond.selects "UncutTale$Story" yX6_addFold yX6_addFold ∈ GW := gm 634 (by decide +kernel) (by decide +kernel)
theorem mk_X6_addFold : MK yX6_addFold cX6_addFold 3 none := ⟨gm_635, gm_633, gm_634, gm_110⟩
theorem gm_632 : Cond.methodLink "UncutTale$Parser" 125 yX6_addFold ∈ GW := gm 632 (by decide +kernel) (by decide +kernel)
theorem pn_X6_areJoined : plainName yX6_areJoined.cls = true := by decide +kernel
theorem hd_X6_areJoined : yX6_areJoined.cls ≠ "java/lang/invoke/MethodHandle" ∧ yX6_areJoined.cls ≠ "java/lang/invoke/VarHandle" ∧ (parseMethodDescriptor yX6_areJoined.desc).map (fun d => d.parameters.length) = some 2 := by decide +kernel
theorem gm_631 : Cond.code yX6_areJoined cX6_areJoined 6 (some .boolean) ∈ GW := gm 631 (by decide +kernel) (by decide +kernel)
theorem gm_629 : Cond.instanceMethod yX6_areJoined ∈ GW := gm 629 (by decide +kernel) (by decide +kernel)
theorem gm_630 : Cond.selects "UncutTale$Story" yX6_areJoined yX6_areJoined ∈ GW := gm 630 (by decide +kernel) (by decide +kernel)
theorem mk_X6_areJoined : MK yX6_areJoined cX6_areJoined 6 (some .boolean) := ⟨gm_631, gm_629, gm_630, gm_110⟩
theorem gm_628 : Cond.methodLink "UncutTale$Parser" 121 yX6_areJoined ∈ GW := gm 628 (by decide +kernel) (by decide +kernel)
theorem pn_X3_takeFold : plainName yX3_takeFold.cls = true := by decide +kernel
theorem hd_X3_takeFold : yX3_takeFold.cls ≠ "java/lang/invoke/MethodHandle" ∧ yX3_takeFold.cls ≠ "java/lang/invoke/VarHandle" ∧ (parseMethodDescriptor yX3_takeFold.desc).map (fun d => d.parameters.length) = some 0 := by decide +kernel
theorem gm_627 : Cond.code yX3_takeFold cX3_takeFold 3 (some .boolean) ∈ GW := gm 627 (by decide +kernel) (by decide +kernel)
theorem gm_626 : Cond.instanceMethod yX3_takeFold ∈ GW := gm 626 (by decide +kernel) (by decide +kernel)
theorem gm_9 : Cond.selects "UncutTale$Parser" yX3_takeFold yX3_takeFold ∈ GW := gm 9 (by decide +kernel) (by decide +kernel)
theorem mk_X3_takeFold : MK yX3_takeFold cX3_takeFold 3 (some .boolean) := ⟨gm_627, gm_626, gm_9, gm_111⟩
theorem gm_624 : Cond.methodLink "UncutTale$Parser" 61 yX3_takeFold ∈ GW := gm 624 (by decide +kernel) (by decide +kernel)
theorem gm_213 : Cond.fieldLink "UncutTale$Parser" 129 "UncutTale$Story" "knives" "I" ∈ GW := gm 213 (by decide +kernel) (by decide +kernel)
theorem fk_3_129 : FK "UncutTale$Parser" 129 6 15 := ⟨RX6, TX6, 18, rfl, by decide, iw_6, gm_213⟩
theorem fk_6_58 : FK "UncutTale$Story" 58 6 15 := ⟨RX6, TX6, 18, rfl, by decide, iw_6, gm_210⟩
theorem gm_171 : Cond.fieldLink "UncutTale$Story" 27 "UncutTale$Story" "knifePart" "[I" ∈ GW := gm 171 (by decide +kernel) (by decide +kernel)
theorem fk_6_27 : FK "UncutTale$Story" 27 6 5 := ⟨RX6, TX6, 18, rfl, by decide, iw_6, gm_171⟩
theorem gm_174 : Cond.fieldLink "UncutTale$Story" 30 "UncutTale$Story" "knifeYear" "[I" ∈ GW := gm 174 (by decide +kernel) (by decide +kernel)
theorem fk_6_30 : FK "UncutTale$Story" 30 6 6 := ⟨RX6, TX6, 18, rfl, by decide, iw_6, gm_174⟩
theorem pn_X6_addKnife : plainName yX6_addKnife.cls = true := by decide +kernel
theorem hd_X6_addKnife : yX6_addKnife.cls ≠ "java/lang/invoke/MethodHandle" ∧ yX6_addKnife.cls ≠ "java/lang/invoke/VarHandle" ∧ (parseMethodDescriptor yX6_addKnife.desc).map (fun d => d.parameters.length) = some 2 := by decide +kernel
theorem gm_645 : Cond.code yX6_addKnife cX6_addKnife 3 none ∈ GW := gm 645 (by decide +kernel) (by decide +kernel)
theorem gm_643 : Cond.instanceMethod yX6_addKnife ∈ GW := gm 643 (by decide +kernel) (by decide +kernel)
theorem gm_644 : Cond.selects "UncutTale$Story" yX6_addKnife yX6_addKnife ∈ GW := gm 644 (by decide +kernel) (by decide +kernel)
theorem mk_X6_addKnife : MK yX6_addKnife cX6_addKnife 3 none := ⟨gm_645, gm_643, gm_644, gm_110⟩
theorem gm_642 : Cond.methodLink "UncutTale$Parser" 134 yX6_addKnife ∈ GW := gm 642 (by decide +kernel) (by decide +kernel)
theorem pn_X3_takeKnife : plainName yX3_takeKnife.cls = true := by decide +kernel
theorem hd_X3_takeKnife : yX3_takeKnife.cls ≠ "java/lang/invoke/MethodHandle" ∧ yX3_takeKnife.cls ≠ "java/lang/invoke/VarHandle" ∧ (parseMethodDescriptor yX3_takeKnife.desc).map (fun d => d.parameters.length) = some 0 := by decide +kernel
theorem gm_640 : Cond.code yX3_takeKnife cX3_takeKnife 3 (some .boolean) ∈ GW := gm 640 (by decide +kernel) (by decide +kernel)
theorem gm_639 : Cond.instanceMethod yX3_takeKnife ∈ GW := gm 639 (by decide +kernel) (by decide +kernel)
theorem gm_10 : Cond.selects "UncutTale$Parser" yX3_takeKnife yX3_takeKnife ∈ GW := gm 10 (by decide +kernel) (by decide +kernel)
theorem mk_X3_takeKnife : MK yX3_takeKnife cX3_takeKnife 3 (some .boolean) := ⟨gm_640, gm_639, gm_10, gm_111⟩
theorem gm_637 : Cond.methodLink "UncutTale$Parser" 66 yX3_takeKnife ∈ GW := gm 637 (by decide +kernel) (by decide +kernel)
theorem gm_189 : Cond.fieldLink "UncutTale$Parser" 88 "UncutTale$Story" "years" "I" ∈ GW := gm 189 (by decide +kernel) (by decide +kernel)
theorem pk_3_88 : PK "UncutTale$Parser" 88 6 10 .int := ⟨RX6, TX6, 18, tyX6, rfl, by decide, iw_6, gm_189, tyX6_ok, nmX6, rfl, by decide +kernel⟩
theorem gm_194 : Cond.fieldLink "UncutTale$Parser" 92 "UncutTale$Story" "law" "I" ∈ GW := gm 194 (by decide +kernel) (by decide +kernel)
theorem pk_3_92 : PK "UncutTale$Parser" 92 6 11 .int := ⟨RX6, TX6, 18, tyX6, rfl, by decide, iw_6, gm_194, tyX6_ok, nmX6, rfl, by decide +kernel⟩
theorem gm_198 : Cond.fieldLink "UncutTale$Parser" 96 "UncutTale$Story" "odds" "I" ∈ GW := gm 198 (by decide +kernel) (by decide +kernel)
theorem pk_3_96 : PK "UncutTale$Parser" 96 6 12 .int := ⟨RX6, TX6, 18, tyX6, rfl, by decide, iw_6, gm_198, tyX6_ok, nmX6, rfl, by decide +kernel⟩
theorem pn_X3_takeHead : plainName yX3_takeHead.cls = true := by decide +kernel
theorem hd_X3_takeHead : yX3_takeHead.cls ≠ "java/lang/invoke/MethodHandle" ∧ yX3_takeHead.cls ≠ "java/lang/invoke/VarHandle" ∧ (parseMethodDescriptor yX3_takeHead.desc).map (fun d => d.parameters.length) = some 0 := by decide +kernel
theorem gm_538 : Cond.code yX3_takeHead cX3_takeHead 1 (some .boolean) ∈ GW := gm 538 (by decide +kernel) (by decide +kernel)
theorem gm_537 : Cond.instanceMethod yX3_takeHead ∈ GW := gm 537 (by decide +kernel) (by decide +kernel)
theorem gm_2 : Cond.selects "UncutTale$Parser" yX3_takeHead yX3_takeHead ∈ GW := gm 2 (by decide +kernel) (by decide +kernel)
theorem mk_X3_takeHead : MK yX3_takeHead cX3_takeHead 1 (some .boolean) := ⟨gm_538, gm_537, gm_2, gm_111⟩
theorem gm_535 : Cond.methodLink "UncutTale$Parser" 47 yX3_takeHead ∈ GW := gm 535 (by decide +kernel) (by decide +kernel)
theorem pn_X3_takeSign : plainName yX3_takeSign.cls = true := by decide +kernel
theorem hd_X3_takeSign : yX3_takeSign.cls ≠ "java/lang/invoke/MethodHandle" ∧ yX3_takeSign.cls ≠ "java/lang/invoke/VarHandle" ∧ (parseMethodDescriptor yX3_takeSign.desc).map (fun d => d.parameters.length) = some 0 := by decide +kernel
theorem gm_649 : Cond.code yX3_takeSign cX3_takeSign 1 (some .boolean) ∈ GW := gm 649 (by decide +kernel) (by decide +kernel)
theorem gm_648 : Cond.instanceMethod yX3_takeSign ∈ GW := gm 648 (by decide +kernel) (by decide +kernel)
theorem gm_11 : Cond.selects "UncutTale$Parser" yX3_takeSign yX3_takeSign ∈ GW := gm 11 (by decide +kernel) (by decide +kernel)
theorem mk_X3_takeSign : MK yX3_takeSign cX3_takeSign 1 (some .boolean) := ⟨gm_649, gm_648, gm_11, gm_111⟩
theorem gm_646 : Cond.methodLink "UncutTale$Parser" 73 yX3_takeSign ∈ GW := gm 646 (by decide +kernel) (by decide +kernel)
theorem pn_X3_takeLine : plainName yX3_takeLine.cls = true := by decide +kernel
theorem hd_X3_takeLine : yX3_takeLine.cls ≠ "java/lang/invoke/MethodHandle" ∧ yX3_takeLine.cls ≠ "java/lang/invoke/VarHandle" ∧ (parseMethodDescriptor yX3_takeLine.desc).map (fun d => d.parameters.length) = some 0 := by decide +kernel
theorem gm_534 : Cond.code yX3_takeLine cX3_takeLine 2 (some .boolean) ∈ GW := gm 534 (by decide +kernel) (by decide +kernel)
theorem gm_533 : Cond.instanceMethod yX3_takeLine ∈ GW := gm 533 (by decide +kernel) (by decide +kernel)
theorem gm_1 : Cond.selects "UncutTale$Parser" yX3_takeLine yX3_takeLine ∈ GW := gm 1 (by decide +kernel) (by decide +kernel)
theorem mk_X3_takeLine : MK yX3_takeLine cX3_takeLine 2 (some .boolean) := ⟨gm_534, gm_533, gm_1, gm_111⟩
theorem gm_531 : Cond.methodLink "UncutTale$Parser" 40 yX3_takeLine ∈ GW := gm 531 (by decide +kernel) (by decide +kernel)
theorem pk_3_44 : PK "UncutTale$Parser" 44 6 17 .int := ⟨RX6, TX6, 18, tyX6, rfl, by decide, iw_6, gm_219, tyX6_ok, nmX6, rfl, by decide +kernel⟩
theorem pn_X3_parse : plainName yX3_parse.cls = true := by decide +kernel
theorem hd_X3_parse : yX3_parse.cls ≠ "java/lang/invoke/MethodHandle" ∧ yX3_parse.cls ≠ "java/lang/invoke/VarHandle" ∧ (parseMethodDescriptor yX3_parse.desc).map (fun d => d.parameters.length) = some 0 := by decide +kernel
theorem gm_512 : Cond.code yX3_parse cX3_parse 2 (some .boolean) ∈ GW := gm 512 (by decide +kernel) (by decide +kernel)
theorem gm_510 : Cond.instanceMethod yX3_parse ∈ GW := gm 510 (by decide +kernel) (by decide +kernel)
theorem gm_511 : Cond.selects "UncutTale$Parser" yX3_parse yX3_parse ∈ GW := gm 511 (by decide +kernel) (by decide +kernel)
theorem mk_X3_parse : MK yX3_parse cX3_parse 2 (some .boolean) := ⟨gm_512, gm_510, gm_511, gm_111⟩
theorem gm_509 : Cond.methodLink "UncutTale" 109 yX3_parse ∈ GW := gm 509 (by decide +kernel) (by decide +kernel)
theorem gm_446 : Cond.fieldLink "UncutTale" 32 "UncutTale" "story" "LUncutTale$Story;" ∈ GW := gm 446 (by decide +kernel) (by decide +kernel)
theorem fk_8_32 : FK "UncutTale" 32 8 3 := ⟨RX8, TX8, 15, rfl, by decide, iw_8, gm_446⟩
theorem gm_444 : Cond.fieldLink "UncutTale" 19 "UncutTale" "draft" "LUncutTale$Story;" ∈ GW := gm 444 (by decide +kernel) (by decide +kernel)
theorem fk_8_19 : FK "UncutTale" 19 8 1 := ⟨RX8, TX8, 15, rfl, by decide, iw_8, gm_444⟩
theorem fk_6_42 : FK "UncutTale$Story" 42 6 10 := ⟨RX6, TX6, 18, rfl, by decide, iw_6, gm_186⟩
theorem fk_6_46 : FK "UncutTale$Story" 46 6 11 := ⟨RX6, TX6, 18, rfl, by decide, iw_6, gm_193⟩
theorem fk_6_49 : FK "UncutTale$Story" 49 6 12 := ⟨RX6, TX6, 18, rfl, by decide, iw_6, gm_196⟩
theorem fk_6_61 : FK "UncutTale$Story" 61 6 16 := ⟨RX6, TX6, 18, rfl, by decide, iw_6, gm_215⟩
theorem fk_6_64 : FK "UncutTale$Story" 64 6 17 := ⟨RX6, TX6, 18, rfl, by decide, iw_6, gm_218⟩
theorem gm_654 : Cond.methodLink "UncutTale$Story" 67 ⟨"java/lang/System", "arraycopy", "(Ljava/lang/Object;ILjava/lang/Object;II)V"⟩ ∈ GW := gm 654 (by decide +kernel) (by decide +kernel)
theorem gm_656 : Cond.native ⟨"java/lang/System", "arraycopy", "(Ljava/lang/Object;ILjava/lang/Object;II)V"⟩ ∈ GW := gm 656 (by decide +kernel) (by decide +kernel)
theorem gm_655 : Cond.static ⟨"java/lang/System", "arraycopy", "(Ljava/lang/Object;ILjava/lang/Object;II)V"⟩ ∈ GW := gm 655 (by decide +kernel) (by decide +kernel)
theorem gm_123 : Cond.initialized "java/lang/System" ∈ GW := gm 123 (by decide +kernel) (by decide +kernel)
theorem gm_177 : Cond.fieldLink "UncutTale$Story" 33 "UncutTale$Story" "actKind" "[I" ∈ GW := gm 177 (by decide +kernel) (by decide +kernel)
theorem fk_6_33 : FK "UncutTale$Story" 33 6 7 := ⟨RX6, TX6, 18, rfl, by decide, iw_6, gm_177⟩
theorem gm_180 : Cond.fieldLink "UncutTale$Story" 36 "UncutTale$Story" "actPart" "[I" ∈ GW := gm 180 (by decide +kernel) (by decide +kernel)
theorem fk_6_36 : FK "UncutTale$Story" 36 6 8 := ⟨RX6, TX6, 18, rfl, by decide, iw_6, gm_180⟩
theorem gm_183 : Cond.fieldLink "UncutTale$Story" 39 "UncutTale$Story" "actYear" "[I" ∈ GW := gm 183 (by decide +kernel) (by decide +kernel)
theorem fk_6_39 : FK "UncutTale$Story" 39 6 9 := ⟨RX6, TX6, 18, rfl, by decide, iw_6, gm_183⟩
theorem pn_X6_become : plainName yX6_become.cls = true := by decide +kernel
theorem hd_X6_become : yX6_become.cls ≠ "java/lang/invoke/MethodHandle" ∧ yX6_become.cls ≠ "java/lang/invoke/VarHandle" ∧ (parseMethodDescriptor yX6_become.desc).map (fun d => d.parameters.length) = some 1 := by decide +kernel
theorem gm_653 : Cond.code yX6_become cX6_become 2 none ∈ GW := gm 653 (by decide +kernel) (by decide +kernel)
theorem gm_651 : Cond.instanceMethod yX6_become ∈ GW := gm 651 (by decide +kernel) (by decide +kernel)
theorem gm_652 : Cond.selects "UncutTale$Story" yX6_become yX6_become ∈ GW := gm 652 (by decide +kernel) (by decide +kernel)
theorem mk_X6_become : MK yX6_become cX6_become 2 none := ⟨gm_653, gm_651, gm_652, gm_110⟩
theorem gm_650 : Cond.methodLink "UncutTale" 112 yX6_become ∈ GW := gm 650 (by decide +kernel) (by decide +kernel)
theorem gm_455 : Cond.fieldLink "UncutTale" 87 "UncutTale" "nowIsStale" "Z" ∈ GW := gm 455 (by decide +kernel) (by decide +kernel)
theorem pk_8_87 : PK "UncutTale" 87 8 12 .boolean := ⟨RX8, TX8, 15, tyX8, rfl, by decide, iw_8, gm_455, tyX8_ok, nmX8, rfl, by decide +kernel⟩
theorem gm_456 : Cond.fieldLink "UncutTale" 91 "UncutTale" "oddsAreStale" "Z" ∈ GW := gm 456 (by decide +kernel) (by decide +kernel)
theorem pk_8_91 : PK "UncutTale" 91 8 13 .boolean := ⟨RX8, TX8, 15, tyX8, rfl, by decide, iw_8, gm_456, tyX8_ok, nmX8, rfl, by decide +kernel⟩
theorem gm_457 : Cond.fieldLink "UncutTale" 94 "UncutTale" "plannedYears" "I" ∈ GW := gm 457 (by decide +kernel) (by decide +kernel)
theorem pk_8_94 : PK "UncutTale" 94 8 14 .int := ⟨RX8, TX8, 15, tyX8, rfl, by decide, iw_8, gm_457, tyX8_ok, nmX8, rfl, by decide +kernel⟩
theorem pn_X8_forgetAnswers : plainName yX8_forgetAnswers.cls = true := by decide +kernel
theorem hd_X8_forgetAnswers : yX8_forgetAnswers.cls ≠ "java/lang/invoke/MethodHandle" ∧ yX8_forgetAnswers.cls ≠ "java/lang/invoke/VarHandle" ∧ (parseMethodDescriptor yX8_forgetAnswers.desc).map (fun d => d.parameters.length) = some 0 := by decide +kernel
theorem gm_660 : Cond.code yX8_forgetAnswers cX8_forgetAnswers 1 none ∈ GW := gm 660 (by decide +kernel) (by decide +kernel)
theorem gm_659 : Cond.instanceMethod yX8_forgetAnswers ∈ GW := gm 659 (by decide +kernel) (by decide +kernel)
theorem gm_12 : Cond.selects "UncutTale" yX8_forgetAnswers yX8_forgetAnswers ∈ GW := gm 12 (by decide +kernel) (by decide +kernel)
theorem gm_108 : Cond.initialized "UncutTale" ∈ GW := gm 108 (by decide +kernel) (by decide +kernel)
theorem mk_X8_forgetAnswers : MK yX8_forgetAnswers cX8_forgetAnswers 1 none := ⟨gm_660, gm_659, gm_12, gm_108⟩
theorem gm_657 : Cond.methodLink "UncutTale" 115 yX8_forgetAnswers ∈ GW := gm 657 (by decide +kernel) (by decide +kernel)
theorem gm_220 : Cond.fieldLink "UncutTale" 118 "UncutTale$Story" "lines" "I" ∈ GW := gm 220 (by decide +kernel) (by decide +kernel)
theorem fk_8_118 : FK "UncutTale" 118 6 17 := ⟨RX6, TX6, 18, rfl, by decide, iw_6, gm_220⟩
theorem pn_X8_tale : plainName yX8_tale.cls = true := by decide +kernel
theorem gm_272 : Cond.fieldLink "UncutTale" 121 "UncutTale$Parser" "fault" "I" ∈ GW := gm 272 (by decide +kernel) (by decide +kernel)
theorem fk_8_121 : FK "UncutTale" 121 3 6 := ⟨RX3, TX3, 8, rfl, by decide, iw_3, gm_272⟩
theorem gm_274 : Cond.fieldLink "UncutTale" 124 "UncutTale$Parser" "faultPlace" "I" ∈ GW := gm 274 (by decide +kernel) (by decide +kernel)
theorem fk_8_124 : FK "UncutTale" 124 3 7 := ⟨RX3, TX3, 8, rfl, by decide, iw_3, gm_274⟩
theorem pn_X8_fault : plainName yX8_fault.cls = true := by decide +kernel
theorem pn_X6_hasPart : plainName yX6_hasPart.cls = true := by decide +kernel
theorem hd_X6_hasPart : yX6_hasPart.cls ≠ "java/lang/invoke/MethodHandle" ∧ yX6_hasPart.cls ≠ "java/lang/invoke/VarHandle" ∧ (parseMethodDescriptor yX6_hasPart.desc).map (fun d => d.parameters.length) = some 1 := by decide +kernel
theorem gm_672 : Cond.code yX6_hasPart cX6_hasPart 2 (some .boolean) ∈ GW := gm 672 (by decide +kernel) (by decide +kernel)
theorem gm_670 : Cond.instanceMethod yX6_hasPart ∈ GW := gm 670 (by decide +kernel) (by decide +kernel)
theorem gm_671 : Cond.selects "UncutTale$Story" yX6_hasPart yX6_hasPart ∈ GW := gm 671 (by decide +kernel) (by decide +kernel)
theorem mk_X6_hasPart : MK yX6_hasPart cX6_hasPart 2 (some .boolean) := ⟨gm_672, gm_670, gm_671, gm_110⟩
theorem gm_669 : Cond.methodLink "UncutTale" 127 yX6_hasPart ∈ GW := gm 669 (by decide +kernel) (by decide +kernel)
theorem gm_158 : Cond.fieldLink "UncutTale" 131 "UncutTale$Story" "charm" "[I" ∈ GW := gm 158 (by decide +kernel) (by decide +kernel)
theorem fk_8_131 : FK "UncutTale" 131 6 0 := ⟨RX6, TX6, 18, rfl, by decide, iw_6, gm_158⟩
theorem gm_161 : Cond.fieldLink "UncutTale" 135 "UncutTale$Story" "tires" "[I" ∈ GW := gm 161 (by decide +kernel) (by decide +kernel)
theorem fk_8_135 : FK "UncutTale" 135 6 1 := ⟨RX6, TX6, 18, rfl, by decide, iw_6, gm_161⟩
theorem gm_165 : Cond.fieldLink "UncutTale" 138 "UncutTale$Story" "toldStiff" "[I" ∈ GW := gm 165 (by decide +kernel) (by decide +kernel)
theorem fk_8_138 : FK "UncutTale" 138 6 2 := ⟨RX6, TX6, 18, rfl, by decide, iw_6, gm_165⟩
theorem pn_X8_part : plainName yX8_part.cls = true := by decide +kernel
theorem pn_X6_neighbours : plainName yX6_neighbours.cls = true := by decide +kernel
theorem hd_X6_neighbours : yX6_neighbours.cls ≠ "java/lang/invoke/MethodHandle" ∧ yX6_neighbours.cls ≠ "java/lang/invoke/VarHandle" ∧ (parseMethodDescriptor yX6_neighbours.desc).map (fun d => d.parameters.length) = some 2 := by decide +kernel
theorem gm_680 : Cond.code yX6_neighbours cX6_neighbours 5 (some .int) ∈ GW := gm 680 (by decide +kernel) (by decide +kernel)
theorem gm_678 : Cond.instanceMethod yX6_neighbours ∈ GW := gm 678 (by decide +kernel) (by decide +kernel)
theorem gm_679 : Cond.selects "UncutTale$Story" yX6_neighbours yX6_neighbours ∈ GW := gm 679 (by decide +kernel) (by decide +kernel)
theorem mk_X6_neighbours : MK yX6_neighbours cX6_neighbours 5 (some .int) := ⟨gm_680, gm_678, gm_679, gm_110⟩
theorem gm_677 : Cond.methodLink "UncutTale" 141 yX6_neighbours ∈ GW := gm 677 (by decide +kernel) (by decide +kernel)
theorem pn_X8_near : plainName yX8_near.cls = true := by decide +kernel
theorem pn_X8_hasBit : plainName yX8_hasBit.cls = true := by decide +kernel
theorem hd_X8_hasBit : yX8_hasBit.cls ≠ "java/lang/invoke/MethodHandle" ∧ yX8_hasBit.cls ≠ "java/lang/invoke/VarHandle" ∧ (parseMethodDescriptor yX8_hasBit.desc).map (fun d => d.parameters.length) = some 2 := by decide +kernel
theorem gm_687 : Cond.code yX8_hasBit cX8_hasBit 2 (some .boolean) ∈ GW := gm 687 (by decide +kernel) (by decide +kernel)
theorem gm_686 : Cond.static yX8_hasBit ∈ GW := gm 686 (by decide +kernel) (by decide +kernel)
theorem sk_X8_hasBit : SK yX8_hasBit cX8_hasBit 2 (some .boolean) := ⟨gm_687, gm_686, gm_108⟩
theorem gm_685 : Cond.methodLink "UncutTale" 145 yX8_hasBit ∈ GW := gm 685 (by decide +kernel) (by decide +kernel)
theorem gm_693 : Cond.methodLink "UncutTale$Story" 81 yX6_neighbours ∈ GW := gm 693 (by decide +kernel) (by decide +kernel)
theorem pn_X6_spread : plainName yX6_spread.cls = true := by decide +kernel
theorem hd_X6_spread : yX6_spread.cls ≠ "java/lang/invoke/MethodHandle" ∧ yX6_spread.cls ≠ "java/lang/invoke/VarHandle" ∧ (parseMethodDescriptor yX6_spread.desc).map (fun d => d.parameters.length) = some 1 := by decide +kernel
theorem gm_691 : Cond.code yX6_spread cX6_spread 4 (some .int) ∈ GW := gm 691 (by decide +kernel) (by decide +kernel)
theorem gm_689 : Cond.instanceMethod yX6_spread ∈ GW := gm 689 (by decide +kernel) (by decide +kernel)
theorem gm_690 : Cond.selects "UncutTale$Story" yX6_spread yX6_spread ∈ GW := gm 690 (by decide +kernel) (by decide +kernel)
theorem mk_X6_spread : MK yX6_spread cX6_spread 4 (some .int) := ⟨gm_691, gm_689, gm_690, gm_110⟩
theorem gm_688 : Cond.methodLink "UncutTale" 149 yX6_spread ∈ GW := gm 688 (by decide +kernel) (by decide +kernel)
theorem pn_X8_far : plainName yX8_far.cls = true := by decide +kernel
theorem pn_X6_isTold : plainName yX6_isTold.cls = true := by decide +kernel
theorem hd_X6_isTold : yX6_isTold.cls ≠ "java/lang/invoke/MethodHandle" ∧ yX6_isTold.cls ≠ "java/lang/invoke/VarHandle" ∧ (parseMethodDescriptor yX6_isTold.desc).map (fun d => d.parameters.length) = some 0 := by decide +kernel
theorem gm_701 : Cond.code yX6_isTold cX6_isTold 1 (some .boolean) ∈ GW := gm 701 (by decide +kernel) (by decide +kernel)
theorem gm_699 : Cond.instanceMethod yX6_isTold ∈ GW := gm 699 (by decide +kernel) (by decide +kernel)
theorem gm_700 : Cond.selects "UncutTale$Story" yX6_isTold yX6_isTold ∈ GW := gm 700 (by decide +kernel) (by decide +kernel)
theorem mk_X6_isTold : MK yX6_isTold cX6_isTold 1 (some .boolean) := ⟨gm_701, gm_699, gm_700, gm_110⟩
theorem gm_735 : Cond.methodLink "UncutTale$Story" 73 yX6_isTold ∈ GW := gm 735 (by decide +kernel) (by decide +kernel)
theorem pn_X6_hasYear : plainName yX6_hasYear.cls = true := by decide +kernel
theorem hd_X6_hasYear : yX6_hasYear.cls ≠ "java/lang/invoke/MethodHandle" ∧ yX6_hasYear.cls ≠ "java/lang/invoke/VarHandle" ∧ (parseMethodDescriptor yX6_hasYear.desc).map (fun d => d.parameters.length) = some 1 := by decide +kernel
theorem gm_734 : Cond.code yX6_hasYear cX6_hasYear 2 (some .boolean) ∈ GW := gm 734 (by decide +kernel) (by decide +kernel)
theorem gm_732 : Cond.instanceMethod yX6_hasYear ∈ GW := gm 732 (by decide +kernel) (by decide +kernel)
theorem gm_733 : Cond.selects "UncutTale$Story" yX6_hasYear yX6_hasYear ∈ GW := gm 733 (by decide +kernel) (by decide +kernel)
theorem mk_X6_hasYear : MK yX6_hasYear cX6_hasYear 2 (some .boolean) := ⟨gm_734, gm_732, gm_733, gm_110⟩
theorem gm_731 : Cond.methodLink "UncutTale" 196 yX6_hasYear ∈ GW := gm 731 (by decide +kernel) (by decide +kernel)
theorem pn_X8_hasPartAndYear : plainName yX8_hasPartAndYear.cls = true := by decide +kernel
theorem hd_X8_hasPartAndYear : yX8_hasPartAndYear.cls ≠ "java/lang/invoke/MethodHandle" ∧ yX8_hasPartAndYear.cls ≠ "java/lang/invoke/VarHandle" ∧ (parseMethodDescriptor yX8_hasPartAndYear.desc).map (fun d => d.parameters.length) = some 2 := by decide +kernel
theorem gm_730 : Cond.code yX8_hasPartAndYear cX8_hasPartAndYear 3 (some .boolean) ∈ GW := gm 730 (by decide +kernel) (by decide +kernel)
theorem gm_729 : Cond.instanceMethod yX8_hasPartAndYear ∈ GW := gm 729 (by decide +kernel) (by decide +kernel)
theorem gm_13 : Cond.selects "UncutTale" yX8_hasPartAndYear yX8_hasPartAndYear ∈ GW := gm 13 (by decide +kernel) (by decide +kernel)
theorem mk_X8_hasPartAndYear : MK yX8_hasPartAndYear cX8_hasPartAndYear 3 (some .boolean) := ⟨gm_730, gm_729, gm_13, gm_108⟩
theorem gm_727 : Cond.methodLink "UncutTale" 186 yX8_hasPartAndYear ∈ GW := gm 727 (by decide +kernel) (by decide +kernel)
theorem fk_8_87 : FK "UncutTale" 87 8 12 := ⟨RX8, TX8, 15, rfl, by decide, iw_8, gm_455⟩
theorem gm_450 : Cond.fieldLink "UncutTale" 55 "UncutTale" "now" "LUncutTale$Course;" ∈ GW := gm 450 (by decide +kernel) (by decide +kernel)
theorem fk_8_55 : FK "UncutTale" 55 8 7 := ⟨RX8, TX8, 15, rfl, by decide, iw_8, gm_450⟩
theorem iw_0 : ∀ w ∈ u_ws RX0 TX0 10, w ∈ GW := by
  have h1 : ∀ w ∈ u_ws RX0 TX0 10, w ∈ lw_tbl ∧ goodWord w = true := by decide +kernel
  exact fun w h => List.mem_filter.mpr (h1 w h)
theorem gm_317 : Cond.fieldLink "UncutTale$Course" 30 "UncutTale$Course" "story" "LUncutTale$Story;" ∈ GW := gm 317 (by decide +kernel) (by decide +kernel)
theorem fk_0_30 : FK "UncutTale$Course" 30 0 0 := ⟨RX0, TX0, 10, rfl, by decide, iw_0, gm_317⟩
theorem gm_192 : Cond.fieldLink "UncutTale$Course" 34 "UncutTale$Story" "law" "I" ∈ GW := gm 192 (by decide +kernel) (by decide +kernel)
theorem fk_0_34 : FK "UncutTale$Course" 34 6 11 := ⟨RX6, TX6, 18, rfl, by decide, iw_6, gm_192⟩
theorem gm_325 : Cond.fieldLink "UncutTale$Course" 40 "UncutTale$Course" "law" "I" ∈ GW := gm 325 (by decide +kernel) (by decide +kernel)
theorem pk_0_40 : PK "UncutTale$Course" 40 0 7 .int := ⟨RX0, TX0, 10, tyX0, rfl, by decide, iw_0, gm_325, tyX0_ok, nmX0, rfl, by decide +kernel⟩
theorem gm_327 : Cond.fieldLink "UncutTale$Course" 41 "UncutTale$Course" "sewn" "I" ∈ GW := gm 327 (by decide +kernel) (by decide +kernel)
theorem pk_0_41 : PK "UncutTale$Course" 41 0 8 .int := ⟨RX0, TX0, 10, tyX0, rfl, by decide, iw_0, gm_327, tyX0_ok, nmX0, rfl, by decide +kernel⟩
theorem gm_201 : Cond.fieldLink "UncutTale$Course" 44 "UncutTale$Story" "parts" "I" ∈ GW := gm 201 (by decide +kernel) (by decide +kernel)
theorem fk_0_44 : FK "UncutTale$Course" 44 6 13 := ⟨RX6, TX6, 18, rfl, by decide, iw_6, gm_201⟩
theorem gm_319 : Cond.fieldLink "UncutTale$Course" 15 "UncutTale$Course" "airings" "[I" ∈ GW := gm 319 (by decide +kernel) (by decide +kernel)
theorem fk_0_15 : FK "UncutTale$Course" 15 0 2 := ⟨RX0, TX0, 10, rfl, by decide, iw_0, gm_319⟩
theorem pn_J7_fill_53178 : plainName yJ7_fill_53178.cls = true := by decide +kernel
theorem hd_J7_fill_53178 : yJ7_fill_53178.cls ≠ "java/lang/invoke/MethodHandle" ∧ yJ7_fill_53178.cls ≠ "java/lang/invoke/VarHandle" ∧ (parseMethodDescriptor yJ7_fill_53178.desc).map (fun d => d.parameters.length) = some 2 := by decide +kernel
theorem gm_747 : Cond.code yJ7_fill_53178 cJ7_fill_53178 4 none ∈ GW := gm 747 (by decide +kernel) (by decide +kernel)
theorem gm_746 : Cond.static yJ7_fill_53178 ∈ GW := gm 746 (by decide +kernel) (by decide +kernel)
theorem gm_124 : Cond.initialized "java/util/Arrays" ∈ GW := gm 124 (by decide +kernel) (by decide +kernel)
theorem sk_J7_fill_53178 : SK yJ7_fill_53178 cJ7_fill_53178 4 none := ⟨gm_747, gm_746, gm_124⟩
theorem gm_745 : Cond.methodLink "UncutTale$Course" 51 yJ7_fill_53178 ∈ GW := gm 745 (by decide +kernel) (by decide +kernel)
theorem gm_216 : Cond.fieldLink "UncutTale$Course" 57 "UncutTale$Story" "acts" "I" ∈ GW := gm 216 (by decide +kernel) (by decide +kernel)
theorem fk_0_57 : FK "UncutTale$Course" 57 6 16 := ⟨RX6, TX6, 18, rfl, by decide, iw_6, gm_216⟩
theorem gm_178 : Cond.fieldLink "UncutTale$Course" 60 "UncutTale$Story" "actKind" "[I" ∈ GW := gm 178 (by decide +kernel) (by decide +kernel)
theorem fk_0_60 : FK "UncutTale$Course" 60 6 7 := ⟨RX6, TX6, 18, rfl, by decide, iw_6, gm_178⟩
theorem gm_184 : Cond.fieldLink "UncutTale$Course" 63 "UncutTale$Story" "actYear" "[I" ∈ GW := gm 184 (by decide +kernel) (by decide +kernel)
theorem fk_0_63 : FK "UncutTale$Course" 63 6 9 := ⟨RX6, TX6, 18, rfl, by decide, iw_6, gm_184⟩
theorem gm_181 : Cond.fieldLink "UncutTale$Course" 66 "UncutTale$Story" "actPart" "[I" ∈ GW := gm 181 (by decide +kernel) (by decide +kernel)
theorem fk_0_66 : FK "UncutTale$Course" 66 6 8 := ⟨RX6, TX6, 18, rfl, by decide, iw_6, gm_181⟩
theorem gm_318 : Cond.fieldLink "UncutTale$Course" 9 "UncutTale$Course" "near" "[I" ∈ GW := gm 318 (by decide +kernel) (by decide +kernel)
theorem fk_0_9 : FK "UncutTale$Course" 9 0 1 := ⟨RX0, TX0, 10, rfl, by decide, iw_0, gm_318⟩
theorem gm_744 : Cond.methodLink "UncutTale$Course" 47 yX6_neighbours ∈ GW := gm 744 (by decide +kernel) (by decide +kernel)
theorem pn_X0_begin : plainName yX0_begin.cls = true := by decide +kernel
theorem hd_X0_begin : yX0_begin.cls ≠ "java/lang/invoke/MethodHandle" ∧ yX0_begin.cls ≠ "java/lang/invoke/VarHandle" ∧ (parseMethodDescriptor yX0_begin.desc).map (fun d => d.parameters.length) = some 1 := by decide +kernel
theorem gm_743 : Cond.code yX0_begin cX0_begin 3 none ∈ GW := gm 743 (by decide +kernel) (by decide +kernel)
theorem gm_741 : Cond.instanceMethod yX0_begin ∈ GW := gm 741 (by decide +kernel) (by decide +kernel)
theorem gm_742 : Cond.selects "UncutTale$Course" yX0_begin yX0_begin ∈ GW := gm 742 (by decide +kernel) (by decide +kernel)
theorem gm_113 : Cond.initialized "UncutTale$Course" ∈ GW := gm 113 (by decide +kernel) (by decide +kernel)
theorem mk_X0_begin : MK yX0_begin cX0_begin 3 none := ⟨gm_743, gm_741, gm_742, gm_113⟩
theorem gm_740 : Cond.methodLink "UncutTale" 257 yX0_begin ∈ GW := gm 740 (by decide +kernel) (by decide +kernel)
theorem pn_X6_everyKnife : plainName yX6_everyKnife.cls = true := by decide +kernel
theorem hd_X6_everyKnife : yX6_everyKnife.cls ≠ "java/lang/invoke/MethodHandle" ∧ yX6_everyKnife.cls ≠ "java/lang/invoke/VarHandle" ∧ (parseMethodDescriptor yX6_everyKnife.desc).map (fun d => d.parameters.length) = some 0 := by decide +kernel
theorem gm_751 : Cond.code yX6_everyKnife cX6_everyKnife 1 (some .int) ∈ GW := gm 751 (by decide +kernel) (by decide +kernel)
theorem gm_749 : Cond.instanceMethod yX6_everyKnife ∈ GW := gm 749 (by decide +kernel) (by decide +kernel)
theorem gm_750 : Cond.selects "UncutTale$Story" yX6_everyKnife yX6_everyKnife ∈ GW := gm 750 (by decide +kernel) (by decide +kernel)
theorem mk_X6_everyKnife : MK yX6_everyKnife cX6_everyKnife 1 (some .int) := ⟨gm_751, gm_749, gm_750, gm_110⟩
theorem gm_748 : Cond.methodLink "UncutTale" 315 yX6_everyKnife ∈ GW := gm 748 (by decide +kernel) (by decide +kernel)
theorem gm_320 : Cond.fieldLink "UncutTale$Course" 18 "UncutTale$Course" "toCut" "[I" ∈ GW := gm 320 (by decide +kernel) (by decide +kernel)
theorem fk_0_18 : FK "UncutTale$Course" 18 0 3 := ⟨RX0, TX0, 10, rfl, by decide, iw_0, gm_320⟩
theorem gm_212 : Cond.fieldLink "UncutTale$Course" 69 "UncutTale$Story" "knives" "I" ∈ GW := gm 212 (by decide +kernel) (by decide +kernel)
theorem fk_0_69 : FK "UncutTale$Course" 69 6 15 := ⟨RX6, TX6, 18, rfl, by decide, iw_6, gm_212⟩
theorem gm_175 : Cond.fieldLink "UncutTale$Course" 76 "UncutTale$Story" "knifeYear" "[I" ∈ GW := gm 175 (by decide +kernel) (by decide +kernel)
theorem fk_0_76 : FK "UncutTale$Course" 76 6 6 := ⟨RX6, TX6, 18, rfl, by decide, iw_6, gm_175⟩
theorem gm_172 : Cond.fieldLink "UncutTale$Course" 79 "UncutTale$Story" "knifePart" "[I" ∈ GW := gm 172 (by decide +kernel) (by decide +kernel)
theorem fk_0_79 : FK "UncutTale$Course" 79 6 5 := ⟨RX6, TX6, 18, rfl, by decide, iw_6, gm_172⟩
theorem gm_322 : Cond.fieldLink "UncutTale$Course" 24 "UncutTale$Course" "openedAt" "[I" ∈ GW := gm 322 (by decide +kernel) (by decide +kernel)
theorem fk_0_24 : FK "UncutTale$Course" 24 0 5 := ⟨RX0, TX0, 10, rfl, by decide, iw_0, gm_322⟩
theorem gm_329 : Cond.fieldLink "UncutTale$Course" 85 "UncutTale$Course" "ofThemselves" "I" ∈ GW := gm 329 (by decide +kernel) (by decide +kernel)
theorem pk_0_85 : PK "UncutTale$Course" 85 0 9 .int := ⟨RX0, TX0, 10, tyX0, rfl, by decide, iw_0, gm_329, tyX0_ok, nmX0, rfl, by decide +kernel⟩
theorem gm_321 : Cond.fieldLink "UncutTale$Course" 21 "UncutTale$Course" "open" "[I" ∈ GW := gm 321 (by decide +kernel) (by decide +kernel)
theorem fk_0_21 : FK "UncutTale$Course" 21 0 4 := ⟨RX0, TX0, 10, rfl, by decide, iw_0, gm_321⟩
theorem gm_190 : Cond.fieldLink "UncutTale$Course" 88 "UncutTale$Story" "years" "I" ∈ GW := gm 190 (by decide +kernel) (by decide +kernel)
theorem fk_0_88 : FK "UncutTale$Course" 88 6 10 := ⟨RX6, TX6, 18, rfl, by decide, iw_6, gm_190⟩
theorem fk_0_41 : FK "UncutTale$Course" 41 0 8 := ⟨RX0, TX0, 10, rfl, by decide, iw_0, gm_327⟩
theorem pn_X0_settle : plainName yX0_settle.cls = true := by decide +kernel
theorem hd_X0_settle : yX0_settle.cls ≠ "java/lang/invoke/MethodHandle" ∧ yX0_settle.cls ≠ "java/lang/invoke/VarHandle" ∧ (parseMethodDescriptor yX0_settle.desc).map (fun d => d.parameters.length) = some 1 := by decide +kernel
theorem gm_764 : Cond.code yX0_settle cX0_settle 4 (some .int) ∈ GW := gm 764 (by decide +kernel) (by decide +kernel)
theorem gm_762 : Cond.instanceMethod yX0_settle ∈ GW := gm 762 (by decide +kernel) (by decide +kernel)
theorem gm_763 : Cond.selects "UncutTale$Course" yX0_settle yX0_settle ∈ GW := gm 763 (by decide +kernel) (by decide +kernel)
theorem mk_X0_settle : MK yX0_settle cX0_settle 4 (some .int) := ⟨gm_764, gm_762, gm_763, gm_113⟩
theorem gm_761 : Cond.methodLink "UncutTale$Course" 91 yX0_settle ∈ GW := gm 761 (by decide +kernel) (by decide +kernel)
theorem fk_0_85 : FK "UncutTale$Course" 85 0 9 := ⟨RX0, TX0, 10, rfl, by decide, iw_0, gm_329⟩
theorem pn_X0_noteOpenings : plainName yX0_noteOpenings.cls = true := by decide +kernel
theorem hd_X0_noteOpenings : yX0_noteOpenings.cls ≠ "java/lang/invoke/MethodHandle" ∧ yX0_noteOpenings.cls ≠ "java/lang/invoke/VarHandle" ∧ (parseMethodDescriptor yX0_noteOpenings.desc).map (fun d => d.parameters.length) = some 2 := by decide +kernel
theorem gm_768 : Cond.code yX0_noteOpenings cX0_noteOpenings 4 none ∈ GW := gm 768 (by decide +kernel) (by decide +kernel)
theorem gm_767 : Cond.instanceMethod yX0_noteOpenings ∈ GW := gm 767 (by decide +kernel) (by decide +kernel)
theorem gm_16 : Cond.selects "UncutTale$Course" yX0_noteOpenings yX0_noteOpenings ∈ GW := gm 16 (by decide +kernel) (by decide +kernel)
theorem mk_X0_noteOpenings : MK yX0_noteOpenings cX0_noteOpenings 4 none := ⟨gm_768, gm_767, gm_16, gm_113⟩
theorem gm_765 : Cond.methodLink "UncutTale$Course" 95 yX0_noteOpenings ∈ GW := gm 765 (by decide +kernel) (by decide +kernel)
theorem pn_X0_unfold : plainName yX0_unfold.cls = true := by decide +kernel
theorem hd_X0_unfold : yX0_unfold.cls ≠ "java/lang/invoke/MethodHandle" ∧ yX0_unfold.cls ≠ "java/lang/invoke/VarHandle" ∧ (parseMethodDescriptor yX0_unfold.desc).map (fun d => d.parameters.length) = some 0 := by decide +kernel
theorem gm_760 : Cond.code yX0_unfold cX0_unfold 5 none ∈ GW := gm 760 (by decide +kernel) (by decide +kernel)
theorem gm_759 : Cond.instanceMethod yX0_unfold ∈ GW := gm 759 (by decide +kernel) (by decide +kernel)
theorem gm_15 : Cond.selects "UncutTale$Course" yX0_unfold yX0_unfold ∈ GW := gm 15 (by decide +kernel) (by decide +kernel)
theorem mk_X0_unfold : MK yX0_unfold cX0_unfold 5 none := ⟨gm_760, gm_759, gm_15, gm_113⟩
theorem gm_757 : Cond.methodLink "UncutTale$Course" 82 yX0_unfold ∈ GW := gm 757 (by decide +kernel) (by decide +kernel)
theorem pn_X0_unfoldWith : plainName yX0_unfoldWith.cls = true := by decide +kernel
theorem hd_X0_unfoldWith : yX0_unfoldWith.cls ≠ "java/lang/invoke/MethodHandle" ∧ yX0_unfoldWith.cls ≠ "java/lang/invoke/VarHandle" ∧ (parseMethodDescriptor yX0_unfoldWith.desc).map (fun d => d.parameters.length) = some 1 := by decide +kernel
theorem gm_755 : Cond.code yX0_unfoldWith cX0_unfoldWith 3 none ∈ GW := gm 755 (by decide +kernel) (by decide +kernel)
theorem gm_753 : Cond.instanceMethod yX0_unfoldWith ∈ GW := gm 753 (by decide +kernel) (by decide +kernel)
theorem gm_754 : Cond.selects "UncutTale$Course" yX0_unfoldWith yX0_unfoldWith ∈ GW := gm 754 (by decide +kernel) (by decide +kernel)
theorem mk_X0_unfoldWith : MK yX0_unfoldWith cX0_unfoldWith 3 none := ⟨gm_755, gm_753, gm_754, gm_113⟩
theorem gm_752 : Cond.methodLink "UncutTale" 329 yX0_unfoldWith ∈ GW := gm 752 (by decide +kernel) (by decide +kernel)
theorem pn_X8_current : plainName yX8_current.cls = true := by decide +kernel
theorem hd_X8_current : yX8_current.cls ≠ "java/lang/invoke/MethodHandle" ∧ yX8_current.cls ≠ "java/lang/invoke/VarHandle" ∧ (parseMethodDescriptor yX8_current.desc).map (fun d => d.parameters.length) = some 0 := by decide +kernel
theorem gm_739 : Cond.code yX8_current cX8_current 1 (some (.object "UncutTale$Course")) ∈ GW := gm 739 (by decide +kernel) (by decide +kernel)
theorem gm_738 : Cond.instanceMethod yX8_current ∈ GW := gm 738 (by decide +kernel) (by decide +kernel)
theorem gm_14 : Cond.selects "UncutTale" yX8_current yX8_current ∈ GW := gm 14 (by decide +kernel) (by decide +kernel)
theorem mk_X8_current : MK yX8_current cX8_current 1 (some (.object "UncutTale$Course")) := ⟨gm_739, gm_738, gm_14, gm_108⟩
theorem gm_736 : Cond.methodLink "UncutTale" 189 yX8_current ∈ GW := gm 736 (by decide +kernel) (by decide +kernel)
theorem gm_166 : Cond.fieldLink "UncutTale$Course" 99 "UncutTale$Story" "toldStiff" "[I" ∈ GW := gm 166 (by decide +kernel) (by decide +kernel)
theorem fk_0_99 : FK "UncutTale$Course" 99 6 2 := ⟨RX6, TX6, 18, rfl, by decide, iw_6, gm_166⟩
theorem gm_323 : Cond.fieldLink "UncutTale$Course" 27 "UncutTale$Course" "trace" "[I" ∈ GW := gm 323 (by decide +kernel) (by decide +kernel)
theorem fk_0_27 : FK "UncutTale$Course" 27 0 6 := ⟨RX0, TX0, 10, rfl, by decide, iw_0, gm_323⟩
theorem mw_e_mmax : Cond.code Lib.Math.max.name Lib.Math.max.code 2 (some .int) ∈ GW := gm 783 (by decide +kernel) (by decide +kernel)
theorem gm_781 : Cond.methodLink "UncutTale$Course" 112 yJ9_max_7cf53 ∈ GW := gm 781 (by decide +kernel) (by decide +kernel)
theorem gm_782 : Cond.static yJ9_max_7cf53 ∈ GW := gm 782 (by decide +kernel) (by decide +kernel)
theorem pn_X0_aired : plainName yX0_aired.cls = true := by decide +kernel
theorem hd_X0_aired : yX0_aired.cls ≠ "java/lang/invoke/MethodHandle" ∧ yX0_aired.cls ≠ "java/lang/invoke/VarHandle" ∧ (parseMethodDescriptor yX0_aired.desc).map (fun d => d.parameters.length) = some 3 := by decide +kernel
theorem gm_780 : Cond.code yX0_aired cX0_aired 4 (some .int) ∈ GW := gm 780 (by decide +kernel) (by decide +kernel)
theorem gm_778 : Cond.instanceMethod yX0_aired ∈ GW := gm 778 (by decide +kernel) (by decide +kernel)
theorem gm_779 : Cond.selects "UncutTale$Course" yX0_aired yX0_aired ∈ GW := gm 779 (by decide +kernel) (by decide +kernel)
theorem mk_X0_aired : MK yX0_aired cX0_aired 4 (some .int) := ⟨gm_780, gm_778, gm_779, gm_113⟩
theorem gm_777 : Cond.methodLink "UncutTale$Course" 106 yX0_aired ∈ GW := gm 777 (by decide +kernel) (by decide +kernel)
theorem gm_162 : Cond.fieldLink "UncutTale$Course" 117 "UncutTale$Story" "tires" "[I" ∈ GW := gm 162 (by decide +kernel) (by decide +kernel)
theorem fk_0_117 : FK "UncutTale$Course" 117 6 1 := ⟨RX6, TX6, 18, rfl, by decide, iw_6, gm_162⟩
theorem fk_0_40 : FK "UncutTale$Course" 40 0 7 := ⟨RX0, TX0, 10, rfl, by decide, iw_0, gm_325⟩
theorem gm_794 : Cond.methodLink "UncutTale$Course" 125 yJ9_min_7cf53 ∈ GW := gm 794 (by decide +kernel) (by decide +kernel)
theorem gm_791 : Cond.constant "java/lang/Integer" 265 1431655765 ∈ GW := gm 791 (by decide +kernel) (by decide +kernel)
theorem gm_792 : Cond.constant "java/lang/Integer" 266 858993459 ∈ GW := gm 792 (by decide +kernel) (by decide +kernel)
theorem gm_793 : Cond.constant "java/lang/Integer" 267 252645135 ∈ GW := gm 793 (by decide +kernel) (by decide +kernel)
theorem pn_J6_bitCount_0f7a4 : plainName yJ6_bitCount_0f7a4.cls = true := by decide +kernel
theorem hd_J6_bitCount_0f7a4 : yJ6_bitCount_0f7a4.cls ≠ "java/lang/invoke/MethodHandle" ∧ yJ6_bitCount_0f7a4.cls ≠ "java/lang/invoke/VarHandle" ∧ (parseMethodDescriptor yJ6_bitCount_0f7a4.desc).map (fun d => d.parameters.length) = some 1 := by decide +kernel
theorem gm_790 : Cond.code yJ6_bitCount_0f7a4 cJ6_bitCount_0f7a4 1 (some .int) ∈ GW := gm 790 (by decide +kernel) (by decide +kernel)
theorem gm_789 : Cond.static yJ6_bitCount_0f7a4 ∈ GW := gm 789 (by decide +kernel) (by decide +kernel)
theorem gm_125 : Cond.initialized "java/lang/Integer" ∈ GW := gm 125 (by decide +kernel) (by decide +kernel)
theorem sk_J6_bitCount_0f7a4 : SK yJ6_bitCount_0f7a4 cJ6_bitCount_0f7a4 1 (some .int) := ⟨gm_790, gm_789, gm_125⟩
theorem gm_788 : Cond.methodLink "UncutTale$Course" 120 yJ6_bitCount_0f7a4 ∈ GW := gm 788 (by decide +kernel) (by decide +kernel)
theorem pn_X0_waited : plainName yX0_waited.cls = true := by decide +kernel
theorem hd_X0_waited : yX0_waited.cls ≠ "java/lang/invoke/MethodHandle" ∧ yX0_waited.cls ≠ "java/lang/invoke/VarHandle" ∧ (parseMethodDescriptor yX0_waited.desc).map (fun d => d.parameters.length) = some 3 := by decide +kernel
theorem gm_787 : Cond.code yX0_waited cX0_waited 5 (some .int) ∈ GW := gm 787 (by decide +kernel) (by decide +kernel)
theorem gm_785 : Cond.instanceMethod yX0_waited ∈ GW := gm 785 (by decide +kernel) (by decide +kernel)
theorem gm_786 : Cond.selects "UncutTale$Course" yX0_waited yX0_waited ∈ GW := gm 786 (by decide +kernel) (by decide +kernel)
theorem mk_X0_waited : MK yX0_waited cX0_waited 5 (some .int) := ⟨gm_787, gm_785, gm_786, gm_113⟩
theorem gm_784 : Cond.methodLink "UncutTale$Course" 109 yX0_waited ∈ GW := gm 784 (by decide +kernel) (by decide +kernel)
theorem pn_X0_follow : plainName yX0_follow.cls = true := by decide +kernel
theorem hd_X0_follow : yX0_follow.cls ≠ "java/lang/invoke/MethodHandle" ∧ yX0_follow.cls ≠ "java/lang/invoke/VarHandle" ∧ (parseMethodDescriptor yX0_follow.desc).map (fun d => d.parameters.length) = some 3 := by decide +kernel
theorem gm_776 : Cond.code yX0_follow cX0_follow 6 (some .int) ∈ GW := gm 776 (by decide +kernel) (by decide +kernel)
theorem gm_774 : Cond.instanceMethod yX0_follow ∈ GW := gm 774 (by decide +kernel) (by decide +kernel)
theorem gm_775 : Cond.selects "UncutTale$Course" yX0_follow yX0_follow ∈ GW := gm 775 (by decide +kernel) (by decide +kernel)
theorem mk_X0_follow : MK yX0_follow cX0_follow 6 (some .int) := ⟨gm_776, gm_774, gm_775, gm_113⟩
theorem gm_773 : Cond.methodLink "UncutTale$Course" 102 yX0_follow ∈ GW := gm 773 (by decide +kernel) (by decide +kernel)
theorem pn_X0_stiffness : plainName yX0_stiffness.cls = true := by decide +kernel
theorem hd_X0_stiffness : yX0_stiffness.cls ≠ "java/lang/invoke/MethodHandle" ∧ yX0_stiffness.cls ≠ "java/lang/invoke/VarHandle" ∧ (parseMethodDescriptor yX0_stiffness.desc).map (fun d => d.parameters.length) = some 2 := by decide +kernel
theorem gm_772 : Cond.code yX0_stiffness cX0_stiffness 3 (some .int) ∈ GW := gm 772 (by decide +kernel) (by decide +kernel)
theorem gm_770 : Cond.instanceMethod yX0_stiffness ∈ GW := gm 770 (by decide +kernel) (by decide +kernel)
theorem gm_771 : Cond.selects "UncutTale$Course" yX0_stiffness yX0_stiffness ∈ GW := gm 771 (by decide +kernel) (by decide +kernel)
theorem mk_X0_stiffness : MK yX0_stiffness cX0_stiffness 3 (some .int) := ⟨gm_772, gm_770, gm_771, gm_113⟩
theorem gm_769 : Cond.methodLink "UncutTale" 193 yX0_stiffness ∈ GW := gm 769 (by decide +kernel) (by decide +kernel)
theorem pn_X8_stiff : plainName yX8_stiff.cls = true := by decide +kernel
theorem pn_X0_openIn : plainName yX0_openIn.cls = true := by decide +kernel
theorem hd_X0_openIn : yX0_openIn.cls ≠ "java/lang/invoke/MethodHandle" ∧ yX0_openIn.cls ≠ "java/lang/invoke/VarHandle" ∧ (parseMethodDescriptor yX0_openIn.desc).map (fun d => d.parameters.length) = some 1 := by decide +kernel
theorem gm_802 : Cond.code yX0_openIn cX0_openIn 2 (some .int) ∈ GW := gm 802 (by decide +kernel) (by decide +kernel)
theorem gm_800 : Cond.instanceMethod yX0_openIn ∈ GW := gm 800 (by decide +kernel) (by decide +kernel)
theorem gm_801 : Cond.selects "UncutTale$Course" yX0_openIn yX0_openIn ∈ GW := gm 801 (by decide +kernel) (by decide +kernel)
theorem mk_X0_openIn : MK yX0_openIn cX0_openIn 2 (some .int) := ⟨gm_802, gm_800, gm_801, gm_113⟩
theorem gm_799 : Cond.methodLink "UncutTale" 199 yX0_openIn ∈ GW := gm 799 (by decide +kernel) (by decide +kernel)
theorem pn_X8_open : plainName yX8_open.cls = true := by decide +kernel
theorem pn_X0_openingYear : plainName yX0_openingYear.cls = true := by decide +kernel
theorem hd_X0_openingYear : yX0_openingYear.cls ≠ "java/lang/invoke/MethodHandle" ∧ yX0_openingYear.cls ≠ "java/lang/invoke/VarHandle" ∧ (parseMethodDescriptor yX0_openingYear.desc).map (fun d => d.parameters.length) = some 1 := by decide +kernel
theorem gm_810 : Cond.code yX0_openingYear cX0_openingYear 2 (some .int) ∈ GW := gm 810 (by decide +kernel) (by decide +kernel)
theorem gm_808 : Cond.instanceMethod yX0_openingYear ∈ GW := gm 808 (by decide +kernel) (by decide +kernel)
theorem gm_809 : Cond.selects "UncutTale$Course" yX0_openingYear yX0_openingYear ∈ GW := gm 809 (by decide +kernel) (by decide +kernel)
theorem mk_X0_openingYear : MK yX0_openingYear cX0_openingYear 2 (some .int) := ⟨gm_810, gm_808, gm_809, gm_113⟩
theorem gm_807 : Cond.methodLink "UncutTale" 202 yX0_openingYear ∈ GW := gm 807 (by decide +kernel) (by decide +kernel)
theorem pn_X8_when : plainName yX8_when.cls = true := by decide +kernel
theorem gm_330 : Cond.fieldLink "UncutTale" 205 "UncutTale$Course" "ofThemselves" "I" ∈ GW := gm 330 (by decide +kernel) (by decide +kernel)
theorem fk_8_205 : FK "UncutTale" 205 0 9 := ⟨RX0, TX0, 10, rfl, by decide, iw_0, gm_330⟩
theorem pn_X8_how : plainName yX8_how.cls = true := by decide +kernel
theorem gm_159 : Cond.fieldLink "UncutTale$Course" 128 "UncutTale$Story" "charm" "[I" ∈ GW := gm 159 (by decide +kernel) (by decide +kernel)
theorem fk_0_128 : FK "UncutTale$Course" 128 6 0 := ⟨RX6, TX6, 18, rfl, by decide, iw_6, gm_159⟩
theorem pn_X0_readFor : plainName yX0_readFor.cls = true := by decide +kernel
theorem hd_X0_readFor : yX0_readFor.cls ≠ "java/lang/invoke/MethodHandle" ∧ yX0_readFor.cls ≠ "java/lang/invoke/VarHandle" ∧ (parseMethodDescriptor yX0_readFor.desc).map (fun d => d.parameters.length) = some 1 := by decide +kernel
theorem gm_822 : Cond.code yX0_readFor cX0_readFor 3 (some .int) ∈ GW := gm 822 (by decide +kernel) (by decide +kernel)
theorem gm_820 : Cond.instanceMethod yX0_readFor ∈ GW := gm 820 (by decide +kernel) (by decide +kernel)
theorem gm_821 : Cond.selects "UncutTale$Course" yX0_readFor yX0_readFor ∈ GW := gm 821 (by decide +kernel) (by decide +kernel)
theorem mk_X0_readFor : MK yX0_readFor cX0_readFor 3 (some .int) := ⟨gm_822, gm_820, gm_821, gm_113⟩
theorem gm_819 : Cond.methodLink "UncutTale" 208 yX0_readFor ∈ GW := gm 819 (by decide +kernel) (by decide +kernel)
theorem pn_X8_read : plainName yX8_read.cls = true := by decide +kernel
theorem pn_X6_hasWorkingYear : plainName yX6_hasWorkingYear.cls = true := by decide +kernel
theorem hd_X6_hasWorkingYear : yX6_hasWorkingYear.cls ≠ "java/lang/invoke/MethodHandle" ∧ yX6_hasWorkingYear.cls ≠ "java/lang/invoke/VarHandle" ∧ (parseMethodDescriptor yX6_hasWorkingYear.desc).map (fun d => d.parameters.length) = some 1 := by decide +kernel
theorem gm_830 : Cond.code yX6_hasWorkingYear cX6_hasWorkingYear 2 (some .boolean) ∈ GW := gm 830 (by decide +kernel) (by decide +kernel)
theorem gm_828 : Cond.instanceMethod yX6_hasWorkingYear ∈ GW := gm 828 (by decide +kernel) (by decide +kernel)
theorem gm_829 : Cond.selects "UncutTale$Story" yX6_hasWorkingYear yX6_hasWorkingYear ∈ GW := gm 829 (by decide +kernel) (by decide +kernel)
theorem mk_X6_hasWorkingYear : MK yX6_hasWorkingYear cX6_hasWorkingYear 2 (some .boolean) := ⟨gm_830, gm_828, gm_829, gm_110⟩
theorem gm_827 : Cond.methodLink "UncutTale" 211 yX6_hasWorkingYear ∈ GW := gm 827 (by decide +kernel) (by decide +kernel)
theorem gm_835 : Cond.methodLink "UncutTale$Course" 131 yX0_readFor ∈ GW := gm 835 (by decide +kernel) (by decide +kernel)
theorem pn_X0_readIn : plainName yX0_readIn.cls = true := by decide +kernel
theorem hd_X0_readIn : yX0_readIn.cls ≠ "java/lang/invoke/MethodHandle" ∧ yX0_readIn.cls ≠ "java/lang/invoke/VarHandle" ∧ (parseMethodDescriptor yX0_readIn.desc).map (fun d => d.parameters.length) = some 1 := by decide +kernel
theorem gm_834 : Cond.code yX0_readIn cX0_readIn 4 (some .int) ∈ GW := gm 834 (by decide +kernel) (by decide +kernel)
theorem gm_832 : Cond.instanceMethod yX0_readIn ∈ GW := gm 832 (by decide +kernel) (by decide +kernel)
theorem gm_833 : Cond.selects "UncutTale$Course" yX0_readIn yX0_readIn ∈ GW := gm 833 (by decide +kernel) (by decide +kernel)
theorem mk_X0_readIn : MK yX0_readIn cX0_readIn 4 (some .int) := ⟨gm_834, gm_832, gm_833, gm_113⟩
theorem gm_831 : Cond.methodLink "UncutTale" 214 yX0_readIn ∈ GW := gm 831 (by decide +kernel) (by decide +kernel)
theorem pn_X8_reads : plainName yX8_reads.cls = true := by decide +kernel
theorem gm_698 : Cond.methodLink "UncutTale" 153 yX6_isTold ∈ GW := gm 698 (by decide +kernel) (by decide +kernel)
theorem pn_X0_readInAll : plainName yX0_readInAll.cls = true := by decide +kernel
theorem hd_X0_readInAll : yX0_readInAll.cls ≠ "java/lang/invoke/MethodHandle" ∧ yX0_readInAll.cls ≠ "java/lang/invoke/VarHandle" ∧ (parseMethodDescriptor yX0_readInAll.desc).map (fun d => d.parameters.length) = some 0 := by decide +kernel
theorem gm_843 : Cond.code yX0_readInAll cX0_readInAll 3 (some .int) ∈ GW := gm 843 (by decide +kernel) (by decide +kernel)
theorem gm_841 : Cond.instanceMethod yX0_readInAll ∈ GW := gm 841 (by decide +kernel) (by decide +kernel)
theorem gm_842 : Cond.selects "UncutTale$Course" yX0_readInAll yX0_readInAll ∈ GW := gm 842 (by decide +kernel) (by decide +kernel)
theorem mk_X0_readInAll : MK yX0_readInAll cX0_readInAll 3 (some .int) := ⟨gm_843, gm_841, gm_842, gm_113⟩
theorem gm_840 : Cond.methodLink "UncutTale" 217 yX0_readInAll ∈ GW := gm 840 (by decide +kernel) (by decide +kernel)
theorem pn_X8_all : plainName yX8_all.cls = true := by decide +kernel
theorem pn_X0_shutWorth : plainName yX0_shutWorth.cls = true := by decide +kernel
theorem hd_X0_shutWorth : yX0_shutWorth.cls ≠ "java/lang/invoke/MethodHandle" ∧ yX0_shutWorth.cls ≠ "java/lang/invoke/VarHandle" ∧ (parseMethodDescriptor yX0_shutWorth.desc).map (fun d => d.parameters.length) = some 2 := by decide +kernel
theorem gm_851 : Cond.code yX0_shutWorth cX0_shutWorth 3 (some .int) ∈ GW := gm 851 (by decide +kernel) (by decide +kernel)
theorem gm_849 : Cond.instanceMethod yX0_shutWorth ∈ GW := gm 849 (by decide +kernel) (by decide +kernel)
theorem gm_850 : Cond.selects "UncutTale$Course" yX0_shutWorth yX0_shutWorth ∈ GW := gm 850 (by decide +kernel) (by decide +kernel)
theorem mk_X0_shutWorth : MK yX0_shutWorth cX0_shutWorth 3 (some .int) := ⟨gm_851, gm_849, gm_850, gm_113⟩
theorem gm_848 : Cond.methodLink "UncutTale" 220 yX0_shutWorth ∈ GW := gm 848 (by decide +kernel) (by decide +kernel)
theorem pn_X8_keeps : plainName yX8_keeps.cls = true := by decide +kernel
theorem gm_206 : Cond.fieldLink "UncutTale" 156 "UncutTale$Story" "parts" "I" ∈ GW := gm 206 (by decide +kernel) (by decide +kernel)
theorem fk_8_156 : FK "UncutTale" 156 6 13 := ⟨RX6, TX6, 18, rfl, by decide, iw_6, gm_206⟩
theorem gm_856 : Cond.methodLink "UncutTale" 223 yJ9_max_7cf53 ∈ GW := gm 856 (by decide +kernel) (by decide +kernel)
theorem pn_X8_waits : plainName yX8_waits.cls = true := by decide +kernel
theorem pn_X8_next : plainName yX8_next.cls = true := by decide +kernel
theorem pn_X8_dull : plainName yX8_dull.cls = true := by decide +kernel
theorem gm_191 : Cond.fieldLink "UncutTale" 168 "UncutTale$Story" "years" "I" ∈ GW := gm 191 (by decide +kernel) (by decide +kernel)
theorem fk_8_168 : FK "UncutTale" 168 6 10 := ⟨RX6, TX6, 18, rfl, by decide, iw_6, gm_191⟩
theorem pn_X8_dies : plainName yX8_dies.cls = true := by decide +kernel
theorem pn_X8_ages : plainName yX8_ages.cls = true := by decide +kernel
theorem gm_209 : Cond.fieldLink "UncutTale" 176 "UncutTale$Story" "folds" "I" ∈ GW := gm 209 (by decide +kernel) (by decide +kernel)
theorem fk_8_176 : FK "UncutTale" 176 6 14 := ⟨RX6, TX6, 18, rfl, by decide, iw_6, gm_209⟩
theorem gm_168 : Cond.fieldLink "UncutTale" 228 "UncutTale$Story" "foldFrom" "[I" ∈ GW := gm 168 (by decide +kernel) (by decide +kernel)
theorem fk_8_228 : FK "UncutTale" 228 6 3 := ⟨RX6, TX6, 18, rfl, by decide, iw_6, gm_168⟩
theorem gm_170 : Cond.fieldLink "UncutTale" 231 "UncutTale$Story" "foldTo" "[I" ∈ GW := gm 170 (by decide +kernel) (by decide +kernel)
theorem fk_8_231 : FK "UncutTale" 231 6 4 := ⟨RX6, TX6, 18, rfl, by decide, iw_6, gm_170⟩
theorem pn_X8_cut : plainName yX8_cut.cls = true := by decide +kernel
theorem gm_214 : Cond.fieldLink "UncutTale" 162 "UncutTale$Story" "knives" "I" ∈ GW := gm 214 (by decide +kernel) (by decide +kernel)
theorem fk_8_162 : FK "UncutTale" 162 6 15 := ⟨RX6, TX6, 18, rfl, by decide, iw_6, gm_214⟩
theorem gm_173 : Cond.fieldLink "UncutTale" 165 "UncutTale$Story" "knifePart" "[I" ∈ GW := gm 173 (by decide +kernel) (by decide +kernel)
theorem fk_8_165 : FK "UncutTale" 165 6 5 := ⟨RX6, TX6, 18, rfl, by decide, iw_6, gm_173⟩
theorem gm_176 : Cond.fieldLink "UncutTale" 237 "UncutTale$Story" "knifeYear" "[I" ∈ GW := gm 176 (by decide +kernel) (by decide +kernel)
theorem fk_8_237 : FK "UncutTale" 237 6 6 := ⟨RX6, TX6, 18, rfl, by decide, iw_6, gm_176⟩
theorem pn_X8_opensAnew : plainName yX8_opensAnew.cls = true := by decide +kernel
theorem hd_X8_opensAnew : yX8_opensAnew.cls ≠ "java/lang/invoke/MethodHandle" ∧ yX8_opensAnew.cls ≠ "java/lang/invoke/VarHandle" ∧ (parseMethodDescriptor yX8_opensAnew.desc).map (fun d => d.parameters.length) = some 3 := by decide +kernel
theorem gm_900 : Cond.code yX8_opensAnew cX8_opensAnew 4 (some .boolean) ∈ GW := gm 900 (by decide +kernel) (by decide +kernel)
theorem gm_899 : Cond.instanceMethod yX8_opensAnew ∈ GW := gm 899 (by decide +kernel) (by decide +kernel)
theorem gm_18 : Cond.selects "UncutTale" yX8_opensAnew yX8_opensAnew ∈ GW := gm 18 (by decide +kernel) (by decide +kernel)
theorem mk_X8_opensAnew : MK yX8_opensAnew cX8_opensAnew 4 (some .boolean) := ⟨gm_900, gm_899, gm_18, gm_108⟩
theorem gm_897 : Cond.methodLink "UncutTale" 416 yX8_opensAnew ∈ GW := gm 897 (by decide +kernel) (by decide +kernel)
theorem gm_217 : Cond.fieldLink "UncutTale" 179 "UncutTale$Story" "acts" "I" ∈ GW := gm 217 (by decide +kernel) (by decide +kernel)
theorem fk_8_179 : FK "UncutTale" 179 6 16 := ⟨RX6, TX6, 18, rfl, by decide, iw_6, gm_217⟩
theorem gm_179 : Cond.fieldLink "UncutTale" 419 "UncutTale$Story" "actKind" "[I" ∈ GW := gm 179 (by decide +kernel) (by decide +kernel)
theorem fk_8_419 : FK "UncutTale" 419 6 7 := ⟨RX6, TX6, 18, rfl, by decide, iw_6, gm_179⟩
theorem gm_182 : Cond.fieldLink "UncutTale" 422 "UncutTale$Story" "actPart" "[I" ∈ GW := gm 182 (by decide +kernel) (by decide +kernel)
theorem fk_8_422 : FK "UncutTale" 422 6 8 := ⟨RX6, TX6, 18, rfl, by decide, iw_6, gm_182⟩
theorem gm_185 : Cond.fieldLink "UncutTale" 425 "UncutTale$Story" "actYear" "[I" ∈ GW := gm 185 (by decide +kernel) (by decide +kernel)
theorem fk_8_425 : FK "UncutTale" 425 6 9 := ⟨RX6, TX6, 18, rfl, by decide, iw_6, gm_185⟩
theorem pn_X8_openingKnives : plainName yX8_openingKnives.cls = true := by decide +kernel
theorem hd_X8_openingKnives : yX8_openingKnives.cls ≠ "java/lang/invoke/MethodHandle" ∧ yX8_openingKnives.cls ≠ "java/lang/invoke/VarHandle" ∧ (parseMethodDescriptor yX8_openingKnives.desc).map (fun d => d.parameters.length) = some 0 := by decide +kernel
theorem gm_896 : Cond.code yX8_openingKnives cX8_openingKnives 5 (some .int) ∈ GW := gm 896 (by decide +kernel) (by decide +kernel)
theorem gm_895 : Cond.instanceMethod yX8_openingKnives ∈ GW := gm 895 (by decide +kernel) (by decide +kernel)
theorem gm_17 : Cond.selects "UncutTale" yX8_openingKnives yX8_openingKnives ∈ GW := gm 17 (by decide +kernel) (by decide +kernel)
theorem mk_X8_openingKnives : MK yX8_openingKnives cX8_openingKnives 5 (some .int) := ⟨gm_896, gm_895, gm_17, gm_108⟩
theorem gm_893 : Cond.methodLink "UncutTale" 234 yX8_openingKnives ∈ GW := gm 893 (by decide +kernel) (by decide +kernel)
theorem pn_X8_sharp : plainName yX8_sharp.cls = true := by decide +kernel
theorem pn_X6_everyPart : plainName yX6_everyPart.cls = true := by decide +kernel
theorem hd_X6_everyPart : yX6_everyPart.cls ≠ "java/lang/invoke/MethodHandle" ∧ yX6_everyPart.cls ≠ "java/lang/invoke/VarHandle" ∧ (parseMethodDescriptor yX6_everyPart.desc).map (fun d => d.parameters.length) = some 0 := by decide +kernel
theorem gm_916 : Cond.code yX6_everyPart cX6_everyPart 1 (some .int) ∈ GW := gm 916 (by decide +kernel) (by decide +kernel)
theorem gm_914 : Cond.instanceMethod yX6_everyPart ∈ GW := gm 914 (by decide +kernel) (by decide +kernel)
theorem gm_915 : Cond.selects "UncutTale$Story" yX6_everyPart yX6_everyPart ∈ GW := gm 915 (by decide +kernel) (by decide +kernel)
theorem mk_X6_everyPart : MK yX6_everyPart cX6_everyPart 1 (some .int) := ⟨gm_916, gm_914, gm_915, gm_110⟩
theorem gm_913 : Cond.methodLink "UncutTale" 243 yX6_everyPart ∈ GW := gm 913 (by decide +kernel) (by decide +kernel)
theorem pn_X8_shutAtLast : plainName yX8_shutAtLast.cls = true := by decide +kernel
theorem hd_X8_shutAtLast : yX8_shutAtLast.cls ≠ "java/lang/invoke/MethodHandle" ∧ yX8_shutAtLast.cls ≠ "java/lang/invoke/VarHandle" ∧ (parseMethodDescriptor yX8_shutAtLast.desc).map (fun d => d.parameters.length) = some 0 := by decide +kernel
theorem gm_912 : Cond.code yX8_shutAtLast cX8_shutAtLast 1 (some .int) ∈ GW := gm 912 (by decide +kernel) (by decide +kernel)
theorem gm_911 : Cond.instanceMethod yX8_shutAtLast ∈ GW := gm 911 (by decide +kernel) (by decide +kernel)
theorem gm_19 : Cond.selects "UncutTale" yX8_shutAtLast yX8_shutAtLast ∈ GW := gm 19 (by decide +kernel) (by decide +kernel)
theorem mk_X8_shutAtLast : MK yX8_shutAtLast cX8_shutAtLast 1 (some .int) := ⟨gm_912, gm_911, gm_19, gm_108⟩
theorem gm_909 : Cond.methodLink "UncutTale" 240 yX8_shutAtLast ∈ GW := gm 909 (by decide +kernel) (by decide +kernel)
theorem pn_X8_uncut : plainName yX8_uncut.cls = true := by decide +kernel
theorem pn_X8_done : plainName yX8_done.cls = true := by decide +kernel
theorem gm_929 : Cond.methodLink "UncutTale" 252 yJ6_bitCount_0f7a4 ∈ GW := gm 929 (by decide +kernel) (by decide +kernel)
theorem pn_X8_openedIn : plainName yX8_openedIn.cls = true := by decide +kernel
theorem hd_X8_openedIn : yX8_openedIn.cls ≠ "java/lang/invoke/MethodHandle" ∧ yX8_openedIn.cls ≠ "java/lang/invoke/VarHandle" ∧ (parseMethodDescriptor yX8_openedIn.desc).map (fun d => d.parameters.length) = some 1 := by decide +kernel
theorem gm_928 : Cond.code yX8_openedIn cX8_openedIn 2 (some .int) ∈ GW := gm 928 (by decide +kernel) (by decide +kernel)
theorem gm_927 : Cond.instanceMethod yX8_openedIn ∈ GW := gm 927 (by decide +kernel) (by decide +kernel)
theorem gm_20 : Cond.selects "UncutTale" yX8_openedIn yX8_openedIn ∈ GW := gm 20 (by decide +kernel) (by decide +kernel)
theorem mk_X8_openedIn : MK yX8_openedIn cX8_openedIn 2 (some .int) := ⟨gm_928, gm_927, gm_20, gm_108⟩
theorem gm_925 : Cond.methodLink "UncutTale" 246 yX8_openedIn ∈ GW := gm 925 (by decide +kernel) (by decide +kernel)
theorem pn_X8_rush : plainName yX8_rush.cls = true := by decide +kernel
theorem pn_X8_with : plainName yX8_with.cls = true := by decide +kernel
theorem pn_X8_charms : plainName yX8_charms.cls = true := by decide +kernel
theorem pn_X8_best : plainName yX8_best.cls = true := by decide +kernel
theorem pn_X8_peak : plainName yX8_peak.cls = true := by decide +kernel
theorem pn_X8_first : plainName yX8_first.cls = true := by decide +kernel
theorem pn_X8_quiet : plainName yX8_quiet.cls = true := by decide +kernel
theorem pn_X8_lone : plainName yX8_lone.cls = true := by decide +kernel
theorem pn_X8_stalest : plainName yX8_stalest.cls = true := by decide +kernel
theorem gm_706 : Cond.methodLink "UncutTale$Story" 85 yX6_spread ∈ GW := gm 706 (by decide +kernel) (by decide +kernel)
theorem pn_X6_joinedWith : plainName yX6_joinedWith.cls = true := by decide +kernel
theorem hd_X6_joinedWith : yX6_joinedWith.cls ≠ "java/lang/invoke/MethodHandle" ∧ yX6_joinedWith.cls ≠ "java/lang/invoke/VarHandle" ∧ (parseMethodDescriptor yX6_joinedWith.desc).map (fun d => d.parameters.length) = some 1 := by decide +kernel
theorem gm_705 : Cond.code yX6_joinedWith cX6_joinedWith 4 (some .int) ∈ GW := gm 705 (by decide +kernel) (by decide +kernel)
theorem gm_703 : Cond.instanceMethod yX6_joinedWith ∈ GW := gm 703 (by decide +kernel) (by decide +kernel)
theorem gm_704 : Cond.selects "UncutTale$Story" yX6_joinedWith yX6_joinedWith ∈ GW := gm 704 (by decide +kernel) (by decide +kernel)
theorem mk_X6_joinedWith : MK yX6_joinedWith cX6_joinedWith 4 (some .int) := ⟨gm_705, gm_703, gm_704, gm_110⟩
theorem gm_702 : Cond.methodLink "UncutTale" 159 yX6_joinedWith ∈ GW := gm 702 (by decide +kernel) (by decide +kernel)
theorem pn_X8_pieces : plainName yX8_pieces.cls = true := by decide +kernel
theorem pn_X8_lost : plainName yX8_lost.cls = true := by decide +kernel
theorem pn_X8_knives : plainName yX8_knives.cls = true := by decide +kernel
theorem pn_X8_idle : plainName yX8_idle.cls = true := by decide +kernel
theorem gm_451 : Cond.fieldLink "UncutTale" 59 "UncutTale" "trial" "LUncutTale$Course;" ∈ GW := gm 451 (by decide +kernel) (by decide +kernel)
theorem fk_8_59 : FK "UncutTale" 59 8 8 := ⟨RX8, TX8, 15, rfl, by decide, iw_8, gm_451⟩
theorem gm_962 : Cond.methodLink "UncutTale" 428 yX0_settle ∈ GW := gm 962 (by decide +kernel) (by decide +kernel)
theorem pn_X8_fewest : plainName yX8_fewest.cls = true := by decide +kernel
theorem hd_X8_fewest : yX8_fewest.cls ≠ "java/lang/invoke/MethodHandle" ∧ yX8_fewest.cls ≠ "java/lang/invoke/VarHandle" ∧ (parseMethodDescriptor yX8_fewest.desc).map (fun d => d.parameters.length) = some 0 := by decide +kernel
theorem gm_961 : Cond.code yX8_fewest cX8_fewest 4 (some .int) ∈ GW := gm 961 (by decide +kernel) (by decide +kernel)
theorem gm_960 : Cond.instanceMethod yX8_fewest ∈ GW := gm 960 (by decide +kernel) (by decide +kernel)
theorem gm_21 : Cond.selects "UncutTale" yX8_fewest yX8_fewest ∈ GW := gm 21 (by decide +kernel) (by decide +kernel)
theorem mk_X8_fewest : MK yX8_fewest cX8_fewest 4 (some .int) := ⟨gm_961, gm_960, gm_21, gm_108⟩
theorem gm_958 : Cond.methodLink "UncutTale" 249 yX8_fewest ∈ GW := gm 958 (by decide +kernel) (by decide +kernel)
theorem pn_X8_few : plainName yX8_few.cls = true := by decide +kernel
theorem pn_X8_fews : plainName yX8_fews.cls = true := by decide +kernel
theorem pn_X0_unfoldBy : plainName yX0_unfoldBy.cls = true := by decide +kernel
theorem hd_X0_unfoldBy : yX0_unfoldBy.cls ≠ "java/lang/invoke/MethodHandle" ∧ yX0_unfoldBy.cls ≠ "java/lang/invoke/VarHandle" ∧ (parseMethodDescriptor yX0_unfoldBy.desc).map (fun d => d.parameters.length) = some 2 := by decide +kernel
theorem gm_978 : Cond.code yX0_unfoldBy cX0_unfoldBy 3 none ∈ GW := gm 978 (by decide +kernel) (by decide +kernel)
theorem gm_976 : Cond.instanceMethod yX0_unfoldBy ∈ GW := gm 976 (by decide +kernel) (by decide +kernel)
theorem gm_977 : Cond.selects "UncutTale$Course" yX0_unfoldBy yX0_unfoldBy ∈ GW := gm 977 (by decide +kernel) (by decide +kernel)
theorem mk_X0_unfoldBy : MK yX0_unfoldBy cX0_unfoldBy 3 none := ⟨gm_978, gm_976, gm_977, gm_113⟩
theorem gm_975 : Cond.methodLink "UncutTale" 431 yX0_unfoldBy ∈ GW := gm 975 (by decide +kernel) (by decide +kernel)
theorem pn_X8_setWorth : plainName yX8_setWorth.cls = true := by decide +kernel
theorem hd_X8_setWorth : yX8_setWorth.cls ≠ "java/lang/invoke/MethodHandle" ∧ yX8_setWorth.cls ≠ "java/lang/invoke/VarHandle" ∧ (parseMethodDescriptor yX8_setWorth.desc).map (fun d => d.parameters.length) = some 1 := by decide +kernel
theorem gm_974 : Cond.code yX8_setWorth cX8_setWorth 2 (some .int) ∈ GW := gm 974 (by decide +kernel) (by decide +kernel)
theorem gm_973 : Cond.instanceMethod yX8_setWorth ∈ GW := gm 973 (by decide +kernel) (by decide +kernel)
theorem gm_22 : Cond.selects "UncutTale" yX8_setWorth yX8_setWorth ∈ GW := gm 22 (by decide +kernel) (by decide +kernel)
theorem mk_X8_setWorth : MK yX8_setWorth cX8_setWorth 2 (some .int) := ⟨gm_974, gm_973, gm_22, gm_108⟩
theorem gm_971 : Cond.methodLink "UncutTale" 260 yX8_setWorth ∈ GW := gm 971 (by decide +kernel) (by decide +kernel)
theorem pn_X8_worth : plainName yX8_worth.cls = true := by decide +kernel
theorem pn_X8_isAboveOrBelow : plainName yX8_isAboveOrBelow.cls = true := by decide +kernel
theorem hd_X8_isAboveOrBelow : yX8_isAboveOrBelow.cls ≠ "java/lang/invoke/MethodHandle" ∧ yX8_isAboveOrBelow.cls ≠ "java/lang/invoke/VarHandle" ∧ (parseMethodDescriptor yX8_isAboveOrBelow.desc).map (fun d => d.parameters.length) = some 1 := by decide +kernel
theorem gm_985 : Cond.code yX8_isAboveOrBelow cX8_isAboveOrBelow 1 (some .boolean) ∈ GW := gm 985 (by decide +kernel) (by decide +kernel)
theorem gm_984 : Cond.static yX8_isAboveOrBelow ∈ GW := gm 984 (by decide +kernel) (by decide +kernel)
theorem sk_X8_isAboveOrBelow : SK yX8_isAboveOrBelow cX8_isAboveOrBelow 1 (some .boolean) := ⟨gm_985, gm_984, gm_108⟩
theorem gm_983 : Cond.methodLink "UncutTale" 263 yX8_isAboveOrBelow ∈ GW := gm 983 (by decide +kernel) (by decide +kernel)
theorem gm_990 : Cond.fieldLink "UncutTale" 403 "UncutTale" "FACTORIALS" "[I" ∈ GW := gm 990 (by decide +kernel) (by decide +kernel)
theorem pn_X8_factorial : plainName yX8_factorial.cls = true := by decide +kernel
theorem hd_X8_factorial : yX8_factorial.cls ≠ "java/lang/invoke/MethodHandle" ∧ yX8_factorial.cls ≠ "java/lang/invoke/VarHandle" ∧ (parseMethodDescriptor yX8_factorial.desc).map (fun d => d.parameters.length) = some 1 := by decide +kernel
theorem gm_989 : Cond.code yX8_factorial cX8_factorial 1 (some .int) ∈ GW := gm 989 (by decide +kernel) (by decide +kernel)
theorem gm_988 : Cond.static yX8_factorial ∈ GW := gm 988 (by decide +kernel) (by decide +kernel)
theorem sk_X8_factorial : SK yX8_factorial cX8_factorial 1 (some .int) := ⟨gm_989, gm_988, gm_108⟩
theorem gm_987 : Cond.methodLink "UncutTale" 267 yX8_factorial ∈ GW := gm 987 (by decide +kernel) (by decide +kernel)
theorem mw_e_mabsl : Cond.code Lib.MathLoose.abs_long.x Lib.MathLoose.abs_long.code 2 (some .long) ∈ GW := gm 997 (by decide +kernel) (by decide +kernel)
theorem gm_995 : Cond.methodLink "UncutTale" 406 yJ9_abs_067f4 ∈ GW := gm 995 (by decide +kernel) (by decide +kernel)
theorem gm_996 : Cond.static yJ9_abs_067f4 ∈ GW := gm 996 (by decide +kernel) (by decide +kernel)
theorem pn_X8_greatestDivisor : plainName yX8_greatestDivisor.cls = true := by decide +kernel
theorem hd_X8_greatestDivisor : yX8_greatestDivisor.cls ≠ "java/lang/invoke/MethodHandle" ∧ yX8_greatestDivisor.cls ≠ "java/lang/invoke/VarHandle" ∧ (parseMethodDescriptor yX8_greatestDivisor.desc).map (fun d => d.parameters.length) = some 2 := by decide +kernel
theorem gm_1000 : Cond.code yX8_greatestDivisor cX8_greatestDivisor 11 (some .long) ∈ GW := gm 1000 (by decide +kernel) (by decide +kernel)
theorem gm_999 : Cond.static yX8_greatestDivisor ∈ GW := gm 999 (by decide +kernel) (by decide +kernel)
theorem sk_X8_greatestDivisor : SK yX8_greatestDivisor cX8_greatestDivisor 11 (some .long) := ⟨gm_1000, gm_999, gm_108⟩
theorem gm_998 : Cond.methodLink "UncutTale" 410 yX8_greatestDivisor ∈ GW := gm 998 (by decide +kernel) (by decide +kernel)
theorem mw_e_mmaxl : Cond.code Lib.MathLoose.max_long.x Lib.MathLoose.max_long.code 4 (some .long) ∈ GW := gm 1003 (by decide +kernel) (by decide +kernel)
theorem gm_1001 : Cond.methodLink "UncutTale" 414 yJ9_max_f86c9 ∈ GW := gm 1001 (by decide +kernel) (by decide +kernel)
theorem gm_1002 : Cond.static yJ9_max_f86c9 ∈ GW := gm 1002 (by decide +kernel) (by decide +kernel)
theorem pn_X8_lowestTerms : plainName yX8_lowestTerms.cls = true := by decide +kernel
theorem hd_X8_lowestTerms : yX8_lowestTerms.cls ≠ "java/lang/invoke/MethodHandle" ∧ yX8_lowestTerms.cls ≠ "java/lang/invoke/VarHandle" ∧ (parseMethodDescriptor yX8_lowestTerms.desc).map (fun d => d.parameters.length) = some 3 := by decide +kernel
theorem gm_994 : Cond.code yX8_lowestTerms cX8_lowestTerms 7 (some .long) ∈ GW := gm 994 (by decide +kernel) (by decide +kernel)
theorem gm_993 : Cond.static yX8_lowestTerms ∈ GW := gm 993 (by decide +kernel) (by decide +kernel)
theorem sk_X8_lowestTerms : SK yX8_lowestTerms cX8_lowestTerms 7 (some .long) := ⟨gm_994, gm_993, gm_108⟩
theorem gm_992 : Cond.methodLink "UncutTale" 270 yX8_lowestTerms ∈ GW := gm 992 (by decide +kernel) (by decide +kernel)
theorem gm_986 : Cond.constant "UncutTale" 266 (-1000000) ∈ GW := gm 986 (by decide +kernel) (by decide +kernel)
theorem pn_X8_share : plainName yX8_share.cls = true := by decide +kernel
theorem pn_X8_hasPlan : plainName yX8_hasPlan.cls = true := by decide +kernel
theorem hd_X8_hasPlan : yX8_hasPlan.cls ≠ "java/lang/invoke/MethodHandle" ∧ yX8_hasPlan.cls ≠ "java/lang/invoke/VarHandle" ∧ (parseMethodDescriptor yX8_hasPlan.desc).map (fun d => d.parameters.length) = some 1 := by decide +kernel
theorem gm_1011 : Cond.code yX8_hasPlan cX8_hasPlan 2 (some .boolean) ∈ GW := gm 1011 (by decide +kernel) (by decide +kernel)
theorem gm_1010 : Cond.instanceMethod yX8_hasPlan ∈ GW := gm 1010 (by decide +kernel) (by decide +kernel)
theorem gm_23 : Cond.selects "UncutTale" yX8_hasPlan yX8_hasPlan ∈ GW := gm 23 (by decide +kernel) (by decide +kernel)
theorem mk_X8_hasPlan : MK yX8_hasPlan cX8_hasPlan 2 (some .boolean) := ⟨gm_1011, gm_1010, gm_23, gm_108⟩
theorem gm_1008 : Cond.methodLink "UncutTale" 274 yX8_hasPlan ∈ GW := gm 1008 (by decide +kernel) (by decide +kernel)
theorem fk_8_94 : FK "UncutTale" 94 8 14 := ⟨RX8, TX8, 15, rfl, by decide, iw_8, gm_457⟩
theorem gm_452 : Cond.fieldLink "UncutTale" 67 "UncutTale" "planner" "LUncutTale$Planner;" ∈ GW := gm 452 (by decide +kernel) (by decide +kernel)
theorem fk_8_67 : FK "UncutTale" 67 8 9 := ⟨RX8, TX8, 15, rfl, by decide, iw_8, gm_452⟩
theorem iw_4 : ∀ w ∈ u_ws RX4 TX4 9, w ∈ GW := by
  have h1 : ∀ w ∈ u_ws RX4 TX4 9, w ∈ lw_tbl ∧ goodWord w = true := by decide +kernel
  exact fun w h => List.mem_filter.mpr (h1 w h)
theorem gm_361 : Cond.fieldLink "UncutTale$Planner" 33 "UncutTale$Planner" "course" "LUncutTale$Course;" ∈ GW := gm 361 (by decide +kernel) (by decide +kernel)
theorem fk_4_33 : FK "UncutTale$Planner" 33 4 1 := ⟨RX4, TX4, 9, rfl, by decide, iw_4, gm_361⟩
theorem gm_1020 : Cond.methodLink "UncutTale$Planner" 37 yX0_begin ∈ GW := gm 1020 (by decide +kernel) (by decide +kernel)
theorem gm_368 : Cond.fieldLink "UncutTale$Planner" 43 "UncutTale$Planner" "most" "I" ∈ GW := gm 368 (by decide +kernel) (by decide +kernel)
theorem pk_4_43 : PK "UncutTale$Planner" 43 4 7 .int := ⟨RX4, TX4, 9, tyX4, rfl, by decide, iw_4, gm_368, tyX4_ok, nmX4, rfl, by decide +kernel⟩
theorem gm_370 : Cond.fieldLink "UncutTale$Planner" 47 "UncutTale$Planner" "rows" "I" ∈ GW := gm 370 (by decide +kernel) (by decide +kernel)
theorem pk_4_47 : PK "UncutTale$Planner" 47 4 8 .int := ⟨RX4, TX4, 9, tyX4, rfl, by decide, iw_4, gm_370, tyX4_ok, nmX4, rfl, by decide +kernel⟩
theorem gm_360 : Cond.fieldLink "UncutTale$Planner" 29 "UncutTale$Planner" "story" "LUncutTale$Story;" ∈ GW := gm 360 (by decide +kernel) (by decide +kernel)
theorem fk_4_29 : FK "UncutTale$Planner" 29 4 0 := ⟨RX4, TX4, 9, rfl, by decide, iw_4, gm_360⟩
theorem gm_164 : Cond.fieldLink "UncutTale$Planner" 50 "UncutTale$Story" "toldStiff" "[I" ∈ GW := gm 164 (by decide +kernel) (by decide +kernel)
theorem fk_4_50 : FK "UncutTale$Planner" 50 6 2 := ⟨RX6, TX6, 18, rfl, by decide, iw_6, gm_164⟩
theorem gm_362 : Cond.fieldLink "UncutTale$Planner" 11 "UncutTale$Planner" "stiff" "[[I" ∈ GW := gm 362 (by decide +kernel) (by decide +kernel)
theorem fk_4_11 : FK "UncutTale$Planner" 11 4 2 := ⟨RX4, TX4, 9, rfl, by decide, iw_4, gm_362⟩
theorem gm_1021 : Cond.methodLink "UncutTale$Planner" 55 ⟨"java/lang/System", "arraycopy", "(Ljava/lang/Object;ILjava/lang/Object;II)V"⟩ ∈ GW := gm 1021 (by decide +kernel) (by decide +kernel)
theorem gm_365 : Cond.fieldLink "UncutTale$Planner" 23 "UncutTale$Planner" "choice" "[I" ∈ GW := gm 365 (by decide +kernel) (by decide +kernel)
theorem fk_4_23 : FK "UncutTale$Planner" 23 4 5 := ⟨RX4, TX4, 9, rfl, by decide, iw_4, gm_365⟩
theorem gm_1022 : Cond.constant "UncutTale$Planner" 61 1000000 ∈ GW := gm 1022 (by decide +kernel) (by decide +kernel)
theorem gm_203 : Cond.fieldLink "UncutTale$Planner" 62 "UncutTale$Story" "parts" "I" ∈ GW := gm 203 (by decide +kernel) (by decide +kernel)
theorem fk_4_62 : FK "UncutTale$Planner" 62 6 13 := ⟨RX6, TX6, 18, rfl, by decide, iw_6, gm_203⟩
theorem gm_363 : Cond.fieldLink "UncutTale$Planner" 16 "UncutTale$Planner" "open" "[I" ∈ GW := gm 363 (by decide +kernel) (by decide +kernel)
theorem fk_4_16 : FK "UncutTale$Planner" 16 4 3 := ⟨RX4, TX4, 9, rfl, by decide, iw_4, gm_363⟩
theorem gm_1028 : Cond.methodLink "UncutTale$Planner" 75 yX0_settle ∈ GW := gm 1028 (by decide +kernel) (by decide +kernel)
theorem gm_364 : Cond.fieldLink "UncutTale$Planner" 20 "UncutTale$Planner" "read" "[I" ∈ GW := gm 364 (by decide +kernel) (by decide +kernel)
theorem fk_4_20 : FK "UncutTale$Planner" 20 4 4 := ⟨RX4, TX4, 9, rfl, by decide, iw_4, gm_364⟩
theorem gm_1029 : Cond.methodLink "UncutTale$Planner" 79 yX0_aired ∈ GW := gm 1029 (by decide +kernel) (by decide +kernel)
theorem gm_1031 : Cond.methodLink "UncutTale$Planner" 92 yX0_waited ∈ GW := gm 1031 (by decide +kernel) (by decide +kernel)
theorem gm_157 : Cond.fieldLink "UncutTale$Planner" 83 "UncutTale$Story" "charm" "[I" ∈ GW := gm 157 (by decide +kernel) (by decide +kernel)
theorem fk_4_83 : FK "UncutTale$Planner" 83 6 0 := ⟨RX6, TX6, 18, rfl, by decide, iw_6, gm_157⟩
theorem gm_1030 : Cond.methodLink "UncutTale$Planner" 86 yJ9_max_7cf53 ∈ GW := gm 1030 (by decide +kernel) (by decide +kernel)
theorem pn_X4_spend : plainName yX4_spend.cls = true := by decide +kernel
theorem hd_X4_spend : yX4_spend.cls ≠ "java/lang/invoke/MethodHandle" ∧ yX4_spend.cls ≠ "java/lang/invoke/VarHandle" ∧ (parseMethodDescriptor yX4_spend.desc).map (fun d => d.parameters.length) = some 1 := by decide +kernel
theorem gm_1027 : Cond.code yX4_spend cX4_spend 7 none ∈ GW := gm 1027 (by decide +kernel) (by decide +kernel)
theorem gm_1026 : Cond.instanceMethod yX4_spend ∈ GW := gm 1026 (by decide +kernel) (by decide +kernel)
theorem gm_25 : Cond.selects "UncutTale$Planner" yX4_spend yX4_spend ∈ GW := gm 25 (by decide +kernel) (by decide +kernel)
theorem gm_114 : Cond.initialized "UncutTale$Planner" ∈ GW := gm 114 (by decide +kernel) (by decide +kernel)
theorem mk_X4_spend : MK yX4_spend cX4_spend 7 none := ⟨gm_1027, gm_1026, gm_25, gm_114⟩
theorem gm_1024 : Cond.methodLink "UncutTale$Planner" 69 yX4_spend ∈ GW := gm 1024 (by decide +kernel) (by decide +kernel)
theorem fk_4_43 : FK "UncutTale$Planner" 43 4 7 := ⟨RX4, TX4, 9, rfl, by decide, iw_4, gm_368⟩
theorem gm_366 : Cond.fieldLink "UncutTale$Planner" 26 "UncutTale$Planner" "firstRow" "[I" ∈ GW := gm 366 (by decide +kernel) (by decide +kernel)
theorem fk_4_26 : FK "UncutTale$Planner" 26 4 6 := ⟨RX4, TX4, 9, rfl, by decide, iw_4, gm_366⟩
theorem fk_4_47 : FK "UncutTale$Planner" 47 4 8 := ⟨RX4, TX4, 9, rfl, by decide, iw_4, gm_370⟩
theorem pn_X4_compare : plainName yX4_compare.cls = true := by decide +kernel
theorem hd_X4_compare : yX4_compare.cls ≠ "java/lang/invoke/MethodHandle" ∧ yX4_compare.cls ≠ "java/lang/invoke/VarHandle" ∧ (parseMethodDescriptor yX4_compare.desc).map (fun d => d.parameters.length) = some 1 := by decide +kernel
theorem gm_1035 : Cond.code yX4_compare cX4_compare 2 none ∈ GW := gm 1035 (by decide +kernel) (by decide +kernel)
theorem gm_1034 : Cond.instanceMethod yX4_compare ∈ GW := gm 1034 (by decide +kernel) (by decide +kernel)
theorem gm_26 : Cond.selects "UncutTale$Planner" yX4_compare yX4_compare ∈ GW := gm 26 (by decide +kernel) (by decide +kernel)
theorem mk_X4_compare : MK yX4_compare cX4_compare 2 none := ⟨gm_1035, gm_1034, gm_26, gm_114⟩
theorem gm_1032 : Cond.methodLink "UncutTale$Planner" 72 yX4_compare ∈ GW := gm 1032 (by decide +kernel) (by decide +kernel)
theorem pn_X4_search : plainName yX4_search.cls = true := by decide +kernel
theorem hd_X4_search : yX4_search.cls ≠ "java/lang/invoke/MethodHandle" ∧ yX4_search.cls ≠ "java/lang/invoke/VarHandle" ∧ (parseMethodDescriptor yX4_search.desc).map (fun d => d.parameters.length) = some 1 := by decide +kernel
theorem gm_1019 : Cond.code yX4_search cX4_search 4 none ∈ GW := gm 1019 (by decide +kernel) (by decide +kernel)
theorem gm_1017 : Cond.instanceMethod yX4_search ∈ GW := gm 1017 (by decide +kernel) (by decide +kernel)
theorem gm_1018 : Cond.selects "UncutTale$Planner" yX4_search yX4_search ∈ GW := gm 1018 (by decide +kernel) (by decide +kernel)
theorem mk_X4_search : MK yX4_search cX4_search 4 none := ⟨gm_1019, gm_1017, gm_1018, gm_114⟩
theorem gm_1016 : Cond.methodLink "UncutTale" 435 yX4_search ∈ GW := gm 1016 (by decide +kernel) (by decide +kernel)
theorem pn_X8_planFor : plainName yX8_planFor.cls = true := by decide +kernel
theorem hd_X8_planFor : yX8_planFor.cls ≠ "java/lang/invoke/MethodHandle" ∧ yX8_planFor.cls ≠ "java/lang/invoke/VarHandle" ∧ (parseMethodDescriptor yX8_planFor.desc).map (fun d => d.parameters.length) = some 1 := by decide +kernel
theorem gm_1015 : Cond.code yX8_planFor cX8_planFor 2 none ∈ GW := gm 1015 (by decide +kernel) (by decide +kernel)
theorem gm_1014 : Cond.instanceMethod yX8_planFor ∈ GW := gm 1014 (by decide +kernel) (by decide +kernel)
theorem gm_24 : Cond.selects "UncutTale" yX8_planFor yX8_planFor ∈ GW := gm 24 (by decide +kernel) (by decide +kernel)
theorem mk_X8_planFor : MK yX8_planFor cX8_planFor 2 none := ⟨gm_1015, gm_1014, gm_24, gm_108⟩
theorem gm_1012 : Cond.methodLink "UncutTale" 277 yX8_planFor ∈ GW := gm 1012 (by decide +kernel) (by decide +kernel)
theorem gm_369 : Cond.fieldLink "UncutTale" 280 "UncutTale$Planner" "most" "I" ∈ GW := gm 369 (by decide +kernel) (by decide +kernel)
theorem fk_8_280 : FK "UncutTale" 280 4 7 := ⟨RX4, TX4, 9, rfl, by decide, iw_4, gm_369⟩
theorem pn_X8_plan : plainName yX8_plan.cls = true := by decide +kernel
theorem gm_367 : Cond.fieldLink "UncutTale" 283 "UncutTale$Planner" "firstRow" "[I" ∈ GW := gm 367 (by decide +kernel) (by decide +kernel)
theorem fk_8_283 : FK "UncutTale" 283 4 6 := ⟨RX4, TX4, 9, rfl, by decide, iw_4, gm_367⟩
theorem pn_X8_planned : plainName yX8_planned.cls = true := by decide +kernel
theorem gm_371 : Cond.fieldLink "UncutTale" 286 "UncutTale$Planner" "rows" "I" ∈ GW := gm 371 (by decide +kernel) (by decide +kernel)
theorem fk_8_286 : FK "UncutTale" 286 4 8 := ⟨RX4, TX4, 9, rfl, by decide, iw_4, gm_371⟩
theorem pn_X8_plans : plainName yX8_plans.cls = true := by decide +kernel
theorem gm_449 : Cond.fieldLink "UncutTale" 46 "UncutTale" "slots" "LUncutTale$Slots;" ∈ GW := gm 449 (by decide +kernel) (by decide +kernel)
theorem fk_8_46 : FK "UncutTale" 46 8 6 := ⟨RX8, TX8, 15, rfl, by decide, iw_8, gm_449⟩
theorem pn_X5_isSlot : plainName yX5_isSlot.cls = true := by decide +kernel
theorem hd_X5_isSlot : yX5_isSlot.cls ≠ "java/lang/invoke/MethodHandle" ∧ yX5_isSlot.cls ≠ "java/lang/invoke/VarHandle" ∧ (parseMethodDescriptor yX5_isSlot.desc).map (fun d => d.parameters.length) = some 1 := by decide +kernel
theorem gm_1059 : Cond.code yX5_isSlot cX5_isSlot 2 (some .boolean) ∈ GW := gm 1059 (by decide +kernel) (by decide +kernel)
theorem gm_1057 : Cond.instanceMethod yX5_isSlot ∈ GW := gm 1057 (by decide +kernel) (by decide +kernel)
theorem gm_1058 : Cond.selects "UncutTale$Slots" yX5_isSlot yX5_isSlot ∈ GW := gm 1058 (by decide +kernel) (by decide +kernel)
theorem gm_112 : Cond.initialized "UncutTale$Slots" ∈ GW := gm 112 (by decide +kernel) (by decide +kernel)
theorem mk_X5_isSlot : MK yX5_isSlot cX5_isSlot 2 (some .boolean) := ⟨gm_1059, gm_1057, gm_1058, gm_112⟩
theorem gm_1056 : Cond.methodLink "UncutTale" 378 yX5_isSlot ∈ GW := gm 1056 (by decide +kernel) (by decide +kernel)
theorem iw_5 : ∀ w ∈ u_ws RX5 TX5 3, w ∈ GW := by
  have h1 : ∀ w ∈ u_ws RX5 TX5 3, w ∈ lw_tbl ∧ goodWord w = true := by decide +kernel
  exact fun w h => List.mem_filter.mpr (h1 w h)
theorem gm_299 : Cond.fieldLink "UncutTale$Slots" 9 "UncutTale$Slots" "widths" "[I" ∈ GW := gm 299 (by decide +kernel) (by decide +kernel)
theorem fk_5_9 : FK "UncutTale$Slots" 9 5 0 := ⟨RX5, TX5, 3, rfl, by decide, iw_5, gm_299⟩
theorem pn_X5_isBare : plainName yX5_isBare.cls = true := by decide +kernel
theorem hd_X5_isBare : yX5_isBare.cls ≠ "java/lang/invoke/MethodHandle" ∧ yX5_isBare.cls ≠ "java/lang/invoke/VarHandle" ∧ (parseMethodDescriptor yX5_isBare.desc).map (fun d => d.parameters.length) = some 1 := by decide +kernel
theorem gm_722 : Cond.code yX5_isBare cX5_isBare 2 (some .boolean) ∈ GW := gm 722 (by decide +kernel) (by decide +kernel)
theorem gm_720 : Cond.instanceMethod yX5_isBare ∈ GW := gm 720 (by decide +kernel) (by decide +kernel)
theorem gm_721 : Cond.selects "UncutTale$Slots" yX5_isBare yX5_isBare ∈ GW := gm 721 (by decide +kernel) (by decide +kernel)
theorem mk_X5_isBare : MK yX5_isBare cX5_isBare 2 (some .boolean) := ⟨gm_722, gm_720, gm_721, gm_112⟩
theorem gm_1060 : Cond.methodLink "UncutTale" 384 yX5_isBare ∈ GW := gm 1060 (by decide +kernel) (by decide +kernel)
theorem gm_454 : Cond.fieldLink "UncutTale" 83 "UncutTale" "guess" "LUncutTale$Guess;" ∈ GW := gm 454 (by decide +kernel) (by decide +kernel)
theorem fk_8_83 : FK "UncutTale" 83 8 11 := ⟨RX8, TX8, 15, rfl, by decide, iw_8, gm_454⟩
theorem iw_1 : ∀ w ∈ u_ws RX1 TX1 6, w ∈ GW := by
  have h1 : ∀ w ∈ u_ws RX1 TX1 6, w ∈ lw_tbl ∧ goodWord w = true := by decide +kernel
  exact fun w h => List.mem_filter.mpr (h1 w h)
theorem gm_423 : Cond.fieldLink "UncutTale$Guess" 23 "UncutTale$Guess" "slots" "LUncutTale$Slots;" ∈ GW := gm 423 (by decide +kernel) (by decide +kernel)
theorem fk_1_23 : FK "UncutTale$Guess" 23 1 1 := ⟨RX1, TX1, 6, rfl, by decide, iw_1, gm_423⟩
theorem gm_300 : Cond.fieldLink "UncutTale$Slots" 15 "UncutTale$Slots" "sizes" "[I" ∈ GW := gm 300 (by decide +kernel) (by decide +kernel)
theorem fk_5_15 : FK "UncutTale$Slots" 15 5 1 := ⟨RX5, TX5, 3, rfl, by decide, iw_5, gm_300⟩
theorem pn_X5_size : plainName yX5_size.cls = true := by decide +kernel
theorem hd_X5_size : yX5_size.cls ≠ "java/lang/invoke/MethodHandle" ∧ yX5_size.cls ≠ "java/lang/invoke/VarHandle" ∧ (parseMethodDescriptor yX5_size.desc).map (fun d => d.parameters.length) = some 1 := by decide +kernel
theorem gm_1068 : Cond.code yX5_size cX5_size 2 (some .int) ∈ GW := gm 1068 (by decide +kernel) (by decide +kernel)
theorem gm_1066 : Cond.instanceMethod yX5_size ∈ GW := gm 1066 (by decide +kernel) (by decide +kernel)
theorem gm_1067 : Cond.selects "UncutTale$Slots" yX5_size yX5_size ∈ GW := gm 1067 (by decide +kernel) (by decide +kernel)
theorem mk_X5_size : MK yX5_size cX5_size 2 (some .int) := ⟨gm_1068, gm_1066, gm_1067, gm_112⟩
theorem gm_1065 : Cond.methodLink "UncutTale$Guess" 27 yX5_size ∈ GW := gm 1065 (by decide +kernel) (by decide +kernel)
theorem gm_301 : Cond.fieldLink "UncutTale$Slots" 18 "UncutTale$Slots" "numbers" "[J" ∈ GW := gm 301 (by decide +kernel) (by decide +kernel)
theorem fk_5_18 : FK "UncutTale$Slots" 18 5 2 := ⟨RX5, TX5, 3, rfl, by decide, iw_5, gm_301⟩
theorem pn_X5_number : plainName yX5_number.cls = true := by decide +kernel
theorem hd_X5_number : yX5_number.cls ≠ "java/lang/invoke/MethodHandle" ∧ yX5_number.cls ≠ "java/lang/invoke/VarHandle" ∧ (parseMethodDescriptor yX5_number.desc).map (fun d => d.parameters.length) = some 2 := by decide +kernel
theorem gm_1072 : Cond.code yX5_number cX5_number 3 (some .long) ∈ GW := gm 1072 (by decide +kernel) (by decide +kernel)
theorem gm_1070 : Cond.instanceMethod yX5_number ∈ GW := gm 1070 (by decide +kernel) (by decide +kernel)
theorem gm_1071 : Cond.selects "UncutTale$Slots" yX5_number yX5_number ∈ GW := gm 1071 (by decide +kernel) (by decide +kernel)
theorem mk_X5_number : MK yX5_number cX5_number 3 (some .long) := ⟨gm_1072, gm_1070, gm_1071, gm_112⟩
theorem gm_1069 : Cond.methodLink "UncutTale$Guess" 33 yX5_number ∈ GW := gm 1069 (by decide +kernel) (by decide +kernel)
theorem gm_422 : Cond.fieldLink "UncutTale$Guess" 19 "UncutTale$Guess" "story" "LUncutTale$Story;" ∈ GW := gm 422 (by decide +kernel) (by decide +kernel)
theorem fk_1_19 : FK "UncutTale$Guess" 19 1 0 := ⟨RX1, TX1, 6, rfl, by decide, iw_1, gm_422⟩
theorem gm_202 : Cond.fieldLink "UncutTale$Guess" 37 "UncutTale$Story" "parts" "I" ∈ GW := gm 202 (by decide +kernel) (by decide +kernel)
theorem fk_1_37 : FK "UncutTale$Guess" 37 6 13 := ⟨RX6, TX6, 18, rfl, by decide, iw_6, gm_202⟩
theorem gm_187 : Cond.fieldLink "UncutTale$Guess" 43 "UncutTale$Story" "years" "I" ∈ GW := gm 187 (by decide +kernel) (by decide +kernel)
theorem fk_1_43 : FK "UncutTale$Guess" 43 6 10 := ⟨RX6, TX6, 18, rfl, by decide, iw_6, gm_187⟩
theorem gm_1073 : Cond.constantLong "UncutTale$Guess" 46 99 ∈ GW := gm 1073 (by decide +kernel) (by decide +kernel)
theorem pn_X1_isSeenRow : plainName yX1_isSeenRow.cls = true := by decide +kernel
theorem hd_X1_isSeenRow : yX1_isSeenRow.cls ≠ "java/lang/invoke/MethodHandle" ∧ yX1_isSeenRow.cls ≠ "java/lang/invoke/VarHandle" ∧ (parseMethodDescriptor yX1_isSeenRow.desc).map (fun d => d.parameters.length) = some 1 := by decide +kernel
theorem gm_1064 : Cond.code yX1_isSeenRow cX1_isSeenRow 10 (some .boolean) ∈ GW := gm 1064 (by decide +kernel) (by decide +kernel)
theorem gm_1062 : Cond.instanceMethod yX1_isSeenRow ∈ GW := gm 1062 (by decide +kernel) (by decide +kernel)
theorem gm_1063 : Cond.selects "UncutTale$Guess" yX1_isSeenRow yX1_isSeenRow ∈ GW := gm 1063 (by decide +kernel) (by decide +kernel)
theorem gm_116 : Cond.initialized "UncutTale$Guess" ∈ GW := gm 116 (by decide +kernel) (by decide +kernel)
theorem mk_X1_isSeenRow : MK yX1_isSeenRow cX1_isSeenRow 10 (some .boolean) := ⟨gm_1064, gm_1062, gm_1063, gm_116⟩
theorem gm_1061 : Cond.methodLink "UncutTale" 438 yX1_isSeenRow ∈ GW := gm 1061 (by decide +kernel) (by decide +kernel)
theorem pn_X8_refuseSeen : plainName yX8_refuseSeen.cls = true := by decide +kernel
theorem hd_X8_refuseSeen : yX8_refuseSeen.cls ≠ "java/lang/invoke/MethodHandle" ∧ yX8_refuseSeen.cls ≠ "java/lang/invoke/VarHandle" ∧ (parseMethodDescriptor yX8_refuseSeen.desc).map (fun d => d.parameters.length) = some 1 := by decide +kernel
theorem gm_1055 : Cond.code yX8_refuseSeen cX8_refuseSeen 2 (some .int) ∈ GW := gm 1055 (by decide +kernel) (by decide +kernel)
theorem gm_1054 : Cond.instanceMethod yX8_refuseSeen ∈ GW := gm 1054 (by decide +kernel) (by decide +kernel)
theorem gm_28 : Cond.selects "UncutTale" yX8_refuseSeen yX8_refuseSeen ∈ GW := gm 28 (by decide +kernel) (by decide +kernel)
theorem mk_X8_refuseSeen : MK yX8_refuseSeen cX8_refuseSeen 2 (some .int) := ⟨gm_1055, gm_1054, gm_28, gm_108⟩
theorem gm_1052 : Cond.methodLink "UncutTale" 312 yX8_refuseSeen ∈ GW := gm 1052 (by decide +kernel) (by decide +kernel)
theorem pn_X8_refuseSeenOf : plainName yX8_refuseSeenOf.cls = true := by decide +kernel
theorem hd_X8_refuseSeenOf : yX8_refuseSeenOf.cls ≠ "java/lang/invoke/MethodHandle" ∧ yX8_refuseSeenOf.cls ≠ "java/lang/invoke/VarHandle" ∧ (parseMethodDescriptor yX8_refuseSeenOf.desc).map (fun d => d.parameters.length) = some 2 := by decide +kernel
theorem gm_1051 : Cond.code yX8_refuseSeenOf cX8_refuseSeenOf 3 (some .int) ∈ GW := gm 1051 (by decide +kernel) (by decide +kernel)
theorem gm_1050 : Cond.instanceMethod yX8_refuseSeenOf ∈ GW := gm 1050 (by decide +kernel) (by decide +kernel)
theorem gm_27 : Cond.selects "UncutTale" yX8_refuseSeenOf yX8_refuseSeenOf ∈ GW := gm 27 (by decide +kernel) (by decide +kernel)
theorem mk_X8_refuseSeenOf : MK yX8_refuseSeenOf cX8_refuseSeenOf 3 (some .int) := ⟨gm_1051, gm_1050, gm_27, gm_108⟩
theorem gm_1048 : Cond.methodLink "UncutTale" 289 yX8_refuseSeenOf ∈ GW := gm 1048 (by decide +kernel) (by decide +kernel)
theorem gm_1082 : Cond.methodLink "UncutTale$Guess" 48 yX0_stiffness ∈ GW := gm 1082 (by decide +kernel) (by decide +kernel)
theorem pn_X1_isAsSeen : plainName yX1_isAsSeen.cls = true := by decide +kernel
theorem hd_X1_isAsSeen : yX1_isAsSeen.cls ≠ "java/lang/invoke/MethodHandle" ∧ yX1_isAsSeen.cls ≠ "java/lang/invoke/VarHandle" ∧ (parseMethodDescriptor yX1_isAsSeen.desc).map (fun d => d.parameters.length) = some 3 := by decide +kernel
theorem gm_1081 : Cond.code yX1_isAsSeen cX1_isAsSeen 7 (some .boolean) ∈ GW := gm 1081 (by decide +kernel) (by decide +kernel)
theorem gm_1079 : Cond.instanceMethod yX1_isAsSeen ∈ GW := gm 1079 (by decide +kernel) (by decide +kernel)
theorem gm_1080 : Cond.selects "UncutTale$Guess" yX1_isAsSeen yX1_isAsSeen ∈ GW := gm 1080 (by decide +kernel) (by decide +kernel)
theorem mk_X1_isAsSeen : MK yX1_isAsSeen cX1_isAsSeen 7 (some .boolean) := ⟨gm_1081, gm_1079, gm_1080, gm_116⟩
theorem gm_1078 : Cond.methodLink "UncutTale$Guess" 54 yX1_isAsSeen ∈ GW := gm 1078 (by decide +kernel) (by decide +kernel)
theorem gm_424 : Cond.fieldLink "UncutTale$Guess" 9 "UncutTale$Guess" "fits" "[Z" ∈ GW := gm 424 (by decide +kernel) (by decide +kernel)
theorem fk_1_9 : FK "UncutTale$Guess" 9 1 2 := ⟨RX1, TX1, 6, rfl, by decide, iw_1, gm_424⟩
theorem gm_1083 : Cond.methodLink "UncutTale$Guess" 58 yX0_follow ∈ GW := gm 1083 (by decide +kernel) (by decide +kernel)
theorem gm_324 : Cond.fieldLink "UncutTale$Guess" 65 "UncutTale$Course" "trace" "[I" ∈ GW := gm 324 (by decide +kernel) (by decide +kernel)
theorem fk_1_65 : FK "UncutTale$Guess" 65 0 6 := ⟨RX0, TX0, 10, rfl, by decide, iw_0, gm_324⟩
theorem pn_X1_isTraceAsSeen : plainName yX1_isTraceAsSeen.cls = true := by decide +kernel
theorem hd_X1_isTraceAsSeen : yX1_isTraceAsSeen.cls ≠ "java/lang/invoke/MethodHandle" ∧ yX1_isTraceAsSeen.cls ≠ "java/lang/invoke/VarHandle" ∧ (parseMethodDescriptor yX1_isTraceAsSeen.desc).map (fun d => d.parameters.length) = some 3 := by decide +kernel
theorem gm_1087 : Cond.code yX1_isTraceAsSeen cX1_isTraceAsSeen 6 (some .boolean) ∈ GW := gm 1087 (by decide +kernel) (by decide +kernel)
theorem gm_1086 : Cond.instanceMethod yX1_isTraceAsSeen ∈ GW := gm 1086 (by decide +kernel) (by decide +kernel)
theorem gm_29 : Cond.selects "UncutTale$Guess" yX1_isTraceAsSeen yX1_isTraceAsSeen ∈ GW := gm 29 (by decide +kernel) (by decide +kernel)
theorem mk_X1_isTraceAsSeen : MK yX1_isTraceAsSeen cX1_isTraceAsSeen 6 (some .boolean) := ⟨gm_1087, gm_1086, gm_29, gm_116⟩
theorem gm_1084 : Cond.methodLink "UncutTale$Guess" 62 yX1_isTraceAsSeen ∈ GW := gm 1084 (by decide +kernel) (by decide +kernel)
theorem pn_X1_howMany : plainName yX1_howMany.cls = true := by decide +kernel
theorem hd_X1_howMany : yX1_howMany.cls ≠ "java/lang/invoke/MethodHandle" ∧ yX1_howMany.cls ≠ "java/lang/invoke/VarHandle" ∧ (parseMethodDescriptor yX1_howMany.desc).map (fun d => d.parameters.length) = some 3 := by decide +kernel
theorem gm_1077 : Cond.code yX1_howMany cX1_howMany 7 (some .int) ∈ GW := gm 1077 (by decide +kernel) (by decide +kernel)
theorem gm_1075 : Cond.instanceMethod yX1_howMany ∈ GW := gm 1075 (by decide +kernel) (by decide +kernel)
theorem gm_1076 : Cond.selects "UncutTale$Guess" yX1_howMany yX1_howMany ∈ GW := gm 1076 (by decide +kernel) (by decide +kernel)
theorem mk_X1_howMany : MK yX1_howMany cX1_howMany 7 (some .int) := ⟨gm_1077, gm_1075, gm_1076, gm_116⟩
theorem gm_1074 : Cond.methodLink "UncutTale" 292 yX1_howMany ∈ GW := gm 1074 (by decide +kernel) (by decide +kernel)
theorem pn_X8_stiffs : plainName yX8_stiffs.cls = true := by decide +kernel
theorem pn_X1_least : plainName yX1_least.cls = true := by decide +kernel
theorem hd_X1_least : yX1_least.cls ≠ "java/lang/invoke/MethodHandle" ∧ yX1_least.cls ≠ "java/lang/invoke/VarHandle" ∧ (parseMethodDescriptor yX1_least.desc).map (fun d => d.parameters.length) = some 0 := by decide +kernel
theorem gm_1095 : Cond.code yX1_least cX1_least 2 (some .int) ∈ GW := gm 1095 (by decide +kernel) (by decide +kernel)
theorem gm_1093 : Cond.instanceMethod yX1_least ∈ GW := gm 1093 (by decide +kernel) (by decide +kernel)
theorem gm_1094 : Cond.selects "UncutTale$Guess" yX1_least yX1_least ∈ GW := gm 1094 (by decide +kernel) (by decide +kernel)
theorem mk_X1_least : MK yX1_least cX1_least 2 (some .int) := ⟨gm_1095, gm_1093, gm_1094, gm_116⟩
theorem gm_1092 : Cond.methodLink "UncutTale" 296 yX1_least ∈ GW := gm 1092 (by decide +kernel) (by decide +kernel)
theorem pn_X8_low : plainName yX8_low.cls = true := by decide +kernel
theorem pn_X1_greatest : plainName yX1_greatest.cls = true := by decide +kernel
theorem hd_X1_greatest : yX1_greatest.cls ≠ "java/lang/invoke/MethodHandle" ∧ yX1_greatest.cls ≠ "java/lang/invoke/VarHandle" ∧ (parseMethodDescriptor yX1_greatest.desc).map (fun d => d.parameters.length) = some 0 := by decide +kernel
theorem gm_1103 : Cond.code yX1_greatest cX1_greatest 2 (some .int) ∈ GW := gm 1103 (by decide +kernel) (by decide +kernel)
theorem gm_1101 : Cond.instanceMethod yX1_greatest ∈ GW := gm 1101 (by decide +kernel) (by decide +kernel)
theorem gm_1102 : Cond.selects "UncutTale$Guess" yX1_greatest yX1_greatest ∈ GW := gm 1102 (by decide +kernel) (by decide +kernel)
