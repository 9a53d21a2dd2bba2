theorem mk_X1_greatest : MK yX1_greatest cX1_greatest 2 (some .int) := ⟨gm_1103, gm_1101, gm_1102, gm_116⟩
theorem gm_1100 : Cond.methodLink "UncutTale" 299 yX1_greatest ∈ GW := gm 1100 (by decide +kernel) (by decide +kernel)
theorem pn_X8_high : plainName yX8_high.cls = true := by decide +kernel
theorem gm_1112 : Cond.methodLink "UncutTale$Guess" 68 yX1_howMany ∈ GW := gm 1112 (by decide +kernel) (by decide +kernel)
theorem gm_428 : Cond.fieldLink "UncutTale$Guess" 72 "UncutTale$Guess" "left" "I" ∈ GW := gm 428 (by decide +kernel) (by decide +kernel)
theorem pk_1_72 : PK "UncutTale$Guess" 72 1 5 .int := ⟨RX1, TX1, 6, tyX1, rfl, by decide, iw_1, gm_428, tyX1_ok, nmX1, rfl, by decide +kernel⟩
theorem gm_426 : Cond.fieldLink "UncutTale$Guess" 75 "UncutTale$Guess" "askedYear" "I" ∈ GW := gm 426 (by decide +kernel) (by decide +kernel)
theorem pk_1_75 : PK "UncutTale$Guess" 75 1 4 .int := ⟨RX1, TX1, 6, tyX1, rfl, by decide, iw_1, gm_426, tyX1_ok, nmX1, rfl, by decide +kernel⟩
theorem gm_425 : Cond.fieldLink "UncutTale$Guess" 15 "UncutTale$Guess" "tally" "[I" ∈ GW := gm 425 (by decide +kernel) (by decide +kernel)
theorem fk_1_15 : FK "UncutTale$Guess" 15 1 3 := ⟨RX1, TX1, 6, rfl, by decide, iw_1, gm_425⟩
theorem gm_1117 : Cond.methodLink "UncutTale$Guess" 85 yJ7_fill_53178 ∈ GW := gm 1117 (by decide +kernel) (by decide +kernel)
theorem pn_X1_tallyTraces : plainName yX1_tallyTraces.cls = true := by decide +kernel
theorem hd_X1_tallyTraces : yX1_tallyTraces.cls ≠ "java/lang/invoke/MethodHandle" ∧ yX1_tallyTraces.cls ≠ "java/lang/invoke/VarHandle" ∧ (parseMethodDescriptor yX1_tallyTraces.desc).map (fun d => d.parameters.length) = some 2 := by decide +kernel
theorem gm_1116 : Cond.code yX1_tallyTraces cX1_tallyTraces 5 none ∈ GW := gm 1116 (by decide +kernel) (by decide +kernel)
theorem gm_1115 : Cond.instanceMethod yX1_tallyTraces ∈ GW := gm 1115 (by decide +kernel) (by decide +kernel)
theorem gm_30 : Cond.selects "UncutTale$Guess" yX1_tallyTraces yX1_tallyTraces ∈ GW := gm 30 (by decide +kernel) (by decide +kernel)
theorem mk_X1_tallyTraces : MK yX1_tallyTraces cX1_tallyTraces 5 none := ⟨gm_1116, gm_1115, gm_30, gm_116⟩
theorem gm_1113 : Cond.methodLink "UncutTale$Guess" 78 yX1_tallyTraces ∈ GW := gm 1113 (by decide +kernel) (by decide +kernel)
theorem gm_1122 : Cond.methodLink "UncutTale$Guess" 91 yJ9_max_7cf53 ∈ GW := gm 1122 (by decide +kernel) (by decide +kernel)
theorem pn_X1_worstIn : plainName yX1_worstIn.cls = true := by decide +kernel
theorem hd_X1_worstIn : yX1_worstIn.cls ≠ "java/lang/invoke/MethodHandle" ∧ yX1_worstIn.cls ≠ "java/lang/invoke/VarHandle" ∧ (parseMethodDescriptor yX1_worstIn.desc).map (fun d => d.parameters.length) = some 1 := by decide +kernel
theorem gm_1121 : Cond.code yX1_worstIn cX1_worstIn 4 (some .int) ∈ GW := gm 1121 (by decide +kernel) (by decide +kernel)
theorem gm_1120 : Cond.instanceMethod yX1_worstIn ∈ GW := gm 1120 (by decide +kernel) (by decide +kernel)
theorem gm_31 : Cond.selects "UncutTale$Guess" yX1_worstIn yX1_worstIn ∈ GW := gm 31 (by decide +kernel) (by decide +kernel)
theorem mk_X1_worstIn : MK yX1_worstIn cX1_worstIn 4 (some .int) := ⟨gm_1121, gm_1120, gm_31, gm_116⟩
theorem gm_1118 : Cond.methodLink "UncutTale$Guess" 82 yX1_worstIn ∈ GW := gm 1118 (by decide +kernel) (by decide +kernel)
theorem fk_1_72 : FK "UncutTale$Guess" 72 1 5 := ⟨RX1, TX1, 6, rfl, by decide, iw_1, gm_428⟩
theorem pn_X1_choose : plainName yX1_choose.cls = true := by decide +kernel
theorem hd_X1_choose : yX1_choose.cls ≠ "java/lang/invoke/MethodHandle" ∧ yX1_choose.cls ≠ "java/lang/invoke/VarHandle" ∧ (parseMethodDescriptor yX1_choose.desc).map (fun d => d.parameters.length) = some 3 := by decide +kernel
theorem gm_1111 : Cond.code yX1_choose cX1_choose 6 none ∈ GW := gm 1111 (by decide +kernel) (by decide +kernel)
theorem gm_1109 : Cond.instanceMethod yX1_choose ∈ GW := gm 1109 (by decide +kernel) (by decide +kernel)
theorem gm_1110 : Cond.selects "UncutTale$Guess" yX1_choose yX1_choose ∈ GW := gm 1110 (by decide +kernel) (by decide +kernel)
theorem mk_X1_choose : MK yX1_choose cX1_choose 6 none := ⟨gm_1111, gm_1109, gm_1110, gm_116⟩
theorem gm_1108 : Cond.methodLink "UncutTale" 302 yX1_choose ∈ GW := gm 1108 (by decide +kernel) (by decide +kernel)
theorem gm_427 : Cond.fieldLink "UncutTale" 306 "UncutTale$Guess" "askedYear" "I" ∈ GW := gm 427 (by decide +kernel) (by decide +kernel)
theorem fk_8_306 : FK "UncutTale" 306 1 4 := ⟨RX1, TX1, 6, rfl, by decide, iw_1, gm_427⟩
theorem pn_X8_ask : plainName yX8_ask.cls = true := by decide +kernel
theorem gm_429 : Cond.fieldLink "UncutTale" 309 "UncutTale$Guess" "left" "I" ∈ GW := gm 429 (by decide +kernel) (by decide +kernel)
theorem fk_8_309 : FK "UncutTale" 309 1 5 := ⟨RX1, TX1, 6, rfl, by decide, iw_1, gm_429⟩
theorem pn_X8_leaves : plainName yX8_leaves.cls = true := by decide +kernel
theorem pn_X8_asNow : plainName yX8_asNow.cls = true := by decide +kernel
theorem hd_X8_asNow : yX8_asNow.cls ≠ "java/lang/invoke/MethodHandle" ∧ yX8_asNow.cls ≠ "java/lang/invoke/VarHandle" ∧ (parseMethodDescriptor yX8_asNow.desc).map (fun d => d.parameters.length) = some 1 := by decide +kernel
theorem gm_1134 : Cond.code yX8_asNow cX8_asNow 2 none ∈ GW := gm 1134 (by decide +kernel) (by decide +kernel)
theorem gm_1133 : Cond.instanceMethod yX8_asNow ∈ GW := gm 1133 (by decide +kernel) (by decide +kernel)
theorem gm_32 : Cond.selects "UncutTale" yX8_asNow yX8_asNow ∈ GW := gm 32 (by decide +kernel) (by decide +kernel)
theorem mk_X8_asNow : MK yX8_asNow cX8_asNow 2 none := ⟨gm_1134, gm_1133, gm_32, gm_108⟩
theorem gm_1131 : Cond.methodLink "UncutTale" 318 yX8_asNow ∈ GW := gm 1131 (by decide +kernel) (by decide +kernel)
theorem gm_326 : Cond.fieldLink "UncutTale" 321 "UncutTale$Course" "law" "I" ∈ GW := gm 326 (by decide +kernel) (by decide +kernel)
theorem pk_8_321 : PK "UncutTale" 321 0 7 .int := ⟨RX0, TX0, 10, tyX0, rfl, by decide, iw_0, gm_326, tyX0_ok, nmX0, rfl, by decide +kernel⟩
theorem gm_1135 : Cond.methodLink "UncutTale" 322 yX1_isAsSeen ∈ GW := gm 1135 (by decide +kernel) (by decide +kernel)
theorem pn_X8_laws : plainName yX8_laws.cls = true := by decide +kernel
theorem pn_X8_readByLaw : plainName yX8_readByLaw.cls = true := by decide +kernel
theorem hd_X8_readByLaw : yX8_readByLaw.cls ≠ "java/lang/invoke/MethodHandle" ∧ yX8_readByLaw.cls ≠ "java/lang/invoke/VarHandle" ∧ (parseMethodDescriptor yX8_readByLaw.desc).map (fun d => d.parameters.length) = some 1 := by decide +kernel
theorem gm_1143 : Cond.code yX8_readByLaw cX8_readByLaw 2 (some .int) ∈ GW := gm 1143 (by decide +kernel) (by decide +kernel)
theorem gm_1142 : Cond.instanceMethod yX8_readByLaw ∈ GW := gm 1142 (by decide +kernel) (by decide +kernel)
theorem gm_33 : Cond.selects "UncutTale" yX8_readByLaw yX8_readByLaw ∈ GW := gm 33 (by decide +kernel) (by decide +kernel)
theorem mk_X8_readByLaw : MK yX8_readByLaw cX8_readByLaw 2 (some .int) := ⟨gm_1143, gm_1142, gm_33, gm_108⟩
theorem gm_1140 : Cond.methodLink "UncutTale" 326 yX8_readByLaw ∈ GW := gm 1140 (by decide +kernel) (by decide +kernel)
theorem pn_X8_by : plainName yX8_by.cls = true := by decide +kernel
theorem pn_X8_law : plainName yX8_law.cls = true := by decide +kernel
theorem pn_X8_blunt : plainName yX8_blunt.cls = true := by decide +kernel
theorem pn_X8_slit : plainName yX8_slit.cls = true := by decide +kernel
theorem pn_X8_earChoice : plainName yX8_earChoice.cls = true := by decide +kernel
theorem hd_X8_earChoice : yX8_earChoice.cls ≠ "java/lang/invoke/MethodHandle" ∧ yX8_earChoice.cls ≠ "java/lang/invoke/VarHandle" ∧ (parseMethodDescriptor yX8_earChoice.desc).map (fun d => d.parameters.length) = some 1 := by decide +kernel
theorem gm_1167 : Cond.code yX8_earChoice cX8_earChoice 7 (some .int) ∈ GW := gm 1167 (by decide +kernel) (by decide +kernel)
theorem gm_1166 : Cond.instanceMethod yX8_earChoice ∈ GW := gm 1166 (by decide +kernel) (by decide +kernel)
theorem gm_35 : Cond.selects "UncutTale" yX8_earChoice yX8_earChoice ∈ GW := gm 35 (by decide +kernel) (by decide +kernel)
theorem mk_X8_earChoice : MK yX8_earChoice cX8_earChoice 7 (some .int) := ⟨gm_1167, gm_1166, gm_35, gm_108⟩
theorem gm_1164 : Cond.methodLink "UncutTale" 335 yX8_earChoice ∈ GW := gm 1164 (by decide +kernel) (by decide +kernel)
theorem pn_X8_uncleWorth : plainName yX8_uncleWorth.cls = true := by decide +kernel
theorem hd_X8_uncleWorth : yX8_uncleWorth.cls ≠ "java/lang/invoke/MethodHandle" ∧ yX8_uncleWorth.cls ≠ "java/lang/invoke/VarHandle" ∧ (parseMethodDescriptor yX8_uncleWorth.desc).map (fun d => d.parameters.length) = some 1 := by decide +kernel
theorem gm_1163 : Cond.code yX8_uncleWorth cX8_uncleWorth 3 (some .int) ∈ GW := gm 1163 (by decide +kernel) (by decide +kernel)
theorem gm_1162 : Cond.instanceMethod yX8_uncleWorth ∈ GW := gm 1162 (by decide +kernel) (by decide +kernel)
theorem gm_34 : Cond.selects "UncutTale" yX8_uncleWorth yX8_uncleWorth ∈ GW := gm 34 (by decide +kernel) (by decide +kernel)
theorem mk_X8_uncleWorth : MK yX8_uncleWorth cX8_uncleWorth 3 (some .int) := ⟨gm_1163, gm_1162, gm_34, gm_108⟩
theorem gm_1160 : Cond.methodLink "UncutTale" 332 yX8_uncleWorth ∈ GW := gm 1160 (by decide +kernel) (by decide +kernel)
theorem pn_X8_uncle : plainName yX8_uncle.cls = true := by decide +kernel
theorem pn_X8_opens : plainName yX8_opens.cls = true := by decide +kernel
theorem pn_X8_replies : plainName yX8_replies.cls = true := by decide +kernel
theorem pn_X8_isPair : plainName yX8_isPair.cls = true := by decide +kernel
theorem hd_X8_isPair : yX8_isPair.cls ≠ "java/lang/invoke/MethodHandle" ∧ yX8_isPair.cls ≠ "java/lang/invoke/VarHandle" ∧ (parseMethodDescriptor yX8_isPair.desc).map (fun d => d.parameters.length) = some 2 := by decide +kernel
theorem gm_1183 : Cond.code yX8_isPair cX8_isPair 3 (some .boolean) ∈ GW := gm 1183 (by decide +kernel) (by decide +kernel)
theorem gm_1182 : Cond.instanceMethod yX8_isPair ∈ GW := gm 1182 (by decide +kernel) (by decide +kernel)
theorem gm_36 : Cond.selects "UncutTale" yX8_isPair yX8_isPair ∈ GW := gm 36 (by decide +kernel) (by decide +kernel)
theorem mk_X8_isPair : MK yX8_isPair cX8_isPair 3 (some .boolean) := ⟨gm_1183, gm_1182, gm_36, gm_108⟩
theorem gm_1180 : Cond.methodLink "UncutTale" 338 yX8_isPair ∈ GW := gm 1180 (by decide +kernel) (by decide +kernel)
theorem gm_328 : Cond.fieldLink "UncutTale" 441 "UncutTale$Course" "sewn" "I" ∈ GW := gm 328 (by decide +kernel) (by decide +kernel)
theorem pk_8_441 : PK "UncutTale" 441 0 8 .int := ⟨RX0, TX0, 10, tyX0, rfl, by decide, iw_0, gm_328, tyX0_ok, nmX0, rfl, by decide +kernel⟩
theorem pn_X8_sewnGets : plainName yX8_sewnGets.cls = true := by decide +kernel
theorem hd_X8_sewnGets : yX8_sewnGets.cls ≠ "java/lang/invoke/MethodHandle" ∧ yX8_sewnGets.cls ≠ "java/lang/invoke/VarHandle" ∧ (parseMethodDescriptor yX8_sewnGets.desc).map (fun d => d.parameters.length) = some 4 := by decide +kernel
theorem gm_1187 : Cond.code yX8_sewnGets cX8_sewnGets 5 (some .int) ∈ GW := gm 1187 (by decide +kernel) (by decide +kernel)
theorem gm_1186 : Cond.instanceMethod yX8_sewnGets ∈ GW := gm 1186 (by decide +kernel) (by decide +kernel)
theorem gm_37 : Cond.selects "UncutTale" yX8_sewnGets yX8_sewnGets ∈ GW := gm 37 (by decide +kernel) (by decide +kernel)
theorem mk_X8_sewnGets : MK yX8_sewnGets cX8_sewnGets 5 (some .int) := ⟨gm_1187, gm_1186, gm_37, gm_108⟩
theorem gm_1184 : Cond.methodLink "UncutTale" 341 yX8_sewnGets ∈ GW := gm 1184 (by decide +kernel) (by decide +kernel)
theorem pn_X8_rests : plainName yX8_rests.cls = true := by decide +kernel
theorem pn_X8_isChoice : plainName yX8_isChoice.cls = true := by decide +kernel
theorem hd_X8_isChoice : yX8_isChoice.cls ≠ "java/lang/invoke/MethodHandle" ∧ yX8_isChoice.cls ≠ "java/lang/invoke/VarHandle" ∧ (parseMethodDescriptor yX8_isChoice.desc).map (fun d => d.parameters.length) = some 1 := by decide +kernel
theorem gm_1194 : Cond.code yX8_isChoice cX8_isChoice 1 (some .boolean) ∈ GW := gm 1194 (by decide +kernel) (by decide +kernel)
theorem gm_1193 : Cond.static yX8_isChoice ∈ GW := gm 1193 (by decide +kernel) (by decide +kernel)
theorem sk_X8_isChoice : SK yX8_isChoice cX8_isChoice 1 (some .boolean) := ⟨gm_1194, gm_1193, gm_108⟩
theorem gm_1192 : Cond.methodLink "UncutTale" 345 yX8_isChoice ∈ GW := gm 1192 (by decide +kernel) (by decide +kernel)
theorem pn_X8_gets : plainName yX8_gets.cls = true := by decide +kernel
theorem fk_8_91 : FK "UncutTale" 91 8 13 := ⟨RX8, TX8, 15, rfl, by decide, iw_8, gm_456⟩
theorem gm_453 : Cond.fieldLink "UncutTale" 74 "UncutTale" "odds" "LUncutTale$Odds;" ∈ GW := gm 453 (by decide +kernel) (by decide +kernel)
theorem fk_8_74 : FK "UncutTale" 74 8 10 := ⟨RX8, TX8, 15, rfl, by decide, iw_8, gm_453⟩
theorem iw_2 : ∀ w ∈ u_ws RX2 TX2 5, w ∈ GW := by
  have h1 : ∀ w ∈ u_ws RX2 TX2 5, w ∈ lw_tbl ∧ goodWord w = true := by decide +kernel
  exact fun w h => List.mem_filter.mpr (h1 w h)
theorem gm_398 : Cond.fieldLink "UncutTale$Odds" 19 "UncutTale$Odds" "course" "LUncutTale$Course;" ∈ GW := gm 398 (by decide +kernel) (by decide +kernel)
theorem fk_2_19 : FK "UncutTale$Odds" 19 2 1 := ⟨RX2, TX2, 5, rfl, by decide, iw_2, gm_398⟩
theorem gm_1207 : Cond.methodLink "UncutTale$Odds" 23 yX0_begin ∈ GW := gm 1207 (by decide +kernel) (by decide +kernel)
theorem gm_399 : Cond.fieldLink "UncutTale$Odds" 9 "UncutTale$Odds" "openWeight" "[J" ∈ GW := gm 399 (by decide +kernel) (by decide +kernel)
theorem fk_2_9 : FK "UncutTale$Odds" 9 2 2 := ⟨RX2, TX2, 5, rfl, by decide, iw_2, gm_399⟩
theorem pn_J7_fill_d0a16 : plainName yJ7_fill_d0a16.cls = true := by decide +kernel
theorem hd_J7_fill_d0a16 : yJ7_fill_d0a16.cls ≠ "java/lang/invoke/MethodHandle" ∧ yJ7_fill_d0a16.cls ≠ "java/lang/invoke/VarHandle" ∧ (parseMethodDescriptor yJ7_fill_d0a16.desc).map (fun d => d.parameters.length) = some 2 := by decide +kernel
theorem gm_1210 : Cond.code yJ7_fill_d0a16 cJ7_fill_d0a16 5 none ∈ GW := gm 1210 (by decide +kernel) (by decide +kernel)
theorem gm_1209 : Cond.static yJ7_fill_d0a16 ∈ GW := gm 1209 (by decide +kernel) (by decide +kernel)
theorem sk_J7_fill_d0a16 : SK yJ7_fill_d0a16 cJ7_fill_d0a16 5 none := ⟨gm_1210, gm_1209, gm_124⟩
theorem gm_1208 : Cond.methodLink "UncutTale$Odds" 29 yJ7_fill_d0a16 ∈ GW := gm 1208 (by decide +kernel) (by decide +kernel)
theorem gm_401 : Cond.fieldLink "UncutTale$Odds" 35 "UncutTale$Odds" "readWeight" "J" ∈ GW := gm 401 (by decide +kernel) (by decide +kernel)
theorem pk_2_35 : PK "UncutTale$Odds" 35 2 3 .long := ⟨RX2, TX2, 5, tyX2, rfl, by decide, iw_2, gm_401, tyX2_ok, nmX2, rfl, by decide +kernel⟩
theorem gm_403 : Cond.fieldLink "UncutTale$Odds" 39 "UncutTale$Odds" "whole" "J" ∈ GW := gm 403 (by decide +kernel) (by decide +kernel)
theorem pk_2_39 : PK "UncutTale$Odds" 39 2 4 .long := ⟨RX2, TX2, 5, tyX2, rfl, by decide, iw_2, gm_403, tyX2_ok, nmX2, rfl, by decide +kernel⟩
theorem gm_397 : Cond.fieldLink "UncutTale$Odds" 15 "UncutTale$Odds" "story" "LUncutTale$Story;" ∈ GW := gm 397 (by decide +kernel) (by decide +kernel)
theorem fk_2_15 : FK "UncutTale$Odds" 15 2 0 := ⟨RX2, TX2, 5, rfl, by decide, iw_2, gm_397⟩
theorem gm_1211 : Cond.methodLink "UncutTale$Odds" 42 yX6_everyKnife ∈ GW := gm 1211 (by decide +kernel) (by decide +kernel)
theorem gm_211 : Cond.fieldLink "UncutTale$Odds" 62 "UncutTale$Story" "knives" "I" ∈ GW := gm 211 (by decide +kernel) (by decide +kernel)
theorem fk_2_62 : FK "UncutTale$Odds" 62 6 15 := ⟨RX6, TX6, 18, rfl, by decide, iw_6, gm_211⟩
theorem gm_197 : Cond.fieldLink "UncutTale$Odds" 70 "UncutTale$Story" "odds" "I" ∈ GW := gm 197 (by decide +kernel) (by decide +kernel)
theorem fk_2_70 : FK "UncutTale$Odds" 70 6 12 := ⟨RX6, TX6, 18, rfl, by decide, iw_6, gm_197⟩
theorem pn_X2_weightOf : plainName yX2_weightOf.cls = true := by decide +kernel
theorem hd_X2_weightOf : yX2_weightOf.cls ≠ "java/lang/invoke/MethodHandle" ∧ yX2_weightOf.cls ≠ "java/lang/invoke/VarHandle" ∧ (parseMethodDescriptor yX2_weightOf.desc).map (fun d => d.parameters.length) = some 1 := by decide +kernel
theorem gm_1215 : Cond.code yX2_weightOf cX2_weightOf 5 (some .long) ∈ GW := gm 1215 (by decide +kernel) (by decide +kernel)
theorem gm_1214 : Cond.instanceMethod yX2_weightOf ∈ GW := gm 1214 (by decide +kernel) (by decide +kernel)
theorem gm_39 : Cond.selects "UncutTale$Odds" yX2_weightOf yX2_weightOf ∈ GW := gm 39 (by decide +kernel) (by decide +kernel)
theorem gm_115 : Cond.initialized "UncutTale$Odds" ∈ GW := gm 115 (by decide +kernel) (by decide +kernel)
theorem mk_X2_weightOf : MK yX2_weightOf cX2_weightOf 5 (some .long) := ⟨gm_1215, gm_1214, gm_39, gm_115⟩
theorem gm_1212 : Cond.methodLink "UncutTale$Odds" 48 yX2_weightOf ∈ GW := gm 1212 (by decide +kernel) (by decide +kernel)
theorem gm_1217 : Cond.methodLink "UncutTale$Odds" 52 yX0_unfoldWith ∈ GW := gm 1217 (by decide +kernel) (by decide +kernel)
theorem fk_2_39 : FK "UncutTale$Odds" 39 2 4 := ⟨RX2, TX2, 5, rfl, by decide, iw_2, gm_403⟩
theorem fk_2_35 : FK "UncutTale$Odds" 35 2 3 := ⟨RX2, TX2, 5, rfl, by decide, iw_2, gm_401⟩
theorem gm_1218 : Cond.methodLink "UncutTale$Odds" 55 yX0_readInAll ∈ GW := gm 1218 (by decide +kernel) (by decide +kernel)
theorem gm_188 : Cond.fieldLink "UncutTale$Odds" 73 "UncutTale$Story" "years" "I" ∈ GW := gm 188 (by decide +kernel) (by decide +kernel)
theorem fk_2_73 : FK "UncutTale$Odds" 73 6 10 := ⟨RX6, TX6, 18, rfl, by decide, iw_6, gm_188⟩
theorem gm_1223 : Cond.methodLink "UncutTale$Odds" 76 yX0_openIn ∈ GW := gm 1223 (by decide +kernel) (by decide +kernel)
theorem gm_204 : Cond.fieldLink "UncutTale$Odds" 80 "UncutTale$Story" "parts" "I" ∈ GW := gm 204 (by decide +kernel) (by decide +kernel)
theorem fk_2_80 : FK "UncutTale$Odds" 80 6 13 := ⟨RX6, TX6, 18, rfl, by decide, iw_6, gm_204⟩
theorem pn_X2_addToOpen : plainName yX2_addToOpen.cls = true := by decide +kernel
theorem hd_X2_addToOpen : yX2_addToOpen.cls ≠ "java/lang/invoke/MethodHandle" ∧ yX2_addToOpen.cls ≠ "java/lang/invoke/VarHandle" ∧ (parseMethodDescriptor yX2_addToOpen.desc).map (fun d => d.parameters.length) = some 1 := by decide +kernel
theorem gm_1222 : Cond.code yX2_addToOpen cX2_addToOpen 5 none ∈ GW := gm 1222 (by decide +kernel) (by decide +kernel)
theorem gm_1221 : Cond.instanceMethod yX2_addToOpen ∈ GW := gm 1221 (by decide +kernel) (by decide +kernel)
theorem gm_40 : Cond.selects "UncutTale$Odds" yX2_addToOpen yX2_addToOpen ∈ GW := gm 40 (by decide +kernel) (by decide +kernel)
theorem mk_X2_addToOpen : MK yX2_addToOpen cX2_addToOpen 5 none := ⟨gm_1222, gm_1221, gm_40, gm_115⟩
theorem gm_1219 : Cond.methodLink "UncutTale$Odds" 58 yX2_addToOpen ∈ GW := gm 1219 (by decide +kernel) (by decide +kernel)
theorem pn_X2_weigh : plainName yX2_weigh.cls = true := by decide +kernel
theorem hd_X2_weigh : yX2_weigh.cls ≠ "java/lang/invoke/MethodHandle" ∧ yX2_weigh.cls ≠ "java/lang/invoke/VarHandle" ∧ (parseMethodDescriptor yX2_weigh.desc).map (fun d => d.parameters.length) = some 0 := by decide +kernel
theorem gm_1206 : Cond.code yX2_weigh cX2_weigh 4 none ∈ GW := gm 1206 (by decide +kernel) (by decide +kernel)
theorem gm_1204 : Cond.instanceMethod yX2_weigh ∈ GW := gm 1204 (by decide +kernel) (by decide +kernel)
theorem gm_1205 : Cond.selects "UncutTale$Odds" yX2_weigh yX2_weigh ∈ GW := gm 1205 (by decide +kernel) (by decide +kernel)
theorem mk_X2_weigh : MK yX2_weigh cX2_weigh 4 none := ⟨gm_1206, gm_1204, gm_1205, gm_115⟩
theorem gm_1203 : Cond.methodLink "UncutTale" 444 yX2_weigh ∈ GW := gm 1203 (by decide +kernel) (by decide +kernel)
theorem pn_X8_weighOdds : plainName yX8_weighOdds.cls = true := by decide +kernel
theorem hd_X8_weighOdds : yX8_weighOdds.cls ≠ "java/lang/invoke/MethodHandle" ∧ yX8_weighOdds.cls ≠ "java/lang/invoke/VarHandle" ∧ (parseMethodDescriptor yX8_weighOdds.desc).map (fun d => d.parameters.length) = some 0 := by decide +kernel
theorem gm_1202 : Cond.code yX8_weighOdds cX8_weighOdds 1 none ∈ GW := gm 1202 (by decide +kernel) (by decide +kernel)
theorem gm_1201 : Cond.instanceMethod yX8_weighOdds ∈ GW := gm 1201 (by decide +kernel) (by decide +kernel)
theorem gm_38 : Cond.selects "UncutTale" yX8_weighOdds yX8_weighOdds ∈ GW := gm 38 (by decide +kernel) (by decide +kernel)
theorem mk_X8_weighOdds : MK yX8_weighOdds cX8_weighOdds 1 none := ⟨gm_1202, gm_1201, gm_38, gm_108⟩
theorem gm_1199 : Cond.methodLink "UncutTale" 348 yX8_weighOdds ∈ GW := gm 1199 (by decide +kernel) (by decide +kernel)
theorem gm_400 : Cond.fieldLink "UncutTale" 351 "UncutTale$Odds" "openWeight" "[J" ∈ GW := gm 400 (by decide +kernel) (by decide +kernel)
theorem fk_8_351 : FK "UncutTale" 351 2 2 := ⟨RX2, TX2, 5, rfl, by decide, iw_2, gm_400⟩
theorem gm_404 : Cond.fieldLink "UncutTale" 355 "UncutTale$Odds" "whole" "J" ∈ GW := gm 404 (by decide +kernel) (by decide +kernel)
theorem fk_8_355 : FK "UncutTale" 355 2 4 := ⟨RX2, TX2, 5, rfl, by decide, iw_2, gm_404⟩
theorem pn_X8_chance : plainName yX8_chance.cls = true := by decide +kernel
theorem gm_1228 : Cond.constantLong "UncutTale" 359 (-2) ∈ GW := gm 1228 (by decide +kernel) (by decide +kernel)
theorem gm_402 : Cond.fieldLink "UncutTale" 361 "UncutTale$Odds" "readWeight" "J" ∈ GW := gm 402 (by decide +kernel) (by decide +kernel)
theorem fk_8_361 : FK "UncutTale" 361 2 3 := ⟨RX2, TX2, 5, rfl, by decide, iw_2, gm_402⟩
theorem pn_X8_mean : plainName yX8_mean.cls = true := by decide +kernel
theorem pn_X8_refuseAct : plainName yX8_refuseAct.cls = true := by decide +kernel
theorem hd_X8_refuseAct : yX8_refuseAct.cls ≠ "java/lang/invoke/MethodHandle" ∧ yX8_refuseAct.cls ≠ "java/lang/invoke/VarHandle" ∧ (parseMethodDescriptor yX8_refuseAct.desc).map (fun d => d.parameters.length) = some 2 := by decide +kernel
theorem gm_1257 : Cond.code yX8_refuseAct cX8_refuseAct 3 (some .int) ∈ GW := gm 1257 (by decide +kernel) (by decide +kernel)
theorem gm_1256 : Cond.instanceMethod yX8_refuseAct ∈ GW := gm 1256 (by decide +kernel) (by decide +kernel)
theorem gm_42 : Cond.selects "UncutTale" yX8_refuseAct yX8_refuseAct ∈ GW := gm 42 (by decide +kernel) (by decide +kernel)
theorem mk_X8_refuseAct : MK yX8_refuseAct cX8_refuseAct 3 (some .int) := ⟨gm_1257, gm_1256, gm_42, gm_108⟩
theorem gm_1254 : Cond.methodLink "UncutTale" 371 yX8_refuseAct ∈ GW := gm 1254 (by decide +kernel) (by decide +kernel)
theorem pn_X6_addAct : plainName yX6_addAct.cls = true := by decide +kernel
theorem hd_X6_addAct : yX6_addAct.cls ≠ "java/lang/invoke/MethodHandle" ∧ yX6_addAct.cls ≠ "java/lang/invoke/VarHandle" ∧ (parseMethodDescriptor yX6_addAct.desc).map (fun d => d.parameters.length) = some 3 := by decide +kernel
theorem gm_1261 : Cond.code yX6_addAct cX6_addAct 4 none ∈ GW := gm 1261 (by decide +kernel) (by decide +kernel)
theorem gm_1259 : Cond.instanceMethod yX6_addAct ∈ GW := gm 1259 (by decide +kernel) (by decide +kernel)
theorem gm_1260 : Cond.selects "UncutTale$Story" yX6_addAct yX6_addAct ∈ GW := gm 1260 (by decide +kernel) (by decide +kernel)
theorem mk_X6_addAct : MK yX6_addAct cX6_addAct 4 none := ⟨gm_1261, gm_1259, gm_1260, gm_110⟩
theorem gm_1258 : Cond.methodLink "UncutTale" 374 yX6_addAct ∈ GW := gm 1258 (by decide +kernel) (by decide +kernel)
theorem pn_X8_knife : plainName yX8_knife.cls = true := by decide +kernel
theorem pn_X8_air : plainName yX8_air.cls = true := by decide +kernel
theorem pk_8_179 : PK "UncutTale" 179 6 16 .int := ⟨RX6, TX6, 18, tyX6, rfl, by decide, iw_6, gm_217, tyX6_ok, nmX6, rfl, by decide +kernel⟩
theorem pn_X8_undo : plainName yX8_undo.cls = true := by decide +kernel
theorem pn_X8_anew : plainName yX8_anew.cls = true := by decide +kernel
theorem gm_1236 : Cond.constant "UncutTale" 402 2000000000 ∈ GW := gm 1236 (by decide +kernel) (by decide +kernel)
theorem pn_X8_isSeed : plainName yX8_isSeed.cls = true := by decide +kernel
theorem hd_X8_isSeed : yX8_isSeed.cls ≠ "java/lang/invoke/MethodHandle" ∧ yX8_isSeed.cls ≠ "java/lang/invoke/VarHandle" ∧ (parseMethodDescriptor yX8_isSeed.desc).map (fun d => d.parameters.length) = some 1 := by decide +kernel
theorem gm_1235 : Cond.code yX8_isSeed cX8_isSeed 1 (some .boolean) ∈ GW := gm 1235 (by decide +kernel) (by decide +kernel)
theorem gm_1234 : Cond.static yX8_isSeed ∈ GW := gm 1234 (by decide +kernel) (by decide +kernel)
theorem sk_X8_isSeed : SK yX8_isSeed cX8_isSeed 1 (some .boolean) := ⟨gm_1235, gm_1234, gm_108⟩
theorem gm_1233 : Cond.methodLink "UncutTale" 364 yX8_isSeed ∈ GW := gm 1233 (by decide +kernel) (by decide +kernel)
theorem gm_1241 : Cond.constantLong "UncutTale" 447 1103515245 ∈ GW := gm 1241 (by decide +kernel) (by decide +kernel)
theorem gm_1242 : Cond.constantLong "UncutTale" 449 12345 ∈ GW := gm 1242 (by decide +kernel) (by decide +kernel)
theorem gm_1243 : Cond.constantLong "UncutTale" 451 2147483648 ∈ GW := gm 1243 (by decide +kernel) (by decide +kernel)
theorem gm_1244 : Cond.constantLong "UncutTale" 453 65536 ∈ GW := gm 1244 (by decide +kernel) (by decide +kernel)
theorem gm_1245 : Cond.constantLong "UncutTale" 455 10 ∈ GW := gm 1245 (by decide +kernel) (by decide +kernel)
theorem gm_199 : Cond.fieldLink "UncutTale" 174 "UncutTale$Story" "odds" "I" ∈ GW := gm 199 (by decide +kernel) (by decide +kernel)
theorem fk_8_174 : FK "UncutTale" 174 6 12 := ⟨RX6, TX6, 18, rfl, by decide, iw_6, gm_199⟩
theorem pn_X8_knivesDrawn : plainName yX8_knivesDrawn.cls = true := by decide +kernel
theorem hd_X8_knivesDrawn : yX8_knivesDrawn.cls ≠ "java/lang/invoke/MethodHandle" ∧ yX8_knivesDrawn.cls ≠ "java/lang/invoke/VarHandle" ∧ (parseMethodDescriptor yX8_knivesDrawn.desc).map (fun d => d.parameters.length) = some 1 := by decide +kernel
theorem gm_1240 : Cond.code yX8_knivesDrawn cX8_knivesDrawn 7 (some .int) ∈ GW := gm 1240 (by decide +kernel) (by decide +kernel)
theorem gm_1239 : Cond.instanceMethod yX8_knivesDrawn ∈ GW := gm 1239 (by decide +kernel) (by decide +kernel)
theorem gm_41 : Cond.selects "UncutTale" yX8_knivesDrawn yX8_knivesDrawn ∈ GW := gm 41 (by decide +kernel) (by decide +kernel)
theorem mk_X8_knivesDrawn : MK yX8_knivesDrawn cX8_knivesDrawn 7 (some .int) := ⟨gm_1240, gm_1239, gm_41, gm_108⟩
theorem gm_1237 : Cond.methodLink "UncutTale" 367 yX8_knivesDrawn ∈ GW := gm 1237 (by decide +kernel) (by decide +kernel)
theorem pn_X8_drawn : plainName yX8_drawn.cls = true := by decide +kernel
theorem pn_X8_luck : plainName yX8_luck.cls = true := by decide +kernel
theorem pn_X8_rate : plainName yX8_rate.cls = true := by decide +kernel
theorem gm_195 : Cond.fieldLink "UncutTale" 171 "UncutTale$Story" "law" "I" ∈ GW := gm 195 (by decide +kernel) (by decide +kernel)
theorem fk_8_171 : FK "UncutTale" 171 6 11 := ⟨RX6, TX6, 18, rfl, by decide, iw_6, gm_195⟩
theorem gm_719 : Cond.methodLink "UncutTale$Slots" 22 yX5_isBare ∈ GW := gm 719 (by decide +kernel) (by decide +kernel)
theorem pn_X5_filled : plainName yX5_filled.cls = true := by decide +kernel
theorem hd_X5_filled : yX5_filled.cls ≠ "java/lang/invoke/MethodHandle" ∧ yX5_filled.cls ≠ "java/lang/invoke/VarHandle" ∧ (parseMethodDescriptor yX5_filled.desc).map (fun d => d.parameters.length) = some 0 := by decide +kernel
theorem gm_718 : Cond.code yX5_filled cX5_filled 3 (some .int) ∈ GW := gm 718 (by decide +kernel) (by decide +kernel)
theorem gm_716 : Cond.instanceMethod yX5_filled ∈ GW := gm 716 (by decide +kernel) (by decide +kernel)
theorem gm_717 : Cond.selects "UncutTale$Slots" yX5_filled yX5_filled ∈ GW := gm 717 (by decide +kernel) (by decide +kernel)
theorem mk_X5_filled : MK yX5_filled cX5_filled 3 (some .int) := ⟨gm_718, gm_716, gm_717, gm_112⟩
theorem gm_715 : Cond.methodLink "UncutTale" 182 yX5_filled ∈ GW := gm 715 (by decide +kernel) (by decide +kernel)
theorem pn_X8_count : plainName yX8_count.cls = true := by decide +kernel
theorem gm_447 : Cond.fieldLink "UncutTale" 35 "UncutTale" "images" "[LUncutTale$Story;" ∈ GW := gm 447 (by decide +kernel) (by decide +kernel)
theorem fk_8_35 : FK "UncutTale" 35 8 4 := ⟨RX8, TX8, 15, rfl, by decide, iw_8, gm_447⟩
theorem gm_448 : Cond.fieldLink "UncutTale" 39 "UncutTale" "imaged" "[Z" ∈ GW := gm 448 (by decide +kernel) (by decide +kernel)
theorem fk_8_39 : FK "UncutTale" 39 8 5 := ⟨RX8, TX8, 15, rfl, by decide, iw_8, gm_448⟩
theorem pn_X8_image : plainName yX8_image.cls = true := by decide +kernel
theorem pn_X8_back : plainName yX8_back.cls = true := by decide +kernel
theorem pn_J7_rangeCheck_23922 : plainName yJ7_rangeCheck_23922.cls = true := by decide +kernel
theorem hd_J7_rangeCheck_23922 : yJ7_rangeCheck_23922.cls ≠ "java/lang/invoke/MethodHandle" ∧ yJ7_rangeCheck_23922.cls ≠ "java/lang/invoke/VarHandle" ∧ (parseMethodDescriptor yJ7_rangeCheck_23922.desc).map (fun d => d.parameters.length) = some 3 := by decide +kernel
theorem gm_1299 : Cond.code yJ7_rangeCheck_23922 cJ7_rangeCheck_23922 3 none ∈ GW := gm 1299 (by decide +kernel) (by decide +kernel)
theorem gm_1298 : Cond.static yJ7_rangeCheck_23922 ∈ GW := gm 1298 (by decide +kernel) (by decide +kernel)
theorem sk_J7_rangeCheck_23922 : SK yJ7_rangeCheck_23922 cJ7_rangeCheck_23922 3 none := ⟨gm_1299, gm_1298, gm_124⟩
theorem gm_1297 : Cond.methodLink "java/util/Arrays" 13 yJ7_rangeCheck_23922 ∈ GW := gm 1297 (by decide +kernel) (by decide +kernel)
theorem pn_J7_fill_bad5a : plainName yJ7_fill_bad5a.cls = true := by decide +kernel
theorem hd_J7_fill_bad5a : yJ7_fill_bad5a.cls ≠ "java/lang/invoke/MethodHandle" ∧ yJ7_fill_bad5a.cls ≠ "java/lang/invoke/VarHandle" ∧ (parseMethodDescriptor yJ7_fill_bad5a.desc).map (fun d => d.parameters.length) = some 4 := by decide +kernel
theorem gm_1296 : Cond.code yJ7_fill_bad5a cJ7_fill_bad5a 6 none ∈ GW := gm 1296 (by decide +kernel) (by decide +kernel)
theorem gm_1295 : Cond.static yJ7_fill_bad5a ∈ GW := gm 1295 (by decide +kernel) (by decide +kernel)
theorem sk_J7_fill_bad5a : SK yJ7_fill_bad5a cJ7_fill_bad5a 6 none := ⟨gm_1296, gm_1295, gm_124⟩
theorem gm_1294 : Cond.methodLink "UncutTale$Slots" 26 yJ7_fill_bad5a ∈ GW := gm 1294 (by decide +kernel) (by decide +kernel)
theorem pn_X5_lay : plainName yX5_lay.cls = true := by decide +kernel
theorem hd_X5_lay : yX5_lay.cls ≠ "java/lang/invoke/MethodHandle" ∧ yX5_lay.cls ≠ "java/lang/invoke/VarHandle" ∧ (parseMethodDescriptor yX5_lay.desc).map (fun d => d.parameters.length) = some 3 := by decide +kernel
theorem gm_1293 : Cond.code yX5_lay cX5_lay 5 none ∈ GW := gm 1293 (by decide +kernel) (by decide +kernel)
theorem gm_1291 : Cond.instanceMethod yX5_lay ∈ GW := gm 1291 (by decide +kernel) (by decide +kernel)
theorem gm_1292 : Cond.selects "UncutTale$Slots" yX5_lay yX5_lay ∈ GW := gm 1292 (by decide +kernel) (by decide +kernel)
theorem mk_X5_lay : MK yX5_lay cX5_lay 5 none := ⟨gm_1293, gm_1291, gm_1292, gm_112⟩
theorem gm_1290 : Cond.methodLink "UncutTale" 381 yX5_lay ∈ GW := gm 1290 (by decide +kernel) (by decide +kernel)
theorem pn_X8_row : plainName yX8_row.cls = true := by decide +kernel
theorem pn_X5_covers : plainName yX5_covers.cls = true := by decide +kernel
theorem hd_X5_covers : yX5_covers.cls ≠ "java/lang/invoke/MethodHandle" ∧ yX5_covers.cls ≠ "java/lang/invoke/VarHandle" ∧ (parseMethodDescriptor yX5_covers.desc).map (fun d => d.parameters.length) = some 3 := by decide +kernel
theorem gm_1307 : Cond.code yX5_covers cX5_covers 4 (some .boolean) ∈ GW := gm 1307 (by decide +kernel) (by decide +kernel)
theorem gm_1305 : Cond.instanceMethod yX5_covers ∈ GW := gm 1305 (by decide +kernel) (by decide +kernel)
theorem gm_1306 : Cond.selects "UncutTale$Slots" yX5_covers yX5_covers ∈ GW := gm 1306 (by decide +kernel) (by decide +kernel)
theorem mk_X5_covers : MK yX5_covers cX5_covers 4 (some .boolean) := ⟨gm_1307, gm_1305, gm_1306, gm_112⟩
theorem gm_1304 : Cond.methodLink "UncutTale" 387 yX5_covers ∈ GW := gm 1304 (by decide +kernel) (by decide +kernel)
theorem pn_X5_cutTo : plainName yX5_cutTo.cls = true := by decide +kernel
theorem hd_X5_cutTo : yX5_cutTo.cls ≠ "java/lang/invoke/MethodHandle" ∧ yX5_cutTo.cls ≠ "java/lang/invoke/VarHandle" ∧ (parseMethodDescriptor yX5_cutTo.desc).map (fun d => d.parameters.length) = some 2 := by decide +kernel
theorem gm_1314 : Cond.code yX5_cutTo cX5_cutTo 3 (some .long) ∈ GW := gm 1314 (by decide +kernel) (by decide +kernel)
theorem gm_1313 : Cond.static yX5_cutTo ∈ GW := gm 1313 (by decide +kernel) (by decide +kernel)
theorem sk_X5_cutTo : SK yX5_cutTo cX5_cutTo 3 (some .long) := ⟨gm_1314, gm_1313, gm_112⟩
theorem gm_1312 : Cond.methodLink "UncutTale$Slots" 32 yX5_cutTo ∈ GW := gm 1312 (by decide +kernel) (by decide +kernel)
theorem pn_X5_put : plainName yX5_put.cls = true := by decide +kernel
theorem hd_X5_put : yX5_put.cls ≠ "java/lang/invoke/MethodHandle" ∧ yX5_put.cls ≠ "java/lang/invoke/VarHandle" ∧ (parseMethodDescriptor yX5_put.desc).map (fun d => d.parameters.length) = some 3 := by decide +kernel
theorem gm_1311 : Cond.code yX5_put cX5_put 5 none ∈ GW := gm 1311 (by decide +kernel) (by decide +kernel)
theorem gm_1309 : Cond.instanceMethod yX5_put ∈ GW := gm 1309 (by decide +kernel) (by decide +kernel)
theorem gm_1310 : Cond.selects "UncutTale$Slots" yX5_put yX5_put ∈ GW := gm 1310 (by decide +kernel) (by decide +kernel)
theorem mk_X5_put : MK yX5_put cX5_put 5 none := ⟨gm_1311, gm_1309, gm_1310, gm_112⟩
theorem gm_1308 : Cond.methodLink "UncutTale" 391 yX5_put ∈ GW := gm 1308 (by decide +kernel) (by decide +kernel)
theorem pn_X8_write : plainName yX8_write.cls = true := by decide +kernel
theorem pn_X5_areOfOneWidth : plainName yX5_areOfOneWidth.cls = true := by decide +kernel
theorem hd_X5_areOfOneWidth : yX5_areOfOneWidth.cls ≠ "java/lang/invoke/MethodHandle" ∧ yX5_areOfOneWidth.cls ≠ "java/lang/invoke/VarHandle" ∧ (parseMethodDescriptor yX5_areOfOneWidth.desc).map (fun d => d.parameters.length) = some 2 := by decide +kernel
theorem gm_1322 : Cond.code yX5_areOfOneWidth cX5_areOfOneWidth 3 (some .boolean) ∈ GW := gm 1322 (by decide +kernel) (by decide +kernel)
theorem gm_1320 : Cond.instanceMethod yX5_areOfOneWidth ∈ GW := gm 1320 (by decide +kernel) (by decide +kernel)
theorem gm_1321 : Cond.selects "UncutTale$Slots" yX5_areOfOneWidth yX5_areOfOneWidth ∈ GW := gm 1321 (by decide +kernel) (by decide +kernel)
theorem mk_X5_areOfOneWidth : MK yX5_areOfOneWidth cX5_areOfOneWidth 3 (some .boolean) := ⟨gm_1322, gm_1320, gm_1321, gm_112⟩
theorem gm_1319 : Cond.methodLink "UncutTale" 395 yX5_areOfOneWidth ∈ GW := gm 1319 (by decide +kernel) (by decide +kernel)
theorem gm_1327 : Cond.methodLink "UncutTale$Slots" 36 ⟨"java/lang/System", "arraycopy", "(Ljava/lang/Object;ILjava/lang/Object;II)V"⟩ ∈ GW := gm 1327 (by decide +kernel) (by decide +kernel)
theorem pn_X5_move : plainName yX5_move.cls = true := by decide +kernel
theorem hd_X5_move : yX5_move.cls ≠ "java/lang/invoke/MethodHandle" ∧ yX5_move.cls ≠ "java/lang/invoke/VarHandle" ∧ (parseMethodDescriptor yX5_move.desc).map (fun d => d.parameters.length) = some 5 := by decide +kernel
theorem gm_1326 : Cond.code yX5_move cX5_move 6 none ∈ GW := gm 1326 (by decide +kernel) (by decide +kernel)
theorem gm_1324 : Cond.instanceMethod yX5_move ∈ GW := gm 1324 (by decide +kernel) (by decide +kernel)
theorem gm_1325 : Cond.selects "UncutTale$Slots" yX5_move yX5_move ∈ GW := gm 1325 (by decide +kernel) (by decide +kernel)
theorem mk_X5_move : MK yX5_move cX5_move 6 none := ⟨gm_1326, gm_1324, gm_1325, gm_112⟩
theorem gm_1323 : Cond.methodLink "UncutTale" 398 yX5_move ∈ GW := gm 1323 (by decide +kernel) (by decide +kernel)
theorem pn_X8_paste : plainName yX8_paste.cls = true := by decide +kernel
theorem iw_9 : ∀ w ∈ u_ws RX9 TX9 51, w ∈ GW := by
  have h1 : ∀ w ∈ u_ws RX9 TX9 51, w ∈ lw_tbl ∧ goodWord w = true := by decide +kernel
  exact fun w h => List.mem_filter.mpr (h1 w h)
theorem gm_1334 : Cond.fieldLink "UncutTaleModel" 83 "UncutTaleModel" "thrown" "I" ∈ GW := gm 1334 (by decide +kernel) (by decide +kernel)
theorem pk_9_83 : PK "UncutTaleModel" 83 9 0 .int := ⟨RX9, TX9, 51, tyX9, rfl, by decide, iw_9, gm_1334, tyX9_ok, nmX9, rfl, by decide +kernel⟩
theorem gm_1340 : Cond.fieldLink "UncutTaleModel" 100 "UncutTaleModel" "taped" "I" ∈ GW := gm 1340 (by decide +kernel) (by decide +kernel)
theorem fk_9_100 : FK "UncutTaleModel" 100 9 6 := ⟨RX9, TX9, 51, rfl, by decide, iw_9, gm_1340⟩
theorem gm_1339 : Cond.fieldLink "UncutTaleModel" 23 "UncutTaleModel" "tape" "[B" ∈ GW := gm 1339 (by decide +kernel) (by decide +kernel)
theorem fk_9_23 : FK "UncutTaleModel" 23 9 5 := ⟨RX9, TX9, 51, rfl, by decide, iw_9, gm_1339⟩
theorem pk_9_100 : PK "UncutTaleModel" 100 9 6 .int := ⟨RX9, TX9, 51, tyX9, rfl, by decide, iw_9, gm_1340, tyX9_ok, nmX9, rfl, by decide +kernel⟩
theorem pn_X9_four : plainName yX9_four.cls = true := by decide +kernel
theorem hd_X9_four : yX9_four.cls ≠ "java/lang/invoke/MethodHandle" ∧ yX9_four.cls ≠ "java/lang/invoke/VarHandle" ∧ (parseMethodDescriptor yX9_four.desc).map (fun d => d.parameters.length) = some 1 := by decide +kernel
theorem gm_1517 : Cond.code yX9_four cX9_four 3 none ∈ GW := gm 1517 (by decide +kernel) (by decide +kernel)
theorem gm_1516 : Cond.instanceMethod yX9_four ∈ GW := gm 1516 (by decide +kernel) (by decide +kernel)
theorem gm_43 : Cond.selects "UncutTaleModel" yX9_four yX9_four ∈ GW := gm 43 (by decide +kernel) (by decide +kernel)
theorem gm_117 : Cond.initialized "UncutTaleModel" ∈ GW := gm 117 (by decide +kernel) (by decide +kernel)
theorem mk_X9_four : MK yX9_four cX9_four 3 none := ⟨gm_1517, gm_1516, gm_43, gm_117⟩
theorem gm_1514 : Cond.methodLink "UncutTaleModel" 103 yX9_four ∈ GW := gm 1514 (by decide +kernel) (by decide +kernel)
theorem pn_X9_feed : plainName yX9_feed.cls = true := by decide +kernel
theorem pn_X9_in : plainName yX9_in.cls = true := by decide +kernel
theorem hd_X9_in : yX9_in.cls ≠ "java/lang/invoke/MethodHandle" ∧ yX9_in.cls ≠ "java/lang/invoke/VarHandle" ∧ (parseMethodDescriptor yX9_in.desc).map (fun d => d.parameters.length) = some 3 := by decide +kernel
theorem gm_1498 : Cond.code yX9_in cX9_in 6 (some .boolean) ∈ GW := gm 1498 (by decide +kernel) (by decide +kernel)
theorem gm_1497 : Cond.static yX9_in ∈ GW := gm 1497 (by decide +kernel) (by decide +kernel)
theorem sk_X9_in : SK yX9_in cX9_in 6 (some .boolean) := ⟨gm_1498, gm_1497, gm_117⟩
theorem gm_1496 : Cond.methodLink "UncutTaleModel" 88 yX9_in ∈ GW := gm 1496 (by decide +kernel) (by decide +kernel)
theorem pn_X9_end : plainName yX9_end.cls = true := by decide +kernel
theorem gm_1350 : Cond.fieldLink "UncutTaleModel" 31 "UncutTaleModel" "lines" "[I" ∈ GW := gm 1350 (by decide +kernel) (by decide +kernel)
theorem fk_9_31 : FK "UncutTaleModel" 31 9 16 := ⟨RX9, TX9, 51, rfl, by decide, iw_9, gm_1350⟩
theorem gm_1351 : Cond.fieldLink "UncutTaleModel" 34 "UncutTaleModel" "has" "[I" ∈ GW := gm 1351 (by decide +kernel) (by decide +kernel)
theorem fk_9_34 : FK "UncutTaleModel" 34 9 17 := ⟨RX9, TX9, 51, rfl, by decide, iw_9, gm_1351⟩
theorem pn_X9_tellsOf : plainName yX9_tellsOf.cls = true := by decide +kernel
theorem hd_X9_tellsOf : yX9_tellsOf.cls ≠ "java/lang/invoke/MethodHandle" ∧ yX9_tellsOf.cls ≠ "java/lang/invoke/VarHandle" ∧ (parseMethodDescriptor yX9_tellsOf.desc).map (fun d => d.parameters.length) = some 2 := by decide +kernel
theorem gm_1537 : Cond.code yX9_tellsOf cX9_tellsOf 3 none ∈ GW := gm 1537 (by decide +kernel) (by decide +kernel)
theorem gm_1536 : Cond.instanceMethod yX9_tellsOf ∈ GW := gm 1536 (by decide +kernel) (by decide +kernel)
theorem gm_45 : Cond.selects "UncutTaleModel" yX9_tellsOf yX9_tellsOf ∈ GW := gm 45 (by decide +kernel) (by decide +kernel)
theorem mk_X9_tellsOf : MK yX9_tellsOf cX9_tellsOf 3 none := ⟨gm_1537, gm_1536, gm_45, gm_117⟩
theorem gm_1534 : Cond.methodLink "UncutTaleModel" 178 yX9_tellsOf ∈ GW := gm 1534 (by decide +kernel) (by decide +kernel)
theorem pn_X9_clears : plainName yX9_clears.cls = true := by decide +kernel
theorem hd_X9_clears : yX9_clears.cls ≠ "java/lang/invoke/MethodHandle" ∧ yX9_clears.cls ≠ "java/lang/invoke/VarHandle" ∧ (parseMethodDescriptor yX9_clears.desc).map (fun d => d.parameters.length) = some 0 := by decide +kernel
theorem gm_1533 : Cond.code yX9_clears cX9_clears 2 none ∈ GW := gm 1533 (by decide +kernel) (by decide +kernel)
theorem gm_1532 : Cond.instanceMethod yX9_clears ∈ GW := gm 1532 (by decide +kernel) (by decide +kernel)
theorem gm_44 : Cond.selects "UncutTaleModel" yX9_clears yX9_clears ∈ GW := gm 44 (by decide +kernel) (by decide +kernel)
theorem mk_X9_clears : MK yX9_clears cX9_clears 2 none := ⟨gm_1533, gm_1532, gm_44, gm_117⟩
theorem gm_1530 : Cond.methodLink "UncutTaleModel" 211 yX9_clears ∈ GW := gm 1530 (by decide +kernel) (by decide +kernel)
theorem gm_1346 : Cond.fieldLink "UncutTaleModel" 135 "UncutTaleModel" "bad" "I" ∈ GW := gm 1346 (by decide +kernel) (by decide +kernel)
theorem pk_9_135 : PK "UncutTaleModel" 135 9 12 .int := ⟨RX9, TX9, 51, tyX9, rfl, by decide, iw_9, gm_1346, tyX9_ok, nmX9, rfl, by decide +kernel⟩
theorem gm_1347 : Cond.fieldLink "UncutTaleModel" 138 "UncutTaleModel" "badPlace" "I" ∈ GW := gm 1347 (by decide +kernel) (by decide +kernel)
theorem pk_9_138 : PK "UncutTaleModel" 138 9 13 .int := ⟨RX9, TX9, 51, tyX9, rfl, by decide, iw_9, gm_1347, tyX9_ok, nmX9, rfl, by decide +kernel⟩
theorem gm_1341 : Cond.fieldLink "UncutTaleModel" 107 "UncutTaleModel" "spot" "I" ∈ GW := gm 1341 (by decide +kernel) (by decide +kernel)
theorem pk_9_107 : PK "UncutTaleModel" 107 9 7 .int := ⟨RX9, TX9, 51, tyX9, rfl, by decide, iw_9, gm_1341, tyX9_ok, nmX9, rfl, by decide +kernel⟩
theorem fk_9_107 : FK "UncutTaleModel" 107 9 7 := ⟨RX9, TX9, 51, rfl, by decide, iw_9, gm_1341⟩
theorem pn_X9_isByte : plainName yX9_isByte.cls = true := by decide +kernel
theorem hd_X9_isByte : yX9_isByte.cls ≠ "java/lang/invoke/MethodHandle" ∧ yX9_isByte.cls ≠ "java/lang/invoke/VarHandle" ∧ (parseMethodDescriptor yX9_isByte.desc).map (fun d => d.parameters.length) = some 3 := by decide +kernel
theorem gm_1549 : Cond.code yX9_isByte cX9_isByte 4 (some .boolean) ∈ GW := gm 1549 (by decide +kernel) (by decide +kernel)
theorem gm_1548 : Cond.instanceMethod yX9_isByte ∈ GW := gm 1548 (by decide +kernel) (by decide +kernel)
theorem gm_48 : Cond.selects "UncutTaleModel" yX9_isByte yX9_isByte ∈ GW := gm 48 (by decide +kernel) (by decide +kernel)
theorem mk_X9_isByte : MK yX9_isByte cX9_isByte 4 (some .boolean) := ⟨gm_1549, gm_1548, gm_48, gm_117⟩
theorem gm_1546 : Cond.methodLink "UncutTaleModel" 110 yX9_isByte ∈ GW := gm 1546 (by decide +kernel) (by decide +kernel)
theorem gm_1343 : Cond.fieldLink "UncutTaleModel" 114 "UncutTaleModel" "place" "I" ∈ GW := gm 1343 (by decide +kernel) (by decide +kernel)
theorem pk_9_114 : PK "UncutTaleModel" 114 9 9 .int := ⟨RX9, TX9, 51, tyX9, rfl, by decide, iw_9, gm_1343, tyX9_ok, nmX9, rfl, by decide +kernel⟩
theorem gm_1344 : Cond.fieldLink "UncutTaleModel" 117 "UncutTaleModel" "value" "I" ∈ GW := gm 1344 (by decide +kernel) (by decide +kernel)
theorem pk_9_117 : PK "UncutTaleModel" 117 9 10 .int := ⟨RX9, TX9, 51, tyX9, rfl, by decide, iw_9, gm_1344, tyX9_ok, nmX9, rfl, by decide +kernel⟩
theorem gm_1345 : Cond.fieldLink "UncutTaleModel" 120 "UncutTaleModel" "word" "J" ∈ GW := gm 1345 (by decide +kernel) (by decide +kernel)
theorem pk_9_120 : PK "UncutTaleModel" 120 9 11 .long := ⟨RX9, TX9, 51, tyX9, rfl, by decide, iw_9, gm_1345, tyX9_ok, nmX9, rfl, by decide +kernel⟩
theorem gm_1342 : Cond.fieldLink "UncutTaleModel" 124 "UncutTaleModel" "token" "I" ∈ GW := gm 1342 (by decide +kernel) (by decide +kernel)
theorem pk_9_124 : PK "UncutTaleModel" 124 9 8 .int := ⟨RX9, TX9, 51, tyX9, rfl, by decide, iw_9, gm_1342, tyX9_ok, nmX9, rfl, by decide +kernel⟩
theorem gm_1551 : Cond.constantLong "UncutTaleModel" 129 27 ∈ GW := gm 1551 (by decide +kernel) (by decide +kernel)
theorem fk_9_120 : FK "UncutTaleModel" 120 9 11 := ⟨RX9, TX9, 51, rfl, by decide, iw_9, gm_1345⟩
theorem gm_1552 : Cond.constantLong "UncutTaleModel" 131 96 ∈ GW := gm 1552 (by decide +kernel) (by decide +kernel)
theorem gm_1550 : Cond.constantLong "UncutTaleModel" 127 (-1) ∈ GW := gm 1550 (by decide +kernel) (by decide +kernel)
theorem fk_9_117 : FK "UncutTaleModel" 117 9 10 := ⟨RX9, TX9, 51, rfl, by decide, iw_9, gm_1344⟩
theorem gm_1553 : Cond.constant "UncutTaleModel" 133 100000 ∈ GW := gm 1553 (by decide +kernel) (by decide +kernel)
theorem gm_1554 : Cond.constant "UncutTaleModel" 134 1000000 ∈ GW := gm 1554 (by decide +kernel) (by decide +kernel)
theorem pn_X9_follows : plainName yX9_follows.cls = true := by decide +kernel
theorem hd_X9_follows : yX9_follows.cls ≠ "java/lang/invoke/MethodHandle" ∧ yX9_follows.cls ≠ "java/lang/invoke/VarHandle" ∧ (parseMethodDescriptor yX9_follows.desc).map (fun d => d.parameters.length) = some 0 := by decide +kernel
theorem gm_1545 : Cond.code yX9_follows cX9_follows 2 none ∈ GW := gm 1545 (by decide +kernel) (by decide +kernel)
theorem gm_1544 : Cond.instanceMethod yX9_follows ∈ GW := gm 1544 (by decide +kernel) (by decide +kernel)
theorem gm_47 : Cond.selects "UncutTaleModel" yX9_follows yX9_follows ∈ GW := gm 47 (by decide +kernel) (by decide +kernel)
theorem mk_X9_follows : MK yX9_follows cX9_follows 2 none := ⟨gm_1545, gm_1544, gm_47, gm_117⟩
theorem gm_1542 : Cond.methodLink "UncutTaleModel" 145 yX9_follows ∈ GW := gm 1542 (by decide +kernel) (by decide +kernel)
theorem pn_X9_begins : plainName yX9_begins.cls = true := by decide +kernel
theorem hd_X9_begins : yX9_begins.cls ≠ "java/lang/invoke/MethodHandle" ∧ yX9_begins.cls ≠ "java/lang/invoke/VarHandle" ∧ (parseMethodDescriptor yX9_begins.desc).map (fun d => d.parameters.length) = some 0 := by decide +kernel
theorem gm_1541 : Cond.code yX9_begins cX9_begins 1 none ∈ GW := gm 1541 (by decide +kernel) (by decide +kernel)
theorem gm_1540 : Cond.instanceMethod yX9_begins ∈ GW := gm 1540 (by decide +kernel) (by decide +kernel)
theorem gm_46 : Cond.selects "UncutTaleModel" yX9_begins yX9_begins ∈ GW := gm 46 (by decide +kernel) (by decide +kernel)
theorem mk_X9_begins : MK yX9_begins cX9_begins 1 none := ⟨gm_1541, gm_1540, gm_46, gm_117⟩
theorem gm_1538 : Cond.methodLink "UncutTaleModel" 214 yX9_begins ∈ GW := gm 1538 (by decide +kernel) (by decide +kernel)
theorem fk_9_135 : FK "UncutTaleModel" 135 9 12 := ⟨RX9, TX9, 51, rfl, by decide, iw_9, gm_1346⟩
theorem pn_X9_isGood : plainName yX9_isGood.cls = true := by decide +kernel
theorem hd_X9_isGood : yX9_isGood.cls ≠ "java/lang/invoke/MethodHandle" ∧ yX9_isGood.cls ≠ "java/lang/invoke/VarHandle" ∧ (parseMethodDescriptor yX9_isGood.desc).map (fun d => d.parameters.length) = some 0 := by decide +kernel
theorem gm_1558 : Cond.code yX9_isGood cX9_isGood 1 (some .boolean) ∈ GW := gm 1558 (by decide +kernel) (by decide +kernel)
theorem gm_1557 : Cond.instanceMethod yX9_isGood ∈ GW := gm 1557 (by decide +kernel) (by decide +kernel)
theorem gm_49 : Cond.selects "UncutTaleModel" yX9_isGood yX9_isGood ∈ GW := gm 49 (by decide +kernel) (by decide +kernel)
theorem mk_X9_isGood : MK yX9_isGood cX9_isGood 1 (some .boolean) := ⟨gm_1558, gm_1557, gm_49, gm_117⟩
theorem gm_1555 : Cond.methodLink "UncutTaleModel" 217 yX9_isGood ∈ GW := gm 1555 (by decide +kernel) (by decide +kernel)
theorem fk_9_124 : FK "UncutTaleModel" 124 9 8 := ⟨RX9, TX9, 51, rfl, by decide, iw_9, gm_1342⟩
theorem gm_1348 : Cond.fieldLink "UncutTaleModel" 162 "UncutTaleModel" "fault" "I" ∈ GW := gm 1348 (by decide +kernel) (by decide +kernel)
theorem pk_9_162 : PK "UncutTaleModel" 162 9 14 .int := ⟨RX9, TX9, 51, tyX9, rfl, by decide, iw_9, gm_1348, tyX9_ok, nmX9, rfl, by decide +kernel⟩
theorem fk_9_138 : FK "UncutTaleModel" 138 9 13 := ⟨RX9, TX9, 51, rfl, by decide, iw_9, gm_1347⟩
theorem gm_1349 : Cond.fieldLink "UncutTaleModel" 27 "UncutTaleModel" "faultPlace" "I" ∈ GW := gm 1349 (by decide +kernel) (by decide +kernel)
theorem pk_9_27 : PK "UncutTaleModel" 27 9 15 .int := ⟨RX9, TX9, 51, tyX9, rfl, by decide, iw_9, gm_1349, tyX9_ok, nmX9, rfl, by decide +kernel⟩
theorem pn_X9_isOver : plainName yX9_isOver.cls = true := by decide +kernel
theorem hd_X9_isOver : yX9_isOver.cls ≠ "java/lang/invoke/MethodHandle" ∧ yX9_isOver.cls ≠ "java/lang/invoke/VarHandle" ∧ (parseMethodDescriptor yX9_isOver.desc).map (fun d => d.parameters.length) = some 0 := by decide +kernel
theorem gm_1633 : Cond.code yX9_isOver cX9_isOver 1 none ∈ GW := gm 1633 (by decide +kernel) (by decide +kernel)
theorem gm_1632 : Cond.instanceMethod yX9_isOver ∈ GW := gm 1632 (by decide +kernel) (by decide +kernel)
theorem gm_65 : Cond.selects "UncutTaleModel" yX9_isOver yX9_isOver ∈ GW := gm 65 (by decide +kernel) (by decide +kernel)
theorem mk_X9_isOver : MK yX9_isOver cX9_isOver 1 none := ⟨gm_1633, gm_1632, gm_65, gm_117⟩
theorem gm_1630 : Cond.methodLink "UncutTaleModel" 235 yX9_isOver ∈ GW := gm 1630 (by decide +kernel) (by decide +kernel)
theorem pn_X9_copyRow : plainName yX9_copyRow.cls = true := by decide +kernel
theorem hd_X9_copyRow : yX9_copyRow.cls ≠ "java/lang/invoke/MethodHandle" ∧ yX9_copyRow.cls ≠ "java/lang/invoke/VarHandle" ∧ (parseMethodDescriptor yX9_copyRow.desc).map (fun d => d.parameters.length) = some 4 := by decide +kernel
theorem gm_1640 : Cond.code yX9_copyRow cX9_copyRow 5 none ∈ GW := gm 1640 (by decide +kernel) (by decide +kernel)
theorem gm_1639 : Cond.static yX9_copyRow ∈ GW := gm 1639 (by decide +kernel) (by decide +kernel)
theorem sk_X9_copyRow : SK yX9_copyRow cX9_copyRow 5 none := ⟨gm_1640, gm_1639, gm_117⟩
theorem gm_1638 : Cond.methodLink "UncutTaleModel" 241 yX9_copyRow ∈ GW := gm 1638 (by decide +kernel) (by decide +kernel)
theorem gm_1352 : Cond.fieldLink "UncutTaleModel" 37 "UncutTaleModel" "told" "[I" ∈ GW := gm 1352 (by decide +kernel) (by decide +kernel)
theorem fk_9_37 : FK "UncutTaleModel" 37 9 18 := ⟨RX9, TX9, 51, rfl, by decide, iw_9, gm_1352⟩
theorem gm_1353 : Cond.fieldLink "UncutTaleModel" 40 "UncutTaleModel" "fold" "[I" ∈ GW := gm 1353 (by decide +kernel) (by decide +kernel)
theorem fk_9_40 : FK "UncutTaleModel" 40 9 19 := ⟨RX9, TX9, 51, rfl, by decide, iw_9, gm_1353⟩
theorem gm_1354 : Cond.fieldLink "UncutTaleModel" 43 "UncutTaleModel" "blade" "[I" ∈ GW := gm 1354 (by decide +kernel) (by decide +kernel)
theorem fk_9_43 : FK "UncutTaleModel" 43 9 20 := ⟨RX9, TX9, 51, rfl, by decide, iw_9, gm_1354⟩
theorem gm_1355 : Cond.fieldLink "UncutTaleModel" 46 "UncutTaleModel" "act" "[I" ∈ GW := gm 1355 (by decide +kernel) (by decide +kernel)
theorem fk_9_46 : FK "UncutTaleModel" 46 9 21 := ⟨RX9, TX9, 51, rfl, by decide, iw_9, gm_1355⟩
theorem pn_X9_copyTale : plainName yX9_copyTale.cls = true := by decide +kernel
theorem hd_X9_copyTale : yX9_copyTale.cls ≠ "java/lang/invoke/MethodHandle" ∧ yX9_copyTale.cls ≠ "java/lang/invoke/VarHandle" ∧ (parseMethodDescriptor yX9_copyTale.desc).map (fun d => d.parameters.length) = some 2 := by decide +kernel
theorem gm_1637 : Cond.code yX9_copyTale cX9_copyTale 3 none ∈ GW := gm 1637 (by decide +kernel) (by decide +kernel)
theorem gm_1636 : Cond.instanceMethod yX9_copyTale ∈ GW := gm 1636 (by decide +kernel) (by decide +kernel)
theorem gm_66 : Cond.selects "UncutTaleModel" yX9_copyTale yX9_copyTale ∈ GW := gm 66 (by decide +kernel) (by decide +kernel)
theorem mk_X9_copyTale : MK yX9_copyTale cX9_copyTale 3 none := ⟨gm_1637, gm_1636, gm_66, gm_117⟩
theorem gm_1634 : Cond.methodLink "UncutTaleModel" 238 yX9_copyTale ∈ GW := gm 1634 (by decide +kernel) (by decide +kernel)
theorem gm_1591 : Cond.constantLong "UncutTaleModel" 192 316163 ∈ GW := gm 1591 (by decide +kernel) (by decide +kernel)
theorem pn_X9_is : plainName yX9_is.cls = true := by decide +kernel
theorem hd_X9_is : yX9_is.cls ≠ "java/lang/invoke/MethodHandle" ∧ yX9_is.cls ≠ "java/lang/invoke/VarHandle" ∧ (parseMethodDescriptor yX9_is.desc).map (fun d => d.parameters.length) = some 1 := by decide +kernel
theorem gm_1571 : Cond.code yX9_is cX9_is 3 (some .boolean) ∈ GW := gm 1571 (by decide +kernel) (by decide +kernel)
theorem gm_1570 : Cond.instanceMethod yX9_is ∈ GW := gm 1570 (by decide +kernel) (by decide +kernel)
theorem gm_52 : Cond.selects "UncutTaleModel" yX9_is yX9_is ∈ GW := gm 52 (by decide +kernel) (by decide +kernel)
theorem mk_X9_is : MK yX9_is cX9_is 3 (some .boolean) := ⟨gm_1571, gm_1570, gm_52, gm_117⟩
theorem gm_1568 : Cond.methodLink "UncutTaleModel" 141 yX9_is ∈ GW := gm 1568 (by decide +kernel) (by decide +kernel)
theorem pn_X9_hasRead : plainName yX9_hasRead.cls = true := by decide +kernel
theorem hd_X9_hasRead : yX9_hasRead.cls ≠ "java/lang/invoke/MethodHandle" ∧ yX9_hasRead.cls ≠ "java/lang/invoke/VarHandle" ∧ (parseMethodDescriptor yX9_hasRead.desc).map (fun d => d.parameters.length) = some 1 := by decide +kernel
theorem gm_1599 : Cond.code yX9_hasRead cX9_hasRead 2 (some .int) ∈ GW := gm 1599 (by decide +kernel) (by decide +kernel)
theorem gm_1598 : Cond.instanceMethod yX9_hasRead ∈ GW := gm 1598 (by decide +kernel) (by decide +kernel)
theorem gm_58 : Cond.selects "UncutTaleModel" yX9_hasRead yX9_hasRead ∈ GW := gm 58 (by decide +kernel) (by decide +kernel)
theorem mk_X9_hasRead : MK yX9_hasRead cX9_hasRead 2 (some .int) := ⟨gm_1599, gm_1598, gm_58, gm_117⟩
theorem gm_1596 : Cond.methodLink "UncutTaleModel" 165 yX9_hasRead ∈ GW := gm 1596 (by decide +kernel) (by decide +kernel)
theorem fk_9_114 : FK "UncutTaleModel" 114 9 9 := ⟨RX9, TX9, 51, rfl, by decide, iw_9, gm_1343⟩
theorem pn_X9_fails : plainName yX9_fails.cls = true := by decide +kernel
theorem hd_X9_fails : yX9_fails.cls ≠ "java/lang/invoke/MethodHandle" ∧ yX9_fails.cls ≠ "java/lang/invoke/VarHandle" ∧ (parseMethodDescriptor yX9_fails.desc).map (fun d => d.parameters.length) = some 1 := by decide +kernel
theorem gm_1575 : Cond.code yX9_fails cX9_fails 2 none ∈ GW := gm 1575 (by decide +kernel) (by decide +kernel)
theorem gm_1574 : Cond.instanceMethod yX9_fails ∈ GW := gm 1574 (by decide +kernel) (by decide +kernel)
theorem gm_53 : Cond.selects "UncutTaleModel" yX9_fails yX9_fails ∈ GW := gm 53 (by decide +kernel) (by decide +kernel)
theorem mk_X9_fails : MK yX9_fails cX9_fails 2 none := ⟨gm_1575, gm_1574, gm_53, gm_117⟩
theorem gm_1572 : Cond.methodLink "UncutTaleModel" 151 yX9_fails ∈ GW := gm 1572 (by decide +kernel) (by decide +kernel)
theorem pn_X9_isRoom : plainName yX9_isRoom.cls = true := by decide +kernel
theorem hd_X9_isRoom : yX9_isRoom.cls ≠ "java/lang/invoke/MethodHandle" ∧ yX9_isRoom.cls ≠ "java/lang/invoke/VarHandle" ∧ (parseMethodDescriptor yX9_isRoom.desc).map (fun d => d.parameters.length) = some 3 := by decide +kernel
theorem gm_1595 : Cond.code yX9_isRoom cX9_isRoom 4 (some .boolean) ∈ GW := gm 1595 (by decide +kernel) (by decide +kernel)
theorem gm_1594 : Cond.instanceMethod yX9_isRoom ∈ GW := gm 1594 (by decide +kernel) (by decide +kernel)
theorem gm_57 : Cond.selects "UncutTaleModel" yX9_isRoom yX9_isRoom ∈ GW := gm 57 (by decide +kernel) (by decide +kernel)
theorem mk_X9_isRoom : MK yX9_isRoom cX9_isRoom 4 (some .boolean) := ⟨gm_1595, gm_1594, gm_57, gm_117⟩
theorem gm_1592 : Cond.methodLink "UncutTaleModel" 194 yX9_isRoom ∈ GW := gm 1592 (by decide +kernel) (by decide +kernel)
theorem gm_1604 : Cond.constantLong "UncutTaleModel" 169 1753015 ∈ GW := gm 1604 (by decide +kernel) (by decide +kernel)
theorem pn_X9_takesWord : plainName yX9_takesWord.cls = true := by decide +kernel
theorem hd_X9_takesWord : yX9_takesWord.cls ≠ "java/lang/invoke/MethodHandle" ∧ yX9_takesWord.cls ≠ "java/lang/invoke/VarHandle" ∧ (parseMethodDescriptor yX9_takesWord.desc).map (fun d => d.parameters.length) = some 1 := by decide +kernel
theorem gm_1567 : Cond.code yX9_takesWord cX9_takesWord 3 (some .boolean) ∈ GW := gm 1567 (by decide +kernel) (by decide +kernel)
theorem gm_1566 : Cond.instanceMethod yX9_takesWord ∈ GW := gm 1566 (by decide +kernel) (by decide +kernel)
theorem gm_51 : Cond.selects "UncutTaleModel" yX9_takesWord yX9_takesWord ∈ GW := gm 51 (by decide +kernel) (by decide +kernel)
theorem mk_X9_takesWord : MK yX9_takesWord cX9_takesWord 3 (some .boolean) := ⟨gm_1567, gm_1566, gm_51, gm_117⟩
theorem gm_1564 : Cond.methodLink "UncutTaleModel" 148 yX9_takesWord ∈ GW := gm 1564 (by decide +kernel) (by decide +kernel)
theorem pn_X9_asks : plainName yX9_asks.cls = true := by decide +kernel
theorem hd_X9_asks : yX9_asks.cls ≠ "java/lang/invoke/MethodHandle" ∧ yX9_asks.cls ≠ "java/lang/invoke/VarHandle" ∧ (parseMethodDescriptor yX9_asks.desc).map (fun d => d.parameters.length) = some 1 := by decide +kernel
theorem gm_1563 : Cond.code yX9_asks cX9_asks 3 none ∈ GW := gm 1563 (by decide +kernel) (by decide +kernel)
theorem gm_1562 : Cond.instanceMethod yX9_asks ∈ GW := gm 1562 (by decide +kernel) (by decide +kernel)
theorem gm_50 : Cond.selects "UncutTaleModel" yX9_asks yX9_asks ∈ GW := gm 50 (by decide +kernel) (by decide +kernel)
theorem mk_X9_asks : MK yX9_asks cX9_asks 3 none := ⟨gm_1563, gm_1562, gm_50, gm_117⟩
theorem gm_1560 : Cond.methodLink "UncutTaleModel" 154 yX9_asks ∈ GW := gm 1560 (by decide +kernel) (by decide +kernel)
theorem pn_X9_number : plainName yX9_number.cls = true := by decide +kernel
theorem hd_X9_number : yX9_number.cls ≠ "java/lang/invoke/MethodHandle" ∧ yX9_number.cls ≠ "java/lang/invoke/VarHandle" ∧ (parseMethodDescriptor yX9_number.desc).map (fun d => d.parameters.length) = some 2 := by decide +kernel
theorem gm_1584 : Cond.code yX9_number cX9_number 4 (some .int) ∈ GW := gm 1584 (by decide +kernel) (by decide +kernel)
theorem gm_1583 : Cond.instanceMethod yX9_number ∈ GW := gm 1583 (by decide +kernel) (by decide +kernel)
theorem gm_55 : Cond.selects "UncutTaleModel" yX9_number yX9_number ∈ GW := gm 55 (by decide +kernel) (by decide +kernel)
theorem mk_X9_number : MK yX9_number cX9_number 4 (some .int) := ⟨gm_1584, gm_1583, gm_55, gm_117⟩
theorem gm_1581 : Cond.methodLink "UncutTaleModel" 158 yX9_number ∈ GW := gm 1581 (by decide +kernel) (by decide +kernel)
theorem pn_X9_number_ : plainName yX9_number_.cls = true := by decide +kernel
theorem hd_X9_number_ : yX9_number_.cls ≠ "java/lang/invoke/MethodHandle" ∧ yX9_number_.cls ≠ "java/lang/invoke/VarHandle" ∧ (parseMethodDescriptor yX9_number_.desc).map (fun d => d.parameters.length) = some 3 := by decide +kernel
theorem gm_1580 : Cond.code yX9_number_ cX9_number_ 5 (some .int) ∈ GW := gm 1580 (by decide +kernel) (by decide +kernel)
theorem gm_1579 : Cond.instanceMethod yX9_number_ ∈ GW := gm 1579 (by decide +kernel) (by decide +kernel)
theorem gm_54 : Cond.selects "UncutTaleModel" yX9_number_ yX9_number_ ∈ GW := gm 54 (by decide +kernel) (by decide +kernel)
theorem mk_X9_number_ : MK yX9_number_ cX9_number_ 5 (some .int) := ⟨gm_1580, gm_1579, gm_54, gm_117⟩
theorem gm_1577 : Cond.methodLink "UncutTaleModel" 171 yX9_number_ ∈ GW := gm 1577 (by decide +kernel) (by decide +kernel)
theorem gm_1605 : Cond.constantLong "UncutTaleModel" 174 10819243 ∈ GW := gm 1605 (by decide +kernel) (by decide +kernel)
theorem gm_1606 : Cond.constantLong "UncutTaleModel" 176 10497768 ∈ GW := gm 1606 (by decide +kernel) (by decide +kernel)
theorem pn_X9_partLine : plainName yX9_partLine.cls = true := by decide +kernel
theorem hd_X9_partLine : yX9_partLine.cls ≠ "java/lang/invoke/MethodHandle" ∧ yX9_partLine.cls ≠ "java/lang/invoke/VarHandle" ∧ (parseMethodDescriptor yX9_partLine.desc).map (fun d => d.parameters.length) = some 0 := by decide +kernel
theorem gm_1603 : Cond.code yX9_partLine cX9_partLine 2 none ∈ GW := gm 1603 (by decide +kernel) (by decide +kernel)
theorem gm_1602 : Cond.instanceMethod yX9_partLine ∈ GW := gm 1602 (by decide +kernel) (by decide +kernel)
theorem gm_59 : Cond.selects "UncutTaleModel" yX9_partLine yX9_partLine ∈ GW := gm 59 (by decide +kernel) (by decide +kernel)
theorem mk_X9_partLine : MK yX9_partLine cX9_partLine 2 none := ⟨gm_1603, gm_1602, gm_59, gm_117⟩
theorem gm_1600 : Cond.methodLink "UncutTaleModel" 198 yX9_partLine ∈ GW := gm 1600 (by decide +kernel) (by decide +kernel)
theorem gm_1607 : Cond.constantLong "UncutTaleModel" 201 129361 ∈ GW := gm 1607 (by decide +kernel) (by decide +kernel)
theorem pn_X9_partHere : plainName yX9_partHere.cls = true := by decide +kernel
theorem hd_X9_partHere : yX9_partHere.cls ≠ "java/lang/invoke/MethodHandle" ∧ yX9_partHere.cls ≠ "java/lang/invoke/VarHandle" ∧ (parseMethodDescriptor yX9_partHere.desc).map (fun d => d.parameters.length) = some 0 := by decide +kernel
theorem gm_1615 : Cond.code yX9_partHere cX9_partHere 1 (some .int) ∈ GW := gm 1615 (by decide +kernel) (by decide +kernel)
theorem gm_1614 : Cond.instanceMethod yX9_partHere ∈ GW := gm 1614 (by decide +kernel) (by decide +kernel)
theorem gm_61 : Cond.selects "UncutTaleModel" yX9_partHere yX9_partHere ∈ GW := gm 61 (by decide +kernel) (by decide +kernel)
theorem mk_X9_partHere : MK yX9_partHere cX9_partHere 1 (some .int) := ⟨gm_1615, gm_1614, gm_61, gm_117⟩
theorem gm_1612 : Cond.methodLink "UncutTaleModel" 182 yX9_partHere ∈ GW := gm 1612 (by decide +kernel) (by decide +kernel)
theorem pn_X9_areJoined : plainName yX9_areJoined.cls = true := by decide +kernel
theorem hd_X9_areJoined : yX9_areJoined.cls ≠ "java/lang/invoke/MethodHandle" ∧ yX9_areJoined.cls ≠ "java/lang/invoke/VarHandle" ∧ (parseMethodDescriptor yX9_areJoined.desc).map (fun d => d.parameters.length) = some 2 := by decide +kernel
theorem gm_1619 : Cond.code yX9_areJoined cX9_areJoined 6 (some .boolean) ∈ GW := gm 1619 (by decide +kernel) (by decide +kernel)
theorem gm_1618 : Cond.instanceMethod yX9_areJoined ∈ GW := gm 1618 (by decide +kernel) (by decide +kernel)
theorem gm_62 : Cond.selects "UncutTaleModel" yX9_areJoined yX9_areJoined ∈ GW := gm 62 (by decide +kernel) (by decide +kernel)
theorem mk_X9_areJoined : MK yX9_areJoined cX9_areJoined 6 (some .boolean) := ⟨gm_1619, gm_1618, gm_62, gm_117⟩
theorem gm_1616 : Cond.methodLink "UncutTaleModel" 186 yX9_areJoined ∈ GW := gm 1616 (by decide +kernel) (by decide +kernel)
theorem pn_X9_foldLine : plainName yX9_foldLine.cls = true := by decide +kernel
theorem hd_X9_foldLine : yX9_foldLine.cls ≠ "java/lang/invoke/MethodHandle" ∧ yX9_foldLine.cls ≠ "java/lang/invoke/VarHandle" ∧ (parseMethodDescriptor yX9_foldLine.desc).map (fun d => d.parameters.length) = some 0 := by decide +kernel
theorem gm_1611 : Cond.code yX9_foldLine cX9_foldLine 2 none ∈ GW := gm 1611 (by decide +kernel) (by decide +kernel)
theorem gm_1610 : Cond.instanceMethod yX9_foldLine ∈ GW := gm 1610 (by decide +kernel) (by decide +kernel)
theorem gm_60 : Cond.selects "UncutTaleModel" yX9_foldLine yX9_foldLine ∈ GW := gm 60 (by decide +kernel) (by decide +kernel)
theorem mk_X9_foldLine : MK yX9_foldLine cX9_foldLine 2 none := ⟨gm_1611, gm_1610, gm_60, gm_117⟩
theorem gm_1608 : Cond.methodLink "UncutTaleModel" 203 yX9_foldLine ∈ GW := gm 1608 (by decide +kernel) (by decide +kernel)
theorem gm_1620 : Cond.constantLong "UncutTaleModel" 206 6128141 ∈ GW := gm 1620 (by decide +kernel) (by decide +kernel)
theorem gm_1625 : Cond.constantLong "UncutTaleModel" 190 47 ∈ GW := gm 1625 (by decide +kernel) (by decide +kernel)
theorem pn_X9_knifeLine : plainName yX9_knifeLine.cls = true := by decide +kernel
theorem hd_X9_knifeLine : yX9_knifeLine.cls ≠ "java/lang/invoke/MethodHandle" ∧ yX9_knifeLine.cls ≠ "java/lang/invoke/VarHandle" ∧ (parseMethodDescriptor yX9_knifeLine.desc).map (fun d => d.parameters.length) = some 0 := by decide +kernel
theorem gm_1624 : Cond.code yX9_knifeLine cX9_knifeLine 2 none ∈ GW := gm 1624 (by decide +kernel) (by decide +kernel)
theorem gm_1623 : Cond.instanceMethod yX9_knifeLine ∈ GW := gm 1623 (by decide +kernel) (by decide +kernel)
theorem gm_63 : Cond.selects "UncutTaleModel" yX9_knifeLine yX9_knifeLine ∈ GW := gm 63 (by decide +kernel) (by decide +kernel)
theorem mk_X9_knifeLine : MK yX9_knifeLine cX9_knifeLine 2 none := ⟨gm_1624, gm_1623, gm_63, gm_117⟩
theorem gm_1621 : Cond.methodLink "UncutTaleModel" 208 yX9_knifeLine ∈ GW := gm 1621 (by decide +kernel) (by decide +kernel)
theorem pn_X9_lineHere : plainName yX9_lineHere.cls = true := by decide +kernel
theorem hd_X9_lineHere : yX9_lineHere.cls ≠ "java/lang/invoke/MethodHandle" ∧ yX9_lineHere.cls ≠ "java/lang/invoke/VarHandle" ∧ (parseMethodDescriptor yX9_lineHere.desc).map (fun d => d.parameters.length) = some 0 := by decide +kernel
theorem gm_1590 : Cond.code yX9_lineHere cX9_lineHere 1 none ∈ GW := gm 1590 (by decide +kernel) (by decide +kernel)
theorem gm_1589 : Cond.instanceMethod yX9_lineHere ∈ GW := gm 1589 (by decide +kernel) (by decide +kernel)
theorem gm_56 : Cond.selects "UncutTaleModel" yX9_lineHere yX9_lineHere ∈ GW := gm 56 (by decide +kernel) (by decide +kernel)
theorem mk_X9_lineHere : MK yX9_lineHere cX9_lineHere 1 none := ⟨gm_1590, gm_1589, gm_56, gm_117⟩
theorem gm_1587 : Cond.methodLink "UncutTaleModel" 229 yX9_lineHere ∈ GW := gm 1587 (by decide +kernel) (by decide +kernel)
theorem pn_X9_ends : plainName yX9_ends.cls = true := by decide +kernel
theorem hd_X9_ends : yX9_ends.cls ≠ "java/lang/invoke/MethodHandle" ∧ yX9_ends.cls ≠ "java/lang/invoke/VarHandle" ∧ (parseMethodDescriptor yX9_ends.desc).map (fun d => d.parameters.length) = some 0 := by decide +kernel
theorem gm_1629 : Cond.code yX9_ends cX9_ends 1 none ∈ GW := gm 1629 (by decide +kernel) (by decide +kernel)
theorem gm_1628 : Cond.instanceMethod yX9_ends ∈ GW := gm 1628 (by decide +kernel) (by decide +kernel)
theorem gm_64 : Cond.selects "UncutTaleModel" yX9_ends yX9_ends ∈ GW := gm 64 (by decide +kernel) (by decide +kernel)
theorem mk_X9_ends : MK yX9_ends cX9_ends 1 none := ⟨gm_1629, gm_1628, gm_64, gm_117⟩
theorem gm_1626 : Cond.methodLink "UncutTaleModel" 232 yX9_ends ∈ GW := gm 1626 (by decide +kernel) (by decide +kernel)
theorem gm_1559 : Cond.constantLong "UncutTaleModel" 221 394718 ∈ GW := gm 1559 (by decide +kernel) (by decide +kernel)
theorem gm_1576 : Cond.constantLong "UncutTaleModel" 223 13385674 ∈ GW := gm 1576 (by decide +kernel) (by decide +kernel)
theorem gm_1585 : Cond.constantLong "UncutTaleModel" 225 8798 ∈ GW := gm 1585 (by decide +kernel) (by decide +kernel)
theorem gm_1586 : Cond.constantLong "UncutTaleModel" 227 298288 ∈ GW := gm 1586 (by decide +kernel) (by decide +kernel)
theorem pn_X9_tale : plainName yX9_tale.cls = true := by decide +kernel
theorem fk_9_27 : FK "UncutTaleModel" 27 9 15 := ⟨RX9, TX9, 51, rfl, by decide, iw_9, gm_1349⟩
theorem fk_9_162 : FK "UncutTaleModel" 162 9 14 := ⟨RX9, TX9, 51, rfl, by decide, iw_9, gm_1348⟩
theorem pn_X9_fault : plainName yX9_fault.cls = true := by decide +kernel
theorem pn_X9_parts : plainName yX9_parts.cls = true := by decide +kernel
theorem hd_X9_parts : yX9_parts.cls ≠ "java/lang/invoke/MethodHandle" ∧ yX9_parts.cls ≠ "java/lang/invoke/VarHandle" ∧ (parseMethodDescriptor yX9_parts.desc).map (fun d => d.parameters.length) = some 0 := by decide +kernel
theorem gm_1652 : Cond.code yX9_parts cX9_parts 1 (some .int) ∈ GW := gm 1652 (by decide +kernel) (by decide +kernel)
theorem gm_1651 : Cond.instanceMethod yX9_parts ∈ GW := gm 1651 (by decide +kernel) (by decide +kernel)
theorem gm_68 : Cond.selects "UncutTaleModel" yX9_parts yX9_parts ∈ GW := gm 68 (by decide +kernel) (by decide +kernel)
theorem mk_X9_parts : MK yX9_parts cX9_parts 1 (some .int) := ⟨gm_1652, gm_1651, gm_68, gm_117⟩
theorem gm_1649 : Cond.methodLink "UncutTaleModel" 245 yX9_parts ∈ GW := gm 1649 (by decide +kernel) (by decide +kernel)
theorem pn_X9_isPart : plainName yX9_isPart.cls = true := by decide +kernel
theorem hd_X9_isPart : yX9_isPart.cls ≠ "java/lang/invoke/MethodHandle" ∧ yX9_isPart.cls ≠ "java/lang/invoke/VarHandle" ∧ (parseMethodDescriptor yX9_isPart.desc).map (fun d => d.parameters.length) = some 1 := by decide +kernel
theorem gm_1648 : Cond.code yX9_isPart cX9_isPart 3 (some .boolean) ∈ GW := gm 1648 (by decide +kernel) (by decide +kernel)
theorem gm_1647 : Cond.instanceMethod yX9_isPart ∈ GW := gm 1647 (by decide +kernel) (by decide +kernel)
theorem gm_67 : Cond.selects "UncutTaleModel" yX9_isPart yX9_isPart ∈ GW := gm 67 (by decide +kernel) (by decide +kernel)
theorem mk_X9_isPart : MK yX9_isPart cX9_isPart 3 (some .boolean) := ⟨gm_1648, gm_1647, gm_67, gm_117⟩
theorem gm_1645 : Cond.methodLink "UncutTaleModel" 254 yX9_isPart ∈ GW := gm 1645 (by decide +kernel) (by decide +kernel)
theorem gm_1653 : Cond.constantLong "UncutTaleModel" 325 2 ∈ GW := gm 1653 (by decide +kernel) (by decide +kernel)
theorem pn_X9_part : plainName yX9_part.cls = true := by decide +kernel
theorem gm_1357 : Cond.fieldLink "UncutTaleModel" 260 "UncutTaleModel" "law" "I" ∈ GW := gm 1357 (by decide +kernel) (by decide +kernel)
theorem pk_9_260 : PK "UncutTaleModel" 260 9 23 .int := ⟨RX9, TX9, 51, tyX9, rfl, by decide, iw_9, gm_1357, tyX9_ok, nmX9, rfl, by decide +kernel⟩
theorem gm_1358 : Cond.fieldLink "UncutTaleModel" 263 "UncutTaleModel" "sewn" "I" ∈ GW := gm 1358 (by decide +kernel) (by decide +kernel)
theorem pk_9_263 : PK "UncutTaleModel" 263 9 24 .int := ⟨RX9, TX9, 51, tyX9, rfl, by decide, iw_9, gm_1358, tyX9_ok, nmX9, rfl, by decide +kernel⟩
theorem gm_1359 : Cond.fieldLink "UncutTaleModel" 266 "UncutTaleModel" "untold" "I" ∈ GW := gm 1359 (by decide +kernel) (by decide +kernel)
theorem pk_9_266 : PK "UncutTaleModel" 266 9 25 .int := ⟨RX9, TX9, 51, tyX9, rfl, by decide, iw_9, gm_1359, tyX9_ok, nmX9, rfl, by decide +kernel⟩
theorem gm_1360 : Cond.fieldLink "UncutTaleModel" 269 "UncutTaleModel" "notBlade" "I" ∈ GW := gm 1360 (by decide +kernel) (by decide +kernel)
theorem pk_9_269 : PK "UncutTaleModel" 269 9 26 .int := ⟨RX9, TX9, 51, tyX9, rfl, by decide, iw_9, gm_1360, tyX9_ok, nmX9, rfl, by decide +kernel⟩
theorem gm_1361 : Cond.fieldLink "UncutTaleModel" 272 "UncutTaleModel" "isPlanned" "Z" ∈ GW := gm 1361 (by decide +kernel) (by decide +kernel)
theorem pk_9_272 : PK "UncutTaleModel" 272 9 27 .boolean := ⟨RX9, TX9, 51, tyX9, rfl, by decide, iw_9, gm_1361, tyX9_ok, nmX9, rfl, by decide +kernel⟩
theorem gm_1362 : Cond.fieldLink "UncutTaleModel" 53 "UncutTaleModel" "stiffTold" "[I" ∈ GW := gm 1362 (by decide +kernel) (by decide +kernel)
theorem fk_9_53 : FK "UncutTaleModel" 53 9 28 := ⟨RX9, TX9, 51, rfl, by decide, iw_9, gm_1362⟩
theorem gm_1363 : Cond.fieldLink "UncutTaleModel" 56 "UncutTaleModel" "planSet" "[I" ∈ GW := gm 1363 (by decide +kernel) (by decide +kernel)
theorem fk_9_56 : FK "UncutTaleModel" 56 9 29 := ⟨RX9, TX9, 51, rfl, by decide, iw_9, gm_1363⟩
theorem pn_X9_lays : plainName yX9_lays.cls = true := by decide +kernel
theorem hd_X9_lays : yX9_lays.cls ≠ "java/lang/invoke/MethodHandle" ∧ yX9_lays.cls ≠ "java/lang/invoke/VarHandle" ∧ (parseMethodDescriptor yX9_lays.desc).map (fun d => d.parameters.length) = some 0 := by decide +kernel
theorem gm_1661 : Cond.code yX9_lays cX9_lays 2 none ∈ GW := gm 1661 (by decide +kernel) (by decide +kernel)
theorem gm_1660 : Cond.instanceMethod yX9_lays ∈ GW := gm 1660 (by decide +kernel) (by decide +kernel)
theorem gm_69 : Cond.selects "UncutTaleModel" yX9_lays yX9_lays ∈ GW := gm 69 (by decide +kernel) (by decide +kernel)
theorem mk_X9_lays : MK yX9_lays cX9_lays 2 none := ⟨gm_1661, gm_1660, gm_69, gm_117⟩
theorem gm_1658 : Cond.methodLink "UncutTaleModel" 319 yX9_lays ∈ GW := gm 1658 (by decide +kernel) (by decide +kernel)
theorem fk_9_266 : FK "UncutTaleModel" 266 9 25 := ⟨RX9, TX9, 51, rfl, by decide, iw_9, gm_1359⟩
theorem pn_X9_nearOf : plainName yX9_nearOf.cls = true := by decide +kernel
theorem hd_X9_nearOf : yX9_nearOf.cls ≠ "java/lang/invoke/MethodHandle" ∧ yX9_nearOf.cls ≠ "java/lang/invoke/VarHandle" ∧ (parseMethodDescriptor yX9_nearOf.desc).map (fun d => d.parameters.length) = some 1 := by decide +kernel
theorem gm_1665 : Cond.code yX9_nearOf cX9_nearOf 4 (some .int) ∈ GW := gm 1665 (by decide +kernel) (by decide +kernel)
theorem gm_1664 : Cond.instanceMethod yX9_nearOf ∈ GW := gm 1664 (by decide +kernel) (by decide +kernel)
theorem gm_70 : Cond.selects "UncutTaleModel" yX9_nearOf yX9_nearOf ∈ GW := gm 70 (by decide +kernel) (by decide +kernel)
theorem mk_X9_nearOf : MK yX9_nearOf cX9_nearOf 4 (some .int) := ⟨gm_1665, gm_1664, gm_70, gm_117⟩
theorem gm_1662 : Cond.methodLink "UncutTaleModel" 292 yX9_nearOf ∈ GW := gm 1662 (by decide +kernel) (by decide +kernel)
theorem pn_X9_near : plainName yX9_near.cls = true := by decide +kernel
theorem pn_X9_isBit : plainName yX9_isBit.cls = true := by decide +kernel
theorem hd_X9_isBit : yX9_isBit.cls ≠ "java/lang/invoke/MethodHandle" ∧ yX9_isBit.cls ≠ "java/lang/invoke/VarHandle" ∧ (parseMethodDescriptor yX9_isBit.desc).map (fun d => d.parameters.length) = some 2 := by decide +kernel
theorem gm_1672 : Cond.code yX9_isBit cX9_isBit 2 (some .boolean) ∈ GW := gm 1672 (by decide +kernel) (by decide +kernel)
theorem gm_1671 : Cond.static yX9_isBit ∈ GW := gm 1671 (by decide +kernel) (by decide +kernel)
theorem sk_X9_isBit : SK yX9_isBit cX9_isBit 2 (some .boolean) := ⟨gm_1672, gm_1671, gm_117⟩
theorem gm_1670 : Cond.methodLink "UncutTaleModel" 282 yX9_isBit ∈ GW := gm 1670 (by decide +kernel) (by decide +kernel)
theorem pn_X9_far : plainName yX9_far.cls = true := by decide +kernel
theorem pn_X9_isTale : plainName yX9_isTale.cls = true := by decide +kernel
theorem hd_X9_isTale : yX9_isTale.cls ≠ "java/lang/invoke/MethodHandle" ∧ yX9_isTale.cls ≠ "java/lang/invoke/VarHandle" ∧ (parseMethodDescriptor yX9_isTale.desc).map (fun d => d.parameters.length) = some 0 := by decide +kernel
theorem gm_1688 : Cond.code yX9_isTale cX9_isTale 1 (some .boolean) ∈ GW := gm 1688 (by decide +kernel) (by decide +kernel)
theorem gm_1687 : Cond.instanceMethod yX9_isTale ∈ GW := gm 1687 (by decide +kernel) (by decide +kernel)
theorem gm_73 : Cond.selects "UncutTaleModel" yX9_isTale yX9_isTale ∈ GW := gm 73 (by decide +kernel) (by decide +kernel)
theorem mk_X9_isTale : MK yX9_isTale cX9_isTale 1 (some .boolean) := ⟨gm_1688, gm_1687, gm_73, gm_117⟩
theorem gm_1685 : Cond.methodLink "UncutTaleModel" 248 yX9_isTale ∈ GW := gm 1685 (by decide +kernel) (by decide +kernel)
theorem pn_X9_years : plainName yX9_years.cls = true := by decide +kernel
theorem hd_X9_years : yX9_years.cls ≠ "java/lang/invoke/MethodHandle" ∧ yX9_years.cls ≠ "java/lang/invoke/VarHandle" ∧ (parseMethodDescriptor yX9_years.desc).map (fun d => d.parameters.length) = some 0 := by decide +kernel
theorem gm_1692 : Cond.code yX9_years cX9_years 1 (some .int) ∈ GW := gm 1692 (by decide +kernel) (by decide +kernel)
theorem gm_1691 : Cond.instanceMethod yX9_years ∈ GW := gm 1691 (by decide +kernel) (by decide +kernel)
theorem gm_74 : Cond.selects "UncutTaleModel" yX9_years yX9_years ∈ GW := gm 74 (by decide +kernel) (by decide +kernel)
theorem mk_X9_years : MK yX9_years cX9_years 1 (some .int) := ⟨gm_1692, gm_1691, gm_74, gm_117⟩
theorem gm_1689 : Cond.methodLink "UncutTaleModel" 251 yX9_years ∈ GW := gm 1689 (by decide +kernel) (by decide +kernel)
theorem pn_X9_isYear : plainName yX9_isYear.cls = true := by decide +kernel
theorem hd_X9_isYear : yX9_isYear.cls ≠ "java/lang/invoke/MethodHandle" ∧ yX9_isYear.cls ≠ "java/lang/invoke/VarHandle" ∧ (parseMethodDescriptor yX9_isYear.desc).map (fun d => d.parameters.length) = some 1 := by decide +kernel
theorem gm_1684 : Cond.code yX9_isYear cX9_isYear 3 (some .boolean) ∈ GW := gm 1684 (by decide +kernel) (by decide +kernel)
theorem gm_1683 : Cond.instanceMethod yX9_isYear ∈ GW := gm 1683 (by decide +kernel) (by decide +kernel)
theorem gm_72 : Cond.selects "UncutTaleModel" yX9_isYear yX9_isYear ∈ GW := gm 72 (by decide +kernel) (by decide +kernel)
theorem mk_X9_isYear : MK yX9_isYear cX9_isYear 3 (some .boolean) := ⟨gm_1684, gm_1683, gm_72, gm_117⟩
theorem gm_1681 : Cond.methodLink "UncutTaleModel" 257 yX9_isYear ∈ GW := gm 1681 (by decide +kernel) (by decide +kernel)
theorem pn_X9_isThen : plainName yX9_isThen.cls = true := by decide +kernel
theorem hd_X9_isThen : yX9_isThen.cls ≠ "java/lang/invoke/MethodHandle" ∧ yX9_isThen.cls ≠ "java/lang/invoke/VarHandle" ∧ (parseMethodDescriptor yX9_isThen.desc).map (fun d => d.parameters.length) = some 2 := by decide +kernel
theorem gm_1680 : Cond.code yX9_isThen cX9_isThen 3 (some .boolean) ∈ GW := gm 1680 (by decide +kernel) (by decide +kernel)
theorem gm_1679 : Cond.instanceMethod yX9_isThen ∈ GW := gm 1679 (by decide +kernel) (by decide +kernel)
theorem gm_71 : Cond.selects "UncutTaleModel" yX9_isThen yX9_isThen ∈ GW := gm 71 (by decide +kernel) (by decide +kernel)
theorem mk_X9_isThen : MK yX9_isThen cX9_isThen 3 (some .boolean) := ⟨gm_1680, gm_1679, gm_71, gm_117⟩
theorem gm_1677 : Cond.methodLink "UncutTaleModel" 327 yX9_isThen ∈ GW := gm 1677 (by decide +kernel) (by decide +kernel)
theorem gm_1370 : Cond.fieldLink "UncutTaleModel" 276 "UncutTaleModel" "openNow" "I" ∈ GW := gm 1370 (by decide +kernel) (by decide +kernel)
theorem pk_9_276 : PK "UncutTaleModel" 276 9 36 .int := ⟨RX9, TX9, 51, tyX9, rfl, by decide, iw_9, gm_1370, tyX9_ok, nmX9, rfl, by decide +kernel⟩
theorem gm_1369 : Cond.fieldLink "UncutTaleModel" 285 "UncutTaleModel" "sharpBits" "I" ∈ GW := gm 1369 (by decide +kernel) (by decide +kernel)
theorem pk_9_285 : PK "UncutTaleModel" 285 9 35 .int := ⟨RX9, TX9, 51, tyX9, rfl, by decide, iw_9, gm_1369, tyX9_ok, nmX9, rfl, by decide +kernel⟩
theorem gm_1365 : Cond.fieldLink "UncutTaleModel" 62 "UncutTaleModel" "openAt" "[I" ∈ GW := gm 1365 (by decide +kernel) (by decide +kernel)
theorem fk_9_62 : FK "UncutTaleModel" 62 9 31 := ⟨RX9, TX9, 51, rfl, by decide, iw_9, gm_1365⟩
theorem gm_1364 : Cond.fieldLink "UncutTaleModel" 59 "UncutTaleModel" "stiffs0" "[I" ∈ GW := gm 1364 (by decide +kernel) (by decide +kernel)
theorem fk_9_59 : FK "UncutTaleModel" 59 9 30 := ⟨RX9, TX9, 51, rfl, by decide, iw_9, gm_1364⟩
theorem gm_1366 : Cond.fieldLink "UncutTaleModel" 65 "UncutTaleModel" "openedIn" "[I" ∈ GW := gm 1366 (by decide +kernel) (by decide +kernel)
theorem fk_9_65 : FK "UncutTaleModel" 65 9 32 := ⟨RX9, TX9, 51, rfl, by decide, iw_9, gm_1366⟩
theorem gm_1367 : Cond.fieldLink "UncutTaleModel" 68 "UncutTaleModel" "howOpened" "[I" ∈ GW := gm 1367 (by decide +kernel) (by decide +kernel)
theorem fk_9_68 : FK "UncutTaleModel" 68 9 33 := ⟨RX9, TX9, 51, rfl, by decide, iw_9, gm_1367⟩
theorem gm_1368 : Cond.fieldLink "UncutTaleModel" 71 "UncutTaleModel" "readFor" "[I" ∈ GW := gm 1368 (by decide +kernel) (by decide +kernel)
theorem fk_9_71 : FK "UncutTaleModel" 71 9 34 := ⟨RX9, TX9, 51, rfl, by decide, iw_9, gm_1368⟩
theorem pn_X9_stiffAt : plainName yX9_stiffAt.cls = true := by decide +kernel
theorem hd_X9_stiffAt : yX9_stiffAt.cls ≠ "java/lang/invoke/MethodHandle" ∧ yX9_stiffAt.cls ≠ "java/lang/invoke/VarHandle" ∧ (parseMethodDescriptor yX9_stiffAt.desc).map (fun d => d.parameters.length) = some 2 := by decide +kernel
theorem gm_1704 : Cond.code yX9_stiffAt cX9_stiffAt 3 (some .int) ∈ GW := gm 1704 (by decide +kernel) (by decide +kernel)
theorem gm_1703 : Cond.instanceMethod yX9_stiffAt ∈ GW := gm 1703 (by decide +kernel) (by decide +kernel)
theorem gm_77 : Cond.selects "UncutTaleModel" yX9_stiffAt yX9_stiffAt ∈ GW := gm 77 (by decide +kernel) (by decide +kernel)
theorem mk_X9_stiffAt : MK yX9_stiffAt cX9_stiffAt 3 (some .int) := ⟨gm_1704, gm_1703, gm_77, gm_117⟩
theorem gm_1701 : Cond.methodLink "UncutTaleModel" 301 yX9_stiffAt ∈ GW := gm 1701 (by decide +kernel) (by decide +kernel)
theorem fk_9_276 : FK "UncutTaleModel" 276 9 36 := ⟨RX9, TX9, 51, rfl, by decide, iw_9, gm_1370⟩
theorem pn_X9_moreOf : plainName yX9_moreOf.cls = true := by decide +kernel
theorem hd_X9_moreOf : yX9_moreOf.cls ≠ "java/lang/invoke/MethodHandle" ∧ yX9_moreOf.cls ≠ "java/lang/invoke/VarHandle" ∧ (parseMethodDescriptor yX9_moreOf.desc).map (fun d => d.parameters.length) = some 2 := by decide +kernel
theorem gm_1711 : Cond.code yX9_moreOf cX9_moreOf 2 (some .int) ∈ GW := gm 1711 (by decide +kernel) (by decide +kernel)
theorem gm_1710 : Cond.static yX9_moreOf ∈ GW := gm 1710 (by decide +kernel) (by decide +kernel)
theorem sk_X9_moreOf : SK yX9_moreOf cX9_moreOf 2 (some .int) := ⟨gm_1711, gm_1710, gm_117⟩
theorem gm_1709 : Cond.methodLink "UncutTaleModel" 279 yX9_moreOf ∈ GW := gm 1709 (by decide +kernel) (by decide +kernel)
theorem pn_X9_airs : plainName yX9_airs.cls = true := by decide +kernel
theorem hd_X9_airs : yX9_airs.cls ≠ "java/lang/invoke/MethodHandle" ∧ yX9_airs.cls ≠ "java/lang/invoke/VarHandle" ∧ (parseMethodDescriptor yX9_airs.desc).map (fun d => d.parameters.length) = some 1 := by decide +kernel
theorem gm_1708 : Cond.code yX9_airs cX9_airs 4 none ∈ GW := gm 1708 (by decide +kernel) (by decide +kernel)
theorem gm_1707 : Cond.instanceMethod yX9_airs ∈ GW := gm 1707 (by decide +kernel) (by decide +kernel)
theorem gm_78 : Cond.selects "UncutTaleModel" yX9_airs yX9_airs ∈ GW := gm 78 (by decide +kernel) (by decide +kernel)
theorem mk_X9_airs : MK yX9_airs cX9_airs 4 none := ⟨gm_1708, gm_1707, gm_78, gm_117⟩
theorem gm_1705 : Cond.methodLink "UncutTaleModel" 304 yX9_airs ∈ GW := gm 1705 (by decide +kernel) (by decide +kernel)
theorem fk_9_272 : FK "UncutTaleModel" 272 9 27 := ⟨RX9, TX9, 51, rfl, by decide, iw_9, gm_1361⟩
theorem fk_9_269 : FK "UncutTaleModel" 269 9 26 := ⟨RX9, TX9, 51, rfl, by decide, iw_9, gm_1360⟩
theorem fk_9_285 : FK "UncutTaleModel" 285 9 35 := ⟨RX9, TX9, 51, rfl, by decide, iw_9, gm_1369⟩
theorem pn_X9_opens0 : plainName yX9_opens0.cls = true := by decide +kernel
theorem hd_X9_opens0 : yX9_opens0.cls ≠ "java/lang/invoke/MethodHandle" ∧ yX9_opens0.cls ≠ "java/lang/invoke/VarHandle" ∧ (parseMethodDescriptor yX9_opens0.desc).map (fun d => d.parameters.length) = some 3 := by decide +kernel
theorem gm_1723 : Cond.code yX9_opens0 cX9_opens0 4 none ∈ GW := gm 1723 (by decide +kernel) (by decide +kernel)
theorem gm_1722 : Cond.instanceMethod yX9_opens0 ∈ GW := gm 1722 (by decide +kernel) (by decide +kernel)
theorem gm_81 : Cond.selects "UncutTaleModel" yX9_opens0 yX9_opens0 ∈ GW := gm 81 (by decide +kernel) (by decide +kernel)
theorem mk_X9_opens0 : MK yX9_opens0 cX9_opens0 4 none := ⟨gm_1723, gm_1722, gm_81, gm_117⟩
theorem gm_1720 : Cond.methodLink "UncutTaleModel" 288 yX9_opens0 ∈ GW := gm 1720 (by decide +kernel) (by decide +kernel)
theorem pn_X9_cuts : plainName yX9_cuts.cls = true := by decide +kernel
theorem hd_X9_cuts : yX9_cuts.cls ≠ "java/lang/invoke/MethodHandle" ∧ yX9_cuts.cls ≠ "java/lang/invoke/VarHandle" ∧ (parseMethodDescriptor yX9_cuts.desc).map (fun d => d.parameters.length) = some 3 := by decide +kernel
theorem gm_1719 : Cond.code yX9_cuts cX9_cuts 4 none ∈ GW := gm 1719 (by decide +kernel) (by decide +kernel)
theorem gm_1718 : Cond.instanceMethod yX9_cuts ∈ GW := gm 1718 (by decide +kernel) (by decide +kernel)
theorem gm_80 : Cond.selects "UncutTaleModel" yX9_cuts yX9_cuts ∈ GW := gm 80 (by decide +kernel) (by decide +kernel)
theorem mk_X9_cuts : MK yX9_cuts cX9_cuts 4 none := ⟨gm_1719, gm_1718, gm_80, gm_117⟩
theorem gm_1716 : Cond.methodLink "UncutTaleModel" 316 yX9_cuts ∈ GW := gm 1716 (by decide +kernel) (by decide +kernel)
theorem pn_X9_knivesOf : plainName yX9_knivesOf.cls = true := by decide +kernel
theorem hd_X9_knivesOf : yX9_knivesOf.cls ≠ "java/lang/invoke/MethodHandle" ∧ yX9_knivesOf.cls ≠ "java/lang/invoke/VarHandle" ∧ (parseMethodDescriptor yX9_knivesOf.desc).map (fun d => d.parameters.length) = some 1 := by decide +kernel
theorem gm_1715 : Cond.code yX9_knivesOf cX9_knivesOf 4 none ∈ GW := gm 1715 (by decide +kernel) (by decide +kernel)
theorem gm_1714 : Cond.instanceMethod yX9_knivesOf ∈ GW := gm 1714 (by decide +kernel) (by decide +kernel)
theorem gm_79 : Cond.selects "UncutTaleModel" yX9_knivesOf yX9_knivesOf ∈ GW := gm 79 (by decide +kernel) (by decide +kernel)
theorem mk_X9_knivesOf : MK yX9_knivesOf cX9_knivesOf 4 none := ⟨gm_1715, gm_1714, gm_79, gm_117⟩
theorem gm_1712 : Cond.methodLink "UncutTaleModel" 307 yX9_knivesOf ∈ GW := gm 1712 (by decide +kernel) (by decide +kernel)
theorem fk_9_263 : FK "UncutTaleModel" 263 9 24 := ⟨RX9, TX9, 51, rfl, by decide, iw_9, gm_1358⟩
theorem pn_X9_opensOthers : plainName yX9_opensOthers.cls = true := by decide +kernel
theorem hd_X9_opensOthers : yX9_opensOthers.cls ≠ "java/lang/invoke/MethodHandle" ∧ yX9_opensOthers.cls ≠ "java/lang/invoke/VarHandle" ∧ (parseMethodDescriptor yX9_opensOthers.desc).map (fun d => d.parameters.length) = some 1 := by decide +kernel
theorem gm_1727 : Cond.code yX9_opensOthers cX9_opensOthers 5 none ∈ GW := gm 1727 (by decide +kernel) (by decide +kernel)
theorem gm_1726 : Cond.instanceMethod yX9_opensOthers ∈ GW := gm 1726 (by decide +kernel) (by decide +kernel)
theorem gm_82 : Cond.selects "UncutTaleModel" yX9_opensOthers yX9_opensOthers ∈ GW := gm 82 (by decide +kernel) (by decide +kernel)
theorem mk_X9_opensOthers : MK yX9_opensOthers cX9_opensOthers 5 none := ⟨gm_1727, gm_1726, gm_82, gm_117⟩
theorem gm_1724 : Cond.methodLink "UncutTaleModel" 310 yX9_opensOthers ∈ GW := gm 1724 (by decide +kernel) (by decide +kernel)
theorem fk_9_260 : FK "UncutTaleModel" 260 9 23 := ⟨RX9, TX9, 51, rfl, by decide, iw_9, gm_1357⟩
theorem pn_X9_sizeOf : plainName yX9_sizeOf.cls = true := by decide +kernel
theorem hd_X9_sizeOf : yX9_sizeOf.cls ≠ "java/lang/invoke/MethodHandle" ∧ yX9_sizeOf.cls ≠ "java/lang/invoke/VarHandle" ∧ (parseMethodDescriptor yX9_sizeOf.desc).map (fun d => d.parameters.length) = some 1 := by decide +kernel
theorem gm_1734 : Cond.code yX9_sizeOf cX9_sizeOf 3 (some .int) ∈ GW := gm 1734 (by decide +kernel) (by decide +kernel)
theorem gm_1733 : Cond.static yX9_sizeOf ∈ GW := gm 1733 (by decide +kernel) (by decide +kernel)
theorem sk_X9_sizeOf : SK yX9_sizeOf cX9_sizeOf 3 (some .int) := ⟨gm_1734, gm_1733, gm_117⟩
theorem gm_1732 : Cond.methodLink "UncutTaleModel" 295 yX9_sizeOf ∈ GW := gm 1732 (by decide +kernel) (by decide +kernel)
theorem pn_X9_lessOf : plainName yX9_lessOf.cls = true := by decide +kernel
theorem hd_X9_lessOf : yX9_lessOf.cls ≠ "java/lang/invoke/MethodHandle" ∧ yX9_lessOf.cls ≠ "java/lang/invoke/VarHandle" ∧ (parseMethodDescriptor yX9_lessOf.desc).map (fun d => d.parameters.length) = some 2 := by decide +kernel
theorem gm_1737 : Cond.code yX9_lessOf cX9_lessOf 2 (some .int) ∈ GW := gm 1737 (by decide +kernel) (by decide +kernel)
theorem gm_1736 : Cond.static yX9_lessOf ∈ GW := gm 1736 (by decide +kernel) (by decide +kernel)
theorem sk_X9_lessOf : SK yX9_lessOf cX9_lessOf 2 (some .int) := ⟨gm_1737, gm_1736, gm_117⟩
theorem gm_1735 : Cond.methodLink "UncutTaleModel" 298 yX9_lessOf ∈ GW := gm 1735 (by decide +kernel) (by decide +kernel)
theorem pn_X9_stiffer : plainName yX9_stiffer.cls = true := by decide +kernel
theorem hd_X9_stiffer : yX9_stiffer.cls ≠ "java/lang/invoke/MethodHandle" ∧ yX9_stiffer.cls ≠ "java/lang/invoke/VarHandle" ∧ (parseMethodDescriptor yX9_stiffer.desc).map (fun d => d.parameters.length) = some 2 := by decide +kernel
theorem gm_1731 : Cond.code yX9_stiffer cX9_stiffer 5 (some .int) ∈ GW := gm 1731 (by decide +kernel) (by decide +kernel)
theorem gm_1730 : Cond.instanceMethod yX9_stiffer ∈ GW := gm 1730 (by decide +kernel) (by decide +kernel)
theorem gm_83 : Cond.selects "UncutTaleModel" yX9_stiffer yX9_stiffer ∈ GW := gm 83 (by decide +kernel) (by decide +kernel)
theorem mk_X9_stiffer : MK yX9_stiffer cX9_stiffer 5 (some .int) := ⟨gm_1731, gm_1730, gm_83, gm_117⟩
theorem gm_1728 : Cond.methodLink "UncutTaleModel" 313 yX9_stiffer ∈ GW := gm 1728 (by decide +kernel) (by decide +kernel)
theorem pn_X9_runs : plainName yX9_runs.cls = true := by decide +kernel
theorem hd_X9_runs : yX9_runs.cls ≠ "java/lang/invoke/MethodHandle" ∧ yX9_runs.cls ≠ "java/lang/invoke/VarHandle" ∧ (parseMethodDescriptor yX9_runs.desc).map (fun d => d.parameters.length) = some 0 := by decide +kernel
theorem gm_1700 : Cond.code yX9_runs cX9_runs 3 none ∈ GW := gm 1700 (by decide +kernel) (by decide +kernel)
theorem gm_1699 : Cond.instanceMethod yX9_runs ∈ GW := gm 1699 (by decide +kernel) (by decide +kernel)
theorem gm_76 : Cond.selects "UncutTaleModel" yX9_runs yX9_runs ∈ GW := gm 76 (by decide +kernel) (by decide +kernel)
theorem mk_X9_runs : MK yX9_runs cX9_runs 3 none := ⟨gm_1700, gm_1699, gm_76, gm_117⟩
theorem gm_1697 : Cond.methodLink "UncutTaleModel" 322 yX9_runs ∈ GW := gm 1697 (by decide +kernel) (by decide +kernel)
theorem pn_X9_laysNow : plainName yX9_laysNow.cls = true := by decide +kernel
theorem hd_X9_laysNow : yX9_laysNow.cls ≠ "java/lang/invoke/MethodHandle" ∧ yX9_laysNow.cls ≠ "java/lang/invoke/VarHandle" ∧ (parseMethodDescriptor yX9_laysNow.desc).map (fun d => d.parameters.length) = some 0 := by decide +kernel
theorem gm_1696 : Cond.code yX9_laysNow cX9_laysNow 1 none ∈ GW := gm 1696 (by decide +kernel) (by decide +kernel)
theorem gm_1695 : Cond.instanceMethod yX9_laysNow ∈ GW := gm 1695 (by decide +kernel) (by decide +kernel)
theorem gm_75 : Cond.selects "UncutTaleModel" yX9_laysNow yX9_laysNow ∈ GW := gm 75 (by decide +kernel) (by decide +kernel)
theorem mk_X9_laysNow : MK yX9_laysNow cX9_laysNow 1 none := ⟨gm_1696, gm_1695, gm_75, gm_117⟩
theorem gm_1693 : Cond.methodLink "UncutTaleModel" 330 yX9_laysNow ∈ GW := gm 1693 (by decide +kernel) (by decide +kernel)
theorem pn_X9_stiff : plainName yX9_stiff.cls = true := by decide +kernel
theorem pn_X9_open : plainName yX9_open.cls = true := by decide +kernel
theorem pn_X9_when : plainName yX9_when.cls = true := by decide +kernel
theorem pn_X9_how : plainName yX9_how.cls = true := by decide +kernel
theorem pn_X9_read : plainName yX9_read.cls = true := by decide +kernel
theorem pn_X9_isAhead : plainName yX9_isAhead.cls = true := by decide +kernel
theorem hd_X9_isAhead : yX9_isAhead.cls ≠ "java/lang/invoke/MethodHandle" ∧ yX9_isAhead.cls ≠ "java/lang/invoke/VarHandle" ∧ (parseMethodDescriptor yX9_isAhead.desc).map (fun d => d.parameters.length) = some 1 := by decide +kernel
theorem gm_1761 : Cond.code yX9_isAhead cX9_isAhead 2 (some .boolean) ∈ GW := gm 1761 (by decide +kernel) (by decide +kernel)
theorem gm_1760 : Cond.instanceMethod yX9_isAhead ∈ GW := gm 1760 (by decide +kernel) (by decide +kernel)
theorem gm_84 : Cond.selects "UncutTaleModel" yX9_isAhead yX9_isAhead ∈ GW := gm 84 (by decide +kernel) (by decide +kernel)
theorem mk_X9_isAhead : MK yX9_isAhead cX9_isAhead 2 (some .boolean) := ⟨gm_1761, gm_1760, gm_84, gm_117⟩
theorem gm_1758 : Cond.methodLink "UncutTaleModel" 333 yX9_isAhead ∈ GW := gm 1758 (by decide +kernel) (by decide +kernel)
theorem pn_X9_readIn : plainName yX9_readIn.cls = true := by decide +kernel
theorem hd_X9_readIn : yX9_readIn.cls ≠ "java/lang/invoke/MethodHandle" ∧ yX9_readIn.cls ≠ "java/lang/invoke/VarHandle" ∧ (parseMethodDescriptor yX9_readIn.desc).map (fun d => d.parameters.length) = some 1 := by decide +kernel
theorem gm_1765 : Cond.code yX9_readIn cX9_readIn 4 (some .int) ∈ GW := gm 1765 (by decide +kernel) (by decide +kernel)
theorem gm_1764 : Cond.instanceMethod yX9_readIn ∈ GW := gm 1764 (by decide +kernel) (by decide +kernel)
theorem gm_85 : Cond.selects "UncutTaleModel" yX9_readIn yX9_readIn ∈ GW := gm 85 (by decide +kernel) (by decide +kernel)
theorem mk_X9_readIn : MK yX9_readIn cX9_readIn 4 (some .int) := ⟨gm_1765, gm_1764, gm_85, gm_117⟩
theorem gm_1762 : Cond.methodLink "UncutTaleModel" 336 yX9_readIn ∈ GW := gm 1762 (by decide +kernel) (by decide +kernel)
theorem pn_X9_reads : plainName yX9_reads.cls = true := by decide +kernel
theorem pn_X9_readAll : plainName yX9_readAll.cls = true := by decide +kernel
theorem hd_X9_readAll : yX9_readAll.cls ≠ "java/lang/invoke/MethodHandle" ∧ yX9_readAll.cls ≠ "java/lang/invoke/VarHandle" ∧ (parseMethodDescriptor yX9_readAll.desc).map (fun d => d.parameters.length) = some 0 := by decide +kernel
theorem gm_1773 : Cond.code yX9_readAll cX9_readAll 3 (some .int) ∈ GW := gm 1773 (by decide +kernel) (by decide +kernel)
theorem gm_1772 : Cond.instanceMethod yX9_readAll ∈ GW := gm 1772 (by decide +kernel) (by decide +kernel)
theorem gm_86 : Cond.selects "UncutTaleModel" yX9_readAll yX9_readAll ∈ GW := gm 86 (by decide +kernel) (by decide +kernel)
theorem mk_X9_readAll : MK yX9_readAll cX9_readAll 3 (some .int) := ⟨gm_1773, gm_1772, gm_86, gm_117⟩
theorem gm_1770 : Cond.methodLink "UncutTaleModel" 339 yX9_readAll ∈ GW := gm 1770 (by decide +kernel) (by decide +kernel)
theorem pn_X9_all : plainName yX9_all.cls = true := by decide +kernel
theorem pn_X9_keepsOf : plainName yX9_keepsOf.cls = true := by decide +kernel
theorem hd_X9_keepsOf : yX9_keepsOf.cls ≠ "java/lang/invoke/MethodHandle" ∧ yX9_keepsOf.cls ≠ "java/lang/invoke/VarHandle" ∧ (parseMethodDescriptor yX9_keepsOf.desc).map (fun d => d.parameters.length) = some 2 := by decide +kernel
theorem gm_1781 : Cond.code yX9_keepsOf cX9_keepsOf 3 (some .int) ∈ GW := gm 1781 (by decide +kernel) (by decide +kernel)
theorem gm_1780 : Cond.instanceMethod yX9_keepsOf ∈ GW := gm 1780 (by decide +kernel) (by decide +kernel)
theorem gm_87 : Cond.selects "UncutTaleModel" yX9_keepsOf yX9_keepsOf ∈ GW := gm 87 (by decide +kernel) (by decide +kernel)
theorem mk_X9_keepsOf : MK yX9_keepsOf cX9_keepsOf 3 (some .int) := ⟨gm_1781, gm_1780, gm_87, gm_117⟩
theorem gm_1778 : Cond.methodLink "UncutTaleModel" 342 yX9_keepsOf ∈ GW := gm 1778 (by decide +kernel) (by decide +kernel)
theorem pn_X9_keeps : plainName yX9_keeps.cls = true := by decide +kernel
theorem pn_X9_waits : plainName yX9_waits.cls = true := by decide +kernel
theorem pn_X9_next : plainName yX9_next.cls = true := by decide +kernel
theorem pn_X9_dull : plainName yX9_dull.cls = true := by decide +kernel
theorem pn_X9_dies : plainName yX9_dies.cls = true := by decide +kernel
theorem pn_X9_ages : plainName yX9_ages.cls = true := by decide +kernel
theorem pn_X9_cut_ : plainName yX9_cut_.cls = true := by decide +kernel
theorem pn_X9_sharp : plainName yX9_sharp.cls = true := by decide +kernel
theorem pn_X9_every : plainName yX9_every.cls = true := by decide +kernel
theorem hd_X9_every : yX9_every.cls ≠ "java/lang/invoke/MethodHandle" ∧ yX9_every.cls ≠ "java/lang/invoke/VarHandle" ∧ (parseMethodDescriptor yX9_every.desc).map (fun d => d.parameters.length) = some 0 := by decide +kernel
theorem gm_1817 : Cond.code yX9_every cX9_every 1 (some .int) ∈ GW := gm 1817 (by decide +kernel) (by decide +kernel)
theorem gm_1816 : Cond.instanceMethod yX9_every ∈ GW := gm 1816 (by decide +kernel) (by decide +kernel)
theorem gm_88 : Cond.selects "UncutTaleModel" yX9_every yX9_every ∈ GW := gm 88 (by decide +kernel) (by decide +kernel)
theorem mk_X9_every : MK yX9_every cX9_every 1 (some .int) := ⟨gm_1817, gm_1816, gm_88, gm_117⟩
theorem gm_1814 : Cond.methodLink "UncutTaleModel" 345 yX9_every ∈ GW := gm 1814 (by decide +kernel) (by decide +kernel)
theorem pn_X9_uncut : plainName yX9_uncut.cls = true := by decide +kernel
theorem pn_X9_done : plainName yX9_done.cls = true := by decide +kernel
theorem pn_X9_freshIn : plainName yX9_freshIn.cls = true := by decide +kernel
theorem hd_X9_freshIn : yX9_freshIn.cls ≠ "java/lang/invoke/MethodHandle" ∧ yX9_freshIn.cls ≠ "java/lang/invoke/VarHandle" ∧ (parseMethodDescriptor yX9_freshIn.desc).map (fun d => d.parameters.length) = some 1 := by decide +kernel
theorem gm_1829 : Cond.code yX9_freshIn cX9_freshIn 2 (some .int) ∈ GW := gm 1829 (by decide +kernel) (by decide +kernel)
theorem gm_1828 : Cond.instanceMethod yX9_freshIn ∈ GW := gm 1828 (by decide +kernel) (by decide +kernel)
theorem gm_89 : Cond.selects "UncutTaleModel" yX9_freshIn yX9_freshIn ∈ GW := gm 89 (by decide +kernel) (by decide +kernel)
theorem mk_X9_freshIn : MK yX9_freshIn cX9_freshIn 2 (some .int) := ⟨gm_1829, gm_1828, gm_89, gm_117⟩
theorem gm_1826 : Cond.methodLink "UncutTaleModel" 348 yX9_freshIn ∈ GW := gm 1826 (by decide +kernel) (by decide +kernel)
theorem pn_X9_rush : plainName yX9_rush.cls = true := by decide +kernel
theorem pn_X9_with : plainName yX9_with.cls = true := by decide +kernel
theorem pn_X9_charms : plainName yX9_charms.cls = true := by decide +kernel
theorem pn_X9_best : plainName yX9_best.cls = true := by decide +kernel
theorem pn_X9_peak : plainName yX9_peak.cls = true := by decide +kernel
theorem pn_X9_first : plainName yX9_first.cls = true := by decide +kernel
theorem pn_X9_quiet : plainName yX9_quiet.cls = true := by decide +kernel
theorem pn_X9_lone : plainName yX9_lone.cls = true := by decide +kernel
theorem pn_X9_stalest : plainName yX9_stalest.cls = true := by decide +kernel
theorem pn_X9_pieces : plainName yX9_pieces.cls = true := by decide +kernel
theorem pn_X9_lost : plainName yX9_lost.cls = true := by decide +kernel
theorem pn_X9_knives : plainName yX9_knives.cls = true := by decide +kernel
theorem pn_X9_idle : plainName yX9_idle.cls = true := by decide +kernel
theorem pn_X9_worthOf : plainName yX9_worthOf.cls = true := by decide +kernel
theorem hd_X9_worthOf : yX9_worthOf.cls ≠ "java/lang/invoke/MethodHandle" ∧ yX9_worthOf.cls ≠ "java/lang/invoke/VarHandle" ∧ (parseMethodDescriptor yX9_worthOf.desc).map (fun d => d.parameters.length) = some 1 := by decide +kernel
theorem gm_1889 : Cond.code yX9_worthOf cX9_worthOf 2 (some .int) ∈ GW := gm 1889 (by decide +kernel) (by decide +kernel)
theorem gm_1888 : Cond.instanceMethod yX9_worthOf ∈ GW := gm 1888 (by decide +kernel) (by decide +kernel)
theorem gm_91 : Cond.selects "UncutTaleModel" yX9_worthOf yX9_worthOf ∈ GW := gm 91 (by decide +kernel) (by decide +kernel)
theorem mk_X9_worthOf : MK yX9_worthOf cX9_worthOf 2 (some .int) := ⟨gm_1889, gm_1888, gm_91, gm_117⟩
theorem gm_1886 : Cond.methodLink "UncutTaleModel" 351 yX9_worthOf ∈ GW := gm 1886 (by decide +kernel) (by decide +kernel)
theorem pn_X9_fewOf : plainName yX9_fewOf.cls = true := by decide +kernel
theorem hd_X9_fewOf : yX9_fewOf.cls ≠ "java/lang/invoke/MethodHandle" ∧ yX9_fewOf.cls ≠ "java/lang/invoke/VarHandle" ∧ (parseMethodDescriptor yX9_fewOf.desc).map (fun d => d.parameters.length) = some 0 := by decide +kernel
theorem gm_1885 : Cond.code yX9_fewOf cX9_fewOf 3 (some .int) ∈ GW := gm 1885 (by decide +kernel) (by decide +kernel)
theorem gm_1884 : Cond.instanceMethod yX9_fewOf ∈ GW := gm 1884 (by decide +kernel) (by decide +kernel)
theorem gm_90 : Cond.selects "UncutTaleModel" yX9_fewOf yX9_fewOf ∈ GW := gm 90 (by decide +kernel) (by decide +kernel)
theorem mk_X9_fewOf : MK yX9_fewOf cX9_fewOf 3 (some .int) := ⟨gm_1885, gm_1884, gm_90, gm_117⟩
theorem gm_1882 : Cond.methodLink "UncutTaleModel" 354 yX9_fewOf ∈ GW := gm 1882 (by decide +kernel) (by decide +kernel)
theorem pn_X9_few : plainName yX9_few.cls = true := by decide +kernel
theorem pn_X9_fews : plainName yX9_fews.cls = true := by decide +kernel
theorem pn_X9_worth : plainName yX9_worth.cls = true := by decide +kernel
theorem pn_X9_isHalf : plainName yX9_isHalf.cls = true := by decide +kernel
theorem hd_X9_isHalf : yX9_isHalf.cls ≠ "java/lang/invoke/MethodHandle" ∧ yX9_isHalf.cls ≠ "java/lang/invoke/VarHandle" ∧ (parseMethodDescriptor yX9_isHalf.desc).map (fun d => d.parameters.length) = some 1 := by decide +kernel
theorem gm_1904 : Cond.code yX9_isHalf cX9_isHalf 1 (some .boolean) ∈ GW := gm 1904 (by decide +kernel) (by decide +kernel)
theorem gm_1903 : Cond.static yX9_isHalf ∈ GW := gm 1903 (by decide +kernel) (by decide +kernel)
theorem sk_X9_isHalf : SK yX9_isHalf cX9_isHalf 1 (some .boolean) := ⟨gm_1904, gm_1903, gm_117⟩
theorem gm_1902 : Cond.methodLink "UncutTaleModel" 364 yX9_isHalf ∈ GW := gm 1902 (by decide +kernel) (by decide +kernel)
theorem pn_X9_times : plainName yX9_times.cls = true := by decide +kernel
theorem hd_X9_times : yX9_times.cls ≠ "java/lang/invoke/MethodHandle" ∧ yX9_times.cls ≠ "java/lang/invoke/VarHandle" ∧ (parseMethodDescriptor yX9_times.desc).map (fun d => d.parameters.length) = some 1 := by decide +kernel
theorem gm_1908 : Cond.code yX9_times cX9_times 1 (some .int) ∈ GW := gm 1908 (by decide +kernel) (by decide +kernel)
theorem gm_1907 : Cond.static yX9_times ∈ GW := gm 1907 (by decide +kernel) (by decide +kernel)
theorem sk_X9_times : SK yX9_times cX9_times 1 (some .int) := ⟨gm_1908, gm_1907, gm_117⟩
theorem gm_1906 : Cond.methodLink "UncutTaleModel" 357 yX9_times ∈ GW := gm 1906 (by decide +kernel) (by decide +kernel)
theorem hd_X9_common : yX9_common.cls ≠ "java/lang/invoke/MethodHandle" ∧ yX9_common.cls ≠ "java/lang/invoke/VarHandle" ∧ (parseMethodDescriptor yX9_common.desc).map (fun d => d.parameters.length) = some 2 := by decide +kernel
theorem gm_1914 : Cond.code yX9_common cX9_common 4 (some .long) ∈ GW := gm 1914 (by decide +kernel) (by decide +kernel)
theorem gm_1913 : Cond.static yX9_common ∈ GW := gm 1913 (by decide +kernel) (by decide +kernel)
theorem sk_X9_common : SK yX9_common cX9_common 4 (some .long) := ⟨gm_1914, gm_1913, gm_117⟩
theorem gm_1912 : Cond.methodLink "UncutTaleModel" 360 yX9_common ∈ GW := gm 1912 (by decide +kernel) (by decide +kernel)
theorem pn_X9_part0 : plainName yX9_part0.cls = true := by decide +kernel
theorem hd_X9_part0 : yX9_part0.cls ≠ "java/lang/invoke/MethodHandle" ∧ yX9_part0.cls ≠ "java/lang/invoke/VarHandle" ∧ (parseMethodDescriptor yX9_part0.desc).map (fun d => d.parameters.length) = some 3 := by decide +kernel
theorem gm_1911 : Cond.code yX9_part0 cX9_part0 5 (some .long) ∈ GW := gm 1911 (by decide +kernel) (by decide +kernel)
theorem gm_1910 : Cond.static yX9_part0 ∈ GW := gm 1910 (by decide +kernel) (by decide +kernel)
theorem sk_X9_part0 : SK yX9_part0 cX9_part0 5 (some .long) := ⟨gm_1911, gm_1910, gm_117⟩
theorem gm_1909 : Cond.methodLink "UncutTaleModel" 368 yX9_part0 ∈ GW := gm 1909 (by decide +kernel) (by decide +kernel)
theorem gm_1905 : Cond.constant "UncutTaleModel" 367 (-1000000) ∈ GW := gm 1905 (by decide +kernel) (by decide +kernel)
theorem pn_X9_share : plainName yX9_share.cls = true := by decide +kernel
theorem pn_X9_isPlan : plainName yX9_isPlan.cls = true := by decide +kernel
theorem hd_X9_isPlan : yX9_isPlan.cls ≠ "java/lang/invoke/MethodHandle" ∧ yX9_isPlan.cls ≠ "java/lang/invoke/VarHandle" ∧ (parseMethodDescriptor yX9_isPlan.desc).map (fun d => d.parameters.length) = some 1 := by decide +kernel
theorem gm_1922 : Cond.code yX9_isPlan cX9_isPlan 2 (some .boolean) ∈ GW := gm 1922 (by decide +kernel) (by decide +kernel)
theorem gm_1921 : Cond.instanceMethod yX9_isPlan ∈ GW := gm 1921 (by decide +kernel) (by decide +kernel)
theorem gm_92 : Cond.selects "UncutTaleModel" yX9_isPlan yX9_isPlan ∈ GW := gm 92 (by decide +kernel) (by decide +kernel)
theorem mk_X9_isPlan : MK yX9_isPlan cX9_isPlan 2 (some .boolean) := ⟨gm_1922, gm_1921, gm_92, gm_117⟩
theorem gm_1919 : Cond.methodLink "UncutTaleModel" 384 yX9_isPlan ∈ GW := gm 1919 (by decide +kernel) (by decide +kernel)
theorem gm_1371 : Cond.fieldLink "UncutTaleModel" 375 "UncutTaleModel" "planMost" "I" ∈ GW := gm 1371 (by decide +kernel) (by decide +kernel)
theorem pk_9_375 : PK "UncutTaleModel" 375 9 37 .int := ⟨RX9, TX9, 51, tyX9, rfl, by decide, iw_9, gm_1371, tyX9_ok, nmX9, rfl, by decide +kernel⟩
theorem gm_1372 : Cond.fieldLink "UncutTaleModel" 378 "UncutTaleModel" "planMany" "I" ∈ GW := gm 1372 (by decide +kernel) (by decide +kernel)
theorem pk_9_378 : PK "UncutTaleModel" 378 9 38 .int := ⟨RX9, TX9, 51, tyX9, rfl, by decide, iw_9, gm_1372, tyX9_ok, nmX9, rfl, by decide +kernel⟩
theorem gm_1374 : Cond.fieldLink "UncutTaleModel" 77 "UncutTaleModel" "planNow" "[I" ∈ GW := gm 1374 (by decide +kernel) (by decide +kernel)
theorem fk_9_77 : FK "UncutTaleModel" 77 9 40 := ⟨RX9, TX9, 51, rfl, by decide, iw_9, gm_1374⟩
theorem pn_X9_runsPlan : plainName yX9_runsPlan.cls = true := by decide +kernel
theorem hd_X9_runsPlan : yX9_runsPlan.cls ≠ "java/lang/invoke/MethodHandle" ∧ yX9_runsPlan.cls ≠ "java/lang/invoke/VarHandle" ∧ (parseMethodDescriptor yX9_runsPlan.desc).map (fun d => d.parameters.length) = some 1 := by decide +kernel
theorem gm_1934 : Cond.code yX9_runsPlan cX9_runsPlan 3 none ∈ GW := gm 1934 (by decide +kernel) (by decide +kernel)
theorem gm_1933 : Cond.instanceMethod yX9_runsPlan ∈ GW := gm 1933 (by decide +kernel) (by decide +kernel)
theorem gm_95 : Cond.selects "UncutTaleModel" yX9_runsPlan yX9_runsPlan ∈ GW := gm 95 (by decide +kernel) (by decide +kernel)
theorem mk_X9_runsPlan : MK yX9_runsPlan cX9_runsPlan 3 none := ⟨gm_1934, gm_1933, gm_95, gm_117⟩
theorem gm_1931 : Cond.methodLink "UncutTaleModel" 372 yX9_runsPlan ∈ GW := gm 1931 (by decide +kernel) (by decide +kernel)
theorem fk_9_375 : FK "UncutTaleModel" 375 9 37 := ⟨RX9, TX9, 51, rfl, by decide, iw_9, gm_1371⟩
theorem gm_1373 : Cond.fieldLink "UncutTaleModel" 74 "UncutTaleModel" "planRow" "[I" ∈ GW := gm 1373 (by decide +kernel) (by decide +kernel)
theorem fk_9_74 : FK "UncutTaleModel" 74 9 39 := ⟨RX9, TX9, 51, rfl, by decide, iw_9, gm_1373⟩
theorem fk_9_378 : FK "UncutTaleModel" 378 9 38 := ⟨RX9, TX9, 51, rfl, by decide, iw_9, gm_1372⟩
theorem pn_X9_planFrom : plainName yX9_planFrom.cls = true := by decide +kernel
theorem hd_X9_planFrom : yX9_planFrom.cls ≠ "java/lang/invoke/MethodHandle" ∧ yX9_planFrom.cls ≠ "java/lang/invoke/VarHandle" ∧ (parseMethodDescriptor yX9_planFrom.desc).map (fun d => d.parameters.length) = some 2 := by decide +kernel
theorem gm_1930 : Cond.code yX9_planFrom cX9_planFrom 5 none ∈ GW := gm 1930 (by decide +kernel) (by decide +kernel)
theorem gm_1929 : Cond.instanceMethod yX9_planFrom ∈ GW := gm 1929 (by decide +kernel) (by decide +kernel)
theorem gm_94 : Cond.selects "UncutTaleModel" yX9_planFrom yX9_planFrom ∈ GW := gm 94 (by decide +kernel) (by decide +kernel)
theorem mk_X9_planFrom : MK yX9_planFrom cX9_planFrom 5 none := ⟨gm_1930, gm_1929, gm_94, gm_117⟩
theorem gm_1927 : Cond.methodLink "UncutTaleModel" 381 yX9_planFrom ∈ GW := gm 1927 (by decide +kernel) (by decide +kernel)
theorem pn_X9_laysPlan : plainName yX9_laysPlan.cls = true := by decide +kernel
theorem hd_X9_laysPlan : yX9_laysPlan.cls ≠ "java/lang/invoke/MethodHandle" ∧ yX9_laysPlan.cls ≠ "java/lang/invoke/VarHandle" ∧ (parseMethodDescriptor yX9_laysPlan.desc).map (fun d => d.parameters.length) = some 1 := by decide +kernel
theorem gm_1926 : Cond.code yX9_laysPlan cX9_laysPlan 2 none ∈ GW := gm 1926 (by decide +kernel) (by decide +kernel)
theorem gm_1925 : Cond.instanceMethod yX9_laysPlan ∈ GW := gm 1925 (by decide +kernel) (by decide +kernel)
theorem gm_93 : Cond.selects "UncutTaleModel" yX9_laysPlan yX9_laysPlan ∈ GW := gm 93 (by decide +kernel) (by decide +kernel)
theorem mk_X9_laysPlan : MK yX9_laysPlan cX9_laysPlan 2 none := ⟨gm_1926, gm_1925, gm_93, gm_117⟩
theorem gm_1923 : Cond.methodLink "UncutTaleModel" 387 yX9_laysPlan ∈ GW := gm 1923 (by decide +kernel) (by decide +kernel)
theorem pn_X9_plan : plainName yX9_plan.cls = true := by decide +kernel
theorem pn_X9_planned : plainName yX9_planned.cls = true := by decide +kernel
theorem pn_X9_plans : plainName yX9_plans.cls = true := by decide +kernel
theorem gm_1495 : Cond.constantLong "UncutTaleModel" 86 3 ∈ GW := gm 1495 (by decide +kernel) (by decide +kernel)
theorem pn_X9_isSlot : plainName yX9_isSlot.cls = true := by decide +kernel
theorem hd_X9_isSlot : yX9_isSlot.cls ≠ "java/lang/invoke/MethodHandle" ∧ yX9_isSlot.cls ≠ "java/lang/invoke/VarHandle" ∧ (parseMethodDescriptor yX9_isSlot.desc).map (fun d => d.parameters.length) = some 1 := by decide +kernel
theorem gm_1494 : Cond.code yX9_isSlot cX9_isSlot 1 (some .boolean) ∈ GW := gm 1494 (by decide +kernel) (by decide +kernel)
theorem gm_1493 : Cond.static yX9_isSlot ∈ GW := gm 1493 (by decide +kernel) (by decide +kernel)
theorem sk_X9_isSlot : SK yX9_isSlot cX9_isSlot 1 (some .boolean) := ⟨gm_1494, gm_1493, gm_117⟩
theorem gm_1492 : Cond.methodLink "UncutTaleModel" 92 yX9_isSlot ∈ GW := gm 1492 (by decide +kernel) (by decide +kernel)
theorem gm_1335 : Cond.fieldLink "UncutTaleModel" 7 "UncutTaleModel" "width" "[I" ∈ GW := gm 1335 (by decide +kernel) (by decide +kernel)
theorem fk_9_7 : FK "UncutTaleModel" 7 9 1 := ⟨RX9, TX9, 51, rfl, by decide, iw_9, gm_1335⟩
theorem gm_1336 : Cond.fieldLink "UncutTaleModel" 13 "UncutTaleModel" "many" "[I" ∈ GW := gm 1336 (by decide +kernel) (by decide +kernel)
theorem fk_9_13 : FK "UncutTaleModel" 13 9 2 := ⟨RX9, TX9, 51, rfl, by decide, iw_9, gm_1336⟩
theorem gm_1337 : Cond.fieldLink "UncutTaleModel" 16 "UncutTaleModel" "cells" "[J" ∈ GW := gm 1337 (by decide +kernel) (by decide +kernel)
theorem fk_9_16 : FK "UncutTaleModel" 16 9 3 := ⟨RX9, TX9, 51, rfl, by decide, iw_9, gm_1337⟩
theorem gm_1951 : Cond.constantLong "UncutTaleModel" 390 99 ∈ GW := gm 1951 (by decide +kernel) (by decide +kernel)
theorem pn_X9_whyNot : plainName yX9_whyNot.cls = true := by decide +kernel
theorem hd_X9_whyNot : yX9_whyNot.cls ≠ "java/lang/invoke/MethodHandle" ∧ yX9_whyNot.cls ≠ "java/lang/invoke/VarHandle" ∧ (parseMethodDescriptor yX9_whyNot.desc).map (fun d => d.parameters.length) = some 2 := by decide +kernel
theorem gm_1950 : Cond.code yX9_whyNot cX9_whyNot 5 (some .int) ∈ GW := gm 1950 (by decide +kernel) (by decide +kernel)
theorem gm_1949 : Cond.instanceMethod yX9_whyNot ∈ GW := gm 1949 (by decide +kernel) (by decide +kernel)
theorem gm_96 : Cond.selects "UncutTaleModel" yX9_whyNot yX9_whyNot ∈ GW := gm 96 (by decide +kernel) (by decide +kernel)
theorem mk_X9_whyNot : MK yX9_whyNot cX9_whyNot 5 (some .int) := ⟨gm_1950, gm_1949, gm_96, gm_117⟩
theorem gm_1947 : Cond.methodLink "UncutTaleModel" 410 yX9_whyNot ∈ GW := gm 1947 (by decide +kernel) (by decide +kernel)
theorem gm_1375 : Cond.fieldLink "UncutTaleModel" 392 "UncutTaleModel" "seenMany" "I" ∈ GW := gm 1375 (by decide +kernel) (by decide +kernel)
theorem pk_9_392 : PK "UncutTaleModel" 392 9 41 .int := ⟨RX9, TX9, 51, tyX9, rfl, by decide, iw_9, gm_1375, tyX9_ok, nmX9, rfl, by decide +kernel⟩
theorem gm_1376 : Cond.fieldLink "UncutTaleModel" 395 "UncutTaleModel" "seenLow" "I" ∈ GW := gm 1376 (by decide +kernel) (by decide +kernel)
theorem pk_9_395 : PK "UncutTaleModel" 395 9 42 .int := ⟨RX9, TX9, 51, tyX9, rfl, by decide, iw_9, gm_1376, tyX9_ok, nmX9, rfl, by decide +kernel⟩
theorem gm_1377 : Cond.fieldLink "UncutTaleModel" 398 "UncutTaleModel" "seenHigh" "I" ∈ GW := gm 1377 (by decide +kernel) (by decide +kernel)
theorem pk_9_398 : PK "UncutTaleModel" 398 9 43 .int := ⟨RX9, TX9, 51, tyX9, rfl, by decide, iw_9, gm_1377, tyX9_ok, nmX9, rfl, by decide +kernel⟩
theorem gm_1380 : Cond.fieldLink "UncutTaleModel" 80 "UncutTaleModel" "oftenAt" "[I" ∈ GW := gm 1380 (by decide +kernel) (by decide +kernel)
theorem fk_9_80 : FK "UncutTaleModel" 80 9 46 := ⟨RX9, TX9, 51, rfl, by decide, iw_9, gm_1380⟩
theorem pn_X9_isSo : plainName yX9_isSo.cls = true := by decide +kernel
theorem hd_X9_isSo : yX9_isSo.cls ≠ "java/lang/invoke/MethodHandle" ∧ yX9_isSo.cls ≠ "java/lang/invoke/VarHandle" ∧ (parseMethodDescriptor yX9_isSo.desc).map (fun d => d.parameters.length) = some 1 := by decide +kernel
theorem gm_1959 : Cond.code yX9_isSo cX9_isSo 4 (some .boolean) ∈ GW := gm 1959 (by decide +kernel) (by decide +kernel)
theorem gm_1958 : Cond.instanceMethod yX9_isSo ∈ GW := gm 1958 (by decide +kernel) (by decide +kernel)
theorem gm_98 : Cond.selects "UncutTaleModel" yX9_isSo yX9_isSo ∈ GW := gm 98 (by decide +kernel) (by decide +kernel)
theorem mk_X9_isSo : MK yX9_isSo cX9_isSo 4 (some .boolean) := ⟨gm_1959, gm_1958, gm_98, gm_117⟩
theorem gm_1956 : Cond.methodLink "UncutTaleModel" 401 yX9_isSo ∈ GW := gm 1956 (by decide +kernel) (by decide +kernel)
theorem fk_9_392 : FK "UncutTaleModel" 392 9 41 := ⟨RX9, TX9, 51, rfl, by decide, iw_9, gm_1375⟩
theorem fk_9_395 : FK "UncutTaleModel" 395 9 42 := ⟨RX9, TX9, 51, rfl, by decide, iw_9, gm_1376⟩
theorem gm_1378 : Cond.fieldLink "UncutTaleModel" 404 "UncutTaleModel" "askBest" "I" ∈ GW := gm 1378 (by decide +kernel) (by decide +kernel)
theorem pk_9_404 : PK "UncutTaleModel" 404 9 44 .int := ⟨RX9, TX9, 51, tyX9, rfl, by decide, iw_9, gm_1378, tyX9_ok, nmX9, rfl, by decide +kernel⟩
theorem gm_1379 : Cond.fieldLink "UncutTaleModel" 407 "UncutTaleModel" "askLeaves" "I" ∈ GW := gm 1379 (by decide +kernel) (by decide +kernel)
theorem pk_9_407 : PK "UncutTaleModel" 407 9 45 .int := ⟨RX9, TX9, 51, tyX9, rfl, by decide, iw_9, gm_1379, tyX9_ok, nmX9, rfl, by decide +kernel⟩
theorem fk_9_407 : FK "UncutTaleModel" 407 9 45 := ⟨RX9, TX9, 51, rfl, by decide, iw_9, gm_1379⟩
theorem pn_X9_laysSeen : plainName yX9_laysSeen.cls = true := by decide +kernel
theorem hd_X9_laysSeen : yX9_laysSeen.cls ≠ "java/lang/invoke/MethodHandle" ∧ yX9_laysSeen.cls ≠ "java/lang/invoke/VarHandle" ∧ (parseMethodDescriptor yX9_laysSeen.desc).map (fun d => d.parameters.length) = some 2 := by decide +kernel
theorem gm_1955 : Cond.code yX9_laysSeen cX9_laysSeen 6 none ∈ GW := gm 1955 (by decide +kernel) (by decide +kernel)
theorem gm_1954 : Cond.instanceMethod yX9_laysSeen ∈ GW := gm 1954 (by decide +kernel) (by decide +kernel)
theorem gm_97 : Cond.selects "UncutTaleModel" yX9_laysSeen yX9_laysSeen ∈ GW := gm 97 (by decide +kernel) (by decide +kernel)
theorem mk_X9_laysSeen : MK yX9_laysSeen cX9_laysSeen 6 none := ⟨gm_1955, gm_1954, gm_97, gm_117⟩
theorem gm_1952 : Cond.methodLink "UncutTaleModel" 414 yX9_laysSeen ∈ GW := gm 1952 (by decide +kernel) (by decide +kernel)
theorem pn_X9_stiffs : plainName yX9_stiffs.cls = true := by decide +kernel
theorem pn_X9_low : plainName yX9_low.cls = true := by decide +kernel
theorem fk_9_398 : FK "UncutTaleModel" 398 9 43 := ⟨RX9, TX9, 51, rfl, by decide, iw_9, gm_1377⟩
theorem pn_X9_high : plainName yX9_high.cls = true := by decide +kernel
theorem fk_9_404 : FK "UncutTaleModel" 404 9 44 := ⟨RX9, TX9, 51, rfl, by decide, iw_9, gm_1378⟩
theorem pn_X9_ask : plainName yX9_ask.cls = true := by decide +kernel
theorem pn_X9_leaves : plainName yX9_leaves.cls = true := by decide +kernel
theorem pn_X9_allBy : plainName yX9_allBy.cls = true := by decide +kernel
theorem hd_X9_allBy : yX9_allBy.cls ≠ "java/lang/invoke/MethodHandle" ∧ yX9_allBy.cls ≠ "java/lang/invoke/VarHandle" ∧ (parseMethodDescriptor yX9_allBy.desc).map (fun d => d.parameters.length) = some 1 := by decide +kernel
theorem gm_1983 : Cond.code yX9_allBy cX9_allBy 2 (some .int) ∈ GW := gm 1983 (by decide +kernel) (by decide +kernel)
theorem gm_1982 : Cond.instanceMethod yX9_allBy ∈ GW := gm 1982 (by decide +kernel) (by decide +kernel)
theorem gm_99 : Cond.selects "UncutTaleModel" yX9_allBy yX9_allBy ∈ GW := gm 99 (by decide +kernel) (by decide +kernel)
theorem mk_X9_allBy : MK yX9_allBy cX9_allBy 2 (some .int) := ⟨gm_1983, gm_1982, gm_99, gm_117⟩
theorem gm_1980 : Cond.methodLink "UncutTaleModel" 417 yX9_allBy ∈ GW := gm 1980 (by decide +kernel) (by decide +kernel)
theorem pn_X9_laws : plainName yX9_laws.cls = true := by decide +kernel
theorem pn_X9_by : plainName yX9_by.cls = true := by decide +kernel
theorem pn_X9_law : plainName yX9_law.cls = true := by decide +kernel
theorem pn_X9_blunt : plainName yX9_blunt.cls = true := by decide +kernel
theorem pn_X9_slit : plainName yX9_slit.cls = true := by decide +kernel
theorem gm_1383 : Cond.fieldLink "UncutTaleModel" 426 "UncutTaleModel" "uncleBest" "I" ∈ GW := gm 1383 (by decide +kernel) (by decide +kernel)
theorem pk_9_426 : PK "UncutTaleModel" 426 9 49 .int := ⟨RX9, TX9, 51, tyX9, rfl, by decide, iw_9, gm_1383, tyX9_ok, nmX9, rfl, by decide +kernel⟩
theorem gm_1384 : Cond.fieldLink "UncutTaleModel" 429 "UncutTaleModel" "uncleMost" "I" ∈ GW := gm 1384 (by decide +kernel) (by decide +kernel)
theorem pk_9_429 : PK "UncutTaleModel" 429 9 50 .int := ⟨RX9, TX9, 51, tyX9, rfl, by decide, iw_9, gm_1384, tyX9_ok, nmX9, rfl, by decide +kernel⟩
theorem gm_1381 : Cond.fieldLink "UncutTaleModel" 420 "UncutTaleModel" "earBest" "I" ∈ GW := gm 1381 (by decide +kernel) (by decide +kernel)
theorem pk_9_420 : PK "UncutTaleModel" 420 9 47 .int := ⟨RX9, TX9, 51, tyX9, rfl, by decide, iw_9, gm_1381, tyX9_ok, nmX9, rfl, by decide +kernel⟩
theorem gm_1382 : Cond.fieldLink "UncutTaleModel" 423 "UncutTaleModel" "earLeast" "I" ∈ GW := gm 1382 (by decide +kernel) (by decide +kernel)
theorem pk_9_423 : PK "UncutTaleModel" 423 9 48 .int := ⟨RX9, TX9, 51, tyX9, rfl, by decide, iw_9, gm_1382, tyX9_ok, nmX9, rfl, by decide +kernel⟩
theorem fk_9_420 : FK "UncutTaleModel" 420 9 47 := ⟨RX9, TX9, 51, rfl, by decide, iw_9, gm_1381⟩
theorem fk_9_423 : FK "UncutTaleModel" 423 9 48 := ⟨RX9, TX9, 51, rfl, by decide, iw_9, gm_1382⟩
theorem pn_X9_laysEar : plainName yX9_laysEar.cls = true := by decide +kernel
theorem hd_X9_laysEar : yX9_laysEar.cls ≠ "java/lang/invoke/MethodHandle" ∧ yX9_laysEar.cls ≠ "java/lang/invoke/VarHandle" ∧ (parseMethodDescriptor yX9_laysEar.desc).map (fun d => d.parameters.length) = some 1 := by decide +kernel
theorem gm_2011 : Cond.code yX9_laysEar cX9_laysEar 5 none ∈ GW := gm 2011 (by decide +kernel) (by decide +kernel)
theorem gm_2010 : Cond.instanceMethod yX9_laysEar ∈ GW := gm 2010 (by decide +kernel) (by decide +kernel)
theorem gm_101 : Cond.selects "UncutTaleModel" yX9_laysEar yX9_laysEar ∈ GW := gm 101 (by decide +kernel) (by decide +kernel)
theorem mk_X9_laysEar : MK yX9_laysEar cX9_laysEar 5 none := ⟨gm_2011, gm_2010, gm_101, gm_117⟩
theorem gm_2008 : Cond.methodLink "UncutTaleModel" 432 yX9_laysEar ∈ GW := gm 2008 (by decide +kernel) (by decide +kernel)
theorem fk_9_426 : FK "UncutTaleModel" 426 9 49 := ⟨RX9, TX9, 51, rfl, by decide, iw_9, gm_1383⟩
theorem fk_9_429 : FK "UncutTaleModel" 429 9 50 := ⟨RX9, TX9, 51, rfl, by decide, iw_9, gm_1384⟩
theorem pn_X9_laysUncle : plainName yX9_laysUncle.cls = true := by decide +kernel
theorem hd_X9_laysUncle : yX9_laysUncle.cls ≠ "java/lang/invoke/MethodHandle" ∧ yX9_laysUncle.cls ≠ "java/lang/invoke/VarHandle" ∧ (parseMethodDescriptor yX9_laysUncle.desc).map (fun d => d.parameters.length) = some 0 := by decide +kernel
theorem gm_2007 : Cond.code yX9_laysUncle cX9_laysUncle 2 none ∈ GW := gm 2007 (by decide +kernel) (by decide +kernel)
theorem gm_2006 : Cond.instanceMethod yX9_laysUncle ∈ GW := gm 2006 (by decide +kernel) (by decide +kernel)
theorem gm_100 : Cond.selects "UncutTaleModel" yX9_laysUncle yX9_laysUncle ∈ GW := gm 100 (by decide +kernel) (by decide +kernel)
theorem mk_X9_laysUncle : MK yX9_laysUncle cX9_laysUncle 2 none := ⟨gm_2007, gm_2006, gm_100, gm_117⟩
theorem gm_2004 : Cond.methodLink "UncutTaleModel" 435 yX9_laysUncle ∈ GW := gm 2004 (by decide +kernel) (by decide +kernel)
theorem pn_X9_uncle : plainName yX9_uncle.cls = true := by decide +kernel
theorem pn_X9_opens : plainName yX9_opens.cls = true := by decide +kernel
theorem pn_X9_replies : plainName yX9_replies.cls = true := by decide +kernel
theorem pn_X9_areTwo : plainName yX9_areTwo.cls = true := by decide +kernel
theorem hd_X9_areTwo : yX9_areTwo.cls ≠ "java/lang/invoke/MethodHandle" ∧ yX9_areTwo.cls ≠ "java/lang/invoke/VarHandle" ∧ (parseMethodDescriptor yX9_areTwo.desc).map (fun d => d.parameters.length) = some 2 := by decide +kernel
theorem gm_2027 : Cond.code yX9_areTwo cX9_areTwo 3 (some .boolean) ∈ GW := gm 2027 (by decide +kernel) (by decide +kernel)
theorem gm_2026 : Cond.instanceMethod yX9_areTwo ∈ GW := gm 2026 (by decide +kernel) (by decide +kernel)
theorem gm_102 : Cond.selects "UncutTaleModel" yX9_areTwo yX9_areTwo ∈ GW := gm 102 (by decide +kernel) (by decide +kernel)
theorem mk_X9_areTwo : MK yX9_areTwo cX9_areTwo 3 (some .boolean) := ⟨gm_2027, gm_2026, gm_102, gm_117⟩
theorem gm_2024 : Cond.methodLink "UncutTaleModel" 438 yX9_areTwo ∈ GW := gm 2024 (by decide +kernel) (by decide +kernel)
theorem pn_X9_getsBy : plainName yX9_getsBy.cls = true := by decide +kernel
theorem hd_X9_getsBy : yX9_getsBy.cls ≠ "java/lang/invoke/MethodHandle" ∧ yX9_getsBy.cls ≠ "java/lang/invoke/VarHandle" ∧ (parseMethodDescriptor yX9_getsBy.desc).map (fun d => d.parameters.length) = some 5 := by decide +kernel
theorem gm_2031 : Cond.code yX9_getsBy cX9_getsBy 6 (some .int) ∈ GW := gm 2031 (by decide +kernel) (by decide +kernel)
theorem gm_2030 : Cond.instanceMethod yX9_getsBy ∈ GW := gm 2030 (by decide +kernel) (by decide +kernel)
theorem gm_103 : Cond.selects "UncutTaleModel" yX9_getsBy yX9_getsBy ∈ GW := gm 103 (by decide +kernel) (by decide +kernel)
theorem mk_X9_getsBy : MK yX9_getsBy cX9_getsBy 6 (some .int) := ⟨gm_2031, gm_2030, gm_103, gm_117⟩
theorem gm_2028 : Cond.methodLink "UncutTaleModel" 441 yX9_getsBy ∈ GW := gm 2028 (by decide +kernel) (by decide +kernel)
theorem pn_X9_rests : plainName yX9_rests.cls = true := by decide +kernel
theorem pn_X9_gets : plainName yX9_gets.cls = true := by decide +kernel
theorem gm_2044 : Cond.constantLong "UncutTaleModel" 448 10 ∈ GW := gm 2044 (by decide +kernel) (by decide +kernel)
theorem pn_X9_power : plainName yX9_power.cls = true := by decide +kernel
theorem hd_X9_power : yX9_power.cls ≠ "java/lang/invoke/MethodHandle" ∧ yX9_power.cls ≠ "java/lang/invoke/VarHandle" ∧ (parseMethodDescriptor yX9_power.desc).map (fun d => d.parameters.length) = some 2 := by decide +kernel
theorem gm_2047 : Cond.code yX9_power cX9_power 3 (some .long) ∈ GW := gm 2047 (by decide +kernel) (by decide +kernel)
theorem gm_2046 : Cond.static yX9_power ∈ GW := gm 2046 (by decide +kernel) (by decide +kernel)
theorem sk_X9_power : SK yX9_power cX9_power 3 (some .long) := ⟨gm_2047, gm_2046, gm_117⟩
theorem gm_2045 : Cond.methodLink "UncutTaleModel" 445 yX9_power ∈ GW := gm 2045 (by decide +kernel) (by decide +kernel)
theorem pn_X9_weightOf : plainName yX9_weightOf.cls = true := by decide +kernel
theorem hd_X9_weightOf : yX9_weightOf.cls ≠ "java/lang/invoke/MethodHandle" ∧ yX9_weightOf.cls ≠ "java/lang/invoke/VarHandle" ∧ (parseMethodDescriptor yX9_weightOf.desc).map (fun d => d.parameters.length) = some 1 := by decide +kernel
