theorem iw_8 : ∀ w ∈ u_ws RX8 TX8 15, w ∈ GW := by
  have h1 : ∀ w ∈ u_ws RX8 TX8 15, w ∈ lw_tbl ∧ goodWord w = true := by decide +kernel
  exact fun w h => List.mem_filter.mpr (h1 w h)
theorem gm_446 : Cond.fieldLink "UncutTale" 32 "UncutTale" "story" "LUncutTale$Story;" ∈ GW := gm 446 (by decide +kernel) (by decide +kernel)
theorem fk_8_32 : FK "UncutTale" 32 8 3 := ⟨RX8, TX8, 15, rfl, by decide, iw_8, gm_446⟩
theorem iw_6 : ∀ w ∈ u_ws RX6 TX6 18, w ∈ GW := by
  have h1 : ∀ w ∈ u_ws RX6 TX6 18, w ∈ lw_tbl ∧ goodWord w = true := by decide +kernel
  exact fun w h => List.mem_filter.mpr (h1 w h)
theorem gm_200 : Cond.fieldLink "UncutTale$Story" 52 "UncutTale$Story" "parts" "I" ∈ GW := gm 200 (by decide +kernel) (by decide +kernel)
theorem fk_6_52 : FK "UncutTale$Story" 52 6 13 := ⟨RX6, TX6, 18, rfl, by decide, iw_6, gm_200⟩
theorem pn_X6_hasPart : plainName yX6_hasPart.cls = true := by decide +kernel
theorem gm_669 : Cond.methodLink "UncutTale" 127 yX6_hasPart ∈ GW := gm 669 (by decide +kernel) (by decide +kernel)
theorem hd_X6_hasPart : yX6_hasPart.cls ≠ "java/lang/invoke/MethodHandle" ∧ yX6_hasPart.cls ≠ "java/lang/invoke/VarHandle" ∧ (parseMethodDescriptor yX6_hasPart.desc).map (fun d => d.parameters.length) = some 1 := by decide +kernel
theorem gm_672 : Cond.code yX6_hasPart cX6_hasPart 2 (some .boolean) ∈ GW := gm 672 (by decide +kernel) (by decide +kernel)
theorem gm_670 : Cond.instanceMethod yX6_hasPart ∈ GW := gm 670 (by decide +kernel) (by decide +kernel)
theorem gm_671 : Cond.selects "UncutTale$Story" yX6_hasPart yX6_hasPart ∈ GW := gm 671 (by decide +kernel) (by decide +kernel)
theorem gm_110 : Cond.initialized "UncutTale$Story" ∈ GW := gm 110 (by decide +kernel) (by decide +kernel)
theorem mk_X6_hasPart : MK yX6_hasPart cX6_hasPart 2 (some .boolean) := ⟨gm_672, gm_670, gm_671, gm_110⟩
theorem pn_X8_part : plainName yX8_part.cls = true := by decide +kernel
theorem pn_X8_near : plainName yX8_near.cls = true := by decide +kernel
theorem pn_X8_far : plainName yX8_far.cls = true := by decide +kernel
theorem pn_X8_hasPartAndYear : plainName yX8_hasPartAndYear.cls = true := by decide +kernel
theorem gm_727 : Cond.methodLink "UncutTale" 186 yX8_hasPartAndYear ∈ GW := gm 727 (by decide +kernel) (by decide +kernel)
theorem hd_X8_hasPartAndYear : yX8_hasPartAndYear.cls ≠ "java/lang/invoke/MethodHandle" ∧ yX8_hasPartAndYear.cls ≠ "java/lang/invoke/VarHandle" ∧ (parseMethodDescriptor yX8_hasPartAndYear.desc).map (fun d => d.parameters.length) = some 2 := by decide +kernel
theorem gm_730 : Cond.code yX8_hasPartAndYear cX8_hasPartAndYear 3 (some .boolean) ∈ GW := gm 730 (by decide +kernel) (by decide +kernel)
theorem gm_729 : Cond.instanceMethod yX8_hasPartAndYear ∈ GW := gm 729 (by decide +kernel) (by decide +kernel)
theorem gm_13 : Cond.selects "UncutTale" yX8_hasPartAndYear yX8_hasPartAndYear ∈ GW := gm 13 (by decide +kernel) (by decide +kernel)
theorem gm_108 : Cond.initialized "UncutTale" ∈ GW := gm 108 (by decide +kernel) (by decide +kernel)
theorem mk_X8_hasPartAndYear : MK yX8_hasPartAndYear cX8_hasPartAndYear 3 (some .boolean) := ⟨gm_730, gm_729, gm_13, gm_108⟩
theorem pn_X8_stiff : plainName yX8_stiff.cls = true := by decide +kernel
theorem gm_218 : Cond.fieldLink "UncutTale$Story" 64 "UncutTale$Story" "lines" "I" ∈ GW := gm 218 (by decide +kernel) (by decide +kernel)
theorem fk_6_64 : FK "UncutTale$Story" 64 6 17 := ⟨RX6, TX6, 18, rfl, by decide, iw_6, gm_218⟩
theorem pn_X6_isTold : plainName yX6_isTold.cls = true := by decide +kernel
theorem gm_735 : Cond.methodLink "UncutTale$Story" 73 yX6_isTold ∈ GW := gm 735 (by decide +kernel) (by decide +kernel)
theorem hd_X6_isTold : yX6_isTold.cls ≠ "java/lang/invoke/MethodHandle" ∧ yX6_isTold.cls ≠ "java/lang/invoke/VarHandle" ∧ (parseMethodDescriptor yX6_isTold.desc).map (fun d => d.parameters.length) = some 0 := by decide +kernel
theorem gm_701 : Cond.code yX6_isTold cX6_isTold 1 (some .boolean) ∈ GW := gm 701 (by decide +kernel) (by decide +kernel)
theorem gm_699 : Cond.instanceMethod yX6_isTold ∈ GW := gm 699 (by decide +kernel) (by decide +kernel)
theorem gm_700 : Cond.selects "UncutTale$Story" yX6_isTold yX6_isTold ∈ GW := gm 700 (by decide +kernel) (by decide +kernel)
theorem mk_X6_isTold : MK yX6_isTold cX6_isTold 1 (some .boolean) := ⟨gm_701, gm_699, gm_700, gm_110⟩
theorem pn_X6_hasYear : plainName yX6_hasYear.cls = true := by decide +kernel
theorem gm_731 : Cond.methodLink "UncutTale" 196 yX6_hasYear ∈ GW := gm 731 (by decide +kernel) (by decide +kernel)
theorem hd_X6_hasYear : yX6_hasYear.cls ≠ "java/lang/invoke/MethodHandle" ∧ yX6_hasYear.cls ≠ "java/lang/invoke/VarHandle" ∧ (parseMethodDescriptor yX6_hasYear.desc).map (fun d => d.parameters.length) = some 1 := by decide +kernel
theorem gm_734 : Cond.code yX6_hasYear cX6_hasYear 2 (some .boolean) ∈ GW := gm 734 (by decide +kernel) (by decide +kernel)
theorem gm_732 : Cond.instanceMethod yX6_hasYear ∈ GW := gm 732 (by decide +kernel) (by decide +kernel)
theorem gm_733 : Cond.selects "UncutTale$Story" yX6_hasYear yX6_hasYear ∈ GW := gm 733 (by decide +kernel) (by decide +kernel)
theorem mk_X6_hasYear : MK yX6_hasYear cX6_hasYear 2 (some .boolean) := ⟨gm_734, gm_732, gm_733, gm_110⟩
theorem pn_X8_open : plainName yX8_open.cls = true := by decide +kernel
theorem pn_X8_when : plainName yX8_when.cls = true := by decide +kernel
theorem pn_X8_how : plainName yX8_how.cls = true := by decide +kernel
theorem pn_X8_read : plainName yX8_read.cls = true := by decide +kernel
theorem gm_186 : Cond.fieldLink "UncutTale$Story" 42 "UncutTale$Story" "years" "I" ∈ GW := gm 186 (by decide +kernel) (by decide +kernel)
theorem fk_6_42 : FK "UncutTale$Story" 42 6 10 := ⟨RX6, TX6, 18, rfl, by decide, iw_6, gm_186⟩
theorem pn_X6_hasWorkingYear : plainName yX6_hasWorkingYear.cls = true := by decide +kernel
theorem gm_827 : Cond.methodLink "UncutTale" 211 yX6_hasWorkingYear ∈ GW := gm 827 (by decide +kernel) (by decide +kernel)
theorem hd_X6_hasWorkingYear : yX6_hasWorkingYear.cls ≠ "java/lang/invoke/MethodHandle" ∧ yX6_hasWorkingYear.cls ≠ "java/lang/invoke/VarHandle" ∧ (parseMethodDescriptor yX6_hasWorkingYear.desc).map (fun d => d.parameters.length) = some 1 := by decide +kernel
theorem gm_830 : Cond.code yX6_hasWorkingYear cX6_hasWorkingYear 2 (some .boolean) ∈ GW := gm 830 (by decide +kernel) (by decide +kernel)
theorem gm_828 : Cond.instanceMethod yX6_hasWorkingYear ∈ GW := gm 828 (by decide +kernel) (by decide +kernel)
theorem gm_829 : Cond.selects "UncutTale$Story" yX6_hasWorkingYear yX6_hasWorkingYear ∈ GW := gm 829 (by decide +kernel) (by decide +kernel)
theorem mk_X6_hasWorkingYear : MK yX6_hasWorkingYear cX6_hasWorkingYear 2 (some .boolean) := ⟨gm_830, gm_828, gm_829, gm_110⟩
theorem pn_X8_reads : plainName yX8_reads.cls = true := by decide +kernel
theorem gm_698 : Cond.methodLink "UncutTale" 153 yX6_isTold ∈ GW := gm 698 (by decide +kernel) (by decide +kernel)
theorem pn_X8_all : plainName yX8_all.cls = true := by decide +kernel
theorem pn_X8_keeps : plainName yX8_keeps.cls = true := by decide +kernel
theorem pn_X8_waits : plainName yX8_waits.cls = true := by decide +kernel
theorem pn_X8_next : plainName yX8_next.cls = true := by decide +kernel
theorem pn_X8_dull : plainName yX8_dull.cls = true := by decide +kernel
theorem pn_X8_dies : plainName yX8_dies.cls = true := by decide +kernel
theorem pn_X8_ages : plainName yX8_ages.cls = true := by decide +kernel
theorem pn_X8_cut : plainName yX8_cut.cls = true := by decide +kernel
theorem pn_X8_sharp : plainName yX8_sharp.cls = true := by decide +kernel
theorem pn_X8_uncut : plainName yX8_uncut.cls = true := by decide +kernel
theorem pn_X8_done : plainName yX8_done.cls = true := by decide +kernel
theorem pn_X8_rush : plainName yX8_rush.cls = true := by decide +kernel
theorem pn_X8_with : plainName yX8_with.cls = true := by decide +kernel
theorem pn_X8_charms : plainName yX8_charms.cls = true := by decide +kernel
theorem pn_X8_best : plainName yX8_best.cls = true := by decide +kernel
theorem pn_X8_peak : plainName yX8_peak.cls = true := by decide +kernel
theorem pn_X8_first : plainName yX8_first.cls = true := by decide +kernel
theorem pn_X8_quiet : plainName yX8_quiet.cls = true := by decide +kernel
theorem pn_X8_lone : plainName yX8_lone.cls = true := by decide +kernel
theorem pn_X8_stalest : plainName yX8_stalest.cls = true := by decide +kernel
theorem pn_X8_pieces : plainName yX8_pieces.cls = true := by decide +kernel
theorem pn_X8_lost : plainName yX8_lost.cls = true := by decide +kernel
theorem pn_X8_knives : plainName yX8_knives.cls = true := by decide +kernel
theorem pn_X8_idle : plainName yX8_idle.cls = true := by decide +kernel
theorem pn_X8_few : plainName yX8_few.cls = true := by decide +kernel
theorem pn_X8_fews : plainName yX8_fews.cls = true := by decide +kernel
theorem pn_X8_worth : plainName yX8_worth.cls = true := by decide +kernel
theorem gm_986 : Cond.constant "UncutTale" 266 (-1000000) ∈ GW := gm 986 (by decide +kernel) (by decide +kernel)
theorem pn_X8_share : plainName yX8_share.cls = true := by decide +kernel
theorem pn_X8_hasPlan : plainName yX8_hasPlan.cls = true := by decide +kernel
theorem gm_1008 : Cond.methodLink "UncutTale" 274 yX8_hasPlan ∈ GW := gm 1008 (by decide +kernel) (by decide +kernel)
theorem hd_X8_hasPlan : yX8_hasPlan.cls ≠ "java/lang/invoke/MethodHandle" ∧ yX8_hasPlan.cls ≠ "java/lang/invoke/VarHandle" ∧ (parseMethodDescriptor yX8_hasPlan.desc).map (fun d => d.parameters.length) = some 1 := by decide +kernel
theorem gm_1011 : Cond.code yX8_hasPlan cX8_hasPlan 2 (some .boolean) ∈ GW := gm 1011 (by decide +kernel) (by decide +kernel)
theorem gm_1010 : Cond.instanceMethod yX8_hasPlan ∈ GW := gm 1010 (by decide +kernel) (by decide +kernel)
theorem gm_23 : Cond.selects "UncutTale" yX8_hasPlan yX8_hasPlan ∈ GW := gm 23 (by decide +kernel) (by decide +kernel)
theorem mk_X8_hasPlan : MK yX8_hasPlan cX8_hasPlan 2 (some .boolean) := ⟨gm_1011, gm_1010, gm_23, gm_108⟩
theorem pn_X8_plan : plainName yX8_plan.cls = true := by decide +kernel
theorem pn_X8_planned : plainName yX8_planned.cls = true := by decide +kernel
theorem pn_X8_plans : plainName yX8_plans.cls = true := by decide +kernel
theorem pn_X8_refuseSeenOf : plainName yX8_refuseSeenOf.cls = true := by decide +kernel
theorem gm_1048 : Cond.methodLink "UncutTale" 289 yX8_refuseSeenOf ∈ GW := gm 1048 (by decide +kernel) (by decide +kernel)
theorem hd_X8_refuseSeenOf : yX8_refuseSeenOf.cls ≠ "java/lang/invoke/MethodHandle" ∧ yX8_refuseSeenOf.cls ≠ "java/lang/invoke/VarHandle" ∧ (parseMethodDescriptor yX8_refuseSeenOf.desc).map (fun d => d.parameters.length) = some 2 := by decide +kernel
theorem gm_1051 : Cond.code yX8_refuseSeenOf cX8_refuseSeenOf 3 (some .int) ∈ GW := gm 1051 (by decide +kernel) (by decide +kernel)
theorem gm_1050 : Cond.instanceMethod yX8_refuseSeenOf ∈ GW := gm 1050 (by decide +kernel) (by decide +kernel)
theorem gm_27 : Cond.selects "UncutTale" yX8_refuseSeenOf yX8_refuseSeenOf ∈ GW := gm 27 (by decide +kernel) (by decide +kernel)
theorem mk_X8_refuseSeenOf : MK yX8_refuseSeenOf cX8_refuseSeenOf 3 (some .int) := ⟨gm_1051, gm_1050, gm_27, gm_108⟩
theorem pn_X8_stiffs : plainName yX8_stiffs.cls = true := by decide +kernel
theorem pn_X8_low : plainName yX8_low.cls = true := by decide +kernel
theorem pn_X8_high : plainName yX8_high.cls = true := by decide +kernel
theorem pn_X8_ask : plainName yX8_ask.cls = true := by decide +kernel
theorem pn_X8_leaves : plainName yX8_leaves.cls = true := by decide +kernel
theorem pn_X8_laws : plainName yX8_laws.cls = true := by decide +kernel
theorem pn_X8_by : plainName yX8_by.cls = true := by decide +kernel
theorem pn_X8_law : plainName yX8_law.cls = true := by decide +kernel
theorem pn_X8_blunt : plainName yX8_blunt.cls = true := by decide +kernel
theorem pn_X8_slit : plainName yX8_slit.cls = true := by decide +kernel
theorem gm_206 : Cond.fieldLink "UncutTale" 156 "UncutTale$Story" "parts" "I" ∈ GW := gm 206 (by decide +kernel) (by decide +kernel)
theorem fk_8_156 : FK "UncutTale" 156 6 13 := ⟨RX6, TX6, 18, rfl, by decide, iw_6, gm_206⟩
theorem pn_X8_uncle : plainName yX8_uncle.cls = true := by decide +kernel
theorem pn_X8_opens : plainName yX8_opens.cls = true := by decide +kernel
theorem pn_X8_replies : plainName yX8_replies.cls = true := by decide +kernel
theorem pn_X8_isPair : plainName yX8_isPair.cls = true := by decide +kernel
theorem gm_1180 : Cond.methodLink "UncutTale" 338 yX8_isPair ∈ GW := gm 1180 (by decide +kernel) (by decide +kernel)
theorem hd_X8_isPair : yX8_isPair.cls ≠ "java/lang/invoke/MethodHandle" ∧ yX8_isPair.cls ≠ "java/lang/invoke/VarHandle" ∧ (parseMethodDescriptor yX8_isPair.desc).map (fun d => d.parameters.length) = some 2 := by decide +kernel
theorem gm_1183 : Cond.code yX8_isPair cX8_isPair 3 (some .boolean) ∈ GW := gm 1183 (by decide +kernel) (by decide +kernel)
theorem gm_1182 : Cond.instanceMethod yX8_isPair ∈ GW := gm 1182 (by decide +kernel) (by decide +kernel)
theorem gm_36 : Cond.selects "UncutTale" yX8_isPair yX8_isPair ∈ GW := gm 36 (by decide +kernel) (by decide +kernel)
theorem mk_X8_isPair : MK yX8_isPair cX8_isPair 3 (some .boolean) := ⟨gm_1183, gm_1182, gm_36, gm_108⟩
theorem pn_X8_rests : plainName yX8_rests.cls = true := by decide +kernel
theorem pn_X8_gets : plainName yX8_gets.cls = true := by decide +kernel
theorem pn_X8_chance : plainName yX8_chance.cls = true := by decide +kernel
theorem gm_1228 : Cond.constantLong "UncutTale" 359 (-2) ∈ GW := gm 1228 (by decide +kernel) (by decide +kernel)
theorem pn_X8_mean : plainName yX8_mean.cls = true := by decide +kernel
theorem pn_X8_refuseAct : plainName yX8_refuseAct.cls = true := by decide +kernel
theorem gm_1254 : Cond.methodLink "UncutTale" 371 yX8_refuseAct ∈ GW := gm 1254 (by decide +kernel) (by decide +kernel)
theorem hd_X8_refuseAct : yX8_refuseAct.cls ≠ "java/lang/invoke/MethodHandle" ∧ yX8_refuseAct.cls ≠ "java/lang/invoke/VarHandle" ∧ (parseMethodDescriptor yX8_refuseAct.desc).map (fun d => d.parameters.length) = some 2 := by decide +kernel
theorem gm_1257 : Cond.code yX8_refuseAct cX8_refuseAct 3 (some .int) ∈ GW := gm 1257 (by decide +kernel) (by decide +kernel)
theorem gm_1256 : Cond.instanceMethod yX8_refuseAct ∈ GW := gm 1256 (by decide +kernel) (by decide +kernel)
theorem gm_42 : Cond.selects "UncutTale" yX8_refuseAct yX8_refuseAct ∈ GW := gm 42 (by decide +kernel) (by decide +kernel)
theorem mk_X8_refuseAct : MK yX8_refuseAct cX8_refuseAct 3 (some .int) := ⟨gm_1257, gm_1256, gm_42, gm_108⟩
theorem pn_X8_knife : plainName yX8_knife.cls = true := by decide +kernel
theorem pn_X8_air : plainName yX8_air.cls = true := by decide +kernel
theorem pn_X8_undo : plainName yX8_undo.cls = true := by decide +kernel
theorem pn_X8_anew : plainName yX8_anew.cls = true := by decide +kernel
theorem pn_X8_drawn : plainName yX8_drawn.cls = true := by decide +kernel
theorem pn_X8_luck : plainName yX8_luck.cls = true := by decide +kernel
theorem pn_X8_rate : plainName yX8_rate.cls = true := by decide +kernel
theorem gm_445 : Cond.fieldLink "UncutTale" 28 "UncutTale" "parser" "LUncutTale$Parser;" ∈ GW := gm 445 (by decide +kernel) (by decide +kernel)
theorem fk_8_28 : FK "UncutTale" 28 8 2 := ⟨RX8, TX8, 15, rfl, by decide, iw_8, gm_445⟩
theorem iw_3 : ∀ w ∈ u_ws RX3 TX3 8, w ∈ GW := by
  have h1 : ∀ w ∈ u_ws RX3 TX3 8, w ∈ lw_tbl ∧ goodWord w = true := by decide +kernel
  exact fun w h => List.mem_filter.mpr (h1 w h)
theorem gm_272 : Cond.fieldLink "UncutTale" 121 "UncutTale$Parser" "fault" "I" ∈ GW := gm 272 (by decide +kernel) (by decide +kernel)
theorem fk_8_121 : FK "UncutTale" 121 3 6 := ⟨RX3, TX3, 8, rfl, by decide, iw_3, gm_272⟩
theorem gm_274 : Cond.fieldLink "UncutTale" 124 "UncutTale$Parser" "faultPlace" "I" ∈ GW := gm 274 (by decide +kernel) (by decide +kernel)
theorem fk_8_124 : FK "UncutTale" 124 3 7 := ⟨RX3, TX3, 8, rfl, by decide, iw_3, gm_274⟩
theorem pn_X8_fault : plainName yX8_fault.cls = true := by decide +kernel
theorem gm_443 : Cond.fieldLink "UncutTale" 10 "UncutTale" "tape" "LUncutTale$Tape;" ∈ GW := gm 443 (by decide +kernel) (by decide +kernel)
theorem fk_8_10 : FK "UncutTale" 10 8 0 := ⟨RX8, TX8, 15, rfl, by decide, iw_8, gm_443⟩
theorem iw_7 : ∀ w ∈ u_ws RX7 TX7 2, w ∈ GW := by
  have h1 : ∀ w ∈ u_ws RX7 TX7 2, w ∈ lw_tbl ∧ goodWord w = true := by decide +kernel
  exact fun w h => List.mem_filter.mpr (h1 w h)
theorem gm_142 : Cond.fieldLink "UncutTale" 106 "UncutTale$Tape" "length" "I" ∈ GW := gm 142 (by decide +kernel) (by decide +kernel)
theorem fk_8_106 : FK "UncutTale" 106 7 1 := ⟨RX7, TX7, 2, rfl, by decide, iw_7, gm_142⟩
theorem pk_8_106 : PK "UncutTale" 106 7 1 .int := ⟨RX7, TX7, 2, tyX7, rfl, by decide, iw_7, gm_142, tyX7_ok, nmX7, rfl, by decide +kernel⟩
theorem pn_X8_end : plainName yX8_end.cls = true := by decide +kernel
theorem gm_191 : Cond.fieldLink "UncutTale" 168 "UncutTale$Story" "years" "I" ∈ GW := gm 191 (by decide +kernel) (by decide +kernel)
theorem fk_8_168 : FK "UncutTale" 168 6 10 := ⟨RX6, TX6, 18, rfl, by decide, iw_6, gm_191⟩
theorem gm_195 : Cond.fieldLink "UncutTale" 171 "UncutTale$Story" "law" "I" ∈ GW := gm 195 (by decide +kernel) (by decide +kernel)
theorem fk_8_171 : FK "UncutTale" 171 6 11 := ⟨RX6, TX6, 18, rfl, by decide, iw_6, gm_195⟩
theorem gm_199 : Cond.fieldLink "UncutTale" 174 "UncutTale$Story" "odds" "I" ∈ GW := gm 199 (by decide +kernel) (by decide +kernel)
theorem fk_8_174 : FK "UncutTale" 174 6 12 := ⟨RX6, TX6, 18, rfl, by decide, iw_6, gm_199⟩
theorem gm_209 : Cond.fieldLink "UncutTale" 176 "UncutTale$Story" "folds" "I" ∈ GW := gm 209 (by decide +kernel) (by decide +kernel)
theorem fk_8_176 : FK "UncutTale" 176 6 14 := ⟨RX6, TX6, 18, rfl, by decide, iw_6, gm_209⟩
theorem gm_214 : Cond.fieldLink "UncutTale" 162 "UncutTale$Story" "knives" "I" ∈ GW := gm 214 (by decide +kernel) (by decide +kernel)
theorem fk_8_162 : FK "UncutTale" 162 6 15 := ⟨RX6, TX6, 18, rfl, by decide, iw_6, gm_214⟩
theorem gm_217 : Cond.fieldLink "UncutTale" 179 "UncutTale$Story" "acts" "I" ∈ GW := gm 217 (by decide +kernel) (by decide +kernel)
theorem fk_8_179 : FK "UncutTale" 179 6 16 := ⟨RX6, TX6, 18, rfl, by decide, iw_6, gm_217⟩
theorem gm_220 : Cond.fieldLink "UncutTale" 118 "UncutTale$Story" "lines" "I" ∈ GW := gm 220 (by decide +kernel) (by decide +kernel)
theorem fk_8_118 : FK "UncutTale" 118 6 17 := ⟨RX6, TX6, 18, rfl, by decide, iw_6, gm_220⟩
theorem gm_449 : Cond.fieldLink "UncutTale" 46 "UncutTale" "slots" "LUncutTale$Slots;" ∈ GW := gm 449 (by decide +kernel) (by decide +kernel)
theorem fk_8_46 : FK "UncutTale" 46 8 6 := ⟨RX8, TX8, 15, rfl, by decide, iw_8, gm_449⟩
theorem iw_5 : ∀ w ∈ u_ws RX5 TX5 3, w ∈ GW := by
  have h1 : ∀ w ∈ u_ws RX5 TX5 3, w ∈ lw_tbl ∧ goodWord w = true := by decide +kernel
  exact fun w h => List.mem_filter.mpr (h1 w h)
theorem gm_299 : Cond.fieldLink "UncutTale$Slots" 9 "UncutTale$Slots" "widths" "[I" ∈ GW := gm 299 (by decide +kernel) (by decide +kernel)
theorem fk_5_9 : FK "UncutTale$Slots" 9 5 0 := ⟨RX5, TX5, 3, rfl, by decide, iw_5, gm_299⟩
theorem pn_X5_isBare : plainName yX5_isBare.cls = true := by decide +kernel
theorem gm_719 : Cond.methodLink "UncutTale$Slots" 22 yX5_isBare ∈ GW := gm 719 (by decide +kernel) (by decide +kernel)
theorem hd_X5_isBare : yX5_isBare.cls ≠ "java/lang/invoke/MethodHandle" ∧ yX5_isBare.cls ≠ "java/lang/invoke/VarHandle" ∧ (parseMethodDescriptor yX5_isBare.desc).map (fun d => d.parameters.length) = some 1 := by decide +kernel
theorem gm_722 : Cond.code yX5_isBare cX5_isBare 2 (some .boolean) ∈ GW := gm 722 (by decide +kernel) (by decide +kernel)
theorem gm_720 : Cond.instanceMethod yX5_isBare ∈ GW := gm 720 (by decide +kernel) (by decide +kernel)
theorem gm_721 : Cond.selects "UncutTale$Slots" yX5_isBare yX5_isBare ∈ GW := gm 721 (by decide +kernel) (by decide +kernel)
theorem gm_112 : Cond.initialized "UncutTale$Slots" ∈ GW := gm 112 (by decide +kernel) (by decide +kernel)
theorem mk_X5_isBare : MK yX5_isBare cX5_isBare 2 (some .boolean) := ⟨gm_722, gm_720, gm_721, gm_112⟩
theorem pn_X5_filled : plainName yX5_filled.cls = true := by decide +kernel
theorem gm_715 : Cond.methodLink "UncutTale" 182 yX5_filled ∈ GW := gm 715 (by decide +kernel) (by decide +kernel)
theorem hd_X5_filled : yX5_filled.cls ≠ "java/lang/invoke/MethodHandle" ∧ yX5_filled.cls ≠ "java/lang/invoke/VarHandle" ∧ (parseMethodDescriptor yX5_filled.desc).map (fun d => d.parameters.length) = some 0 := by decide +kernel
theorem gm_718 : Cond.code yX5_filled cX5_filled 3 (some .int) ∈ GW := gm 718 (by decide +kernel) (by decide +kernel)
theorem gm_716 : Cond.instanceMethod yX5_filled ∈ GW := gm 716 (by decide +kernel) (by decide +kernel)
theorem gm_717 : Cond.selects "UncutTale$Slots" yX5_filled yX5_filled ∈ GW := gm 717 (by decide +kernel) (by decide +kernel)
theorem mk_X5_filled : MK yX5_filled cX5_filled 3 (some .int) := ⟨gm_718, gm_716, gm_717, gm_112⟩
theorem pn_X8_count : plainName yX8_count.cls = true := by decide +kernel
theorem gm_447 : Cond.fieldLink "UncutTale" 35 "UncutTale" "images" "[LUncutTale$Story;" ∈ GW := gm 447 (by decide +kernel) (by decide +kernel)
theorem fk_8_35 : FK "UncutTale" 35 8 4 := ⟨RX8, TX8, 15, rfl, by decide, iw_8, gm_447⟩
theorem pk_6_42 : PK "UncutTale$Story" 42 6 10 .int := ⟨RX6, TX6, 18, tyX6, rfl, by decide, iw_6, gm_186, tyX6_ok, nmX6, rfl, by decide +kernel⟩
theorem gm_193 : Cond.fieldLink "UncutTale$Story" 46 "UncutTale$Story" "law" "I" ∈ GW := gm 193 (by decide +kernel) (by decide +kernel)
theorem fk_6_46 : FK "UncutTale$Story" 46 6 11 := ⟨RX6, TX6, 18, rfl, by decide, iw_6, gm_193⟩
theorem pk_6_46 : PK "UncutTale$Story" 46 6 11 .int := ⟨RX6, TX6, 18, tyX6, rfl, by decide, iw_6, gm_193, tyX6_ok, nmX6, rfl, by decide +kernel⟩
theorem gm_196 : Cond.fieldLink "UncutTale$Story" 49 "UncutTale$Story" "odds" "I" ∈ GW := gm 196 (by decide +kernel) (by decide +kernel)
theorem fk_6_49 : FK "UncutTale$Story" 49 6 12 := ⟨RX6, TX6, 18, rfl, by decide, iw_6, gm_196⟩
theorem pk_6_49 : PK "UncutTale$Story" 49 6 12 .int := ⟨RX6, TX6, 18, tyX6, rfl, by decide, iw_6, gm_196, tyX6_ok, nmX6, rfl, by decide +kernel⟩
theorem pk_6_52 : PK "UncutTale$Story" 52 6 13 .int := ⟨RX6, TX6, 18, tyX6, rfl, by decide, iw_6, gm_200, tyX6_ok, nmX6, rfl, by decide +kernel⟩
theorem gm_207 : Cond.fieldLink "UncutTale$Story" 55 "UncutTale$Story" "folds" "I" ∈ GW := gm 207 (by decide +kernel) (by decide +kernel)
theorem fk_6_55 : FK "UncutTale$Story" 55 6 14 := ⟨RX6, TX6, 18, rfl, by decide, iw_6, gm_207⟩
theorem pk_6_55 : PK "UncutTale$Story" 55 6 14 .int := ⟨RX6, TX6, 18, tyX6, rfl, by decide, iw_6, gm_207, tyX6_ok, nmX6, rfl, by decide +kernel⟩
theorem gm_210 : Cond.fieldLink "UncutTale$Story" 58 "UncutTale$Story" "knives" "I" ∈ GW := gm 210 (by decide +kernel) (by decide +kernel)
theorem fk_6_58 : FK "UncutTale$Story" 58 6 15 := ⟨RX6, TX6, 18, rfl, by decide, iw_6, gm_210⟩
theorem pk_6_58 : PK "UncutTale$Story" 58 6 15 .int := ⟨RX6, TX6, 18, tyX6, rfl, by decide, iw_6, gm_210, tyX6_ok, nmX6, rfl, by decide +kernel⟩
theorem gm_215 : Cond.fieldLink "UncutTale$Story" 61 "UncutTale$Story" "acts" "I" ∈ GW := gm 215 (by decide +kernel) (by decide +kernel)
theorem fk_6_61 : FK "UncutTale$Story" 61 6 16 := ⟨RX6, TX6, 18, rfl, by decide, iw_6, gm_215⟩
theorem pk_6_61 : PK "UncutTale$Story" 61 6 16 .int := ⟨RX6, TX6, 18, tyX6, rfl, by decide, iw_6, gm_215, tyX6_ok, nmX6, rfl, by decide +kernel⟩
theorem pk_6_64 : PK "UncutTale$Story" 64 6 17 .int := ⟨RX6, TX6, 18, tyX6, rfl, by decide, iw_6, gm_218, tyX6_ok, nmX6, rfl, by decide +kernel⟩
theorem gm_156 : Cond.fieldLink "UncutTale$Story" 9 "UncutTale$Story" "charm" "[I" ∈ GW := gm 156 (by decide +kernel) (by decide +kernel)
theorem fk_6_9 : FK "UncutTale$Story" 9 6 0 := ⟨RX6, TX6, 18, rfl, by decide, iw_6, gm_156⟩
theorem gm_654 : Cond.methodLink "UncutTale$Story" 67 ⟨"java/lang/System", "arraycopy", "(Ljava/lang/Object;ILjava/lang/Object;II)V"⟩ ∈ GW := gm 654 (by decide +kernel) (by decide +kernel)
theorem gm_656 : Cond.native ⟨"java/lang/System", "arraycopy", "(Ljava/lang/Object;ILjava/lang/Object;II)V"⟩ ∈ GW := gm 656 (by decide +kernel) (by decide +kernel)
theorem gm_655 : Cond.static ⟨"java/lang/System", "arraycopy", "(Ljava/lang/Object;ILjava/lang/Object;II)V"⟩ ∈ GW := gm 655 (by decide +kernel) (by decide +kernel)
theorem gm_123 : Cond.initialized "java/lang/System" ∈ GW := gm 123 (by decide +kernel) (by decide +kernel)
theorem gm_160 : Cond.fieldLink "UncutTale$Story" 15 "UncutTale$Story" "tires" "[I" ∈ GW := gm 160 (by decide +kernel) (by decide +kernel)
theorem fk_6_15 : FK "UncutTale$Story" 15 6 1 := ⟨RX6, TX6, 18, rfl, by decide, iw_6, gm_160⟩
theorem gm_163 : Cond.fieldLink "UncutTale$Story" 18 "UncutTale$Story" "toldStiff" "[I" ∈ GW := gm 163 (by decide +kernel) (by decide +kernel)
theorem fk_6_18 : FK "UncutTale$Story" 18 6 2 := ⟨RX6, TX6, 18, rfl, by decide, iw_6, gm_163⟩
theorem gm_167 : Cond.fieldLink "UncutTale$Story" 21 "UncutTale$Story" "foldFrom" "[I" ∈ GW := gm 167 (by decide +kernel) (by decide +kernel)
theorem fk_6_21 : FK "UncutTale$Story" 21 6 3 := ⟨RX6, TX6, 18, rfl, by decide, iw_6, gm_167⟩
theorem gm_169 : Cond.fieldLink "UncutTale$Story" 24 "UncutTale$Story" "foldTo" "[I" ∈ GW := gm 169 (by decide +kernel) (by decide +kernel)
theorem fk_6_24 : FK "UncutTale$Story" 24 6 4 := ⟨RX6, TX6, 18, rfl, by decide, iw_6, gm_169⟩
theorem gm_171 : Cond.fieldLink "UncutTale$Story" 27 "UncutTale$Story" "knifePart" "[I" ∈ GW := gm 171 (by decide +kernel) (by decide +kernel)
theorem fk_6_27 : FK "UncutTale$Story" 27 6 5 := ⟨RX6, TX6, 18, rfl, by decide, iw_6, gm_171⟩
theorem gm_174 : Cond.fieldLink "UncutTale$Story" 30 "UncutTale$Story" "knifeYear" "[I" ∈ GW := gm 174 (by decide +kernel) (by decide +kernel)
theorem fk_6_30 : FK "UncutTale$Story" 30 6 6 := ⟨RX6, TX6, 18, rfl, by decide, iw_6, gm_174⟩
theorem gm_177 : Cond.fieldLink "UncutTale$Story" 33 "UncutTale$Story" "actKind" "[I" ∈ GW := gm 177 (by decide +kernel) (by decide +kernel)
theorem fk_6_33 : FK "UncutTale$Story" 33 6 7 := ⟨RX6, TX6, 18, rfl, by decide, iw_6, gm_177⟩
theorem gm_180 : Cond.fieldLink "UncutTale$Story" 36 "UncutTale$Story" "actPart" "[I" ∈ GW := gm 180 (by decide +kernel) (by decide +kernel)
theorem fk_6_36 : FK "UncutTale$Story" 36 6 8 := ⟨RX6, TX6, 18, rfl, by decide, iw_6, gm_180⟩
theorem gm_183 : Cond.fieldLink "UncutTale$Story" 39 "UncutTale$Story" "actYear" "[I" ∈ GW := gm 183 (by decide +kernel) (by decide +kernel)
theorem fk_6_39 : FK "UncutTale$Story" 39 6 9 := ⟨RX6, TX6, 18, rfl, by decide, iw_6, gm_183⟩
theorem pn_X6_become : plainName yX6_become.cls = true := by decide +kernel
theorem gm_650 : Cond.methodLink "UncutTale" 112 yX6_become ∈ GW := gm 650 (by decide +kernel) (by decide +kernel)
theorem hd_X6_become : yX6_become.cls ≠ "java/lang/invoke/MethodHandle" ∧ yX6_become.cls ≠ "java/lang/invoke/VarHandle" ∧ (parseMethodDescriptor yX6_become.desc).map (fun d => d.parameters.length) = some 1 := by decide +kernel
theorem gm_653 : Cond.code yX6_become cX6_become 2 none ∈ GW := gm 653 (by decide +kernel) (by decide +kernel)
theorem gm_651 : Cond.instanceMethod yX6_become ∈ GW := gm 651 (by decide +kernel) (by decide +kernel)
theorem gm_652 : Cond.selects "UncutTale$Story" yX6_become yX6_become ∈ GW := gm 652 (by decide +kernel) (by decide +kernel)
theorem mk_X6_become : MK yX6_become cX6_become 2 none := ⟨gm_653, gm_651, gm_652, gm_110⟩
theorem gm_448 : Cond.fieldLink "UncutTale" 39 "UncutTale" "imaged" "[Z" ∈ GW := gm 448 (by decide +kernel) (by decide +kernel)
theorem fk_8_39 : FK "UncutTale" 39 8 5 := ⟨RX8, TX8, 15, rfl, by decide, iw_8, gm_448⟩
theorem pn_X8_image : plainName yX8_image.cls = true := by decide +kernel
theorem pn_X8_back : plainName yX8_back.cls = true := by decide +kernel
theorem pn_X5_isSlot : plainName yX5_isSlot.cls = true := by decide +kernel
theorem gm_1056 : Cond.methodLink "UncutTale" 378 yX5_isSlot ∈ GW := gm 1056 (by decide +kernel) (by decide +kernel)
theorem hd_X5_isSlot : yX5_isSlot.cls ≠ "java/lang/invoke/MethodHandle" ∧ yX5_isSlot.cls ≠ "java/lang/invoke/VarHandle" ∧ (parseMethodDescriptor yX5_isSlot.desc).map (fun d => d.parameters.length) = some 1 := by decide +kernel
theorem gm_1059 : Cond.code yX5_isSlot cX5_isSlot 2 (some .boolean) ∈ GW := gm 1059 (by decide +kernel) (by decide +kernel)
theorem gm_1057 : Cond.instanceMethod yX5_isSlot ∈ GW := gm 1057 (by decide +kernel) (by decide +kernel)
theorem gm_1058 : Cond.selects "UncutTale$Slots" yX5_isSlot yX5_isSlot ∈ GW := gm 1058 (by decide +kernel) (by decide +kernel)
theorem mk_X5_isSlot : MK yX5_isSlot cX5_isSlot 2 (some .boolean) := ⟨gm_1059, gm_1057, gm_1058, gm_112⟩
theorem gm_300 : Cond.fieldLink "UncutTale$Slots" 15 "UncutTale$Slots" "sizes" "[I" ∈ GW := gm 300 (by decide +kernel) (by decide +kernel)
theorem fk_5_15 : FK "UncutTale$Slots" 15 5 1 := ⟨RX5, TX5, 3, rfl, by decide, iw_5, gm_300⟩
theorem gm_301 : Cond.fieldLink "UncutTale$Slots" 18 "UncutTale$Slots" "numbers" "[J" ∈ GW := gm 301 (by decide +kernel) (by decide +kernel)
theorem fk_5_18 : FK "UncutTale$Slots" 18 5 2 := ⟨RX5, TX5, 3, rfl, by decide, iw_5, gm_301⟩
theorem pn_J7_rangeCheck_23922 : plainName yJ7_rangeCheck_23922.cls = true := by decide +kernel
theorem gm_1297 : Cond.methodLink "java/util/Arrays" 13 yJ7_rangeCheck_23922 ∈ GW := gm 1297 (by decide +kernel) (by decide +kernel)
theorem hd_J7_rangeCheck_23922 : yJ7_rangeCheck_23922.cls ≠ "java/lang/invoke/MethodHandle" ∧ yJ7_rangeCheck_23922.cls ≠ "java/lang/invoke/VarHandle" ∧ (parseMethodDescriptor yJ7_rangeCheck_23922.desc).map (fun d => d.parameters.length) = some 3 := by decide +kernel
theorem gm_1299 : Cond.code yJ7_rangeCheck_23922 cJ7_rangeCheck_23922 3 none ∈ GW := gm 1299 (by decide +kernel) (by decide +kernel)
theorem gm_1298 : Cond.static yJ7_rangeCheck_23922 ∈ GW := gm 1298 (by decide +kernel) (by decide +kernel)
theorem gm_124 : Cond.initialized "java/util/Arrays" ∈ GW := gm 124 (by decide +kernel) (by decide +kernel)
theorem sk_J7_rangeCheck_23922 : SK yJ7_rangeCheck_23922 cJ7_rangeCheck_23922 3 none := ⟨gm_1299, gm_1298, gm_124⟩
theorem pn_J7_fill_bad5a : plainName yJ7_fill_bad5a.cls = true := by decide +kernel
theorem gm_1294 : Cond.methodLink "UncutTale$Slots" 26 yJ7_fill_bad5a ∈ GW := gm 1294 (by decide +kernel) (by decide +kernel)
theorem hd_J7_fill_bad5a : yJ7_fill_bad5a.cls ≠ "java/lang/invoke/MethodHandle" ∧ yJ7_fill_bad5a.cls ≠ "java/lang/invoke/VarHandle" ∧ (parseMethodDescriptor yJ7_fill_bad5a.desc).map (fun d => d.parameters.length) = some 4 := by decide +kernel
theorem gm_1296 : Cond.code yJ7_fill_bad5a cJ7_fill_bad5a 6 none ∈ GW := gm 1296 (by decide +kernel) (by decide +kernel)
theorem gm_1295 : Cond.static yJ7_fill_bad5a ∈ GW := gm 1295 (by decide +kernel) (by decide +kernel)
theorem sk_J7_fill_bad5a : SK yJ7_fill_bad5a cJ7_fill_bad5a 6 none := ⟨gm_1296, gm_1295, gm_124⟩
theorem pn_X5_lay : plainName yX5_lay.cls = true := by decide +kernel
theorem gm_1290 : Cond.methodLink "UncutTale" 381 yX5_lay ∈ GW := gm 1290 (by decide +kernel) (by decide +kernel)
theorem hd_X5_lay : yX5_lay.cls ≠ "java/lang/invoke/MethodHandle" ∧ yX5_lay.cls ≠ "java/lang/invoke/VarHandle" ∧ (parseMethodDescriptor yX5_lay.desc).map (fun d => d.parameters.length) = some 3 := by decide +kernel
theorem gm_1293 : Cond.code yX5_lay cX5_lay 5 none ∈ GW := gm 1293 (by decide +kernel) (by decide +kernel)
theorem gm_1291 : Cond.instanceMethod yX5_lay ∈ GW := gm 1291 (by decide +kernel) (by decide +kernel)
theorem gm_1292 : Cond.selects "UncutTale$Slots" yX5_lay yX5_lay ∈ GW := gm 1292 (by decide +kernel) (by decide +kernel)
theorem mk_X5_lay : MK yX5_lay cX5_lay 5 none := ⟨gm_1293, gm_1291, gm_1292, gm_112⟩
theorem pn_X8_row : plainName yX8_row.cls = true := by decide +kernel
theorem gm_1060 : Cond.methodLink "UncutTale" 384 yX5_isBare ∈ GW := gm 1060 (by decide +kernel) (by decide +kernel)
theorem pn_X8_write : plainName yX8_write.cls = true := by decide +kernel
theorem pn_X8_paste : plainName yX8_paste.cls = true := by decide +kernel
theorem gm_141 : Cond.fieldLink "UncutTale$Tape" 15 "UncutTale$Tape" "length" "I" ∈ GW := gm 141 (by decide +kernel) (by decide +kernel)
theorem fk_7_15 : FK "UncutTale$Tape" 15 7 1 := ⟨RX7, TX7, 2, rfl, by decide, iw_7, gm_141⟩
theorem pn_X7_hasRoomForFive : plainName yX7_hasRoomForFive.cls = true := by decide +kernel
theorem gm_493 : Cond.methodLink "UncutTale" 98 yX7_hasRoomForFive ∈ GW := gm 493 (by decide +kernel) (by decide +kernel)
theorem hd_X7_hasRoomForFive : yX7_hasRoomForFive.cls ≠ "java/lang/invoke/MethodHandle" ∧ yX7_hasRoomForFive.cls ≠ "java/lang/invoke/VarHandle" ∧ (parseMethodDescriptor yX7_hasRoomForFive.desc).map (fun d => d.parameters.length) = some 0 := by decide +kernel
theorem gm_496 : Cond.code yX7_hasRoomForFive cX7_hasRoomForFive 1 (some .boolean) ∈ GW := gm 496 (by decide +kernel) (by decide +kernel)
theorem gm_494 : Cond.instanceMethod yX7_hasRoomForFive ∈ GW := gm 494 (by decide +kernel) (by decide +kernel)
theorem gm_495 : Cond.selects "UncutTale$Tape" yX7_hasRoomForFive yX7_hasRoomForFive ∈ GW := gm 495 (by decide +kernel) (by decide +kernel)
theorem gm_109 : Cond.initialized "UncutTale$Tape" ∈ GW := gm 109 (by decide +kernel) (by decide +kernel)
theorem mk_X7_hasRoomForFive : MK yX7_hasRoomForFive cX7_hasRoomForFive 1 (some .boolean) := ⟨gm_496, gm_494, gm_495, gm_109⟩
theorem gm_140 : Cond.fieldLink "UncutTale$Tape" 9 "UncutTale$Tape" "bytes" "[B" ∈ GW := gm 140 (by decide +kernel) (by decide +kernel)
theorem fk_7_9 : FK "UncutTale$Tape" 9 7 0 := ⟨RX7, TX7, 2, rfl, by decide, iw_7, gm_140⟩
theorem pk_7_15 : PK "UncutTale$Tape" 15 7 1 .int := ⟨RX7, TX7, 2, tyX7, rfl, by decide, iw_7, gm_141, tyX7_ok, nmX7, rfl, by decide +kernel⟩
theorem pn_X7_append : plainName yX7_append.cls = true := by decide +kernel
theorem gm_497 : Cond.methodLink "UncutTale" 102 yX7_append ∈ GW := gm 497 (by decide +kernel) (by decide +kernel)
theorem hd_X7_append : yX7_append.cls ≠ "java/lang/invoke/MethodHandle" ∧ yX7_append.cls ≠ "java/lang/invoke/VarHandle" ∧ (parseMethodDescriptor yX7_append.desc).map (fun d => d.parameters.length) = some 1 := by decide +kernel
theorem gm_500 : Cond.code yX7_append cX7_append 3 none ∈ GW := gm 500 (by decide +kernel) (by decide +kernel)
theorem gm_498 : Cond.instanceMethod yX7_append ∈ GW := gm 498 (by decide +kernel) (by decide +kernel)
theorem gm_499 : Cond.selects "UncutTale$Tape" yX7_append yX7_append ∈ GW := gm 499 (by decide +kernel) (by decide +kernel)
theorem mk_X7_append : MK yX7_append cX7_append 3 none := ⟨gm_500, gm_498, gm_499, gm_109⟩
theorem pn_X8_feed : plainName yX8_feed.cls = true := by decide +kernel
theorem gm_266 : Cond.fieldLink "UncutTale$Parser" 19 "UncutTale$Parser" "draft" "LUncutTale$Story;" ∈ GW := gm 266 (by decide +kernel) (by decide +kernel)
theorem fk_3_19 : FK "UncutTale$Parser" 19 3 1 := ⟨RX3, TX3, 8, rfl, by decide, iw_3, gm_266⟩
theorem pn_X6_clear : plainName yX6_clear.cls = true := by decide +kernel
theorem gm_513 : Cond.methodLink "UncutTale$Parser" 23 yX6_clear ∈ GW := gm 513 (by decide +kernel) (by decide +kernel)
theorem hd_X6_clear : yX6_clear.cls ≠ "java/lang/invoke/MethodHandle" ∧ yX6_clear.cls ≠ "java/lang/invoke/VarHandle" ∧ (parseMethodDescriptor yX6_clear.desc).map (fun d => d.parameters.length) = some 0 := by decide +kernel
theorem gm_516 : Cond.code yX6_clear cX6_clear 1 none ∈ GW := gm 516 (by decide +kernel) (by decide +kernel)
theorem gm_514 : Cond.instanceMethod yX6_clear ∈ GW := gm 514 (by decide +kernel) (by decide +kernel)
theorem gm_515 : Cond.selects "UncutTale$Story" yX6_clear yX6_clear ∈ GW := gm 515 (by decide +kernel) (by decide +kernel)
theorem mk_X6_clear : MK yX6_clear cX6_clear 1 none := ⟨gm_516, gm_514, gm_515, gm_110⟩
theorem gm_271 : Cond.fieldLink "UncutTale$Parser" 28 "UncutTale$Parser" "fault" "I" ∈ GW := gm 271 (by decide +kernel) (by decide +kernel)
theorem pk_3_28 : PK "UncutTale$Parser" 28 3 6 .int := ⟨RX3, TX3, 8, tyX3, rfl, by decide, iw_3, gm_271, tyX3_ok, nmX3, rfl, by decide +kernel⟩
theorem gm_273 : Cond.fieldLink "UncutTale$Parser" 9 "UncutTale$Parser" "faultPlace" "I" ∈ GW := gm 273 (by decide +kernel) (by decide +kernel)
theorem pk_3_9 : PK "UncutTale$Parser" 9 3 7 .int := ⟨RX3, TX3, 8, tyX3, rfl, by decide, iw_3, gm_273, tyX3_ok, nmX3, rfl, by decide +kernel⟩
theorem gm_269 : Cond.fieldLink "UncutTale$Parser" 31 "UncutTale$Parser" "stop" "I" ∈ GW := gm 269 (by decide +kernel) (by decide +kernel)
theorem pk_3_31 : PK "UncutTale$Parser" 31 3 4 .int := ⟨RX3, TX3, 8, tyX3, rfl, by decide, iw_3, gm_269, tyX3_ok, nmX3, rfl, by decide +kernel⟩
theorem fk_3_31 : FK "UncutTale$Parser" 31 3 4 := ⟨RX3, TX3, 8, rfl, by decide, iw_3, gm_269⟩
theorem gm_268 : Cond.fieldLink "UncutTale$Parser" 137 "UncutTale$Parser" "start" "I" ∈ GW := gm 268 (by decide +kernel) (by decide +kernel)
theorem pk_3_137 : PK "UncutTale$Parser" 137 3 3 .int := ⟨RX3, TX3, 8, tyX3, rfl, by decide, iw_3, gm_268, tyX3_ok, nmX3, rfl, by decide +kernel⟩
theorem fk_3_137 : FK "UncutTale$Parser" 137 3 3 := ⟨RX3, TX3, 8, rfl, by decide, iw_3, gm_268⟩
theorem gm_265 : Cond.fieldLink "UncutTale$Parser" 15 "UncutTale$Parser" "tape" "LUncutTale$Tape;" ∈ GW := gm 265 (by decide +kernel) (by decide +kernel)
theorem fk_3_15 : FK "UncutTale$Parser" 15 3 0 := ⟨RX3, TX3, 8, rfl, by decide, iw_3, gm_265⟩
theorem gm_143 : Cond.fieldLink "UncutTale$Parser" 140 "UncutTale$Tape" "length" "I" ∈ GW := gm 143 (by decide +kernel) (by decide +kernel)
theorem fk_3_140 : FK "UncutTale$Parser" 140 7 1 := ⟨RX7, TX7, 2, rfl, by decide, iw_7, gm_143⟩
theorem pn_X7_at : plainName yX7_at.cls = true := by decide +kernel
theorem gm_521 : Cond.methodLink "UncutTale$Parser" 145 yX7_at ∈ GW := gm 521 (by decide +kernel) (by decide +kernel)
theorem hd_X7_at : yX7_at.cls ≠ "java/lang/invoke/MethodHandle" ∧ yX7_at.cls ≠ "java/lang/invoke/VarHandle" ∧ (parseMethodDescriptor yX7_at.desc).map (fun d => d.parameters.length) = some 1 := by decide +kernel
theorem gm_524 : Cond.code yX7_at cX7_at 2 (some .int) ∈ GW := gm 524 (by decide +kernel) (by decide +kernel)
theorem gm_522 : Cond.instanceMethod yX7_at ∈ GW := gm 522 (by decide +kernel) (by decide +kernel)
theorem gm_523 : Cond.selects "UncutTale$Tape" yX7_at yX7_at ∈ GW := gm 523 (by decide +kernel) (by decide +kernel)
theorem mk_X7_at : MK yX7_at cX7_at 2 (some .int) := ⟨gm_524, gm_522, gm_523, gm_109⟩
theorem pn_X3_kindOf : plainName yX3_kindOf.cls = true := by decide +kernel
theorem gm_525 : Cond.methodLink "UncutTale$Parser" 148 yX3_kindOf ∈ GW := gm 525 (by decide +kernel) (by decide +kernel)
theorem hd_X3_kindOf : yX3_kindOf.cls ≠ "java/lang/invoke/MethodHandle" ∧ yX3_kindOf.cls ≠ "java/lang/invoke/VarHandle" ∧ (parseMethodDescriptor yX3_kindOf.desc).map (fun d => d.parameters.length) = some 1 := by decide +kernel
theorem gm_527 : Cond.code yX3_kindOf cX3_kindOf 1 (some .int) ∈ GW := gm 527 (by decide +kernel) (by decide +kernel)
theorem gm_526 : Cond.static yX3_kindOf ∈ GW := gm 526 (by decide +kernel) (by decide +kernel)
theorem gm_111 : Cond.initialized "UncutTale$Parser" ∈ GW := gm 111 (by decide +kernel) (by decide +kernel)
theorem sk_X3_kindOf : SK yX3_kindOf cX3_kindOf 1 (some .int) := ⟨gm_527, gm_526, gm_111⟩
theorem gm_267 : Cond.fieldLink "UncutTale$Parser" 37 "UncutTale$Parser" "kind" "I" ∈ GW := gm 267 (by decide +kernel) (by decide +kernel)
theorem pk_3_37 : PK "UncutTale$Parser" 37 3 2 .int := ⟨RX3, TX3, 8, tyX3, rfl, by decide, iw_3, gm_267, tyX3_ok, nmX3, rfl, by decide +kernel⟩
theorem fk_3_37 : FK "UncutTale$Parser" 37 3 2 := ⟨RX3, TX3, 8, rfl, by decide, iw_3, gm_267⟩
theorem gm_270 : Cond.fieldLink "UncutTale$Parser" 118 "UncutTale$Parser" "value" "I" ∈ GW := gm 270 (by decide +kernel) (by decide +kernel)
theorem pk_3_118 : PK "UncutTale$Parser" 118 3 5 .int := ⟨RX3, TX3, 8, tyX3, rfl, by decide, iw_3, gm_270, tyX3_ok, nmX3, rfl, by decide +kernel⟩
theorem pn_X3_advance : plainName yX3_advance.cls = true := by decide +kernel
theorem gm_517 : Cond.methodLink "UncutTale$Parser" 34 yX3_advance ∈ GW := gm 517 (by decide +kernel) (by decide +kernel)
theorem hd_X3_advance : yX3_advance.cls ≠ "java/lang/invoke/MethodHandle" ∧ yX3_advance.cls ≠ "java/lang/invoke/VarHandle" ∧ (parseMethodDescriptor yX3_advance.desc).map (fun d => d.parameters.length) = some 0 := by decide +kernel
theorem gm_520 : Cond.code yX3_advance cX3_advance 3 none ∈ GW := gm 520 (by decide +kernel) (by decide +kernel)
theorem gm_519 : Cond.instanceMethod yX3_advance ∈ GW := gm 519 (by decide +kernel) (by decide +kernel)
theorem gm_0 : Cond.selects "UncutTale$Parser" yX3_advance yX3_advance ∈ GW := gm 0 (by decide +kernel) (by decide +kernel)
theorem mk_X3_advance : MK yX3_advance cX3_advance 3 none := ⟨gm_520, gm_519, gm_0, gm_111⟩
theorem pn_X3_parse : plainName yX3_parse.cls = true := by decide +kernel
theorem gm_509 : Cond.methodLink "UncutTale" 109 yX3_parse ∈ GW := gm 509 (by decide +kernel) (by decide +kernel)
theorem hd_X3_parse : yX3_parse.cls ≠ "java/lang/invoke/MethodHandle" ∧ yX3_parse.cls ≠ "java/lang/invoke/VarHandle" ∧ (parseMethodDescriptor yX3_parse.desc).map (fun d => d.parameters.length) = some 0 := by decide +kernel
theorem gm_512 : Cond.code yX3_parse cX3_parse 2 (some .boolean) ∈ GW := gm 512 (by decide +kernel) (by decide +kernel)
theorem gm_510 : Cond.instanceMethod yX3_parse ∈ GW := gm 510 (by decide +kernel) (by decide +kernel)
theorem gm_511 : Cond.selects "UncutTale$Parser" yX3_parse yX3_parse ∈ GW := gm 511 (by decide +kernel) (by decide +kernel)
theorem mk_X3_parse : MK yX3_parse cX3_parse 2 (some .boolean) := ⟨gm_512, gm_510, gm_511, gm_111⟩
theorem gm_444 : Cond.fieldLink "UncutTale" 19 "UncutTale" "draft" "LUncutTale$Story;" ∈ GW := gm 444 (by decide +kernel) (by decide +kernel)
theorem fk_8_19 : FK "UncutTale" 19 8 1 := ⟨RX8, TX8, 15, rfl, by decide, iw_8, gm_444⟩
theorem gm_455 : Cond.fieldLink "UncutTale" 87 "UncutTale" "nowIsStale" "Z" ∈ GW := gm 455 (by decide +kernel) (by decide +kernel)
theorem pk_8_87 : PK "UncutTale" 87 8 12 .boolean := ⟨RX8, TX8, 15, tyX8, rfl, by decide, iw_8, gm_455, tyX8_ok, nmX8, rfl, by decide +kernel⟩
theorem gm_456 : Cond.fieldLink "UncutTale" 91 "UncutTale" "oddsAreStale" "Z" ∈ GW := gm 456 (by decide +kernel) (by decide +kernel)
theorem pk_8_91 : PK "UncutTale" 91 8 13 .boolean := ⟨RX8, TX8, 15, tyX8, rfl, by decide, iw_8, gm_456, tyX8_ok, nmX8, rfl, by decide +kernel⟩
theorem gm_457 : Cond.fieldLink "UncutTale" 94 "UncutTale" "plannedYears" "I" ∈ GW := gm 457 (by decide +kernel) (by decide +kernel)
theorem pk_8_94 : PK "UncutTale" 94 8 14 .int := ⟨RX8, TX8, 15, tyX8, rfl, by decide, iw_8, gm_457, tyX8_ok, nmX8, rfl, by decide +kernel⟩
theorem pn_X8_forgetAnswers : plainName yX8_forgetAnswers.cls = true := by decide +kernel
theorem gm_657 : Cond.methodLink "UncutTale" 115 yX8_forgetAnswers ∈ GW := gm 657 (by decide +kernel) (by decide +kernel)
theorem hd_X8_forgetAnswers : yX8_forgetAnswers.cls ≠ "java/lang/invoke/MethodHandle" ∧ yX8_forgetAnswers.cls ≠ "java/lang/invoke/VarHandle" ∧ (parseMethodDescriptor yX8_forgetAnswers.desc).map (fun d => d.parameters.length) = some 0 := by decide +kernel
theorem gm_660 : Cond.code yX8_forgetAnswers cX8_forgetAnswers 1 none ∈ GW := gm 660 (by decide +kernel) (by decide +kernel)
theorem gm_659 : Cond.instanceMethod yX8_forgetAnswers ∈ GW := gm 659 (by decide +kernel) (by decide +kernel)
theorem gm_12 : Cond.selects "UncutTale" yX8_forgetAnswers yX8_forgetAnswers ∈ GW := gm 12 (by decide +kernel) (by decide +kernel)
theorem mk_X8_forgetAnswers : MK yX8_forgetAnswers cX8_forgetAnswers 1 none := ⟨gm_660, gm_659, gm_12, gm_108⟩
theorem pn_X8_tale : plainName yX8_tale.cls = true := by decide +kernel
theorem iw_9 : ∀ w ∈ u_ws RX9 TX9 51, w ∈ GW := by
  have h1 : ∀ w ∈ u_ws RX9 TX9 51, w ∈ lw_tbl ∧ goodWord w = true := by decide +kernel
  exact fun w h => List.mem_filter.mpr (h1 w h)
theorem gm_1334 : Cond.fieldLink "UncutTaleModel" 83 "UncutTaleModel" "thrown" "I" ∈ GW := gm 1334 (by decide +kernel) (by decide +kernel)
theorem pk_9_83 : PK "UncutTaleModel" 83 9 0 .int := ⟨RX9, TX9, 51, tyX9, rfl, by decide, iw_9, gm_1334, tyX9_ok, nmX9, rfl, by decide +kernel⟩
theorem gm_1351 : Cond.fieldLink "UncutTaleModel" 34 "UncutTaleModel" "has" "[I" ∈ GW := gm 1351 (by decide +kernel) (by decide +kernel)
theorem fk_9_34 : FK "UncutTaleModel" 34 9 17 := ⟨RX9, TX9, 51, rfl, by decide, iw_9, gm_1351⟩
theorem pn_X9_parts : plainName yX9_parts.cls = true := by decide +kernel
theorem gm_1649 : Cond.methodLink "UncutTaleModel" 245 yX9_parts ∈ GW := gm 1649 (by decide +kernel) (by decide +kernel)
theorem hd_X9_parts : yX9_parts.cls ≠ "java/lang/invoke/MethodHandle" ∧ yX9_parts.cls ≠ "java/lang/invoke/VarHandle" ∧ (parseMethodDescriptor yX9_parts.desc).map (fun d => d.parameters.length) = some 0 := by decide +kernel
theorem gm_1652 : Cond.code yX9_parts cX9_parts 1 (some .int) ∈ GW := gm 1652 (by decide +kernel) (by decide +kernel)
theorem gm_1651 : Cond.instanceMethod yX9_parts ∈ GW := gm 1651 (by decide +kernel) (by decide +kernel)
theorem gm_68 : Cond.selects "UncutTaleModel" yX9_parts yX9_parts ∈ GW := gm 68 (by decide +kernel) (by decide +kernel)
theorem gm_117 : Cond.initialized "UncutTaleModel" ∈ GW := gm 117 (by decide +kernel) (by decide +kernel)
theorem mk_X9_parts : MK yX9_parts cX9_parts 1 (some .int) := ⟨gm_1652, gm_1651, gm_68, gm_117⟩
theorem pn_X9_in : plainName yX9_in.cls = true := by decide +kernel
theorem gm_1496 : Cond.methodLink "UncutTaleModel" 88 yX9_in ∈ GW := gm 1496 (by decide +kernel) (by decide +kernel)
theorem hd_X9_in : yX9_in.cls ≠ "java/lang/invoke/MethodHandle" ∧ yX9_in.cls ≠ "java/lang/invoke/VarHandle" ∧ (parseMethodDescriptor yX9_in.desc).map (fun d => d.parameters.length) = some 3 := by decide +kernel
theorem gm_1498 : Cond.code yX9_in cX9_in 6 (some .boolean) ∈ GW := gm 1498 (by decide +kernel) (by decide +kernel)
theorem gm_1497 : Cond.static yX9_in ∈ GW := gm 1497 (by decide +kernel) (by decide +kernel)
theorem sk_X9_in : SK yX9_in cX9_in 6 (some .boolean) := ⟨gm_1498, gm_1497, gm_117⟩
theorem pn_X9_isPart : plainName yX9_isPart.cls = true := by decide +kernel
theorem gm_1645 : Cond.methodLink "UncutTaleModel" 254 yX9_isPart ∈ GW := gm 1645 (by decide +kernel) (by decide +kernel)
theorem hd_X9_isPart : yX9_isPart.cls ≠ "java/lang/invoke/MethodHandle" ∧ yX9_isPart.cls ≠ "java/lang/invoke/VarHandle" ∧ (parseMethodDescriptor yX9_isPart.desc).map (fun d => d.parameters.length) = some 1 := by decide +kernel
theorem gm_1648 : Cond.code yX9_isPart cX9_isPart 3 (some .boolean) ∈ GW := gm 1648 (by decide +kernel) (by decide +kernel)
theorem gm_1647 : Cond.instanceMethod yX9_isPart ∈ GW := gm 1647 (by decide +kernel) (by decide +kernel)
theorem gm_67 : Cond.selects "UncutTaleModel" yX9_isPart yX9_isPart ∈ GW := gm 67 (by decide +kernel) (by decide +kernel)
theorem mk_X9_isPart : MK yX9_isPart cX9_isPart 3 (some .boolean) := ⟨gm_1648, gm_1647, gm_67, gm_117⟩
theorem pn_X9_part : plainName yX9_part.cls = true := by decide +kernel
theorem pn_X9_near : plainName yX9_near.cls = true := by decide +kernel
theorem pn_X9_far : plainName yX9_far.cls = true := by decide +kernel
theorem pn_X9_isThen : plainName yX9_isThen.cls = true := by decide +kernel
theorem gm_1677 : Cond.methodLink "UncutTaleModel" 327 yX9_isThen ∈ GW := gm 1677 (by decide +kernel) (by decide +kernel)
theorem hd_X9_isThen : yX9_isThen.cls ≠ "java/lang/invoke/MethodHandle" ∧ yX9_isThen.cls ≠ "java/lang/invoke/VarHandle" ∧ (parseMethodDescriptor yX9_isThen.desc).map (fun d => d.parameters.length) = some 2 := by decide +kernel
theorem gm_1680 : Cond.code yX9_isThen cX9_isThen 3 (some .boolean) ∈ GW := gm 1680 (by decide +kernel) (by decide +kernel)
theorem gm_1679 : Cond.instanceMethod yX9_isThen ∈ GW := gm 1679 (by decide +kernel) (by decide +kernel)
theorem gm_71 : Cond.selects "UncutTaleModel" yX9_isThen yX9_isThen ∈ GW := gm 71 (by decide +kernel) (by decide +kernel)
theorem mk_X9_isThen : MK yX9_isThen cX9_isThen 3 (some .boolean) := ⟨gm_1680, gm_1679, gm_71, gm_117⟩
theorem pn_X9_stiff : plainName yX9_stiff.cls = true := by decide +kernel
theorem gm_1350 : Cond.fieldLink "UncutTaleModel" 31 "UncutTaleModel" "lines" "[I" ∈ GW := gm 1350 (by decide +kernel) (by decide +kernel)
theorem fk_9_31 : FK "UncutTaleModel" 31 9 16 := ⟨RX9, TX9, 51, rfl, by decide, iw_9, gm_1350⟩
theorem pn_X9_isTale : plainName yX9_isTale.cls = true := by decide +kernel
theorem gm_1685 : Cond.methodLink "UncutTaleModel" 248 yX9_isTale ∈ GW := gm 1685 (by decide +kernel) (by decide +kernel)
theorem hd_X9_isTale : yX9_isTale.cls ≠ "java/lang/invoke/MethodHandle" ∧ yX9_isTale.cls ≠ "java/lang/invoke/VarHandle" ∧ (parseMethodDescriptor yX9_isTale.desc).map (fun d => d.parameters.length) = some 0 := by decide +kernel
theorem gm_1688 : Cond.code yX9_isTale cX9_isTale 1 (some .boolean) ∈ GW := gm 1688 (by decide +kernel) (by decide +kernel)
theorem gm_1687 : Cond.instanceMethod yX9_isTale ∈ GW := gm 1687 (by decide +kernel) (by decide +kernel)
theorem gm_73 : Cond.selects "UncutTaleModel" yX9_isTale yX9_isTale ∈ GW := gm 73 (by decide +kernel) (by decide +kernel)
theorem mk_X9_isTale : MK yX9_isTale cX9_isTale 1 (some .boolean) := ⟨gm_1688, gm_1687, gm_73, gm_117⟩
theorem pn_X9_isYear : plainName yX9_isYear.cls = true := by decide +kernel
theorem gm_1681 : Cond.methodLink "UncutTaleModel" 257 yX9_isYear ∈ GW := gm 1681 (by decide +kernel) (by decide +kernel)
theorem hd_X9_isYear : yX9_isYear.cls ≠ "java/lang/invoke/MethodHandle" ∧ yX9_isYear.cls ≠ "java/lang/invoke/VarHandle" ∧ (parseMethodDescriptor yX9_isYear.desc).map (fun d => d.parameters.length) = some 1 := by decide +kernel
theorem gm_1684 : Cond.code yX9_isYear cX9_isYear 3 (some .boolean) ∈ GW := gm 1684 (by decide +kernel) (by decide +kernel)
theorem gm_1683 : Cond.instanceMethod yX9_isYear ∈ GW := gm 1683 (by decide +kernel) (by decide +kernel)
theorem gm_72 : Cond.selects "UncutTaleModel" yX9_isYear yX9_isYear ∈ GW := gm 72 (by decide +kernel) (by decide +kernel)
theorem mk_X9_isYear : MK yX9_isYear cX9_isYear 3 (some .boolean) := ⟨gm_1684, gm_1683, gm_72, gm_117⟩
theorem pn_X9_open : plainName yX9_open.cls = true := by decide +kernel
theorem pn_X9_when : plainName yX9_when.cls = true := by decide +kernel
theorem pn_X9_how : plainName yX9_how.cls = true := by decide +kernel
theorem pn_X9_read : plainName yX9_read.cls = true := by decide +kernel
theorem pn_X9_years : plainName yX9_years.cls = true := by decide +kernel
theorem gm_1689 : Cond.methodLink "UncutTaleModel" 251 yX9_years ∈ GW := gm 1689 (by decide +kernel) (by decide +kernel)
theorem hd_X9_years : yX9_years.cls ≠ "java/lang/invoke/MethodHandle" ∧ yX9_years.cls ≠ "java/lang/invoke/VarHandle" ∧ (parseMethodDescriptor yX9_years.desc).map (fun d => d.parameters.length) = some 0 := by decide +kernel
theorem gm_1692 : Cond.code yX9_years cX9_years 1 (some .int) ∈ GW := gm 1692 (by decide +kernel) (by decide +kernel)
theorem gm_1691 : Cond.instanceMethod yX9_years ∈ GW := gm 1691 (by decide +kernel) (by decide +kernel)
theorem gm_74 : Cond.selects "UncutTaleModel" yX9_years yX9_years ∈ GW := gm 74 (by decide +kernel) (by decide +kernel)
theorem mk_X9_years : MK yX9_years cX9_years 1 (some .int) := ⟨gm_1692, gm_1691, gm_74, gm_117⟩
theorem pn_X9_isAhead : plainName yX9_isAhead.cls = true := by decide +kernel
theorem gm_1758 : Cond.methodLink "UncutTaleModel" 333 yX9_isAhead ∈ GW := gm 1758 (by decide +kernel) (by decide +kernel)
theorem hd_X9_isAhead : yX9_isAhead.cls ≠ "java/lang/invoke/MethodHandle" ∧ yX9_isAhead.cls ≠ "java/lang/invoke/VarHandle" ∧ (parseMethodDescriptor yX9_isAhead.desc).map (fun d => d.parameters.length) = some 1 := by decide +kernel
theorem gm_1761 : Cond.code yX9_isAhead cX9_isAhead 2 (some .boolean) ∈ GW := gm 1761 (by decide +kernel) (by decide +kernel)
theorem gm_1760 : Cond.instanceMethod yX9_isAhead ∈ GW := gm 1760 (by decide +kernel) (by decide +kernel)
theorem gm_84 : Cond.selects "UncutTaleModel" yX9_isAhead yX9_isAhead ∈ GW := gm 84 (by decide +kernel) (by decide +kernel)
theorem mk_X9_isAhead : MK yX9_isAhead cX9_isAhead 2 (some .boolean) := ⟨gm_1761, gm_1760, gm_84, gm_117⟩
theorem pn_X9_reads : plainName yX9_reads.cls = true := by decide +kernel
theorem pn_X9_all : plainName yX9_all.cls = true := by decide +kernel
theorem pn_X9_keeps : plainName yX9_keeps.cls = true := by decide +kernel
theorem pn_X9_waits : plainName yX9_waits.cls = true := by decide +kernel
theorem pn_X9_next : plainName yX9_next.cls = true := by decide +kernel
theorem pn_X9_dull : plainName yX9_dull.cls = true := by decide +kernel
theorem pn_X9_dies : plainName yX9_dies.cls = true := by decide +kernel
theorem pn_X9_ages : plainName yX9_ages.cls = true := by decide +kernel
theorem pn_X9_cut_ : plainName yX9_cut_.cls = true := by decide +kernel
theorem pn_X9_sharp : plainName yX9_sharp.cls = true := by decide +kernel
theorem pn_X9_uncut : plainName yX9_uncut.cls = true := by decide +kernel
theorem pn_X9_done : plainName yX9_done.cls = true := by decide +kernel
theorem pn_X9_rush : plainName yX9_rush.cls = true := by decide +kernel
theorem pn_X9_with : plainName yX9_with.cls = true := by decide +kernel
theorem pn_X9_charms : plainName yX9_charms.cls = true := by decide +kernel
theorem pn_X9_best : plainName yX9_best.cls = true := by decide +kernel
theorem pn_X9_peak : plainName yX9_peak.cls = true := by decide +kernel
theorem pn_X9_first : plainName yX9_first.cls = true := by decide +kernel
theorem pn_X9_quiet : plainName yX9_quiet.cls = true := by decide +kernel
theorem pn_X9_lone : plainName yX9_lone.cls = true := by decide +kernel
theorem pn_X9_stalest : plainName yX9_stalest.cls = true := by decide +kernel
theorem pn_X9_pieces : plainName yX9_pieces.cls = true := by decide +kernel
theorem pn_X9_lost : plainName yX9_lost.cls = true := by decide +kernel
theorem pn_X9_knives : plainName yX9_knives.cls = true := by decide +kernel
theorem pn_X9_idle : plainName yX9_idle.cls = true := by decide +kernel
theorem pn_X9_few : plainName yX9_few.cls = true := by decide +kernel
theorem pn_X9_fews : plainName yX9_fews.cls = true := by decide +kernel
theorem pn_X9_worth : plainName yX9_worth.cls = true := by decide +kernel
theorem gm_1905 : Cond.constant "UncutTaleModel" 367 (-1000000) ∈ GW := gm 1905 (by decide +kernel) (by decide +kernel)
theorem pn_X9_share : plainName yX9_share.cls = true := by decide +kernel
theorem pn_X9_isPlan : plainName yX9_isPlan.cls = true := by decide +kernel
theorem gm_1919 : Cond.methodLink "UncutTaleModel" 384 yX9_isPlan ∈ GW := gm 1919 (by decide +kernel) (by decide +kernel)
theorem hd_X9_isPlan : yX9_isPlan.cls ≠ "java/lang/invoke/MethodHandle" ∧ yX9_isPlan.cls ≠ "java/lang/invoke/VarHandle" ∧ (parseMethodDescriptor yX9_isPlan.desc).map (fun d => d.parameters.length) = some 1 := by decide +kernel
theorem gm_1922 : Cond.code yX9_isPlan cX9_isPlan 2 (some .boolean) ∈ GW := gm 1922 (by decide +kernel) (by decide +kernel)
theorem gm_1921 : Cond.instanceMethod yX9_isPlan ∈ GW := gm 1921 (by decide +kernel) (by decide +kernel)
theorem gm_92 : Cond.selects "UncutTaleModel" yX9_isPlan yX9_isPlan ∈ GW := gm 92 (by decide +kernel) (by decide +kernel)
theorem mk_X9_isPlan : MK yX9_isPlan cX9_isPlan 2 (some .boolean) := ⟨gm_1922, gm_1921, gm_92, gm_117⟩
theorem pn_X9_plan : plainName yX9_plan.cls = true := by decide +kernel
theorem pn_X9_planned : plainName yX9_planned.cls = true := by decide +kernel
theorem pn_X9_plans : plainName yX9_plans.cls = true := by decide +kernel
theorem gm_1495 : Cond.constantLong "UncutTaleModel" 86 3 ∈ GW := gm 1495 (by decide +kernel) (by decide +kernel)
theorem pn_X9_isSlot : plainName yX9_isSlot.cls = true := by decide +kernel
theorem gm_1492 : Cond.methodLink "UncutTaleModel" 92 yX9_isSlot ∈ GW := gm 1492 (by decide +kernel) (by decide +kernel)
theorem hd_X9_isSlot : yX9_isSlot.cls ≠ "java/lang/invoke/MethodHandle" ∧ yX9_isSlot.cls ≠ "java/lang/invoke/VarHandle" ∧ (parseMethodDescriptor yX9_isSlot.desc).map (fun d => d.parameters.length) = some 1 := by decide +kernel
theorem gm_1494 : Cond.code yX9_isSlot cX9_isSlot 1 (some .boolean) ∈ GW := gm 1494 (by decide +kernel) (by decide +kernel)
theorem gm_1493 : Cond.static yX9_isSlot ∈ GW := gm 1493 (by decide +kernel) (by decide +kernel)
theorem sk_X9_isSlot : SK yX9_isSlot cX9_isSlot 1 (some .boolean) := ⟨gm_1494, gm_1493, gm_117⟩
theorem pn_X9_whyNot : plainName yX9_whyNot.cls = true := by decide +kernel
theorem gm_1947 : Cond.methodLink "UncutTaleModel" 410 yX9_whyNot ∈ GW := gm 1947 (by decide +kernel) (by decide +kernel)
theorem hd_X9_whyNot : yX9_whyNot.cls ≠ "java/lang/invoke/MethodHandle" ∧ yX9_whyNot.cls ≠ "java/lang/invoke/VarHandle" ∧ (parseMethodDescriptor yX9_whyNot.desc).map (fun d => d.parameters.length) = some 2 := by decide +kernel
theorem gm_1950 : Cond.code yX9_whyNot cX9_whyNot 5 (some .int) ∈ GW := gm 1950 (by decide +kernel) (by decide +kernel)
theorem gm_1949 : Cond.instanceMethod yX9_whyNot ∈ GW := gm 1949 (by decide +kernel) (by decide +kernel)
theorem gm_96 : Cond.selects "UncutTaleModel" yX9_whyNot yX9_whyNot ∈ GW := gm 96 (by decide +kernel) (by decide +kernel)
theorem mk_X9_whyNot : MK yX9_whyNot cX9_whyNot 5 (some .int) := ⟨gm_1950, gm_1949, gm_96, gm_117⟩
theorem pn_X9_stiffs : plainName yX9_stiffs.cls = true := by decide +kernel
theorem pn_X9_low : plainName yX9_low.cls = true := by decide +kernel
theorem pn_X9_high : plainName yX9_high.cls = true := by decide +kernel
theorem pn_X9_ask : plainName yX9_ask.cls = true := by decide +kernel
theorem pn_X9_leaves : plainName yX9_leaves.cls = true := by decide +kernel
theorem pn_X9_laws : plainName yX9_laws.cls = true := by decide +kernel
theorem pn_X9_by : plainName yX9_by.cls = true := by decide +kernel
theorem pn_X9_law : plainName yX9_law.cls = true := by decide +kernel
theorem pn_X9_blunt : plainName yX9_blunt.cls = true := by decide +kernel
theorem pn_X9_slit : plainName yX9_slit.cls = true := by decide +kernel
theorem gm_1383 : Cond.fieldLink "UncutTaleModel" 426 "UncutTaleModel" "uncleBest" "I" ∈ GW := gm 1383 (by decide +kernel) (by decide +kernel)
theorem pk_9_426 : PK "UncutTaleModel" 426 9 49 .int := ⟨RX9, TX9, 51, tyX9, rfl, by decide, iw_9, gm_1383, tyX9_ok, nmX9, rfl, by decide +kernel⟩
theorem gm_1384 : Cond.fieldLink "UncutTaleModel" 429 "UncutTaleModel" "uncleMost" "I" ∈ GW := gm 1384 (by decide +kernel) (by decide +kernel)
theorem pk_9_429 : PK "UncutTaleModel" 429 9 50 .int := ⟨RX9, TX9, 51, tyX9, rfl, by decide, iw_9, gm_1384, tyX9_ok, nmX9, rfl, by decide +kernel⟩
theorem pn_X9_laysUncle : plainName yX9_laysUncle.cls = true := by decide +kernel
theorem gm_2004 : Cond.methodLink "UncutTaleModel" 435 yX9_laysUncle ∈ GW := gm 2004 (by decide +kernel) (by decide +kernel)
theorem hd_X9_laysUncle : yX9_laysUncle.cls ≠ "java/lang/invoke/MethodHandle" ∧ yX9_laysUncle.cls ≠ "java/lang/invoke/VarHandle" ∧ (parseMethodDescriptor yX9_laysUncle.desc).map (fun d => d.parameters.length) = some 0 := by decide +kernel
theorem gm_2007 : Cond.code yX9_laysUncle cX9_laysUncle 2 none ∈ GW := gm 2007 (by decide +kernel) (by decide +kernel)
theorem gm_2006 : Cond.instanceMethod yX9_laysUncle ∈ GW := gm 2006 (by decide +kernel) (by decide +kernel)
theorem gm_100 : Cond.selects "UncutTaleModel" yX9_laysUncle yX9_laysUncle ∈ GW := gm 100 (by decide +kernel) (by decide +kernel)
theorem mk_X9_laysUncle : MK yX9_laysUncle cX9_laysUncle 2 none := ⟨gm_2007, gm_2006, gm_100, gm_117⟩
theorem fk_9_429 : FK "UncutTaleModel" 429 9 50 := ⟨RX9, TX9, 51, rfl, by decide, iw_9, gm_1384⟩
theorem pn_X9_uncle : plainName yX9_uncle.cls = true := by decide +kernel
theorem pn_X9_opens : plainName yX9_opens.cls = true := by decide +kernel
theorem pn_X9_replies : plainName yX9_replies.cls = true := by decide +kernel
theorem pn_X9_areTwo : plainName yX9_areTwo.cls = true := by decide +kernel
theorem gm_2024 : Cond.methodLink "UncutTaleModel" 438 yX9_areTwo ∈ GW := gm 2024 (by decide +kernel) (by decide +kernel)
theorem hd_X9_areTwo : yX9_areTwo.cls ≠ "java/lang/invoke/MethodHandle" ∧ yX9_areTwo.cls ≠ "java/lang/invoke/VarHandle" ∧ (parseMethodDescriptor yX9_areTwo.desc).map (fun d => d.parameters.length) = some 2 := by decide +kernel
theorem gm_2027 : Cond.code yX9_areTwo cX9_areTwo 3 (some .boolean) ∈ GW := gm 2027 (by decide +kernel) (by decide +kernel)
theorem gm_2026 : Cond.instanceMethod yX9_areTwo ∈ GW := gm 2026 (by decide +kernel) (by decide +kernel)
theorem gm_102 : Cond.selects "UncutTaleModel" yX9_areTwo yX9_areTwo ∈ GW := gm 102 (by decide +kernel) (by decide +kernel)
theorem mk_X9_areTwo : MK yX9_areTwo cX9_areTwo 3 (some .boolean) := ⟨gm_2027, gm_2026, gm_102, gm_117⟩
theorem pn_X9_rests : plainName yX9_rests.cls = true := by decide +kernel
theorem pn_X9_gets : plainName yX9_gets.cls = true := by decide +kernel
theorem pn_X9_chance : plainName yX9_chance.cls = true := by decide +kernel
theorem gm_2052 : Cond.constantLong "UncutTaleModel" 454 (-2) ∈ GW := gm 2052 (by decide +kernel) (by decide +kernel)
theorem pn_X9_mean : plainName yX9_mean.cls = true := by decide +kernel
theorem pn_X9_knife : plainName yX9_knife.cls = true := by decide +kernel
theorem pn_X9_air : plainName yX9_air.cls = true := by decide +kernel
theorem pn_X9_undo : plainName yX9_undo.cls = true := by decide +kernel
theorem pn_X9_anew : plainName yX9_anew.cls = true := by decide +kernel
theorem pn_X9_drawn : plainName yX9_drawn.cls = true := by decide +kernel
theorem gm_2060 : Cond.constantLong "UncutTaleModel" 464 2000000000 ∈ GW := gm 2060 (by decide +kernel) (by decide +kernel)
theorem pn_X9_isSeed : plainName yX9_isSeed.cls = true := by decide +kernel
theorem gm_2057 : Cond.methodLink "UncutTaleModel" 466 yX9_isSeed ∈ GW := gm 2057 (by decide +kernel) (by decide +kernel)
theorem hd_X9_isSeed : yX9_isSeed.cls ≠ "java/lang/invoke/MethodHandle" ∧ yX9_isSeed.cls ≠ "java/lang/invoke/VarHandle" ∧ (parseMethodDescriptor yX9_isSeed.desc).map (fun d => d.parameters.length) = some 1 := by decide +kernel
theorem gm_2059 : Cond.code yX9_isSeed cX9_isSeed 1 (some .boolean) ∈ GW := gm 2059 (by decide +kernel) (by decide +kernel)
theorem gm_2058 : Cond.static yX9_isSeed ∈ GW := gm 2058 (by decide +kernel) (by decide +kernel)
theorem sk_X9_isSeed : SK yX9_isSeed cX9_isSeed 1 (some .boolean) := ⟨gm_2059, gm_2058, gm_117⟩
theorem gm_2073 : Cond.constantLong "UncutTaleModel" 473 20 ∈ GW := gm 2073 (by decide +kernel) (by decide +kernel)
theorem pn_X9_luck : plainName yX9_luck.cls = true := by decide +kernel
theorem pn_X9_rate : plainName yX9_rate.cls = true := by decide +kernel
theorem gm_1349 : Cond.fieldLink "UncutTaleModel" 27 "UncutTaleModel" "faultPlace" "I" ∈ GW := gm 1349 (by decide +kernel) (by decide +kernel)
theorem fk_9_27 : FK "UncutTaleModel" 27 9 15 := ⟨RX9, TX9, 51, rfl, by decide, iw_9, gm_1349⟩
theorem gm_1348 : Cond.fieldLink "UncutTaleModel" 162 "UncutTaleModel" "fault" "I" ∈ GW := gm 1348 (by decide +kernel) (by decide +kernel)
theorem fk_9_162 : FK "UncutTaleModel" 162 9 14 := ⟨RX9, TX9, 51, rfl, by decide, iw_9, gm_1348⟩
theorem pn_X9_fault : plainName yX9_fault.cls = true := by decide +kernel
theorem gm_1340 : Cond.fieldLink "UncutTaleModel" 100 "UncutTaleModel" "taped" "I" ∈ GW := gm 1340 (by decide +kernel) (by decide +kernel)
theorem fk_9_100 : FK "UncutTaleModel" 100 9 6 := ⟨RX9, TX9, 51, rfl, by decide, iw_9, gm_1340⟩
theorem pk_9_100 : PK "UncutTaleModel" 100 9 6 .int := ⟨RX9, TX9, 51, tyX9, rfl, by decide, iw_9, gm_1340, tyX9_ok, nmX9, rfl, by decide +kernel⟩
theorem pn_X9_end : plainName yX9_end.cls = true := by decide +kernel
theorem gm_2103 : Cond.constantLong "UncutTaleModel" 480 6 ∈ GW := gm 2103 (by decide +kernel) (by decide +kernel)
theorem gm_1335 : Cond.fieldLink "UncutTaleModel" 7 "UncutTaleModel" "width" "[I" ∈ GW := gm 1335 (by decide +kernel) (by decide +kernel)
theorem fk_9_7 : FK "UncutTaleModel" 7 9 1 := ⟨RX9, TX9, 51, rfl, by decide, iw_9, gm_1335⟩
theorem pn_X9_count : plainName yX9_count.cls = true := by decide +kernel
theorem gm_1653 : Cond.constantLong "UncutTaleModel" 325 2 ∈ GW := gm 1653 (by decide +kernel) (by decide +kernel)
theorem pn_X9_copyRow : plainName yX9_copyRow.cls = true := by decide +kernel
theorem gm_1638 : Cond.methodLink "UncutTaleModel" 241 yX9_copyRow ∈ GW := gm 1638 (by decide +kernel) (by decide +kernel)
theorem hd_X9_copyRow : yX9_copyRow.cls ≠ "java/lang/invoke/MethodHandle" ∧ yX9_copyRow.cls ≠ "java/lang/invoke/VarHandle" ∧ (parseMethodDescriptor yX9_copyRow.desc).map (fun d => d.parameters.length) = some 4 := by decide +kernel
theorem gm_1640 : Cond.code yX9_copyRow cX9_copyRow 5 none ∈ GW := gm 1640 (by decide +kernel) (by decide +kernel)
theorem gm_1639 : Cond.static yX9_copyRow ∈ GW := gm 1639 (by decide +kernel) (by decide +kernel)
theorem sk_X9_copyRow : SK yX9_copyRow cX9_copyRow 5 none := ⟨gm_1640, gm_1639, gm_117⟩
theorem gm_1352 : Cond.fieldLink "UncutTaleModel" 37 "UncutTaleModel" "told" "[I" ∈ GW := gm 1352 (by decide +kernel) (by decide +kernel)
theorem fk_9_37 : FK "UncutTaleModel" 37 9 18 := ⟨RX9, TX9, 51, rfl, by decide, iw_9, gm_1352⟩
theorem gm_1353 : Cond.fieldLink "UncutTaleModel" 40 "UncutTaleModel" "fold" "[I" ∈ GW := gm 1353 (by decide +kernel) (by decide +kernel)
theorem fk_9_40 : FK "UncutTaleModel" 40 9 19 := ⟨RX9, TX9, 51, rfl, by decide, iw_9, gm_1353⟩
theorem gm_1354 : Cond.fieldLink "UncutTaleModel" 43 "UncutTaleModel" "blade" "[I" ∈ GW := gm 1354 (by decide +kernel) (by decide +kernel)
theorem fk_9_43 : FK "UncutTaleModel" 43 9 20 := ⟨RX9, TX9, 51, rfl, by decide, iw_9, gm_1354⟩
theorem gm_1355 : Cond.fieldLink "UncutTaleModel" 46 "UncutTaleModel" "act" "[I" ∈ GW := gm 1355 (by decide +kernel) (by decide +kernel)
theorem fk_9_46 : FK "UncutTaleModel" 46 9 21 := ⟨RX9, TX9, 51, rfl, by decide, iw_9, gm_1355⟩
theorem pn_X9_copyTale : plainName yX9_copyTale.cls = true := by decide +kernel
theorem gm_1634 : Cond.methodLink "UncutTaleModel" 238 yX9_copyTale ∈ GW := gm 1634 (by decide +kernel) (by decide +kernel)
theorem hd_X9_copyTale : yX9_copyTale.cls ≠ "java/lang/invoke/MethodHandle" ∧ yX9_copyTale.cls ≠ "java/lang/invoke/VarHandle" ∧ (parseMethodDescriptor yX9_copyTale.desc).map (fun d => d.parameters.length) = some 2 := by decide +kernel
theorem gm_1637 : Cond.code yX9_copyTale cX9_copyTale 3 none ∈ GW := gm 1637 (by decide +kernel) (by decide +kernel)
theorem gm_1636 : Cond.instanceMethod yX9_copyTale ∈ GW := gm 1636 (by decide +kernel) (by decide +kernel)
theorem gm_66 : Cond.selects "UncutTaleModel" yX9_copyTale yX9_copyTale ∈ GW := gm 66 (by decide +kernel) (by decide +kernel)
theorem mk_X9_copyTale : MK yX9_copyTale cX9_copyTale 3 none := ⟨gm_1637, gm_1636, gm_66, gm_117⟩
theorem gm_1356 : Cond.fieldLink "UncutTaleModel" 49 "UncutTaleModel" "isKept" "[Z" ∈ GW := gm 1356 (by decide +kernel) (by decide +kernel)
theorem fk_9_49 : FK "UncutTaleModel" 49 9 22 := ⟨RX9, TX9, 51, rfl, by decide, iw_9, gm_1356⟩
theorem pn_X9_image : plainName yX9_image.cls = true := by decide +kernel
theorem pn_X9_back : plainName yX9_back.cls = true := by decide +kernel
theorem gm_1336 : Cond.fieldLink "UncutTaleModel" 13 "UncutTaleModel" "many" "[I" ∈ GW := gm 1336 (by decide +kernel) (by decide +kernel)
theorem fk_9_13 : FK "UncutTaleModel" 13 9 2 := ⟨RX9, TX9, 51, rfl, by decide, iw_9, gm_1336⟩
theorem gm_1337 : Cond.fieldLink "UncutTaleModel" 16 "UncutTaleModel" "cells" "[J" ∈ GW := gm 1337 (by decide +kernel) (by decide +kernel)
theorem fk_9_16 : FK "UncutTaleModel" 16 9 3 := ⟨RX9, TX9, 51, rfl, by decide, iw_9, gm_1337⟩
theorem pn_X9_row : plainName yX9_row.cls = true := by decide +kernel
theorem pn_X9_write : plainName yX9_write.cls = true := by decide +kernel
theorem pn_X9_paste : plainName yX9_paste.cls = true := by decide +kernel
theorem gm_1339 : Cond.fieldLink "UncutTaleModel" 23 "UncutTaleModel" "tape" "[B" ∈ GW := gm 1339 (by decide +kernel) (by decide +kernel)
theorem fk_9_23 : FK "UncutTaleModel" 23 9 5 := ⟨RX9, TX9, 51, rfl, by decide, iw_9, gm_1339⟩
theorem pn_X9_four : plainName yX9_four.cls = true := by decide +kernel
theorem gm_1514 : Cond.methodLink "UncutTaleModel" 103 yX9_four ∈ GW := gm 1514 (by decide +kernel) (by decide +kernel)
theorem hd_X9_four : yX9_four.cls ≠ "java/lang/invoke/MethodHandle" ∧ yX9_four.cls ≠ "java/lang/invoke/VarHandle" ∧ (parseMethodDescriptor yX9_four.desc).map (fun d => d.parameters.length) = some 1 := by decide +kernel
theorem gm_1517 : Cond.code yX9_four cX9_four 3 none ∈ GW := gm 1517 (by decide +kernel) (by decide +kernel)
theorem gm_1516 : Cond.instanceMethod yX9_four ∈ GW := gm 1516 (by decide +kernel) (by decide +kernel)
theorem gm_43 : Cond.selects "UncutTaleModel" yX9_four yX9_four ∈ GW := gm 43 (by decide +kernel) (by decide +kernel)
theorem mk_X9_four : MK yX9_four cX9_four 3 none := ⟨gm_1517, gm_1516, gm_43, gm_117⟩
theorem pn_X9_feed : plainName yX9_feed.cls = true := by decide +kernel
theorem pn_X9_tellsOf : plainName yX9_tellsOf.cls = true := by decide +kernel
theorem gm_1534 : Cond.methodLink "UncutTaleModel" 178 yX9_tellsOf ∈ GW := gm 1534 (by decide +kernel) (by decide +kernel)
theorem hd_X9_tellsOf : yX9_tellsOf.cls ≠ "java/lang/invoke/MethodHandle" ∧ yX9_tellsOf.cls ≠ "java/lang/invoke/VarHandle" ∧ (parseMethodDescriptor yX9_tellsOf.desc).map (fun d => d.parameters.length) = some 2 := by decide +kernel
theorem gm_1537 : Cond.code yX9_tellsOf cX9_tellsOf 3 none ∈ GW := gm 1537 (by decide +kernel) (by decide +kernel)
theorem gm_1536 : Cond.instanceMethod yX9_tellsOf ∈ GW := gm 1536 (by decide +kernel) (by decide +kernel)
theorem gm_45 : Cond.selects "UncutTaleModel" yX9_tellsOf yX9_tellsOf ∈ GW := gm 45 (by decide +kernel) (by decide +kernel)
theorem mk_X9_tellsOf : MK yX9_tellsOf cX9_tellsOf 3 none := ⟨gm_1537, gm_1536, gm_45, gm_117⟩
theorem pn_X9_clears : plainName yX9_clears.cls = true := by decide +kernel
theorem gm_1530 : Cond.methodLink "UncutTaleModel" 211 yX9_clears ∈ GW := gm 1530 (by decide +kernel) (by decide +kernel)
theorem hd_X9_clears : yX9_clears.cls ≠ "java/lang/invoke/MethodHandle" ∧ yX9_clears.cls ≠ "java/lang/invoke/VarHandle" ∧ (parseMethodDescriptor yX9_clears.desc).map (fun d => d.parameters.length) = some 0 := by decide +kernel
theorem gm_1533 : Cond.code yX9_clears cX9_clears 2 none ∈ GW := gm 1533 (by decide +kernel) (by decide +kernel)
theorem gm_1532 : Cond.instanceMethod yX9_clears ∈ GW := gm 1532 (by decide +kernel) (by decide +kernel)
theorem gm_44 : Cond.selects "UncutTaleModel" yX9_clears yX9_clears ∈ GW := gm 44 (by decide +kernel) (by decide +kernel)
theorem mk_X9_clears : MK yX9_clears cX9_clears 2 none := ⟨gm_1533, gm_1532, gm_44, gm_117⟩
theorem gm_1346 : Cond.fieldLink "UncutTaleModel" 135 "UncutTaleModel" "bad" "I" ∈ GW := gm 1346 (by decide +kernel) (by decide +kernel)
theorem pk_9_135 : PK "UncutTaleModel" 135 9 12 .int := ⟨RX9, TX9, 51, tyX9, rfl, by decide, iw_9, gm_1346, tyX9_ok, nmX9, rfl, by decide +kernel⟩
theorem gm_1347 : Cond.fieldLink "UncutTaleModel" 138 "UncutTaleModel" "badPlace" "I" ∈ GW := gm 1347 (by decide +kernel) (by decide +kernel)
theorem pk_9_138 : PK "UncutTaleModel" 138 9 13 .int := ⟨RX9, TX9, 51, tyX9, rfl, by decide, iw_9, gm_1347, tyX9_ok, nmX9, rfl, by decide +kernel⟩
theorem gm_1341 : Cond.fieldLink "UncutTaleModel" 107 "UncutTaleModel" "spot" "I" ∈ GW := gm 1341 (by decide +kernel) (by decide +kernel)
theorem pk_9_107 : PK "UncutTaleModel" 107 9 7 .int := ⟨RX9, TX9, 51, tyX9, rfl, by decide, iw_9, gm_1341, tyX9_ok, nmX9, rfl, by decide +kernel⟩
theorem fk_9_107 : FK "UncutTaleModel" 107 9 7 := ⟨RX9, TX9, 51, rfl, by decide, iw_9, gm_1341⟩
theorem pn_X9_isByte : plainName yX9_isByte.cls = true := by decide +kernel
theorem gm_1546 : Cond.methodLink "UncutTaleModel" 110 yX9_isByte ∈ GW := gm 1546 (by decide +kernel) (by decide +kernel)
theorem hd_X9_isByte : yX9_isByte.cls ≠ "java/lang/invoke/MethodHandle" ∧ yX9_isByte.cls ≠ "java/lang/invoke/VarHandle" ∧ (parseMethodDescriptor yX9_isByte.desc).map (fun d => d.parameters.length) = some 3 := by decide +kernel
theorem gm_1549 : Cond.code yX9_isByte cX9_isByte 4 (some .boolean) ∈ GW := gm 1549 (by decide +kernel) (by decide +kernel)
theorem gm_1548 : Cond.instanceMethod yX9_isByte ∈ GW := gm 1548 (by decide +kernel) (by decide +kernel)
theorem gm_48 : Cond.selects "UncutTaleModel" yX9_isByte yX9_isByte ∈ GW := gm 48 (by decide +kernel) (by decide +kernel)
theorem mk_X9_isByte : MK yX9_isByte cX9_isByte 4 (some .boolean) := ⟨gm_1549, gm_1548, gm_48, gm_117⟩
theorem gm_1343 : Cond.fieldLink "UncutTaleModel" 114 "UncutTaleModel" "place" "I" ∈ GW := gm 1343 (by decide +kernel) (by decide +kernel)
theorem pk_9_114 : PK "UncutTaleModel" 114 9 9 .int := ⟨RX9, TX9, 51, tyX9, rfl, by decide, iw_9, gm_1343, tyX9_ok, nmX9, rfl, by decide +kernel⟩
theorem gm_1344 : Cond.fieldLink "UncutTaleModel" 117 "UncutTaleModel" "value" "I" ∈ GW := gm 1344 (by decide +kernel) (by decide +kernel)
theorem pk_9_117 : PK "UncutTaleModel" 117 9 10 .int := ⟨RX9, TX9, 51, tyX9, rfl, by decide, iw_9, gm_1344, tyX9_ok, nmX9, rfl, by decide +kernel⟩
theorem gm_1345 : Cond.fieldLink "UncutTaleModel" 120 "UncutTaleModel" "word" "J" ∈ GW := gm 1345 (by decide +kernel) (by decide +kernel)
theorem pk_9_120 : PK "UncutTaleModel" 120 9 11 .long := ⟨RX9, TX9, 51, tyX9, rfl, by decide, iw_9, gm_1345, tyX9_ok, nmX9, rfl, by decide +kernel⟩
theorem gm_1342 : Cond.fieldLink "UncutTaleModel" 124 "UncutTaleModel" "token" "I" ∈ GW := gm 1342 (by decide +kernel) (by decide +kernel)
theorem pk_9_124 : PK "UncutTaleModel" 124 9 8 .int := ⟨RX9, TX9, 51, tyX9, rfl, by decide, iw_9, gm_1342, tyX9_ok, nmX9, rfl, by decide +kernel⟩
theorem pn_X9_follows : plainName yX9_follows.cls = true := by decide +kernel
theorem gm_1542 : Cond.methodLink "UncutTaleModel" 145 yX9_follows ∈ GW := gm 1542 (by decide +kernel) (by decide +kernel)
theorem hd_X9_follows : yX9_follows.cls ≠ "java/lang/invoke/MethodHandle" ∧ yX9_follows.cls ≠ "java/lang/invoke/VarHandle" ∧ (parseMethodDescriptor yX9_follows.desc).map (fun d => d.parameters.length) = some 0 := by decide +kernel
theorem gm_1545 : Cond.code yX9_follows cX9_follows 2 none ∈ GW := gm 1545 (by decide +kernel) (by decide +kernel)
theorem gm_1544 : Cond.instanceMethod yX9_follows ∈ GW := gm 1544 (by decide +kernel) (by decide +kernel)
theorem gm_47 : Cond.selects "UncutTaleModel" yX9_follows yX9_follows ∈ GW := gm 47 (by decide +kernel) (by decide +kernel)
theorem mk_X9_follows : MK yX9_follows cX9_follows 2 none := ⟨gm_1545, gm_1544, gm_47, gm_117⟩
theorem pn_X9_begins : plainName yX9_begins.cls = true := by decide +kernel
theorem gm_1538 : Cond.methodLink "UncutTaleModel" 214 yX9_begins ∈ GW := gm 1538 (by decide +kernel) (by decide +kernel)
theorem hd_X9_begins : yX9_begins.cls ≠ "java/lang/invoke/MethodHandle" ∧ yX9_begins.cls ≠ "java/lang/invoke/VarHandle" ∧ (parseMethodDescriptor yX9_begins.desc).map (fun d => d.parameters.length) = some 0 := by decide +kernel
theorem gm_1541 : Cond.code yX9_begins cX9_begins 1 none ∈ GW := gm 1541 (by decide +kernel) (by decide +kernel)
theorem gm_1540 : Cond.instanceMethod yX9_begins ∈ GW := gm 1540 (by decide +kernel) (by decide +kernel)
theorem gm_46 : Cond.selects "UncutTaleModel" yX9_begins yX9_begins ∈ GW := gm 46 (by decide +kernel) (by decide +kernel)
theorem mk_X9_begins : MK yX9_begins cX9_begins 1 none := ⟨gm_1541, gm_1540, gm_46, gm_117⟩
theorem fk_9_135 : FK "UncutTaleModel" 135 9 12 := ⟨RX9, TX9, 51, rfl, by decide, iw_9, gm_1346⟩
theorem pn_X9_isGood : plainName yX9_isGood.cls = true := by decide +kernel
theorem gm_1555 : Cond.methodLink "UncutTaleModel" 217 yX9_isGood ∈ GW := gm 1555 (by decide +kernel) (by decide +kernel)
theorem hd_X9_isGood : yX9_isGood.cls ≠ "java/lang/invoke/MethodHandle" ∧ yX9_isGood.cls ≠ "java/lang/invoke/VarHandle" ∧ (parseMethodDescriptor yX9_isGood.desc).map (fun d => d.parameters.length) = some 0 := by decide +kernel
theorem gm_1558 : Cond.code yX9_isGood cX9_isGood 1 (some .boolean) ∈ GW := gm 1558 (by decide +kernel) (by decide +kernel)
theorem gm_1557 : Cond.instanceMethod yX9_isGood ∈ GW := gm 1557 (by decide +kernel) (by decide +kernel)
theorem gm_49 : Cond.selects "UncutTaleModel" yX9_isGood yX9_isGood ∈ GW := gm 49 (by decide +kernel) (by decide +kernel)
theorem mk_X9_isGood : MK yX9_isGood cX9_isGood 1 (some .boolean) := ⟨gm_1558, gm_1557, gm_49, gm_117⟩
theorem fk_9_124 : FK "UncutTaleModel" 124 9 8 := ⟨RX9, TX9, 51, rfl, by decide, iw_9, gm_1342⟩
theorem pk_9_162 : PK "UncutTaleModel" 162 9 14 .int := ⟨RX9, TX9, 51, tyX9, rfl, by decide, iw_9, gm_1348, tyX9_ok, nmX9, rfl, by decide +kernel⟩
theorem pk_9_27 : PK "UncutTaleModel" 27 9 15 .int := ⟨RX9, TX9, 51, tyX9, rfl, by decide, iw_9, gm_1349, tyX9_ok, nmX9, rfl, by decide +kernel⟩
theorem pn_X9_isOver : plainName yX9_isOver.cls = true := by decide +kernel
theorem gm_1630 : Cond.methodLink "UncutTaleModel" 235 yX9_isOver ∈ GW := gm 1630 (by decide +kernel) (by decide +kernel)
theorem hd_X9_isOver : yX9_isOver.cls ≠ "java/lang/invoke/MethodHandle" ∧ yX9_isOver.cls ≠ "java/lang/invoke/VarHandle" ∧ (parseMethodDescriptor yX9_isOver.desc).map (fun d => d.parameters.length) = some 0 := by decide +kernel
theorem gm_1633 : Cond.code yX9_isOver cX9_isOver 1 none ∈ GW := gm 1633 (by decide +kernel) (by decide +kernel)
theorem gm_1632 : Cond.instanceMethod yX9_isOver ∈ GW := gm 1632 (by decide +kernel) (by decide +kernel)
theorem gm_65 : Cond.selects "UncutTaleModel" yX9_isOver yX9_isOver ∈ GW := gm 65 (by decide +kernel) (by decide +kernel)
theorem mk_X9_isOver : MK yX9_isOver cX9_isOver 1 none := ⟨gm_1633, gm_1632, gm_65, gm_117⟩
theorem pn_X9_tale : plainName yX9_tale.cls = true := by decide +kernel
theorem gm_oc : Cond.code objectInit ⟨#[0xb1]⟩ 1 none ∈ GW := gm 133 (by decide +kernel) (by decide +kernel)
theorem gm_139 : Cond.methodLink "UncutTale$Tape" 3 ⟨"java/lang/Object", "<init>", "()V"⟩ ∈ GW := gm 139 (by decide +kernel) (by decide +kernel)
theorem gm_132 : Cond.instanceMethod ⟨"java/lang/Object", "<init>", "()V"⟩ ∈ GW := gm 132 (by decide +kernel) (by decide +kernel)
theorem gm_149 : Cond.arrayClass .byte ∈ GW := gm 149 (by decide +kernel) (by decide +kernel)
theorem qk_7_9 : QK "UncutTale$Tape" 9 7 0 (.array .byte) := ⟨RX7, TX7, 2, tyX7, rfl, by decide, iw_7, gm_140, tyX7_ok, nmX7, rfl, rfl, by decide +kernel⟩
theorem pn_X7_init : plainName yX7_init.cls = true := by decide +kernel
theorem gm_155 : Cond.methodLink "UncutTale$Story" 3 ⟨"java/lang/Object", "<init>", "()V"⟩ ∈ GW := gm 155 (by decide +kernel) (by decide +kernel)
theorem gm_258 : Cond.arrayClass .int ∈ GW := gm 258 (by decide +kernel) (by decide +kernel)
theorem qk_6_9 : QK "UncutTale$Story" 9 6 0 (.array .int) := ⟨RX6, TX6, 18, tyX6, rfl, by decide, iw_6, gm_156, tyX6_ok, nmX6, rfl, rfl, by decide +kernel⟩
theorem qk_6_15 : QK "UncutTale$Story" 15 6 1 (.array .int) := ⟨RX6, TX6, 18, tyX6, rfl, by decide, iw_6, gm_160, tyX6_ok, nmX6, rfl, rfl, by decide +kernel⟩
theorem qk_6_18 : QK "UncutTale$Story" 18 6 2 (.array .int) := ⟨RX6, TX6, 18, tyX6, rfl, by decide, iw_6, gm_163, tyX6_ok, nmX6, rfl, rfl, by decide +kernel⟩
theorem qk_6_21 : QK "UncutTale$Story" 21 6 3 (.array .int) := ⟨RX6, TX6, 18, tyX6, rfl, by decide, iw_6, gm_167, tyX6_ok, nmX6, rfl, rfl, by decide +kernel⟩
theorem qk_6_24 : QK "UncutTale$Story" 24 6 4 (.array .int) := ⟨RX6, TX6, 18, tyX6, rfl, by decide, iw_6, gm_169, tyX6_ok, nmX6, rfl, rfl, by decide +kernel⟩
theorem qk_6_27 : QK "UncutTale$Story" 27 6 5 (.array .int) := ⟨RX6, TX6, 18, tyX6, rfl, by decide, iw_6, gm_171, tyX6_ok, nmX6, rfl, rfl, by decide +kernel⟩
theorem qk_6_30 : QK "UncutTale$Story" 30 6 6 (.array .int) := ⟨RX6, TX6, 18, tyX6, rfl, by decide, iw_6, gm_174, tyX6_ok, nmX6, rfl, rfl, by decide +kernel⟩
theorem qk_6_33 : QK "UncutTale$Story" 33 6 7 (.array .int) := ⟨RX6, TX6, 18, tyX6, rfl, by decide, iw_6, gm_177, tyX6_ok, nmX6, rfl, rfl, by decide +kernel⟩
theorem qk_6_36 : QK "UncutTale$Story" 36 6 8 (.array .int) := ⟨RX6, TX6, 18, tyX6, rfl, by decide, iw_6, gm_180, tyX6_ok, nmX6, rfl, rfl, by decide +kernel⟩
theorem qk_6_39 : QK "UncutTale$Story" 39 6 9 (.array .int) := ⟨RX6, TX6, 18, tyX6, rfl, by decide, iw_6, gm_183, tyX6_ok, nmX6, rfl, rfl, by decide +kernel⟩
theorem pn_X6_init : plainName yX6_init.cls = true := by decide +kernel
theorem gm_298 : Cond.methodLink "UncutTale$Slots" 3 ⟨"java/lang/Object", "<init>", "()V"⟩ ∈ GW := gm 298 (by decide +kernel) (by decide +kernel)
theorem qk_5_9 : QK "UncutTale$Slots" 9 5 0 (.array .int) := ⟨RX5, TX5, 3, tyX5, rfl, by decide, iw_5, gm_299, tyX5_ok, nmX5, rfl, rfl, by decide +kernel⟩
theorem qk_5_15 : QK "UncutTale$Slots" 15 5 1 (.array .int) := ⟨RX5, TX5, 3, tyX5, rfl, by decide, iw_5, gm_300, tyX5_ok, nmX5, rfl, rfl, by decide +kernel⟩
theorem gm_310 : Cond.arrayClass .long ∈ GW := gm 310 (by decide +kernel) (by decide +kernel)
theorem qk_5_18 : QK "UncutTale$Slots" 18 5 2 (.array .long) := ⟨RX5, TX5, 3, tyX5, rfl, by decide, iw_5, gm_301, tyX5_ok, nmX5, rfl, rfl, by decide +kernel⟩
theorem pn_X5_init : plainName yX5_init.cls = true := by decide +kernel
theorem gm_264 : Cond.methodLink "UncutTale$Parser" 3 ⟨"java/lang/Object", "<init>", "()V"⟩ ∈ GW := gm 264 (by decide +kernel) (by decide +kernel)
theorem qk_3_15 : QK "UncutTale$Parser" 15 3 0 (.object "UncutTale$Tape") := ⟨RX3, TX3, 8, tyX3, rfl, by decide, iw_3, gm_265, tyX3_ok, nmX3, rfl, rfl, by decide +kernel⟩
theorem qk_3_19 : QK "UncutTale$Parser" 19 3 1 (.object "UncutTale$Story") := ⟨RX3, TX3, 8, tyX3, rfl, by decide, iw_3, gm_266, tyX3_ok, nmX3, rfl, rfl, by decide +kernel⟩
theorem pn_X3_init : plainName yX3_init.cls = true := by decide +kernel
theorem gm_316 : Cond.methodLink "UncutTale$Course" 3 ⟨"java/lang/Object", "<init>", "()V"⟩ ∈ GW := gm 316 (by decide +kernel) (by decide +kernel)
theorem gm_318 : Cond.fieldLink "UncutTale$Course" 9 "UncutTale$Course" "near" "[I" ∈ GW := gm 318 (by decide +kernel) (by decide +kernel)
theorem iw_0 : ∀ w ∈ u_ws RX0 TX0 10, w ∈ GW := by
  have h1 : ∀ w ∈ u_ws RX0 TX0 10, w ∈ lw_tbl ∧ goodWord w = true := by decide +kernel
  exact fun w h => List.mem_filter.mpr (h1 w h)
theorem qk_0_9 : QK "UncutTale$Course" 9 0 1 (.array .int) := ⟨RX0, TX0, 10, tyX0, rfl, by decide, iw_0, gm_318, tyX0_ok, nmX0, rfl, rfl, by decide +kernel⟩
theorem gm_319 : Cond.fieldLink "UncutTale$Course" 15 "UncutTale$Course" "airings" "[I" ∈ GW := gm 319 (by decide +kernel) (by decide +kernel)
theorem qk_0_15 : QK "UncutTale$Course" 15 0 2 (.array .int) := ⟨RX0, TX0, 10, tyX0, rfl, by decide, iw_0, gm_319, tyX0_ok, nmX0, rfl, rfl, by decide +kernel⟩
theorem gm_320 : Cond.fieldLink "UncutTale$Course" 18 "UncutTale$Course" "toCut" "[I" ∈ GW := gm 320 (by decide +kernel) (by decide +kernel)
theorem qk_0_18 : QK "UncutTale$Course" 18 0 3 (.array .int) := ⟨RX0, TX0, 10, tyX0, rfl, by decide, iw_0, gm_320, tyX0_ok, nmX0, rfl, rfl, by decide +kernel⟩
theorem gm_321 : Cond.fieldLink "UncutTale$Course" 21 "UncutTale$Course" "open" "[I" ∈ GW := gm 321 (by decide +kernel) (by decide +kernel)
theorem qk_0_21 : QK "UncutTale$Course" 21 0 4 (.array .int) := ⟨RX0, TX0, 10, tyX0, rfl, by decide, iw_0, gm_321, tyX0_ok, nmX0, rfl, rfl, by decide +kernel⟩
theorem gm_322 : Cond.fieldLink "UncutTale$Course" 24 "UncutTale$Course" "openedAt" "[I" ∈ GW := gm 322 (by decide +kernel) (by decide +kernel)
theorem qk_0_24 : QK "UncutTale$Course" 24 0 5 (.array .int) := ⟨RX0, TX0, 10, tyX0, rfl, by decide, iw_0, gm_322, tyX0_ok, nmX0, rfl, rfl, by decide +kernel⟩
theorem gm_323 : Cond.fieldLink "UncutTale$Course" 27 "UncutTale$Course" "trace" "[I" ∈ GW := gm 323 (by decide +kernel) (by decide +kernel)
theorem qk_0_27 : QK "UncutTale$Course" 27 0 6 (.array .int) := ⟨RX0, TX0, 10, tyX0, rfl, by decide, iw_0, gm_323, tyX0_ok, nmX0, rfl, rfl, by decide +kernel⟩
theorem gm_317 : Cond.fieldLink "UncutTale$Course" 30 "UncutTale$Course" "story" "LUncutTale$Story;" ∈ GW := gm 317 (by decide +kernel) (by decide +kernel)
theorem qk_0_30 : QK "UncutTale$Course" 30 0 0 (.object "UncutTale$Story") := ⟨RX0, TX0, 10, tyX0, rfl, by decide, iw_0, gm_317, tyX0_ok, nmX0, rfl, rfl, by decide +kernel⟩
theorem pn_X0_init : plainName yX0_init.cls = true := by decide +kernel
theorem gm_357 : Cond.methodLink "UncutTale$Planner" 3 ⟨"java/lang/Object", "<init>", "()V"⟩ ∈ GW := gm 357 (by decide +kernel) (by decide +kernel)
theorem gm_mna : Cond.classLink "UncutTale$Planner" 9 ("[" ++ (FieldType.array .int).toString) ∈ GW := gm 358 (by decide +kernel) (by decide +kernel)
theorem gm_362 : Cond.fieldLink "UncutTale$Planner" 11 "UncutTale$Planner" "stiff" "[[I" ∈ GW := gm 362 (by decide +kernel) (by decide +kernel)
theorem iw_4 : ∀ w ∈ u_ws RX4 TX4 9, w ∈ GW := by
  have h1 : ∀ w ∈ u_ws RX4 TX4 9, w ∈ lw_tbl ∧ goodWord w = true := by decide +kernel
  exact fun w h => List.mem_filter.mpr (h1 w h)
theorem qk_4_11 : QK "UncutTale$Planner" 11 4 2 (.array (.array .int)) := ⟨RX4, TX4, 9, tyX4, rfl, by decide, iw_4, gm_362, tyX4_ok, nmX4, rfl, rfl, by decide +kernel⟩
theorem gm_363 : Cond.fieldLink "UncutTale$Planner" 16 "UncutTale$Planner" "open" "[I" ∈ GW := gm 363 (by decide +kernel) (by decide +kernel)
theorem qk_4_16 : QK "UncutTale$Planner" 16 4 3 (.array .int) := ⟨RX4, TX4, 9, tyX4, rfl, by decide, iw_4, gm_363, tyX4_ok, nmX4, rfl, rfl, by decide +kernel⟩
theorem gm_364 : Cond.fieldLink "UncutTale$Planner" 20 "UncutTale$Planner" "read" "[I" ∈ GW := gm 364 (by decide +kernel) (by decide +kernel)
theorem qk_4_20 : QK "UncutTale$Planner" 20 4 4 (.array .int) := ⟨RX4, TX4, 9, tyX4, rfl, by decide, iw_4, gm_364, tyX4_ok, nmX4, rfl, rfl, by decide +kernel⟩
theorem gm_365 : Cond.fieldLink "UncutTale$Planner" 23 "UncutTale$Planner" "choice" "[I" ∈ GW := gm 365 (by decide +kernel) (by decide +kernel)
theorem qk_4_23 : QK "UncutTale$Planner" 23 4 5 (.array .int) := ⟨RX4, TX4, 9, tyX4, rfl, by decide, iw_4, gm_365, tyX4_ok, nmX4, rfl, rfl, by decide +kernel⟩
theorem gm_366 : Cond.fieldLink "UncutTale$Planner" 26 "UncutTale$Planner" "firstRow" "[I" ∈ GW := gm 366 (by decide +kernel) (by decide +kernel)
theorem qk_4_26 : QK "UncutTale$Planner" 26 4 6 (.array .int) := ⟨RX4, TX4, 9, tyX4, rfl, by decide, iw_4, gm_366, tyX4_ok, nmX4, rfl, rfl, by decide +kernel⟩
theorem gm_360 : Cond.fieldLink "UncutTale$Planner" 29 "UncutTale$Planner" "story" "LUncutTale$Story;" ∈ GW := gm 360 (by decide +kernel) (by decide +kernel)
theorem qk_4_29 : QK "UncutTale$Planner" 29 4 0 (.object "UncutTale$Story") := ⟨RX4, TX4, 9, tyX4, rfl, by decide, iw_4, gm_360, tyX4_ok, nmX4, rfl, rfl, by decide +kernel⟩
theorem gm_361 : Cond.fieldLink "UncutTale$Planner" 33 "UncutTale$Planner" "course" "LUncutTale$Course;" ∈ GW := gm 361 (by decide +kernel) (by decide +kernel)
theorem qk_4_33 : QK "UncutTale$Planner" 33 4 1 (.object "UncutTale$Course") := ⟨RX4, TX4, 9, tyX4, rfl, by decide, iw_4, gm_361, tyX4_ok, nmX4, rfl, rfl, by decide +kernel⟩
theorem pn_X4_init : plainName yX4_init.cls = true := by decide +kernel
theorem gm_396 : Cond.methodLink "UncutTale$Odds" 3 ⟨"java/lang/Object", "<init>", "()V"⟩ ∈ GW := gm 396 (by decide +kernel) (by decide +kernel)
theorem gm_399 : Cond.fieldLink "UncutTale$Odds" 9 "UncutTale$Odds" "openWeight" "[J" ∈ GW := gm 399 (by decide +kernel) (by decide +kernel)
theorem iw_2 : ∀ w ∈ u_ws RX2 TX2 5, w ∈ GW := by
  have h1 : ∀ w ∈ u_ws RX2 TX2 5, w ∈ lw_tbl ∧ goodWord w = true := by decide +kernel
  exact fun w h => List.mem_filter.mpr (h1 w h)
theorem qk_2_9 : QK "UncutTale$Odds" 9 2 2 (.array .long) := ⟨RX2, TX2, 5, tyX2, rfl, by decide, iw_2, gm_399, tyX2_ok, nmX2, rfl, rfl, by decide +kernel⟩
theorem gm_397 : Cond.fieldLink "UncutTale$Odds" 15 "UncutTale$Odds" "story" "LUncutTale$Story;" ∈ GW := gm 397 (by decide +kernel) (by decide +kernel)
theorem qk_2_15 : QK "UncutTale$Odds" 15 2 0 (.object "UncutTale$Story") := ⟨RX2, TX2, 5, tyX2, rfl, by decide, iw_2, gm_397, tyX2_ok, nmX2, rfl, rfl, by decide +kernel⟩
theorem gm_398 : Cond.fieldLink "UncutTale$Odds" 19 "UncutTale$Odds" "course" "LUncutTale$Course;" ∈ GW := gm 398 (by decide +kernel) (by decide +kernel)
theorem qk_2_19 : QK "UncutTale$Odds" 19 2 1 (.object "UncutTale$Course") := ⟨RX2, TX2, 5, tyX2, rfl, by decide, iw_2, gm_398, tyX2_ok, nmX2, rfl, rfl, by decide +kernel⟩
theorem pn_X2_init : plainName yX2_init.cls = true := by decide +kernel
theorem gm_421 : Cond.methodLink "UncutTale$Guess" 3 ⟨"java/lang/Object", "<init>", "()V"⟩ ∈ GW := gm 421 (by decide +kernel) (by decide +kernel)
theorem gm_309 : Cond.arrayClass .boolean ∈ GW := gm 309 (by decide +kernel) (by decide +kernel)
theorem gm_424 : Cond.fieldLink "UncutTale$Guess" 9 "UncutTale$Guess" "fits" "[Z" ∈ GW := gm 424 (by decide +kernel) (by decide +kernel)
theorem iw_1 : ∀ w ∈ u_ws RX1 TX1 6, w ∈ GW := by
  have h1 : ∀ w ∈ u_ws RX1 TX1 6, w ∈ lw_tbl ∧ goodWord w = true := by decide +kernel
  exact fun w h => List.mem_filter.mpr (h1 w h)
theorem qk_1_9 : QK "UncutTale$Guess" 9 1 2 (.array .boolean) := ⟨RX1, TX1, 6, tyX1, rfl, by decide, iw_1, gm_424, tyX1_ok, nmX1, rfl, rfl, by decide +kernel⟩
theorem gm_425 : Cond.fieldLink "UncutTale$Guess" 15 "UncutTale$Guess" "tally" "[I" ∈ GW := gm 425 (by decide +kernel) (by decide +kernel)
theorem qk_1_15 : QK "UncutTale$Guess" 15 1 3 (.array .int) := ⟨RX1, TX1, 6, tyX1, rfl, by decide, iw_1, gm_425, tyX1_ok, nmX1, rfl, rfl, by decide +kernel⟩
theorem gm_422 : Cond.fieldLink "UncutTale$Guess" 19 "UncutTale$Guess" "story" "LUncutTale$Story;" ∈ GW := gm 422 (by decide +kernel) (by decide +kernel)
theorem qk_1_19 : QK "UncutTale$Guess" 19 1 0 (.object "UncutTale$Story") := ⟨RX1, TX1, 6, tyX1, rfl, by decide, iw_1, gm_422, tyX1_ok, nmX1, rfl, rfl, by decide +kernel⟩
theorem gm_423 : Cond.fieldLink "UncutTale$Guess" 23 "UncutTale$Guess" "slots" "LUncutTale$Slots;" ∈ GW := gm 423 (by decide +kernel) (by decide +kernel)
theorem qk_1_23 : QK "UncutTale$Guess" 23 1 1 (.object "UncutTale$Slots") := ⟨RX1, TX1, 6, tyX1, rfl, by decide, iw_1, gm_423, tyX1_ok, nmX1, rfl, rfl, by decide +kernel⟩
theorem pn_X1_init : plainName yX1_init.cls = true := by decide +kernel
theorem gm_131 : Cond.methodLink "UncutTale" 1 ⟨"java/lang/Object", "<init>", "()V"⟩ ∈ GW := gm 131 (by decide +kernel) (by decide +kernel)
theorem df_7 : ∀ j, j < 2 → defaultValue (tyX7 j) = vp_V [.null, .int 0] j := by decide +kernel
theorem gm_134 : Cond.classLink "UncutTale" 7 "UncutTale$Tape" ∈ GW := gm 134 (by decide +kernel) (by decide +kernel)
theorem gm_135 : Cond.instantiable "UncutTale$Tape" 2 ∈ GW := gm 135 (by decide +kernel) (by decide +kernel)
theorem gm_138 : Cond.code yX7_init cX7_init 1 none ∈ GW := gm 138 (by decide +kernel) (by decide +kernel)
theorem gm_137 : Cond.instanceMethod yX7_init ∈ GW := gm 137 (by decide +kernel) (by decide +kernel)
theorem hd_X7_init : yX7_init.cls ≠ "java/lang/invoke/MethodHandle" ∧ yX7_init.cls ≠ "java/lang/invoke/VarHandle" ∧ (parseMethodDescriptor yX7_init.desc).map (fun d => d.parameters.length) = some 0 := by decide +kernel
theorem qk_8_10 : QK "UncutTale" 10 8 0 (.object "UncutTale$Tape") := ⟨RX8, TX8, 15, tyX8, rfl, by decide, iw_8, gm_443, tyX8_ok, nmX8, rfl, rfl, by decide +kernel⟩
theorem df_6 : ∀ j, j < 18 → defaultValue (tyX6 j) = vp_V [.null, .null, .null, .null, .null, .null, .null, .null, .null, .null, .int 0, .int 0, .int 0, .int 0, .int 0, .int 0, .int 0, .int 0] j := by decide +kernel
theorem gm_150 : Cond.classLink "UncutTale" 16 "UncutTale$Story" ∈ GW := gm 150 (by decide +kernel) (by decide +kernel)
theorem gm_151 : Cond.instantiable "UncutTale$Story" 18 ∈ GW := gm 151 (by decide +kernel) (by decide +kernel)
theorem gm_154 : Cond.code yX6_init cX6_init 1 none ∈ GW := gm 154 (by decide +kernel) (by decide +kernel)
theorem gm_153 : Cond.instanceMethod yX6_init ∈ GW := gm 153 (by decide +kernel) (by decide +kernel)
theorem hd_X6_init : yX6_init.cls ≠ "java/lang/invoke/MethodHandle" ∧ yX6_init.cls ≠ "java/lang/invoke/VarHandle" ∧ (parseMethodDescriptor yX6_init.desc).map (fun d => d.parameters.length) = some 0 := by decide +kernel
theorem qk_8_19 : QK "UncutTale" 19 8 1 (.object "UncutTale$Story") := ⟨RX8, TX8, 15, tyX8, rfl, by decide, iw_8, gm_444, tyX8_ok, nmX8, rfl, rfl, by decide +kernel⟩
theorem df_3 : ∀ j, j < 8 → defaultValue (tyX3 j) = vp_V [.null, .null, .int 0, .int 0, .int 0, .int 0, .int 0, .int 0] j := by decide +kernel
theorem gm_259 : Cond.classLink "UncutTale" 23 "UncutTale$Parser" ∈ GW := gm 259 (by decide +kernel) (by decide +kernel)
theorem gm_260 : Cond.instantiable "UncutTale$Parser" 8 ∈ GW := gm 260 (by decide +kernel) (by decide +kernel)
theorem gm_261 : Cond.methodLink "UncutTale" 25 yX3_init ∈ GW := gm 261 (by decide +kernel) (by decide +kernel)
theorem gm_263 : Cond.code yX3_init cX3_init 3 none ∈ GW := gm 263 (by decide +kernel) (by decide +kernel)
theorem gm_262 : Cond.instanceMethod yX3_init ∈ GW := gm 262 (by decide +kernel) (by decide +kernel)
theorem hd_X3_init : yX3_init.cls ≠ "java/lang/invoke/MethodHandle" ∧ yX3_init.cls ≠ "java/lang/invoke/VarHandle" ∧ (parseMethodDescriptor yX3_init.desc).map (fun d => d.parameters.length) = some 2 := by decide +kernel
theorem qk_8_28 : QK "UncutTale" 28 8 2 (.object "UncutTale$Parser") := ⟨RX8, TX8, 15, tyX8, rfl, by decide, iw_8, gm_445, tyX8_ok, nmX8, rfl, rfl, by decide +kernel⟩
theorem qk_8_32 : QK "UncutTale" 32 8 3 (.object "UncutTale$Story") := ⟨RX8, TX8, 15, tyX8, rfl, by decide, iw_8, gm_446, tyX8_ok, nmX8, rfl, rfl, by decide +kernel⟩
theorem qk_8_35 : QK "UncutTale" 35 8 4 (.array (.object "UncutTale$Story")) := ⟨RX8, TX8, 15, tyX8, rfl, by decide, iw_8, gm_447, tyX8_ok, nmX8, rfl, rfl, by decide +kernel⟩
theorem qk_8_39 : QK "UncutTale" 39 8 5 (.array .boolean) := ⟨RX8, TX8, 15, tyX8, rfl, by decide, iw_8, gm_448, tyX8_ok, nmX8, rfl, rfl, by decide +kernel⟩
theorem df_5 : ∀ j, j < 3 → defaultValue (tyX5 j) = vp_V [.null, .null, .null] j := by decide +kernel
theorem gm_293 : Cond.classLink "UncutTale" 43 "UncutTale$Slots" ∈ GW := gm 293 (by decide +kernel) (by decide +kernel)
theorem gm_294 : Cond.instantiable "UncutTale$Slots" 3 ∈ GW := gm 294 (by decide +kernel) (by decide +kernel)
theorem gm_297 : Cond.code yX5_init cX5_init 1 none ∈ GW := gm 297 (by decide +kernel) (by decide +kernel)
theorem gm_296 : Cond.instanceMethod yX5_init ∈ GW := gm 296 (by decide +kernel) (by decide +kernel)
theorem hd_X5_init : yX5_init.cls ≠ "java/lang/invoke/MethodHandle" ∧ yX5_init.cls ≠ "java/lang/invoke/VarHandle" ∧ (parseMethodDescriptor yX5_init.desc).map (fun d => d.parameters.length) = some 0 := by decide +kernel
theorem qk_8_46 : QK "UncutTale" 46 8 6 (.object "UncutTale$Slots") := ⟨RX8, TX8, 15, tyX8, rfl, by decide, iw_8, gm_449, tyX8_ok, nmX8, rfl, rfl, by decide +kernel⟩
theorem df_0 : ∀ j, j < 10 → defaultValue (tyX0 j) = vp_V [.null, .null, .null, .null, .null, .null, .null, .int 0, .int 0, .int 0] j := by decide +kernel
theorem gm_311 : Cond.classLink "UncutTale" 50 "UncutTale$Course" ∈ GW := gm 311 (by decide +kernel) (by decide +kernel)
theorem gm_312 : Cond.instantiable "UncutTale$Course" 10 ∈ GW := gm 312 (by decide +kernel) (by decide +kernel)
theorem gm_113 : Cond.initialized "UncutTale$Course" ∈ GW := gm 113 (by decide +kernel) (by decide +kernel)
theorem gm_313 : Cond.methodLink "UncutTale" 52 yX0_init ∈ GW := gm 313 (by decide +kernel) (by decide +kernel)
theorem gm_315 : Cond.code yX0_init cX0_init 2 none ∈ GW := gm 315 (by decide +kernel) (by decide +kernel)
theorem gm_314 : Cond.instanceMethod yX0_init ∈ GW := gm 314 (by decide +kernel) (by decide +kernel)
theorem hd_X0_init : yX0_init.cls ≠ "java/lang/invoke/MethodHandle" ∧ yX0_init.cls ≠ "java/lang/invoke/VarHandle" ∧ (parseMethodDescriptor yX0_init.desc).map (fun d => d.parameters.length) = some 1 := by decide +kernel
theorem gm_450 : Cond.fieldLink "UncutTale" 55 "UncutTale" "now" "LUncutTale$Course;" ∈ GW := gm 450 (by decide +kernel) (by decide +kernel)
theorem qk_8_55 : QK "UncutTale" 55 8 7 (.object "UncutTale$Course") := ⟨RX8, TX8, 15, tyX8, rfl, by decide, iw_8, gm_450, tyX8_ok, nmX8, rfl, rfl, by decide +kernel⟩
theorem gm_451 : Cond.fieldLink "UncutTale" 59 "UncutTale" "trial" "LUncutTale$Course;" ∈ GW := gm 451 (by decide +kernel) (by decide +kernel)
theorem qk_8_59 : QK "UncutTale" 59 8 8 (.object "UncutTale$Course") := ⟨RX8, TX8, 15, tyX8, rfl, by decide, iw_8, gm_451, tyX8_ok, nmX8, rfl, rfl, by decide +kernel⟩
theorem df_4 : ∀ j, j < 9 → defaultValue (tyX4 j) = vp_V [.null, .null, .null, .null, .null, .null, .null, .int 0, .int 0] j := by decide +kernel
theorem gm_352 : Cond.classLink "UncutTale" 62 "UncutTale$Planner" ∈ GW := gm 352 (by decide +kernel) (by decide +kernel)
theorem gm_353 : Cond.instantiable "UncutTale$Planner" 9 ∈ GW := gm 353 (by decide +kernel) (by decide +kernel)
theorem gm_114 : Cond.initialized "UncutTale$Planner" ∈ GW := gm 114 (by decide +kernel) (by decide +kernel)
theorem fk_8_59 : FK "UncutTale" 59 8 8 := ⟨RX8, TX8, 15, rfl, by decide, iw_8, gm_451⟩
theorem gm_354 : Cond.methodLink "UncutTale" 64 yX4_init ∈ GW := gm 354 (by decide +kernel) (by decide +kernel)
theorem gm_356 : Cond.code yX4_init cX4_init 3 none ∈ GW := gm 356 (by decide +kernel) (by decide +kernel)
theorem gm_355 : Cond.instanceMethod yX4_init ∈ GW := gm 355 (by decide +kernel) (by decide +kernel)
theorem hd_X4_init : yX4_init.cls ≠ "java/lang/invoke/MethodHandle" ∧ yX4_init.cls ≠ "java/lang/invoke/VarHandle" ∧ (parseMethodDescriptor yX4_init.desc).map (fun d => d.parameters.length) = some 2 := by decide +kernel
theorem gm_452 : Cond.fieldLink "UncutTale" 67 "UncutTale" "planner" "LUncutTale$Planner;" ∈ GW := gm 452 (by decide +kernel) (by decide +kernel)
theorem qk_8_67 : QK "UncutTale" 67 8 9 (.object "UncutTale$Planner") := ⟨RX8, TX8, 15, tyX8, rfl, by decide, iw_8, gm_452, tyX8_ok, nmX8, rfl, rfl, by decide +kernel⟩
theorem df_2 : ∀ j, j < 5 → defaultValue (tyX2 j) = vp_V [.null, .null, .null, .long 0, .long 0] j := by decide +kernel
theorem gm_391 : Cond.classLink "UncutTale" 71 "UncutTale$Odds" ∈ GW := gm 391 (by decide +kernel) (by decide +kernel)
theorem gm_392 : Cond.instantiable "UncutTale$Odds" 5 ∈ GW := gm 392 (by decide +kernel) (by decide +kernel)
theorem gm_115 : Cond.initialized "UncutTale$Odds" ∈ GW := gm 115 (by decide +kernel) (by decide +kernel)
theorem gm_393 : Cond.methodLink "UncutTale" 73 yX2_init ∈ GW := gm 393 (by decide +kernel) (by decide +kernel)
theorem gm_395 : Cond.code yX2_init cX2_init 3 none ∈ GW := gm 395 (by decide +kernel) (by decide +kernel)
theorem gm_394 : Cond.instanceMethod yX2_init ∈ GW := gm 394 (by decide +kernel) (by decide +kernel)
theorem hd_X2_init : yX2_init.cls ≠ "java/lang/invoke/MethodHandle" ∧ yX2_init.cls ≠ "java/lang/invoke/VarHandle" ∧ (parseMethodDescriptor yX2_init.desc).map (fun d => d.parameters.length) = some 2 := by decide +kernel
theorem gm_453 : Cond.fieldLink "UncutTale" 74 "UncutTale" "odds" "LUncutTale$Odds;" ∈ GW := gm 453 (by decide +kernel) (by decide +kernel)
theorem qk_8_74 : QK "UncutTale" 74 8 10 (.object "UncutTale$Odds") := ⟨RX8, TX8, 15, tyX8, rfl, by decide, iw_8, gm_453, tyX8_ok, nmX8, rfl, rfl, by decide +kernel⟩
theorem df_1 : ∀ j, j < 6 → defaultValue (tyX1 j) = vp_V [.null, .null, .null, .null, .int 0, .int 0] j := by decide +kernel
theorem gm_416 : Cond.classLink "UncutTale" 78 "UncutTale$Guess" ∈ GW := gm 416 (by decide +kernel) (by decide +kernel)
theorem gm_417 : Cond.instantiable "UncutTale$Guess" 6 ∈ GW := gm 417 (by decide +kernel) (by decide +kernel)
theorem gm_116 : Cond.initialized "UncutTale$Guess" ∈ GW := gm 116 (by decide +kernel) (by decide +kernel)
theorem gm_418 : Cond.methodLink "UncutTale" 80 yX1_init ∈ GW := gm 418 (by decide +kernel) (by decide +kernel)
theorem gm_420 : Cond.code yX1_init cX1_init 3 none ∈ GW := gm 420 (by decide +kernel) (by decide +kernel)
theorem gm_419 : Cond.instanceMethod yX1_init ∈ GW := gm 419 (by decide +kernel) (by decide +kernel)
theorem hd_X1_init : yX1_init.cls ≠ "java/lang/invoke/MethodHandle" ∧ yX1_init.cls ≠ "java/lang/invoke/VarHandle" ∧ (parseMethodDescriptor yX1_init.desc).map (fun d => d.parameters.length) = some 2 := by decide +kernel
theorem gm_454 : Cond.fieldLink "UncutTale" 83 "UncutTale" "guess" "LUncutTale$Guess;" ∈ GW := gm 454 (by decide +kernel) (by decide +kernel)
theorem qk_8_83 : QK "UncutTale" 83 8 11 (.object "UncutTale$Guess") := ⟨RX8, TX8, 15, tyX8, rfl, by decide, iw_8, gm_454, tyX8_ok, nmX8, rfl, rfl, by decide +kernel⟩
theorem pn_X8_init : plainName yX8_init.cls = true := by decide +kernel
theorem gm_1333 : Cond.methodLink "UncutTaleModel" 1 ⟨"java/lang/Object", "<init>", "()V"⟩ ∈ GW := gm 1333 (by decide +kernel) (by decide +kernel)
theorem qk_9_7 : QK "UncutTaleModel" 7 9 1 (.array .int) := ⟨RX9, TX9, 51, tyX9, rfl, by decide, iw_9, gm_1335, tyX9_ok, nmX9, rfl, rfl, by decide +kernel⟩
theorem qk_9_13 : QK "UncutTaleModel" 13 9 2 (.array .int) := ⟨RX9, TX9, 51, tyX9, rfl, by decide, iw_9, gm_1336, tyX9_ok, nmX9, rfl, rfl, by decide +kernel⟩
theorem qk_9_16 : QK "UncutTaleModel" 16 9 3 (.array .long) := ⟨RX9, TX9, 51, tyX9, rfl, by decide, iw_9, gm_1337, tyX9_ok, nmX9, rfl, rfl, by decide +kernel⟩
theorem gm_1338 : Cond.fieldLink "UncutTaleModel" 20 "UncutTaleModel" "moved" "[J" ∈ GW := gm 1338 (by decide +kernel) (by decide +kernel)
theorem qk_9_20 : QK "UncutTaleModel" 20 9 4 (.array .long) := ⟨RX9, TX9, 51, tyX9, rfl, by decide, iw_9, gm_1338, tyX9_ok, nmX9, rfl, rfl, by decide +kernel⟩
theorem qk_9_23 : QK "UncutTaleModel" 23 9 5 (.array .byte) := ⟨RX9, TX9, 51, tyX9, rfl, by decide, iw_9, gm_1339, tyX9_ok, nmX9, rfl, rfl, by decide +kernel⟩
theorem qk_9_31 : QK "UncutTaleModel" 31 9 16 (.array .int) := ⟨RX9, TX9, 51, tyX9, rfl, by decide, iw_9, gm_1350, tyX9_ok, nmX9, rfl, rfl, by decide +kernel⟩
theorem qk_9_34 : QK "UncutTaleModel" 34 9 17 (.array .int) := ⟨RX9, TX9, 51, tyX9, rfl, by decide, iw_9, gm_1351, tyX9_ok, nmX9, rfl, rfl, by decide +kernel⟩
theorem qk_9_37 : QK "UncutTaleModel" 37 9 18 (.array .int) := ⟨RX9, TX9, 51, tyX9, rfl, by decide, iw_9, gm_1352, tyX9_ok, nmX9, rfl, rfl, by decide +kernel⟩
theorem qk_9_40 : QK "UncutTaleModel" 40 9 19 (.array .int) := ⟨RX9, TX9, 51, tyX9, rfl, by decide, iw_9, gm_1353, tyX9_ok, nmX9, rfl, rfl, by decide +kernel⟩
theorem qk_9_43 : QK "UncutTaleModel" 43 9 20 (.array .int) := ⟨RX9, TX9, 51, tyX9, rfl, by decide, iw_9, gm_1354, tyX9_ok, nmX9, rfl, rfl, by decide +kernel⟩
theorem qk_9_46 : QK "UncutTaleModel" 46 9 21 (.array .int) := ⟨RX9, TX9, 51, tyX9, rfl, by decide, iw_9, gm_1355, tyX9_ok, nmX9, rfl, rfl, by decide +kernel⟩
theorem qk_9_49 : QK "UncutTaleModel" 49 9 22 (.array .boolean) := ⟨RX9, TX9, 51, tyX9, rfl, by decide, iw_9, gm_1356, tyX9_ok, nmX9, rfl, rfl, by decide +kernel⟩
theorem gm_1362 : Cond.fieldLink "UncutTaleModel" 53 "UncutTaleModel" "stiffTold" "[I" ∈ GW := gm 1362 (by decide +kernel) (by decide +kernel)
theorem qk_9_53 : QK "UncutTaleModel" 53 9 28 (.array .int) := ⟨RX9, TX9, 51, tyX9, rfl, by decide, iw_9, gm_1362, tyX9_ok, nmX9, rfl, rfl, by decide +kernel⟩
theorem gm_1363 : Cond.fieldLink "UncutTaleModel" 56 "UncutTaleModel" "planSet" "[I" ∈ GW := gm 1363 (by decide +kernel) (by decide +kernel)
theorem qk_9_56 : QK "UncutTaleModel" 56 9 29 (.array .int) := ⟨RX9, TX9, 51, tyX9, rfl, by decide, iw_9, gm_1363, tyX9_ok, nmX9, rfl, rfl, by decide +kernel⟩
theorem gm_1364 : Cond.fieldLink "UncutTaleModel" 59 "UncutTaleModel" "stiffs0" "[I" ∈ GW := gm 1364 (by decide +kernel) (by decide +kernel)
theorem qk_9_59 : QK "UncutTaleModel" 59 9 30 (.array .int) := ⟨RX9, TX9, 51, tyX9, rfl, by decide, iw_9, gm_1364, tyX9_ok, nmX9, rfl, rfl, by decide +kernel⟩
theorem gm_1365 : Cond.fieldLink "UncutTaleModel" 62 "UncutTaleModel" "openAt" "[I" ∈ GW := gm 1365 (by decide +kernel) (by decide +kernel)
theorem qk_9_62 : QK "UncutTaleModel" 62 9 31 (.array .int) := ⟨RX9, TX9, 51, tyX9, rfl, by decide, iw_9, gm_1365, tyX9_ok, nmX9, rfl, rfl, by decide +kernel⟩
theorem gm_1366 : Cond.fieldLink "UncutTaleModel" 65 "UncutTaleModel" "openedIn" "[I" ∈ GW := gm 1366 (by decide +kernel) (by decide +kernel)
theorem qk_9_65 : QK "UncutTaleModel" 65 9 32 (.array .int) := ⟨RX9, TX9, 51, tyX9, rfl, by decide, iw_9, gm_1366, tyX9_ok, nmX9, rfl, rfl, by decide +kernel⟩
theorem gm_1367 : Cond.fieldLink "UncutTaleModel" 68 "UncutTaleModel" "howOpened" "[I" ∈ GW := gm 1367 (by decide +kernel) (by decide +kernel)
theorem qk_9_68 : QK "UncutTaleModel" 68 9 33 (.array .int) := ⟨RX9, TX9, 51, tyX9, rfl, by decide, iw_9, gm_1367, tyX9_ok, nmX9, rfl, rfl, by decide +kernel⟩
theorem gm_1368 : Cond.fieldLink "UncutTaleModel" 71 "UncutTaleModel" "readFor" "[I" ∈ GW := gm 1368 (by decide +kernel) (by decide +kernel)
theorem qk_9_71 : QK "UncutTaleModel" 71 9 34 (.array .int) := ⟨RX9, TX9, 51, tyX9, rfl, by decide, iw_9, gm_1368, tyX9_ok, nmX9, rfl, rfl, by decide +kernel⟩
theorem gm_1373 : Cond.fieldLink "UncutTaleModel" 74 "UncutTaleModel" "planRow" "[I" ∈ GW := gm 1373 (by decide +kernel) (by decide +kernel)
theorem qk_9_74 : QK "UncutTaleModel" 74 9 39 (.array .int) := ⟨RX9, TX9, 51, tyX9, rfl, by decide, iw_9, gm_1373, tyX9_ok, nmX9, rfl, rfl, by decide +kernel⟩
theorem gm_1374 : Cond.fieldLink "UncutTaleModel" 77 "UncutTaleModel" "planNow" "[I" ∈ GW := gm 1374 (by decide +kernel) (by decide +kernel)
theorem qk_9_77 : QK "UncutTaleModel" 77 9 40 (.array .int) := ⟨RX9, TX9, 51, tyX9, rfl, by decide, iw_9, gm_1374, tyX9_ok, nmX9, rfl, rfl, by decide +kernel⟩
theorem gm_1380 : Cond.fieldLink "UncutTaleModel" 80 "UncutTaleModel" "oftenAt" "[I" ∈ GW := gm 1380 (by decide +kernel) (by decide +kernel)
theorem qk_9_80 : QK "UncutTaleModel" 80 9 46 (.array .int) := ⟨RX9, TX9, 51, tyX9, rfl, by decide, iw_9, gm_1380, tyX9_ok, nmX9, rfl, rfl, by decide +kernel⟩
theorem pn_X9_init : plainName yX9_init.cls = true := by decide +kernel
