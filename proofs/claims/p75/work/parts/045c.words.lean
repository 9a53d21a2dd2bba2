theorem gm_2043 : Cond.code yX9_weightOf cX9_weightOf 8 (some .long) ∈ GW := gm 2043 (by decide +kernel) (by decide +kernel)
theorem gm_2042 : Cond.instanceMethod yX9_weightOf ∈ GW := gm 2042 (by decide +kernel) (by decide +kernel)
theorem gm_104 : Cond.selects "UncutTaleModel" yX9_weightOf yX9_weightOf ∈ GW := gm 104 (by decide +kernel) (by decide +kernel)
theorem mk_X9_weightOf : MK yX9_weightOf cX9_weightOf 8 (some .long) := ⟨gm_2043, gm_2042, gm_104, gm_117⟩
theorem gm_2040 : Cond.methodLink "UncutTaleModel" 450 yX9_weightOf ∈ GW := gm 2040 (by decide +kernel) (by decide +kernel)
theorem pn_X9_chance : plainName yX9_chance.cls = true := by decide +kernel
theorem gm_2052 : Cond.constantLong "UncutTaleModel" 454 (-2) ∈ GW := gm 2052 (by decide +kernel) (by decide +kernel)
theorem pn_X9_mean : plainName yX9_mean.cls = true := by decide +kernel
theorem pn_X9_does : plainName yX9_does.cls = true := by decide +kernel
theorem hd_X9_does : yX9_does.cls ≠ "java/lang/invoke/MethodHandle" ∧ yX9_does.cls ≠ "java/lang/invoke/VarHandle" ∧ (parseMethodDescriptor yX9_does.desc).map (fun d => d.parameters.length) = some 3 := by decide +kernel
theorem gm_2081 : Cond.code yX9_does cX9_does 5 none ∈ GW := gm 2081 (by decide +kernel) (by decide +kernel)
theorem gm_2080 : Cond.instanceMethod yX9_does ∈ GW := gm 2080 (by decide +kernel) (by decide +kernel)
theorem gm_106 : Cond.selects "UncutTaleModel" yX9_does yX9_does ∈ GW := gm 106 (by decide +kernel) (by decide +kernel)
theorem mk_X9_does : MK yX9_does cX9_does 5 none := ⟨gm_2081, gm_2080, gm_106, gm_117⟩
theorem gm_2078 : Cond.methodLink "UncutTaleModel" 475 yX9_does ∈ GW := gm 2078 (by decide +kernel) (by decide +kernel)
theorem pn_X9_knife : plainName yX9_knife.cls = true := by decide +kernel
theorem pn_X9_air : plainName yX9_air.cls = true := by decide +kernel
theorem pn_X9_undo : plainName yX9_undo.cls = true := by decide +kernel
theorem pn_X9_anew : plainName yX9_anew.cls = true := by decide +kernel
theorem gm_2060 : Cond.constantLong "UncutTaleModel" 464 2000000000 ∈ GW := gm 2060 (by decide +kernel) (by decide +kernel)
theorem pn_X9_isSeed : plainName yX9_isSeed.cls = true := by decide +kernel
theorem hd_X9_isSeed : yX9_isSeed.cls ≠ "java/lang/invoke/MethodHandle" ∧ yX9_isSeed.cls ≠ "java/lang/invoke/VarHandle" ∧ (parseMethodDescriptor yX9_isSeed.desc).map (fun d => d.parameters.length) = some 1 := by decide +kernel
theorem gm_2059 : Cond.code yX9_isSeed cX9_isSeed 1 (some .boolean) ∈ GW := gm 2059 (by decide +kernel) (by decide +kernel)
theorem gm_2058 : Cond.static yX9_isSeed ∈ GW := gm 2058 (by decide +kernel) (by decide +kernel)
theorem sk_X9_isSeed : SK yX9_isSeed cX9_isSeed 1 (some .boolean) := ⟨gm_2059, gm_2058, gm_117⟩
theorem gm_2057 : Cond.methodLink "UncutTaleModel" 466 yX9_isSeed ∈ GW := gm 2057 (by decide +kernel) (by decide +kernel)
theorem gm_2065 : Cond.constantLong "UncutTaleModel" 456 1103515245 ∈ GW := gm 2065 (by decide +kernel) (by decide +kernel)
theorem gm_2066 : Cond.constantLong "UncutTaleModel" 458 12345 ∈ GW := gm 2066 (by decide +kernel) (by decide +kernel)
theorem gm_2067 : Cond.constantLong "UncutTaleModel" 460 2147483648 ∈ GW := gm 2067 (by decide +kernel) (by decide +kernel)
theorem gm_2068 : Cond.constantLong "UncutTaleModel" 462 65536 ∈ GW := gm 2068 (by decide +kernel) (by decide +kernel)
theorem pn_X9_draws : plainName yX9_draws.cls = true := by decide +kernel
theorem hd_X9_draws : yX9_draws.cls ≠ "java/lang/invoke/MethodHandle" ∧ yX9_draws.cls ≠ "java/lang/invoke/VarHandle" ∧ (parseMethodDescriptor yX9_draws.desc).map (fun d => d.parameters.length) = some 1 := by decide +kernel
theorem gm_2064 : Cond.code yX9_draws cX9_draws 7 (some .int) ∈ GW := gm 2064 (by decide +kernel) (by decide +kernel)
theorem gm_2063 : Cond.instanceMethod yX9_draws ∈ GW := gm 2063 (by decide +kernel) (by decide +kernel)
theorem gm_105 : Cond.selects "UncutTaleModel" yX9_draws yX9_draws ∈ GW := gm 105 (by decide +kernel) (by decide +kernel)
theorem mk_X9_draws : MK yX9_draws cX9_draws 7 (some .int) := ⟨gm_2064, gm_2063, gm_105, gm_117⟩
theorem gm_2061 : Cond.methodLink "UncutTaleModel" 469 yX9_draws ∈ GW := gm 2061 (by decide +kernel) (by decide +kernel)
theorem pn_X9_drawn : plainName yX9_drawn.cls = true := by decide +kernel
theorem gm_2073 : Cond.constantLong "UncutTaleModel" 473 20 ∈ GW := gm 2073 (by decide +kernel) (by decide +kernel)
theorem pn_X9_luck : plainName yX9_luck.cls = true := by decide +kernel
theorem gm_2098 : Cond.constantLong "UncutTaleModel" 478 60 ∈ GW := gm 2098 (by decide +kernel) (by decide +kernel)
theorem pn_X9_rate : plainName yX9_rate.cls = true := by decide +kernel
theorem gm_2103 : Cond.constantLong "UncutTaleModel" 480 6 ∈ GW := gm 2103 (by decide +kernel) (by decide +kernel)
theorem pn_X9_count : plainName yX9_count.cls = true := by decide +kernel
theorem gm_1356 : Cond.fieldLink "UncutTaleModel" 49 "UncutTaleModel" "isKept" "[Z" ∈ GW := gm 1356 (by decide +kernel) (by decide +kernel)
theorem fk_9_49 : FK "UncutTaleModel" 49 9 22 := ⟨RX9, TX9, 51, rfl, by decide, iw_9, gm_1356⟩
theorem pn_X9_image : plainName yX9_image.cls = true := by decide +kernel
theorem pn_X9_back : plainName yX9_back.cls = true := by decide +kernel
theorem pn_X9_row : plainName yX9_row.cls = true := by decide +kernel
theorem pn_X9_cut : plainName yX9_cut.cls = true := by decide +kernel
theorem hd_X9_cut : yX9_cut.cls ≠ "java/lang/invoke/MethodHandle" ∧ yX9_cut.cls ≠ "java/lang/invoke/VarHandle" ∧ (parseMethodDescriptor yX9_cut.desc).map (fun d => d.parameters.length) = some 2 := by decide +kernel
theorem gm_1505 : Cond.code yX9_cut cX9_cut 3 (some .long) ∈ GW := gm 1505 (by decide +kernel) (by decide +kernel)
theorem gm_1504 : Cond.static yX9_cut ∈ GW := gm 1504 (by decide +kernel) (by decide +kernel)
theorem sk_X9_cut : SK yX9_cut cX9_cut 3 (some .long) := ⟨gm_1505, gm_1504, gm_117⟩
theorem gm_1503 : Cond.methodLink "UncutTaleModel" 96 yX9_cut ∈ GW := gm 1503 (by decide +kernel) (by decide +kernel)
theorem pn_X9_write : plainName yX9_write.cls = true := by decide +kernel
theorem gm_1338 : Cond.fieldLink "UncutTaleModel" 20 "UncutTaleModel" "moved" "[J" ∈ GW := gm 1338 (by decide +kernel) (by decide +kernel)
theorem fk_9_20 : FK "UncutTaleModel" 20 9 4 := ⟨RX9, TX9, 51, rfl, by decide, iw_9, gm_1338⟩
theorem pn_X9_paste : plainName yX9_paste.cls = true := by decide +kernel
theorem pn_X9_common : plainName yX9_common.cls = true := by decide +kernel
