set_option maxRecDepth 100000 in
set_option maxHeartbeats 4000000 in
theorem law_0 {p : Program} {l : Launch} {e : Env} {s : State} {m : MethodId} {below : List Frame} {meth : Method} {c : Code} {D : va_G} {cz : Nat → ClassId} {h : Nat → Nat} {z : EZ} {i : Nat → Nat → Int32} {g : Nat → Nat → Int64} {b L : Nat} {xs : Nat → Int32} {H : Heap} {locs : List Loc} {ls : Array Slot} {Q : State → Prop} {x3 : Int32} (X : Cxt p s m c #[Value.ref b] cL_law 4 "UncutTaleLaw" D cz) (Y : EV h z s s.heap) (hR : Rg rA i) (hX : va_X b L xs s s.heap) (hbl : b < s.heap.size) (hbA : ¬ hA h b) (hT : TH D h cz i g H) (hS : va_S (hA h) s.heap H locs) (hx3 : rg 0 3066 x3) (hL3 : x3.toInt + 6 ≤ (L : Int)) (hl : lv_has ls 4 [(3, .int x3), (2, .ref (h 96)), (1, .ref (h 0)), (0, .ref b)]) (hrel : rel74 i) (hE : ∀ (i : Nat → Nat → Int32) (g : Nat → Nat → Int64) (H : Heap) (locs : List Loc) (ls : Array Slot), Rg rA i → rel74 i → TH D h cz i g H → va_S (hA h) s.heap H locs → lv_has ls 4 [(3, .int x3), (2, .ref (h 96)), (1, .ref (h 0)), (0, .ref b)] → W p l e room_1 s m #[Value.ref b] below meth c H locs 600000 7302250 Q (F0 m 2196 ls [])) : W p l e room_1 s m #[Value.ref b] below meth c H locs 600000 7302250 Q (F0 m 344 ls []) := by
  have hx := X.1
  have hb := X.2.1
  refine lv_aload_n hx hb dL_law_344 rfl (lv_at hl 2 rfl) ?_
  refine lv_aload_n hx hb dL_law_345 rfl (lv_at hl 3 rfl) ?_
  refine lv_iload_n hx hb dL_law_346 rfl (lv_at hl 0 rfl) ?_
  refine lv_iconst (v := 1) hx hb dL_law_347 (by decide) ?_
  refine lv_iadd hx hb dL_law_348 ?_
  refine va_sld hx hb hX hbl hbA hS (i := (x3 + 1)) (sl_in 1 hx3 hL3 (by decide)) dL_law_349 ?_
  refine lv_aload_n hx hb dL_law_350 rfl (lv_at hl 3 rfl) ?_
  refine lv_iload_n hx hb dL_law_351 rfl (lv_at hl 0 rfl) ?_
  refine lv_iconst (v := 2) hx hb dL_law_352 (by decide) ?_
  refine lv_iadd hx hb dL_law_353 ?_
  refine va_sld hx hb hX hbl hbA hS (i := (x3 + 2)) (sl_in 2 hx3 hL3 (by decide)) dL_law_354 ?_
  refine lv_aload_n hx hb dL_law_355 rfl (lv_at hl 3 rfl) ?_
  refine lv_iload_n hx hb dL_law_356 rfl (lv_at hl 0 rfl) ?_
  refine lv_iconst (v := 3) hx hb dL_law_357 (by decide) ?_
  refine lv_iadd hx hb dL_law_358 ?_
  refine va_sld hx hb hX hbl hbA hS (i := (x3 + 3)) (sl_in 3 hx3 hL3 (by decide)) dL_law_359 ?_
  refine lv_aload_n hx hb dL_law_360 rfl (lv_at hl 3 rfl) ?_
  refine lv_iload_n hx hb dL_law_361 rfl (lv_at hl 0 rfl) ?_
  refine lv_iconst (v := 4) hx hb dL_law_362 (by decide) ?_
  refine lv_iadd hx hb dL_law_363 ?_
  refine va_sld hx hb hX hbl hbA hS (i := (x3 + 4)) (sl_in 4 hx3 hL3 (by decide)) dL_law_364 ?_
  refine lv_aload_n hx hb dL_law_365 rfl (lv_at hl 3 rfl) ?_
  refine lv_iload_n hx hb dL_law_366 rfl (lv_at hl 0 rfl) ?_
  refine lv_iconst (v := 5) hx hb dL_law_367 (by decide) ?_
  refine lv_iadd hx hb dL_law_368 ?_
  refine va_sld hx hb hX hbl hbA hS (i := (x3 + 5)) (sl_in 5 hx3 hL3 (by decide)) dL_law_369 ?_
  refine e_Vi (As := [.int (xs (Int32.toNatClampNeg (x3 + 1))), .int (xs (Int32.toNatClampNeg (x3 + 2))), .int (xs (Int32.toNatClampNeg (x3 + 3))), .int (xs (Int32.toNatClampNeg (x3 + 4))), .int (xs (Int32.toNatClampNeg (x3 + 5)))]) (rest := []) X Y hT hS (m_X8_feed hR (xs (Int32.toNatClampNeg (x3 + 1))) (xs (Int32.toNatClampNeg (x3 + 2))) (xs (Int32.toNatClampNeg (x3 + 3))) (xs (Int32.toNatClampNeg (x3 + 4))) (xs (Int32.toNatClampNeg (x3 + 5)))) mk_X8_feed gm_489 rfl rfl (by decide) hd_X8_feed ⟨rfl, rfl⟩ ⟨Nat.le_of_ble_eq_true rfl, Nat.le_of_ble_eq_true rfl⟩ hl.1 rfl (Nat.le_of_ble_eq_true rfl) dL_law_370 ⟨Nat.le_refl _, Nat.le_refl _⟩ (fun r1 i1 g1 H locs hq hT hS => ?_)
  obtain ⟨hR1, hf1, hr1⟩ := hq
  have hrel1_ : rel74 i1 := rel74_f hrel hf1 (by decide) (by decide) (by decide) (by decide)
  refine lv_pop hx hb dL_law_373 rfl ?_
  refine lv_aload_n hx hb dL_law_374 rfl (lv_at hl 1 rfl) ?_
  refine lv_aload_n hx hb dL_law_375 rfl (lv_at hl 3 rfl) ?_
  refine lv_iload_n hx hb dL_law_376 rfl (lv_at hl 0 rfl) ?_
  refine lv_iconst (v := 1) hx hb dL_law_377 (by decide) ?_
  refine lv_iadd hx hb dL_law_378 ?_
  refine va_sld hx hb hX hbl hbA hS (i := (x3 + 1)) (sl_in 1 hx3 hL3 (by decide)) dL_law_379 ?_
  refine lv_aload_n hx hb dL_law_380 rfl (lv_at hl 3 rfl) ?_
  refine lv_iload_n hx hb dL_law_381 rfl (lv_at hl 0 rfl) ?_
  refine lv_iconst (v := 2) hx hb dL_law_382 (by decide) ?_
  refine lv_iadd hx hb dL_law_383 ?_
  refine va_sld hx hb hX hbl hbA hS (i := (x3 + 2)) (sl_in 2 hx3 hL3 (by decide)) dL_law_384 ?_
  refine lv_aload_n hx hb dL_law_385 rfl (lv_at hl 3 rfl) ?_
  refine lv_iload_n hx hb dL_law_386 rfl (lv_at hl 0 rfl) ?_
  refine lv_iconst (v := 3) hx hb dL_law_387 (by decide) ?_
  refine lv_iadd hx hb dL_law_388 ?_
  refine va_sld hx hb hX hbl hbA hS (i := (x3 + 3)) (sl_in 3 hx3 hL3 (by decide)) dL_law_389 ?_
  refine lv_aload_n hx hb dL_law_390 rfl (lv_at hl 3 rfl) ?_
  refine lv_iload_n hx hb dL_law_391 rfl (lv_at hl 0 rfl) ?_
  refine lv_iconst (v := 4) hx hb dL_law_392 (by decide) ?_
  refine lv_iadd hx hb dL_law_393 ?_
  refine va_sld hx hb hX hbl hbA hS (i := (x3 + 4)) (sl_in 4 hx3 hL3 (by decide)) dL_law_394 ?_
  refine lv_aload_n hx hb dL_law_395 rfl (lv_at hl 3 rfl) ?_
  refine lv_iload_n hx hb dL_law_396 rfl (lv_at hl 0 rfl) ?_
  refine lv_iconst (v := 5) hx hb dL_law_397 (by decide) ?_
  refine lv_iadd hx hb dL_law_398 ?_
  refine va_sld hx hb hX hbl hbA hS (i := (x3 + 5)) (sl_in 5 hx3 hL3 (by decide)) dL_law_399 ?_
  refine e_Vi (As := [.int (xs (Int32.toNatClampNeg (x3 + 1))), .int (xs (Int32.toNatClampNeg (x3 + 2))), .int (xs (Int32.toNatClampNeg (x3 + 3))), .int (xs (Int32.toNatClampNeg (x3 + 4))), .int (xs (Int32.toNatClampNeg (x3 + 5)))]) (rest := []) X Y hT hS (m_X9_feed hR1 (xs (Int32.toNatClampNeg (x3 + 1))) (xs (Int32.toNatClampNeg (x3 + 2))) (xs (Int32.toNatClampNeg (x3 + 3))) (xs (Int32.toNatClampNeg (x3 + 4))) (xs (Int32.toNatClampNeg (x3 + 5)))) mk_X9_feed gm_1510 rfl rfl (by decide) hd_X9_feed ⟨rfl, rfl⟩ ⟨Nat.le_of_ble_eq_true rfl, Nat.le_of_ble_eq_true rfl⟩ hl.1 rfl (Nat.le_of_ble_eq_true rfl) dL_law_400 ⟨Nat.le_refl _, Nat.le_refl _⟩ (fun r2 i2 g2 H locs hq hT hS => ?_)
  obtain ⟨hR2, hf2, hr2⟩ := hq
  have hrel2_ : rel74 i2 := rel74_f hrel1_ hf2 (by decide) (by decide) (by decide) (by decide)
  refine lv_pop hx hb dL_law_403 rfl ?_
  refine lv_goto (tgt := 2196) hx hb dL_law_404 (by decide) ?_
  exact hE _ _ _ _ _ hR2 hrel2_ hT hS (lv_sub hl [0, 1, 2, 3] rfl)

set_option maxRecDepth 100000 in
set_option maxHeartbeats 4000000 in
theorem law_1 {p : Program} {l : Launch} {e : Env} {s : State} {m : MethodId} {below : List Frame} {meth : Method} {c : Code} {D : va_G} {cz : Nat → ClassId} {h : Nat → Nat} {z : EZ} {i : Nat → Nat → Int32} {g : Nat → Nat → Int64} {b L : Nat} {xs : Nat → Int32} {H : Heap} {locs : List Loc} {ls : Array Slot} {Q : State → Prop} {x3 : Int32} (X : Cxt p s m c #[Value.ref b] cL_law 4 "UncutTaleLaw" D cz) (Y : EV h z s s.heap) (hR : Rg rA i) (hX : va_X b L xs s s.heap) (hbl : b < s.heap.size) (hbA : ¬ hA h b) (hT : TH D h cz i g H) (hS : va_S (hA h) s.heap H locs) (hx3 : rg 0 3066 x3) (hL3 : x3.toInt + 6 ≤ (L : Int)) (hl : lv_has ls 4 [(3, .int x3), (2, .ref (h 96)), (1, .ref (h 0)), (0, .ref b)]) (hrel : rel74 i) (hE : ∀ (i : Nat → Nat → Int32) (g : Nat → Nat → Int64) (H : Heap) (locs : List Loc) (ls : Array Slot), Rg rA i → rel74 i → TH D h cz i g H → va_S (hA h) s.heap H locs → lv_has ls 4 [(3, .int x3), (2, .ref (h 96)), (1, .ref (h 0)), (0, .ref b)] → W p l e room_1 s m #[Value.ref b] below meth c H locs 600000 7302250 Q (F0 m 2196 ls [])) : W p l e room_1 s m #[Value.ref b] below meth c H locs 600000 7302250 Q (F0 m 407 ls []) := by
  have hx := X.1
  have hb := X.2.1
  refine lv_aload_n hx hb dL_law_407 rfl (lv_at hl 2 rfl) ?_
  refine lv_aload_n hx hb dL_law_408 rfl (lv_at hl 3 rfl) ?_
  refine lv_iload_n hx hb dL_law_409 rfl (lv_at hl 0 rfl) ?_
  refine lv_iconst (v := 1) hx hb dL_law_410 (by decide) ?_
  refine lv_iadd hx hb dL_law_411 ?_
  refine va_sld hx hb hX hbl hbA hS (i := (x3 + 1)) (sl_in 1 hx3 hL3 (by decide)) dL_law_412 ?_
  refine e_Vi (As := [.int (xs (Int32.toNatClampNeg (x3 + 1)))]) (rest := []) X Y hT hS (m_X8_end hR (xs (Int32.toNatClampNeg (x3 + 1)))) mk_X8_end gm_501 rfl rfl (by decide) hd_X8_end ⟨rfl, rfl⟩ ⟨Nat.le_of_ble_eq_true rfl, Nat.le_of_ble_eq_true rfl⟩ hl.1 rfl (Nat.le_of_ble_eq_true rfl) dL_law_413 ⟨Nat.le_refl _, Nat.le_refl _⟩ (fun r1 i1 g1 H locs hq hT hS => ?_)
  obtain ⟨hR1, hf1, hr1⟩ := hq
  have hrel1_ : rel74 i1 := rel74_f hrel hf1 (by decide) (by decide) (by decide) (by decide)
  refine lv_pop hx hb dL_law_416 rfl ?_
  refine lv_aload_n hx hb dL_law_417 rfl (lv_at hl 1 rfl) ?_
  refine lv_aload_n hx hb dL_law_418 rfl (lv_at hl 3 rfl) ?_
  refine lv_iload_n hx hb dL_law_419 rfl (lv_at hl 0 rfl) ?_
  refine lv_iconst (v := 1) hx hb dL_law_420 (by decide) ?_
  refine lv_iadd hx hb dL_law_421 ?_
  refine va_sld hx hb hX hbl hbA hS (i := (x3 + 1)) (sl_in 1 hx3 hL3 (by decide)) dL_law_422 ?_
  refine e_Vi (As := [.int (xs (Int32.toNatClampNeg (x3 + 1)))]) (rest := []) X Y hT hS (m_X9_end hR1 (xs (Int32.toNatClampNeg (x3 + 1)))) mk_X9_end gm_1518 rfl rfl (by decide) hd_X9_end ⟨rfl, rfl⟩ ⟨Nat.le_of_ble_eq_true rfl, Nat.le_of_ble_eq_true rfl⟩ hl.1 rfl (Nat.le_of_ble_eq_true rfl) dL_law_423 ⟨Nat.le_refl _, Nat.le_refl _⟩ (fun r2 i2 g2 H locs hq hT hS => ?_)
  obtain ⟨hR2, hf2, hr2⟩ := hq
  have hrel2_ : rel74 i2 := rel74_f hrel1_ hf2 (by decide) (by decide) (by decide) (by decide)
  refine lv_pop hx hb dL_law_426 rfl ?_
  refine lv_goto (tgt := 2196) hx hb dL_law_427 (by decide) ?_
  exact hE _ _ _ _ _ hR2 hrel2_ hT hS (lv_sub hl [0, 1, 2, 3] rfl)

set_option maxRecDepth 100000 in
set_option maxHeartbeats 4000000 in
theorem law_2 {p : Program} {l : Launch} {e : Env} {s : State} {m : MethodId} {below : List Frame} {meth : Method} {c : Code} {D : va_G} {cz : Nat → ClassId} {h : Nat → Nat} {z : EZ} {i : Nat → Nat → Int32} {g : Nat → Nat → Int64} {b L : Nat} {xs : Nat → Int32} {H : Heap} {locs : List Loc} {ls : Array Slot} {Q : State → Prop} {x3 : Int32} (X : Cxt p s m c #[Value.ref b] cL_law 4 "UncutTaleLaw" D cz) (Y : EV h z s s.heap) (hR : Rg rA i) (hX : va_X b L xs s s.heap) (hbl : b < s.heap.size) (hbA : ¬ hA h b) (hT : TH D h cz i g H) (hS : va_S (hA h) s.heap H locs) (hx3 : rg 0 3066 x3) (hL3 : x3.toInt + 6 ≤ (L : Int)) (hl : lv_has ls 4 [(3, .int x3), (2, .ref (h 96)), (1, .ref (h 0)), (0, .ref b)]) (hrel : rel74 i) (hE : ∀ (i : Nat → Nat → Int32) (g : Nat → Nat → Int64) (H : Heap) (locs : List Loc) (ls : Array Slot), Rg rA i → rel74 i → TH D h cz i g H → va_S (hA h) s.heap H locs → lv_has ls 4 [(3, .int x3), (2, .ref (h 96)), (1, .ref (h 0)), (0, .ref b)] → W p l e room_1 s m #[Value.ref b] below meth c H locs 600000 7302250 Q (F0 m 2196 ls [])) : W p l e room_1 s m #[Value.ref b] below meth c H locs 600000 7302250 Q (F0 m 430 ls []) := by
  have hx := X.1
  have hb := X.2.1
  refine lv_aload_n hx hb dL_law_430 rfl (lv_at hl 2 rfl) ?_
  refine e_Vi (As := []) (rest := []) X Y hT hS (m_X8_tale hR) mk_X8_tale gm_505 rfl rfl (by decide) hd_X8_tale ⟨rfl, rfl⟩ ⟨Nat.le_of_ble_eq_true rfl, Nat.le_of_ble_eq_true rfl⟩ hl.1 rfl (Nat.le_of_ble_eq_true rfl) dL_law_431 ⟨Nat.le_refl _, Nat.le_refl _⟩ (fun r1 i1 g1 H locs hq hT hS => ?_)
  obtain ⟨hR1, hf1⟩ := hq
  have hrel1_ : rel74 i1 := rel74_f hrel hf1 (by decide) (by decide) (by decide) (by decide)
  refine lv_pop hx hb dL_law_434 rfl ?_
  refine lv_aload_n hx hb dL_law_435 rfl (lv_at hl 1 rfl) ?_
  refine e_Vi (As := []) (rest := []) X Y hT hS (m_X9_tale hR1) mk_X9_tale gm_1526 rfl rfl (by decide) hd_X9_tale ⟨rfl, rfl⟩ ⟨Nat.le_of_ble_eq_true rfl, Nat.le_of_ble_eq_true rfl⟩ hl.1 rfl (Nat.le_of_ble_eq_true rfl) dL_law_436 ⟨Nat.le_refl _, Nat.le_refl _⟩ (fun r2 i2 g2 H locs hq hT hS => ?_)
  obtain ⟨hR2, hf2⟩ := hq
  have hrel2_ : rel74 i2 := rel74_f hrel1_ hf2 (by decide) (by decide) (by decide) (by decide)
  refine lv_pop hx hb dL_law_439 rfl ?_
  refine lv_goto (tgt := 2196) hx hb dL_law_440 (by decide) ?_
  exact hE _ _ _ _ _ hR2 hrel2_ hT hS (lv_sub hl [0, 1, 2, 3] rfl)

set_option maxRecDepth 100000 in
set_option maxHeartbeats 4000000 in
theorem law_3 {p : Program} {l : Launch} {e : Env} {s : State} {m : MethodId} {below : List Frame} {meth : Method} {c : Code} {D : va_G} {cz : Nat → ClassId} {h : Nat → Nat} {z : EZ} {i : Nat → Nat → Int32} {g : Nat → Nat → Int64} {b L : Nat} {xs : Nat → Int32} {H : Heap} {locs : List Loc} {ls : Array Slot} {Q : State → Prop} {x3 : Int32} (X : Cxt p s m c #[Value.ref b] cL_law 4 "UncutTaleLaw" D cz) (Y : EV h z s s.heap) (hR : Rg rA i) (hX : va_X b L xs s s.heap) (hbl : b < s.heap.size) (hbA : ¬ hA h b) (hT : TH D h cz i g H) (hS : va_S (hA h) s.heap H locs) (hx3 : rg 0 3066 x3) (hL3 : x3.toInt + 6 ≤ (L : Int)) (hl : lv_has ls 4 [(3, .int x3), (2, .ref (h 96)), (1, .ref (h 0)), (0, .ref b)]) (hrel : rel74 i) (hE : ∀ (i : Nat → Nat → Int32) (g : Nat → Nat → Int64) (H : Heap) (locs : List Loc) (ls : Array Slot), Rg rA i → rel74 i → TH D h cz i g H → va_S (hA h) s.heap H locs → lv_has ls 4 [(3, .int x3), (2, .ref (h 96)), (1, .ref (h 0)), (0, .ref b)] → W p l e room_1 s m #[Value.ref b] below meth c H locs 600000 7302250 Q (F0 m 2196 ls [])) : W p l e room_1 s m #[Value.ref b] below meth c H locs 600000 7302250 Q (F0 m 443 ls []) := by
  have hx := X.1
  have hb := X.2.1
  refine lv_aload_n hx hb dL_law_443 rfl (lv_at hl 2 rfl) ?_
  refine lv_aload_n hx hb dL_law_444 rfl (lv_at hl 3 rfl) ?_
  refine lv_iload_n hx hb dL_law_445 rfl (lv_at hl 0 rfl) ?_
  refine lv_iconst (v := 1) hx hb dL_law_446 (by decide) ?_
  refine lv_iadd hx hb dL_law_447 ?_
  refine va_sld hx hb hX hbl hbA hS (i := (x3 + 1)) (sl_in 1 hx3 hL3 (by decide)) dL_law_448 ?_
  refine e_Vi (As := [.int (xs (Int32.toNatClampNeg (x3 + 1)))]) (rest := []) X Y hT hS (m_X8_fault hR (xs (Int32.toNatClampNeg (x3 + 1)))) mk_X8_fault gm_661 rfl rfl (by decide) hd_X8_fault ⟨rfl, rfl⟩ ⟨Nat.le_of_ble_eq_true rfl, Nat.le_of_ble_eq_true rfl⟩ hl.1 rfl (Nat.le_of_ble_eq_true rfl) dL_law_449 ⟨Nat.le_refl _, Nat.le_refl _⟩ (fun r1 i1 g1 H locs hq hT hS => ?_)
  have eh1 := hq
  rw [(Prod.mk.inj eh1).1, (Prod.mk.inj eh1).2] at hT
  refine lv_pop hx hb dL_law_452 rfl ?_
  refine lv_aload_n hx hb dL_law_453 rfl (lv_at hl 1 rfl) ?_
  refine lv_aload_n hx hb dL_law_454 rfl (lv_at hl 3 rfl) ?_
  refine lv_iload_n hx hb dL_law_455 rfl (lv_at hl 0 rfl) ?_
  refine lv_iconst (v := 1) hx hb dL_law_456 (by decide) ?_
  refine lv_iadd hx hb dL_law_457 ?_
  refine va_sld hx hb hX hbl hbA hS (i := (x3 + 1)) (sl_in 1 hx3 hL3 (by decide)) dL_law_458 ?_
  refine e_Vi (As := [.int (xs (Int32.toNatClampNeg (x3 + 1)))]) (rest := []) X Y hT hS (m_X9_fault hR (xs (Int32.toNatClampNeg (x3 + 1)))) mk_X9_fault gm_1522 rfl rfl (by decide) hd_X9_fault ⟨rfl, rfl⟩ ⟨Nat.le_of_ble_eq_true rfl, Nat.le_of_ble_eq_true rfl⟩ hl.1 rfl (Nat.le_of_ble_eq_true rfl) dL_law_459 ⟨Nat.le_refl _, Nat.le_refl _⟩ (fun r2 i2 g2 H locs hq hT hS => ?_)
  obtain ⟨hR2, hf2⟩ := hq
  have hrel2_ : rel74 i2 := rel74_f hrel hf2 (by decide) (by decide) (by decide) (by decide)
  refine lv_pop hx hb dL_law_462 rfl ?_
  refine lv_goto (tgt := 2196) hx hb dL_law_463 (by decide) ?_
  exact hE _ _ _ _ _ hR2 hrel2_ hT hS (lv_sub hl [0, 1, 2, 3] rfl)

set_option maxRecDepth 100000 in
set_option maxHeartbeats 4000000 in
theorem law_4 {p : Program} {l : Launch} {e : Env} {s : State} {m : MethodId} {below : List Frame} {meth : Method} {c : Code} {D : va_G} {cz : Nat → ClassId} {h : Nat → Nat} {z : EZ} {i : Nat → Nat → Int32} {g : Nat → Nat → Int64} {b L : Nat} {xs : Nat → Int32} {H : Heap} {locs : List Loc} {ls : Array Slot} {Q : State → Prop} {x3 : Int32} (X : Cxt p s m c #[Value.ref b] cL_law 4 "UncutTaleLaw" D cz) (Y : EV h z s s.heap) (hR : Rg rA i) (hX : va_X b L xs s s.heap) (hbl : b < s.heap.size) (hbA : ¬ hA h b) (hT : TH D h cz i g H) (hS : va_S (hA h) s.heap H locs) (hx3 : rg 0 3066 x3) (hL3 : x3.toInt + 6 ≤ (L : Int)) (hl : lv_has ls 4 [(3, .int x3), (2, .ref (h 96)), (1, .ref (h 0)), (0, .ref b)]) (hrel : rel74 i) (hE : ∀ (i : Nat → Nat → Int32) (g : Nat → Nat → Int64) (H : Heap) (locs : List Loc) (ls : Array Slot), Rg rA i → rel74 i → TH D h cz i g H → va_S (hA h) s.heap H locs → lv_has ls 4 [(3, .int x3), (2, .ref (h 96)), (1, .ref (h 0)), (0, .ref b)] → W p l e room_1 s m #[Value.ref b] below meth c H locs 600000 7302250 Q (F0 m 2196 ls [])) : W p l e room_1 s m #[Value.ref b] below meth c H locs 600000 7302250 Q (F0 m 466 ls []) := by
  have hx := X.1
  have hb := X.2.1
  refine lv_aload_n hx hb dL_law_466 rfl (lv_at hl 2 rfl) ?_
  refine lv_aload_n hx hb dL_law_467 rfl (lv_at hl 3 rfl) ?_
  refine lv_iload_n hx hb dL_law_468 rfl (lv_at hl 0 rfl) ?_
  refine lv_iconst (v := 1) hx hb dL_law_469 (by decide) ?_
  refine lv_iadd hx hb dL_law_470 ?_
  refine va_sld hx hb hX hbl hbA hS (i := (x3 + 1)) (sl_in 1 hx3 hL3 (by decide)) dL_law_471 ?_
  refine lv_aload_n hx hb dL_law_472 rfl (lv_at hl 3 rfl) ?_
  refine lv_iload_n hx hb dL_law_473 rfl (lv_at hl 0 rfl) ?_
  refine lv_iconst (v := 2) hx hb dL_law_474 (by decide) ?_
  refine lv_iadd hx hb dL_law_475 ?_
  refine va_sld hx hb hX hbl hbA hS (i := (x3 + 2)) (sl_in 2 hx3 hL3 (by decide)) dL_law_476 ?_
  refine e_Vi (As := [.int (xs (Int32.toNatClampNeg (x3 + 1))), .int (xs (Int32.toNatClampNeg (x3 + 2)))]) (rest := []) X Y hT hS (m_X8_part hR (xs (Int32.toNatClampNeg (x3 + 1))) (xs (Int32.toNatClampNeg (x3 + 2)))) mk_X8_part gm_665 rfl rfl (by decide) hd_X8_part ⟨rfl, rfl⟩ ⟨Nat.le_of_ble_eq_true rfl, Nat.le_of_ble_eq_true rfl⟩ hl.1 rfl (Nat.le_of_ble_eq_true rfl) dL_law_477 ⟨Nat.le_refl _, Nat.le_refl _⟩ (fun r1 i1 g1 H locs hq hT hS => ?_)
  obtain ⟨eh1, hr1⟩ := hq
  rw [(Prod.mk.inj eh1).1, (Prod.mk.inj eh1).2] at hT
  refine lv_pop hx hb dL_law_480 rfl ?_
  refine lv_aload_n hx hb dL_law_481 rfl (lv_at hl 1 rfl) ?_
  refine lv_aload_n hx hb dL_law_482 rfl (lv_at hl 3 rfl) ?_
  refine lv_iload_n hx hb dL_law_483 rfl (lv_at hl 0 rfl) ?_
  refine lv_iconst (v := 1) hx hb dL_law_484 (by decide) ?_
  refine lv_iadd hx hb dL_law_485 ?_
  refine va_sld hx hb hX hbl hbA hS (i := (x3 + 1)) (sl_in 1 hx3 hL3 (by decide)) dL_law_486 ?_
  refine lv_aload_n hx hb dL_law_487 rfl (lv_at hl 3 rfl) ?_
  refine lv_iload_n hx hb dL_law_488 rfl (lv_at hl 0 rfl) ?_
  refine lv_iconst (v := 2) hx hb dL_law_489 (by decide) ?_
  refine lv_iadd hx hb dL_law_490 ?_
  refine va_sld hx hb hX hbl hbA hS (i := (x3 + 2)) (sl_in 2 hx3 hL3 (by decide)) dL_law_491 ?_
  refine e_Vi (As := [.int (xs (Int32.toNatClampNeg (x3 + 1))), .int (xs (Int32.toNatClampNeg (x3 + 2)))]) (rest := []) X Y hT hS (m_X9_part hR (xs (Int32.toNatClampNeg (x3 + 1))) (xs (Int32.toNatClampNeg (x3 + 2)))) mk_X9_part gm_1641 rfl rfl (by decide) hd_X9_part ⟨rfl, rfl⟩ ⟨Nat.le_of_ble_eq_true rfl, Nat.le_of_ble_eq_true rfl⟩ hl.1 rfl (Nat.le_of_ble_eq_true rfl) dL_law_492 ⟨Nat.le_refl _, Nat.le_refl _⟩ (fun r2 i2 g2 H locs hq hT hS => ?_)
  obtain ⟨hR2, hf2, hr2⟩ := hq
  have hrel2_ : rel74 i2 := rel74_f hrel hf2 (by decide) (by decide) (by decide) (by decide)
  refine lv_pop hx hb dL_law_495 rfl ?_
  refine lv_goto (tgt := 2196) hx hb dL_law_496 (by decide) ?_
  exact hE _ _ _ _ _ hR2 hrel2_ hT hS (lv_sub hl [0, 1, 2, 3] rfl)

set_option maxRecDepth 100000 in
set_option maxHeartbeats 4000000 in
theorem law_5 {p : Program} {l : Launch} {e : Env} {s : State} {m : MethodId} {below : List Frame} {meth : Method} {c : Code} {D : va_G} {cz : Nat → ClassId} {h : Nat → Nat} {z : EZ} {i : Nat → Nat → Int32} {g : Nat → Nat → Int64} {b L : Nat} {xs : Nat → Int32} {H : Heap} {locs : List Loc} {ls : Array Slot} {Q : State → Prop} {x3 : Int32} (X : Cxt p s m c #[Value.ref b] cL_law 4 "UncutTaleLaw" D cz) (Y : EV h z s s.heap) (hR : Rg rA i) (hX : va_X b L xs s s.heap) (hbl : b < s.heap.size) (hbA : ¬ hA h b) (hT : TH D h cz i g H) (hS : va_S (hA h) s.heap H locs) (hx3 : rg 0 3066 x3) (hL3 : x3.toInt + 6 ≤ (L : Int)) (hl : lv_has ls 4 [(3, .int x3), (2, .ref (h 96)), (1, .ref (h 0)), (0, .ref b)]) (hrel : rel74 i) (hE : ∀ (i : Nat → Nat → Int32) (g : Nat → Nat → Int64) (H : Heap) (locs : List Loc) (ls : Array Slot), Rg rA i → rel74 i → TH D h cz i g H → va_S (hA h) s.heap H locs → lv_has ls 4 [(3, .int x3), (2, .ref (h 96)), (1, .ref (h 0)), (0, .ref b)] → W p l e room_1 s m #[Value.ref b] below meth c H locs 600000 7302250 Q (F0 m 2196 ls [])) : W p l e room_1 s m #[Value.ref b] below meth c H locs 600000 7302250 Q (F0 m 499 ls []) := by
  have hx := X.1
  have hb := X.2.1
  refine lv_aload_n hx hb dL_law_499 rfl (lv_at hl 2 rfl) ?_
  refine lv_aload_n hx hb dL_law_500 rfl (lv_at hl 3 rfl) ?_
  refine lv_iload_n hx hb dL_law_501 rfl (lv_at hl 0 rfl) ?_
  refine lv_iconst (v := 1) hx hb dL_law_502 (by decide) ?_
  refine lv_iadd hx hb dL_law_503 ?_
  refine va_sld hx hb hX hbl hbA hS (i := (x3 + 1)) (sl_in 1 hx3 hL3 (by decide)) dL_law_504 ?_
  refine e_Vi (As := [.int (xs (Int32.toNatClampNeg (x3 + 1)))]) (rest := []) X Y hT hS (m_X8_near hR (xs (Int32.toNatClampNeg (x3 + 1)))) mk_X8_near gm_673 rfl rfl (by decide) hd_X8_near ⟨rfl, rfl⟩ ⟨Nat.le_of_ble_eq_true rfl, Nat.le_of_ble_eq_true rfl⟩ hl.1 rfl (Nat.le_of_ble_eq_true rfl) dL_law_505 ⟨Nat.le_refl _, Nat.le_refl _⟩ (fun r1 i1 g1 H locs hq hT hS => ?_)
  obtain ⟨eh1, hr1⟩ := hq
  rw [(Prod.mk.inj eh1).1, (Prod.mk.inj eh1).2] at hT
  refine lv_pop hx hb dL_law_508 rfl ?_
  refine lv_aload_n hx hb dL_law_509 rfl (lv_at hl 1 rfl) ?_
  refine lv_aload_n hx hb dL_law_510 rfl (lv_at hl 3 rfl) ?_
  refine lv_iload_n hx hb dL_law_511 rfl (lv_at hl 0 rfl) ?_
  refine lv_iconst (v := 1) hx hb dL_law_512 (by decide) ?_
  refine lv_iadd hx hb dL_law_513 ?_
  refine va_sld hx hb hX hbl hbA hS (i := (x3 + 1)) (sl_in 1 hx3 hL3 (by decide)) dL_law_514 ?_
  refine e_Vi (As := [.int (xs (Int32.toNatClampNeg (x3 + 1)))]) (rest := []) X Y hT hS (m_X9_near hR (xs (Int32.toNatClampNeg (x3 + 1)))) mk_X9_near gm_1654 rfl rfl (by decide) hd_X9_near ⟨rfl, rfl⟩ ⟨Nat.le_of_ble_eq_true rfl, Nat.le_of_ble_eq_true rfl⟩ hl.1 rfl (Nat.le_of_ble_eq_true rfl) dL_law_515 ⟨Nat.le_refl _, Nat.le_refl _⟩ (fun r2 i2 g2 H locs hq hT hS => ?_)
  obtain ⟨hR2, hf2, hr2⟩ := hq
  have hrel2_ : rel74 i2 := rel74_f hrel hf2 (by decide) (by decide) (by decide) (by decide)
  refine lv_pop hx hb dL_law_518 rfl ?_
  refine lv_goto (tgt := 2196) hx hb dL_law_519 (by decide) ?_
  exact hE _ _ _ _ _ hR2 hrel2_ hT hS (lv_sub hl [0, 1, 2, 3] rfl)

set_option maxRecDepth 100000 in
set_option maxHeartbeats 4000000 in
theorem law_6 {p : Program} {l : Launch} {e : Env} {s : State} {m : MethodId} {below : List Frame} {meth : Method} {c : Code} {D : va_G} {cz : Nat → ClassId} {h : Nat → Nat} {z : EZ} {i : Nat → Nat → Int32} {g : Nat → Nat → Int64} {b L : Nat} {xs : Nat → Int32} {H : Heap} {locs : List Loc} {ls : Array Slot} {Q : State → Prop} {x3 : Int32} (X : Cxt p s m c #[Value.ref b] cL_law 4 "UncutTaleLaw" D cz) (Y : EV h z s s.heap) (hR : Rg rA i) (hX : va_X b L xs s s.heap) (hbl : b < s.heap.size) (hbA : ¬ hA h b) (hT : TH D h cz i g H) (hS : va_S (hA h) s.heap H locs) (hx3 : rg 0 3066 x3) (hL3 : x3.toInt + 6 ≤ (L : Int)) (hl : lv_has ls 4 [(3, .int x3), (2, .ref (h 96)), (1, .ref (h 0)), (0, .ref b)]) (hrel : rel74 i) (hE : ∀ (i : Nat → Nat → Int32) (g : Nat → Nat → Int64) (H : Heap) (locs : List Loc) (ls : Array Slot), Rg rA i → rel74 i → TH D h cz i g H → va_S (hA h) s.heap H locs → lv_has ls 4 [(3, .int x3), (2, .ref (h 96)), (1, .ref (h 0)), (0, .ref b)] → W p l e room_1 s m #[Value.ref b] below meth c H locs 600000 7302250 Q (F0 m 2196 ls [])) : W p l e room_1 s m #[Value.ref b] below meth c H locs 600000 7302250 Q (F0 m 522 ls []) := by
  have hx := X.1
  have hb := X.2.1
  refine lv_aload_n hx hb dL_law_522 rfl (lv_at hl 2 rfl) ?_
  refine lv_aload_n hx hb dL_law_523 rfl (lv_at hl 3 rfl) ?_
  refine lv_iload_n hx hb dL_law_524 rfl (lv_at hl 0 rfl) ?_
  refine lv_iconst (v := 1) hx hb dL_law_525 (by decide) ?_
  refine lv_iadd hx hb dL_law_526 ?_
  refine va_sld hx hb hX hbl hbA hS (i := (x3 + 1)) (sl_in 1 hx3 hL3 (by decide)) dL_law_527 ?_
  refine lv_aload_n hx hb dL_law_528 rfl (lv_at hl 3 rfl) ?_
  refine lv_iload_n hx hb dL_law_529 rfl (lv_at hl 0 rfl) ?_
  refine lv_iconst (v := 2) hx hb dL_law_530 (by decide) ?_
  refine lv_iadd hx hb dL_law_531 ?_
  refine va_sld hx hb hX hbl hbA hS (i := (x3 + 2)) (sl_in 2 hx3 hL3 (by decide)) dL_law_532 ?_
  refine e_Vi (As := [.int (xs (Int32.toNatClampNeg (x3 + 1))), .int (xs (Int32.toNatClampNeg (x3 + 2)))]) (rest := []) X Y hT hS (m_X8_far hR (xs (Int32.toNatClampNeg (x3 + 1))) (xs (Int32.toNatClampNeg (x3 + 2)))) mk_X8_far gm_681 rfl rfl (by decide) hd_X8_far ⟨rfl, rfl⟩ ⟨Nat.le_of_ble_eq_true rfl, Nat.le_of_ble_eq_true rfl⟩ hl.1 rfl (Nat.le_of_ble_eq_true rfl) dL_law_533 ⟨Nat.le_refl _, Nat.le_refl _⟩ (fun r1 i1 g1 H locs hq hT hS => ?_)
  obtain ⟨eh1, hr1⟩ := hq
  rw [(Prod.mk.inj eh1).1, (Prod.mk.inj eh1).2] at hT
  refine lv_pop hx hb dL_law_536 rfl ?_
  refine lv_aload_n hx hb dL_law_537 rfl (lv_at hl 1 rfl) ?_
  refine lv_aload_n hx hb dL_law_538 rfl (lv_at hl 3 rfl) ?_
  refine lv_iload_n hx hb dL_law_539 rfl (lv_at hl 0 rfl) ?_
  refine lv_iconst (v := 1) hx hb dL_law_540 (by decide) ?_
  refine lv_iadd hx hb dL_law_541 ?_
  refine va_sld hx hb hX hbl hbA hS (i := (x3 + 1)) (sl_in 1 hx3 hL3 (by decide)) dL_law_542 ?_
  refine lv_aload_n hx hb dL_law_543 rfl (lv_at hl 3 rfl) ?_
  refine lv_iload_n hx hb dL_law_544 rfl (lv_at hl 0 rfl) ?_
  refine lv_iconst (v := 2) hx hb dL_law_545 (by decide) ?_
  refine lv_iadd hx hb dL_law_546 ?_
  refine va_sld hx hb hX hbl hbA hS (i := (x3 + 2)) (sl_in 2 hx3 hL3 (by decide)) dL_law_547 ?_
  refine e_Vi (As := [.int (xs (Int32.toNatClampNeg (x3 + 1))), .int (xs (Int32.toNatClampNeg (x3 + 2)))]) (rest := []) X Y hT hS (m_X9_far hR (xs (Int32.toNatClampNeg (x3 + 1))) (xs (Int32.toNatClampNeg (x3 + 2)))) mk_X9_far gm_1666 rfl rfl (by decide) hd_X9_far ⟨rfl, rfl⟩ ⟨Nat.le_of_ble_eq_true rfl, Nat.le_of_ble_eq_true rfl⟩ hl.1 rfl (Nat.le_of_ble_eq_true rfl) dL_law_548 ⟨Nat.le_refl _, Nat.le_refl _⟩ (fun r2 i2 g2 H locs hq hT hS => ?_)
  obtain ⟨hR2, hf2, hr2⟩ := hq
  have hrel2_ : rel74 i2 := rel74_f hrel hf2 (by decide) (by decide) (by decide) (by decide)
  refine lv_pop hx hb dL_law_551 rfl ?_
  refine lv_goto (tgt := 2196) hx hb dL_law_552 (by decide) ?_
  exact hE _ _ _ _ _ hR2 hrel2_ hT hS (lv_sub hl [0, 1, 2, 3] rfl)

set_option maxRecDepth 100000 in
set_option maxHeartbeats 4000000 in
theorem law_7 {p : Program} {l : Launch} {e : Env} {s : State} {m : MethodId} {below : List Frame} {meth : Method} {c : Code} {D : va_G} {cz : Nat → ClassId} {h : Nat → Nat} {z : EZ} {i : Nat → Nat → Int32} {g : Nat → Nat → Int64} {b L : Nat} {xs : Nat → Int32} {H : Heap} {locs : List Loc} {ls : Array Slot} {Q : State → Prop} {x3 : Int32} (X : Cxt p s m c #[Value.ref b] cL_law 4 "UncutTaleLaw" D cz) (Y : EV h z s s.heap) (hR : Rg rA i) (hX : va_X b L xs s s.heap) (hbl : b < s.heap.size) (hbA : ¬ hA h b) (hT : TH D h cz i g H) (hS : va_S (hA h) s.heap H locs) (hx3 : rg 0 3066 x3) (hL3 : x3.toInt + 6 ≤ (L : Int)) (hl : lv_has ls 4 [(3, .int x3), (2, .ref (h 96)), (1, .ref (h 0)), (0, .ref b)]) (hrel : rel74 i) (hE : ∀ (i : Nat → Nat → Int32) (g : Nat → Nat → Int64) (H : Heap) (locs : List Loc) (ls : Array Slot), Rg rA i → rel74 i → TH D h cz i g H → va_S (hA h) s.heap H locs → lv_has ls 4 [(3, .int x3), (2, .ref (h 96)), (1, .ref (h 0)), (0, .ref b)] → W p l e room_1 s m #[Value.ref b] below meth c H locs 600000 7302250 Q (F0 m 2196 ls [])) : W p l e room_1 s m #[Value.ref b] below meth c H locs 600000 7302250 Q (F0 m 555 ls []) := by
  have hx := X.1
  have hb := X.2.1
  refine lv_aload_n hx hb dL_law_555 rfl (lv_at hl 2 rfl) ?_
  refine lv_aload_n hx hb dL_law_556 rfl (lv_at hl 3 rfl) ?_
  refine lv_iload_n hx hb dL_law_557 rfl (lv_at hl 0 rfl) ?_
  refine lv_iconst (v := 1) hx hb dL_law_558 (by decide) ?_
  refine lv_iadd hx hb dL_law_559 ?_
  refine va_sld hx hb hX hbl hbA hS (i := (x3 + 1)) (sl_in 1 hx3 hL3 (by decide)) dL_law_560 ?_
  refine lv_aload_n hx hb dL_law_561 rfl (lv_at hl 3 rfl) ?_
  refine lv_iload_n hx hb dL_law_562 rfl (lv_at hl 0 rfl) ?_
  refine lv_iconst (v := 2) hx hb dL_law_563 (by decide) ?_
  refine lv_iadd hx hb dL_law_564 ?_
  refine va_sld hx hb hX hbl hbA hS (i := (x3 + 2)) (sl_in 2 hx3 hL3 (by decide)) dL_law_565 ?_
  refine e_Vi (As := [.int (xs (Int32.toNatClampNeg (x3 + 1))), .int (xs (Int32.toNatClampNeg (x3 + 2)))]) (rest := []) X Y hT hS (m_X8_stiff hR (xs (Int32.toNatClampNeg (x3 + 1))) (xs (Int32.toNatClampNeg (x3 + 2)))) mk_X8_stiff gm_723 rfl rfl (by decide) hd_X8_stiff ⟨rfl, rfl⟩ ⟨Nat.le_of_ble_eq_true rfl, Nat.le_of_ble_eq_true rfl⟩ hl.1 rfl (Nat.le_of_ble_eq_true rfl) dL_law_566 ⟨Nat.le_refl _, Nat.le_refl _⟩ (fun r1 i1 g1 H locs hq hT hS => ?_)
  obtain ⟨hR1, hf1, hr1⟩ := hq
  have hrel1_ : rel74 i1 := rel74_f hrel hf1 (by decide) (by decide) (by decide) (by decide)
  refine lv_pop hx hb dL_law_569 rfl ?_
  refine lv_aload_n hx hb dL_law_570 rfl (lv_at hl 1 rfl) ?_
  refine lv_aload_n hx hb dL_law_571 rfl (lv_at hl 3 rfl) ?_
  refine lv_iload_n hx hb dL_law_572 rfl (lv_at hl 0 rfl) ?_
  refine lv_iconst (v := 1) hx hb dL_law_573 (by decide) ?_
  refine lv_iadd hx hb dL_law_574 ?_
  refine va_sld hx hb hX hbl hbA hS (i := (x3 + 1)) (sl_in 1 hx3 hL3 (by decide)) dL_law_575 ?_
  refine lv_aload_n hx hb dL_law_576 rfl (lv_at hl 3 rfl) ?_
  refine lv_iload_n hx hb dL_law_577 rfl (lv_at hl 0 rfl) ?_
  refine lv_iconst (v := 2) hx hb dL_law_578 (by decide) ?_
  refine lv_iadd hx hb dL_law_579 ?_
  refine va_sld hx hb hX hbl hbA hS (i := (x3 + 2)) (sl_in 2 hx3 hL3 (by decide)) dL_law_580 ?_
  refine e_Vi (As := [.int (xs (Int32.toNatClampNeg (x3 + 1))), .int (xs (Int32.toNatClampNeg (x3 + 2)))]) (rest := []) X Y hT hS (m_X9_stiff hR1 (xs (Int32.toNatClampNeg (x3 + 1))) (xs (Int32.toNatClampNeg (x3 + 2)))) mk_X9_stiff gm_1673 rfl rfl (by decide) hd_X9_stiff ⟨rfl, rfl⟩ ⟨Nat.le_of_ble_eq_true rfl, Nat.le_of_ble_eq_true rfl⟩ hl.1 rfl (Nat.le_of_ble_eq_true rfl) dL_law_581 ⟨Nat.le_refl _, Nat.le_refl _⟩ (fun r2 i2 g2 H locs hq hT hS => ?_)
  obtain ⟨hR2, hf2, hr2⟩ := hq
  have hrel2_ : rel74 i2 := rel74_f hrel1_ hf2 (by decide) (by decide) (by decide) (by decide)
  refine lv_pop hx hb dL_law_584 rfl ?_
  refine lv_goto (tgt := 2196) hx hb dL_law_585 (by decide) ?_
  exact hE _ _ _ _ _ hR2 hrel2_ hT hS (lv_sub hl [0, 1, 2, 3] rfl)

set_option maxRecDepth 100000 in
set_option maxHeartbeats 4000000 in
theorem law_8 {p : Program} {l : Launch} {e : Env} {s : State} {m : MethodId} {below : List Frame} {meth : Method} {c : Code} {D : va_G} {cz : Nat → ClassId} {h : Nat → Nat} {z : EZ} {i : Nat → Nat → Int32} {g : Nat → Nat → Int64} {b L : Nat} {xs : Nat → Int32} {H : Heap} {locs : List Loc} {ls : Array Slot} {Q : State → Prop} {x3 : Int32} (X : Cxt p s m c #[Value.ref b] cL_law 4 "UncutTaleLaw" D cz) (Y : EV h z s s.heap) (hR : Rg rA i) (hX : va_X b L xs s s.heap) (hbl : b < s.heap.size) (hbA : ¬ hA h b) (hT : TH D h cz i g H) (hS : va_S (hA h) s.heap H locs) (hx3 : rg 0 3066 x3) (hL3 : x3.toInt + 6 ≤ (L : Int)) (hl : lv_has ls 4 [(3, .int x3), (2, .ref (h 96)), (1, .ref (h 0)), (0, .ref b)]) (hrel : rel74 i) (hE : ∀ (i : Nat → Nat → Int32) (g : Nat → Nat → Int64) (H : Heap) (locs : List Loc) (ls : Array Slot), Rg rA i → rel74 i → TH D h cz i g H → va_S (hA h) s.heap H locs → lv_has ls 4 [(3, .int x3), (2, .ref (h 96)), (1, .ref (h 0)), (0, .ref b)] → W p l e room_1 s m #[Value.ref b] below meth c H locs 600000 7302250 Q (F0 m 2196 ls [])) : W p l e room_1 s m #[Value.ref b] below meth c H locs 600000 7302250 Q (F0 m 588 ls []) := by
  have hx := X.1
  have hb := X.2.1
  refine lv_aload_n hx hb dL_law_588 rfl (lv_at hl 2 rfl) ?_
  refine lv_aload_n hx hb dL_law_589 rfl (lv_at hl 3 rfl) ?_
  refine lv_iload_n hx hb dL_law_590 rfl (lv_at hl 0 rfl) ?_
  refine lv_iconst (v := 1) hx hb dL_law_591 (by decide) ?_
  refine lv_iadd hx hb dL_law_592 ?_
  refine va_sld hx hb hX hbl hbA hS (i := (x3 + 1)) (sl_in 1 hx3 hL3 (by decide)) dL_law_593 ?_
  refine e_Vi (As := [.int (xs (Int32.toNatClampNeg (x3 + 1)))]) (rest := []) X Y hT hS (m_X8_open hR (xs (Int32.toNatClampNeg (x3 + 1)))) mk_X8_open gm_795 rfl rfl (by decide) hd_X8_open ⟨rfl, rfl⟩ ⟨Nat.le_of_ble_eq_true rfl, Nat.le_of_ble_eq_true rfl⟩ hl.1 rfl (Nat.le_of_ble_eq_true rfl) dL_law_594 ⟨Nat.le_refl _, Nat.le_refl _⟩ (fun r1 i1 g1 H locs hq hT hS => ?_)
  obtain ⟨hR1, hf1⟩ := hq
  have hrel1_ : rel74 i1 := rel74_f hrel hf1 (by decide) (by decide) (by decide) (by decide)
  refine lv_pop hx hb dL_law_597 rfl ?_
  refine lv_aload_n hx hb dL_law_598 rfl (lv_at hl 1 rfl) ?_
  refine lv_aload_n hx hb dL_law_599 rfl (lv_at hl 3 rfl) ?_
  refine lv_iload_n hx hb dL_law_600 rfl (lv_at hl 0 rfl) ?_
  refine lv_iconst (v := 1) hx hb dL_law_601 (by decide) ?_
  refine lv_iadd hx hb dL_law_602 ?_
  refine va_sld hx hb hX hbl hbA hS (i := (x3 + 1)) (sl_in 1 hx3 hL3 (by decide)) dL_law_603 ?_
  refine e_Vi (As := [.int (xs (Int32.toNatClampNeg (x3 + 1)))]) (rest := []) X Y hT hS (m_X9_open hR1 (xs (Int32.toNatClampNeg (x3 + 1)))) mk_X9_open gm_1738 rfl rfl (by decide) hd_X9_open ⟨rfl, rfl⟩ ⟨Nat.le_of_ble_eq_true rfl, Nat.le_of_ble_eq_true rfl⟩ hl.1 rfl (Nat.le_of_ble_eq_true rfl) dL_law_604 ⟨Nat.le_refl _, Nat.le_refl _⟩ (fun r2 i2 g2 H locs hq hT hS => ?_)
  obtain ⟨hR2, hf2⟩ := hq
  have hrel2_ : rel74 i2 := rel74_f hrel1_ hf2 (by decide) (by decide) (by decide) (by decide)
  refine lv_pop hx hb dL_law_607 rfl ?_
  refine lv_goto (tgt := 2196) hx hb dL_law_608 (by decide) ?_
  exact hE _ _ _ _ _ hR2 hrel2_ hT hS (lv_sub hl [0, 1, 2, 3] rfl)

set_option maxRecDepth 100000 in
set_option maxHeartbeats 4000000 in
theorem law_9 {p : Program} {l : Launch} {e : Env} {s : State} {m : MethodId} {below : List Frame} {meth : Method} {c : Code} {D : va_G} {cz : Nat → ClassId} {h : Nat → Nat} {z : EZ} {i : Nat → Nat → Int32} {g : Nat → Nat → Int64} {b L : Nat} {xs : Nat → Int32} {H : Heap} {locs : List Loc} {ls : Array Slot} {Q : State → Prop} {x3 : Int32} (X : Cxt p s m c #[Value.ref b] cL_law 4 "UncutTaleLaw" D cz) (Y : EV h z s s.heap) (hR : Rg rA i) (hX : va_X b L xs s s.heap) (hbl : b < s.heap.size) (hbA : ¬ hA h b) (hT : TH D h cz i g H) (hS : va_S (hA h) s.heap H locs) (hx3 : rg 0 3066 x3) (hL3 : x3.toInt + 6 ≤ (L : Int)) (hl : lv_has ls 4 [(3, .int x3), (2, .ref (h 96)), (1, .ref (h 0)), (0, .ref b)]) (hrel : rel74 i) (hE : ∀ (i : Nat → Nat → Int32) (g : Nat → Nat → Int64) (H : Heap) (locs : List Loc) (ls : Array Slot), Rg rA i → rel74 i → TH D h cz i g H → va_S (hA h) s.heap H locs → lv_has ls 4 [(3, .int x3), (2, .ref (h 96)), (1, .ref (h 0)), (0, .ref b)] → W p l e room_1 s m #[Value.ref b] below meth c H locs 600000 7302250 Q (F0 m 2196 ls [])) : W p l e room_1 s m #[Value.ref b] below meth c H locs 600000 7302250 Q (F0 m 611 ls []) := by
  have hx := X.1
  have hb := X.2.1
  refine lv_aload_n hx hb dL_law_611 rfl (lv_at hl 2 rfl) ?_
  refine lv_aload_n hx hb dL_law_612 rfl (lv_at hl 3 rfl) ?_
  refine lv_iload_n hx hb dL_law_613 rfl (lv_at hl 0 rfl) ?_
  refine lv_iconst (v := 1) hx hb dL_law_614 (by decide) ?_
  refine lv_iadd hx hb dL_law_615 ?_
  refine va_sld hx hb hX hbl hbA hS (i := (x3 + 1)) (sl_in 1 hx3 hL3 (by decide)) dL_law_616 ?_
  refine e_Vi (As := [.int (xs (Int32.toNatClampNeg (x3 + 1)))]) (rest := []) X Y hT hS (m_X8_when hR (xs (Int32.toNatClampNeg (x3 + 1)))) mk_X8_when gm_803 rfl rfl (by decide) hd_X8_when ⟨rfl, rfl⟩ ⟨Nat.le_of_ble_eq_true rfl, Nat.le_of_ble_eq_true rfl⟩ hl.1 rfl (Nat.le_of_ble_eq_true rfl) dL_law_617 ⟨Nat.le_refl _, Nat.le_refl _⟩ (fun r1 i1 g1 H locs hq hT hS => ?_)
  obtain ⟨hR1, hf1⟩ := hq
  have hrel1_ : rel74 i1 := rel74_f hrel hf1 (by decide) (by decide) (by decide) (by decide)
  refine lv_pop hx hb dL_law_620 rfl ?_
  refine lv_aload_n hx hb dL_law_621 rfl (lv_at hl 1 rfl) ?_
  refine lv_aload_n hx hb dL_law_622 rfl (lv_at hl 3 rfl) ?_
  refine lv_iload_n hx hb dL_law_623 rfl (lv_at hl 0 rfl) ?_
  refine lv_iconst (v := 1) hx hb dL_law_624 (by decide) ?_
  refine lv_iadd hx hb dL_law_625 ?_
  refine va_sld hx hb hX hbl hbA hS (i := (x3 + 1)) (sl_in 1 hx3 hL3 (by decide)) dL_law_626 ?_
  refine e_Vi (As := [.int (xs (Int32.toNatClampNeg (x3 + 1)))]) (rest := []) X Y hT hS (m_X9_when hR1 (xs (Int32.toNatClampNeg (x3 + 1)))) mk_X9_when gm_1742 rfl rfl (by decide) hd_X9_when ⟨rfl, rfl⟩ ⟨Nat.le_of_ble_eq_true rfl, Nat.le_of_ble_eq_true rfl⟩ hl.1 rfl (Nat.le_of_ble_eq_true rfl) dL_law_627 ⟨Nat.le_refl _, Nat.le_refl _⟩ (fun r2 i2 g2 H locs hq hT hS => ?_)
  obtain ⟨hR2, hf2⟩ := hq
  have hrel2_ : rel74 i2 := rel74_f hrel1_ hf2 (by decide) (by decide) (by decide) (by decide)
  refine lv_pop hx hb dL_law_630 rfl ?_
  refine lv_goto (tgt := 2196) hx hb dL_law_631 (by decide) ?_
  exact hE _ _ _ _ _ hR2 hrel2_ hT hS (lv_sub hl [0, 1, 2, 3] rfl)

set_option maxRecDepth 100000 in
set_option maxHeartbeats 4000000 in
theorem law_10 {p : Program} {l : Launch} {e : Env} {s : State} {m : MethodId} {below : List Frame} {meth : Method} {c : Code} {D : va_G} {cz : Nat → ClassId} {h : Nat → Nat} {z : EZ} {i : Nat → Nat → Int32} {g : Nat → Nat → Int64} {b L : Nat} {xs : Nat → Int32} {H : Heap} {locs : List Loc} {ls : Array Slot} {Q : State → Prop} {x3 : Int32} (X : Cxt p s m c #[Value.ref b] cL_law 4 "UncutTaleLaw" D cz) (Y : EV h z s s.heap) (hR : Rg rA i) (hX : va_X b L xs s s.heap) (hbl : b < s.heap.size) (hbA : ¬ hA h b) (hT : TH D h cz i g H) (hS : va_S (hA h) s.heap H locs) (hx3 : rg 0 3066 x3) (hL3 : x3.toInt + 6 ≤ (L : Int)) (hl : lv_has ls 4 [(3, .int x3), (2, .ref (h 96)), (1, .ref (h 0)), (0, .ref b)]) (hrel : rel74 i) (hE : ∀ (i : Nat → Nat → Int32) (g : Nat → Nat → Int64) (H : Heap) (locs : List Loc) (ls : Array Slot), Rg rA i → rel74 i → TH D h cz i g H → va_S (hA h) s.heap H locs → lv_has ls 4 [(3, .int x3), (2, .ref (h 96)), (1, .ref (h 0)), (0, .ref b)] → W p l e room_1 s m #[Value.ref b] below meth c H locs 600000 7302250 Q (F0 m 2196 ls [])) : W p l e room_1 s m #[Value.ref b] below meth c H locs 600000 7302250 Q (F0 m 634 ls []) := by
  have hx := X.1
  have hb := X.2.1
  refine lv_aload_n hx hb dL_law_634 rfl (lv_at hl 2 rfl) ?_
  refine lv_aload_n hx hb dL_law_635 rfl (lv_at hl 3 rfl) ?_
  refine lv_iload_n hx hb dL_law_636 rfl (lv_at hl 0 rfl) ?_
  refine lv_iconst (v := 1) hx hb dL_law_637 (by decide) ?_
  refine lv_iadd hx hb dL_law_638 ?_
  refine va_sld hx hb hX hbl hbA hS (i := (x3 + 1)) (sl_in 1 hx3 hL3 (by decide)) dL_law_639 ?_
  refine e_Vi (As := [.int (xs (Int32.toNatClampNeg (x3 + 1)))]) (rest := []) X Y hT hS (m_X8_how hR (xs (Int32.toNatClampNeg (x3 + 1)))) mk_X8_how gm_811 rfl rfl (by decide) hd_X8_how ⟨rfl, rfl⟩ ⟨Nat.le_of_ble_eq_true rfl, Nat.le_of_ble_eq_true rfl⟩ hl.1 rfl (Nat.le_of_ble_eq_true rfl) dL_law_640 ⟨Nat.le_refl _, Nat.le_refl _⟩ (fun r1 i1 g1 H locs hq hT hS => ?_)
  obtain ⟨hR1, hf1, hr1⟩ := hq
  have hrel1_ : rel74 i1 := rel74_f hrel hf1 (by decide) (by decide) (by decide) (by decide)
  refine lv_pop hx hb dL_law_643 rfl ?_
  refine lv_aload_n hx hb dL_law_644 rfl (lv_at hl 1 rfl) ?_
  refine lv_aload_n hx hb dL_law_645 rfl (lv_at hl 3 rfl) ?_
  refine lv_iload_n hx hb dL_law_646 rfl (lv_at hl 0 rfl) ?_
  refine lv_iconst (v := 1) hx hb dL_law_647 (by decide) ?_
  refine lv_iadd hx hb dL_law_648 ?_
  refine va_sld hx hb hX hbl hbA hS (i := (x3 + 1)) (sl_in 1 hx3 hL3 (by decide)) dL_law_649 ?_
  refine e_Vi (As := [.int (xs (Int32.toNatClampNeg (x3 + 1)))]) (rest := []) X Y hT hS (m_X9_how hR1 (xs (Int32.toNatClampNeg (x3 + 1)))) mk_X9_how gm_1746 rfl rfl (by decide) hd_X9_how ⟨rfl, rfl⟩ ⟨Nat.le_of_ble_eq_true rfl, Nat.le_of_ble_eq_true rfl⟩ hl.1 rfl (Nat.le_of_ble_eq_true rfl) dL_law_650 ⟨Nat.le_refl _, Nat.le_refl _⟩ (fun r2 i2 g2 H locs hq hT hS => ?_)
  obtain ⟨hR2, hf2⟩ := hq
  have hrel2_ : rel74 i2 := rel74_f hrel1_ hf2 (by decide) (by decide) (by decide) (by decide)
  refine lv_pop hx hb dL_law_653 rfl ?_
  refine lv_goto (tgt := 2196) hx hb dL_law_654 (by decide) ?_
  exact hE _ _ _ _ _ hR2 hrel2_ hT hS (lv_sub hl [0, 1, 2, 3] rfl)

set_option maxRecDepth 100000 in
set_option maxHeartbeats 4000000 in
theorem law_11 {p : Program} {l : Launch} {e : Env} {s : State} {m : MethodId} {below : List Frame} {meth : Method} {c : Code} {D : va_G} {cz : Nat → ClassId} {h : Nat → Nat} {z : EZ} {i : Nat → Nat → Int32} {g : Nat → Nat → Int64} {b L : Nat} {xs : Nat → Int32} {H : Heap} {locs : List Loc} {ls : Array Slot} {Q : State → Prop} {x3 : Int32} (X : Cxt p s m c #[Value.ref b] cL_law 4 "UncutTaleLaw" D cz) (Y : EV h z s s.heap) (hR : Rg rA i) (hX : va_X b L xs s s.heap) (hbl : b < s.heap.size) (hbA : ¬ hA h b) (hT : TH D h cz i g H) (hS : va_S (hA h) s.heap H locs) (hx3 : rg 0 3066 x3) (hL3 : x3.toInt + 6 ≤ (L : Int)) (hl : lv_has ls 4 [(3, .int x3), (2, .ref (h 96)), (1, .ref (h 0)), (0, .ref b)]) (hrel : rel74 i) (hE : ∀ (i : Nat → Nat → Int32) (g : Nat → Nat → Int64) (H : Heap) (locs : List Loc) (ls : Array Slot), Rg rA i → rel74 i → TH D h cz i g H → va_S (hA h) s.heap H locs → lv_has ls 4 [(3, .int x3), (2, .ref (h 96)), (1, .ref (h 0)), (0, .ref b)] → W p l e room_1 s m #[Value.ref b] below meth c H locs 600000 7302250 Q (F0 m 2196 ls [])) : W p l e room_1 s m #[Value.ref b] below meth c H locs 600000 7302250 Q (F0 m 657 ls []) := by
  have hx := X.1
  have hb := X.2.1
  refine lv_aload_n hx hb dL_law_657 rfl (lv_at hl 2 rfl) ?_
  refine lv_aload_n hx hb dL_law_658 rfl (lv_at hl 3 rfl) ?_
  refine lv_iload_n hx hb dL_law_659 rfl (lv_at hl 0 rfl) ?_
  refine lv_iconst (v := 1) hx hb dL_law_660 (by decide) ?_
  refine lv_iadd hx hb dL_law_661 ?_
  refine va_sld hx hb hX hbl hbA hS (i := (x3 + 1)) (sl_in 1 hx3 hL3 (by decide)) dL_law_662 ?_
  refine e_Vi (As := [.int (xs (Int32.toNatClampNeg (x3 + 1)))]) (rest := []) X Y hT hS (m_X8_read hR (xs (Int32.toNatClampNeg (x3 + 1)))) mk_X8_read gm_815 rfl rfl (by decide) hd_X8_read ⟨rfl, rfl⟩ ⟨Nat.le_of_ble_eq_true rfl, Nat.le_of_ble_eq_true rfl⟩ hl.1 rfl (Nat.le_of_ble_eq_true rfl) dL_law_663 ⟨Nat.le_refl _, Nat.le_refl _⟩ (fun r1 i1 g1 H locs hq hT hS => ?_)
  obtain ⟨hR1, hf1, hr1⟩ := hq
  have hrel1_ : rel74 i1 := rel74_f hrel hf1 (by decide) (by decide) (by decide) (by decide)
  refine lv_pop hx hb dL_law_666 rfl ?_
  refine lv_aload_n hx hb dL_law_667 rfl (lv_at hl 1 rfl) ?_
  refine lv_aload_n hx hb dL_law_668 rfl (lv_at hl 3 rfl) ?_
  refine lv_iload_n hx hb dL_law_669 rfl (lv_at hl 0 rfl) ?_
  refine lv_iconst (v := 1) hx hb dL_law_670 (by decide) ?_
  refine lv_iadd hx hb dL_law_671 ?_
  refine va_sld hx hb hX hbl hbA hS (i := (x3 + 1)) (sl_in 1 hx3 hL3 (by decide)) dL_law_672 ?_
  refine e_Vi (As := [.int (xs (Int32.toNatClampNeg (x3 + 1)))]) (rest := []) X Y hT hS (m_X9_read hR1 (xs (Int32.toNatClampNeg (x3 + 1)))) mk_X9_read gm_1750 rfl rfl (by decide) hd_X9_read ⟨rfl, rfl⟩ ⟨Nat.le_of_ble_eq_true rfl, Nat.le_of_ble_eq_true rfl⟩ hl.1 rfl (Nat.le_of_ble_eq_true rfl) dL_law_673 ⟨Nat.le_refl _, Nat.le_refl _⟩ (fun r2 i2 g2 H locs hq hT hS => ?_)
  obtain ⟨hR2, hf2⟩ := hq
  have hrel2_ : rel74 i2 := rel74_f hrel1_ hf2 (by decide) (by decide) (by decide) (by decide)
  refine lv_pop hx hb dL_law_676 rfl ?_
  refine lv_goto (tgt := 2196) hx hb dL_law_677 (by decide) ?_
  exact hE _ _ _ _ _ hR2 hrel2_ hT hS (lv_sub hl [0, 1, 2, 3] rfl)

set_option maxRecDepth 100000 in
set_option maxHeartbeats 4000000 in
theorem law_12 {p : Program} {l : Launch} {e : Env} {s : State} {m : MethodId} {below : List Frame} {meth : Method} {c : Code} {D : va_G} {cz : Nat → ClassId} {h : Nat → Nat} {z : EZ} {i : Nat → Nat → Int32} {g : Nat → Nat → Int64} {b L : Nat} {xs : Nat → Int32} {H : Heap} {locs : List Loc} {ls : Array Slot} {Q : State → Prop} {x3 : Int32} (X : Cxt p s m c #[Value.ref b] cL_law 4 "UncutTaleLaw" D cz) (Y : EV h z s s.heap) (hR : Rg rA i) (hX : va_X b L xs s s.heap) (hbl : b < s.heap.size) (hbA : ¬ hA h b) (hT : TH D h cz i g H) (hS : va_S (hA h) s.heap H locs) (hx3 : rg 0 3066 x3) (hL3 : x3.toInt + 6 ≤ (L : Int)) (hl : lv_has ls 4 [(3, .int x3), (2, .ref (h 96)), (1, .ref (h 0)), (0, .ref b)]) (hrel : rel74 i) (hE : ∀ (i : Nat → Nat → Int32) (g : Nat → Nat → Int64) (H : Heap) (locs : List Loc) (ls : Array Slot), Rg rA i → rel74 i → TH D h cz i g H → va_S (hA h) s.heap H locs → lv_has ls 4 [(3, .int x3), (2, .ref (h 96)), (1, .ref (h 0)), (0, .ref b)] → W p l e room_1 s m #[Value.ref b] below meth c H locs 600000 7302250 Q (F0 m 2196 ls [])) : W p l e room_1 s m #[Value.ref b] below meth c H locs 600000 7302250 Q (F0 m 680 ls []) := by
  have hx := X.1
  have hb := X.2.1
  refine lv_aload_n hx hb dL_law_680 rfl (lv_at hl 2 rfl) ?_
  refine lv_aload_n hx hb dL_law_681 rfl (lv_at hl 3 rfl) ?_
  refine lv_iload_n hx hb dL_law_682 rfl (lv_at hl 0 rfl) ?_
  refine lv_iconst (v := 1) hx hb dL_law_683 (by decide) ?_
  refine lv_iadd hx hb dL_law_684 ?_
  refine va_sld hx hb hX hbl hbA hS (i := (x3 + 1)) (sl_in 1 hx3 hL3 (by decide)) dL_law_685 ?_
  refine e_Vi (As := [.int (xs (Int32.toNatClampNeg (x3 + 1)))]) (rest := []) X Y hT hS (m_X8_reads hR (xs (Int32.toNatClampNeg (x3 + 1)))) mk_X8_reads gm_823 rfl rfl (by decide) hd_X8_reads ⟨rfl, rfl⟩ ⟨Nat.le_of_ble_eq_true rfl, Nat.le_of_ble_eq_true rfl⟩ hl.1 rfl (Nat.le_of_ble_eq_true rfl) dL_law_686 ⟨Nat.le_refl _, Nat.le_refl _⟩ (fun r1 i1 g1 H locs hq hT hS => ?_)
  obtain ⟨hR1, hf1⟩ := hq
  have hrel1_ : rel74 i1 := rel74_f hrel hf1 (by decide) (by decide) (by decide) (by decide)
  refine lv_pop hx hb dL_law_689 rfl ?_
  refine lv_aload_n hx hb dL_law_690 rfl (lv_at hl 1 rfl) ?_
  refine lv_aload_n hx hb dL_law_691 rfl (lv_at hl 3 rfl) ?_
  refine lv_iload_n hx hb dL_law_692 rfl (lv_at hl 0 rfl) ?_
  refine lv_iconst (v := 1) hx hb dL_law_693 (by decide) ?_
  refine lv_iadd hx hb dL_law_694 ?_
  refine va_sld hx hb hX hbl hbA hS (i := (x3 + 1)) (sl_in 1 hx3 hL3 (by decide)) dL_law_695 ?_
  refine e_Vi (As := [.int (xs (Int32.toNatClampNeg (x3 + 1)))]) (rest := []) X Y hT hS (m_X9_reads hR1 (xs (Int32.toNatClampNeg (x3 + 1)))) mk_X9_reads gm_1754 rfl rfl (by decide) hd_X9_reads ⟨rfl, rfl⟩ ⟨Nat.le_of_ble_eq_true rfl, Nat.le_of_ble_eq_true rfl⟩ hl.1 rfl (Nat.le_of_ble_eq_true rfl) dL_law_696 ⟨Nat.le_refl _, Nat.le_refl _⟩ (fun r2 i2 g2 H locs hq hT hS => ?_)
  obtain ⟨hR2, hf2⟩ := hq
  have hrel2_ : rel74 i2 := rel74_f hrel1_ hf2 (by decide) (by decide) (by decide) (by decide)
  refine lv_pop hx hb dL_law_699 rfl ?_
  refine lv_goto (tgt := 2196) hx hb dL_law_700 (by decide) ?_
  exact hE _ _ _ _ _ hR2 hrel2_ hT hS (lv_sub hl [0, 1, 2, 3] rfl)

set_option maxRecDepth 100000 in
set_option maxHeartbeats 4000000 in
theorem law_13 {p : Program} {l : Launch} {e : Env} {s : State} {m : MethodId} {below : List Frame} {meth : Method} {c : Code} {D : va_G} {cz : Nat → ClassId} {h : Nat → Nat} {z : EZ} {i : Nat → Nat → Int32} {g : Nat → Nat → Int64} {b L : Nat} {xs : Nat → Int32} {H : Heap} {locs : List Loc} {ls : Array Slot} {Q : State → Prop} {x3 : Int32} (X : Cxt p s m c #[Value.ref b] cL_law 4 "UncutTaleLaw" D cz) (Y : EV h z s s.heap) (hR : Rg rA i) (hX : va_X b L xs s s.heap) (hbl : b < s.heap.size) (hbA : ¬ hA h b) (hT : TH D h cz i g H) (hS : va_S (hA h) s.heap H locs) (hx3 : rg 0 3066 x3) (hL3 : x3.toInt + 6 ≤ (L : Int)) (hl : lv_has ls 4 [(3, .int x3), (2, .ref (h 96)), (1, .ref (h 0)), (0, .ref b)]) (hrel : rel74 i) (hE : ∀ (i : Nat → Nat → Int32) (g : Nat → Nat → Int64) (H : Heap) (locs : List Loc) (ls : Array Slot), Rg rA i → rel74 i → TH D h cz i g H → va_S (hA h) s.heap H locs → lv_has ls 4 [(3, .int x3), (2, .ref (h 96)), (1, .ref (h 0)), (0, .ref b)] → W p l e room_1 s m #[Value.ref b] below meth c H locs 600000 7302250 Q (F0 m 2196 ls [])) : W p l e room_1 s m #[Value.ref b] below meth c H locs 600000 7302250 Q (F0 m 703 ls []) := by
  have hx := X.1
  have hb := X.2.1
  refine lv_aload_n hx hb dL_law_703 rfl (lv_at hl 2 rfl) ?_
  refine e_Vi (As := []) (rest := []) X Y hT hS (m_X8_all hR) mk_X8_all gm_836 rfl rfl (by decide) hd_X8_all ⟨rfl, rfl⟩ ⟨Nat.le_of_ble_eq_true rfl, Nat.le_of_ble_eq_true rfl⟩ hl.1 rfl (Nat.le_of_ble_eq_true rfl) dL_law_704 ⟨Nat.le_refl _, Nat.le_refl _⟩ (fun r1 i1 g1 H locs hq hT hS => ?_)
  obtain ⟨hR1, hf1⟩ := hq
  have hrel1_ : rel74 i1 := rel74_f hrel hf1 (by decide) (by decide) (by decide) (by decide)
  refine lv_pop hx hb dL_law_707 rfl ?_
  refine lv_aload_n hx hb dL_law_708 rfl (lv_at hl 1 rfl) ?_
  refine e_Vi (As := []) (rest := []) X Y hT hS (m_X9_all hR1) mk_X9_all gm_1766 rfl rfl (by decide) hd_X9_all ⟨rfl, rfl⟩ ⟨Nat.le_of_ble_eq_true rfl, Nat.le_of_ble_eq_true rfl⟩ hl.1 rfl (Nat.le_of_ble_eq_true rfl) dL_law_709 ⟨Nat.le_refl _, Nat.le_refl _⟩ (fun r2 i2 g2 H locs hq hT hS => ?_)
  obtain ⟨hR2, hf2⟩ := hq
  have hrel2_ : rel74 i2 := rel74_f hrel1_ hf2 (by decide) (by decide) (by decide) (by decide)
  refine lv_pop hx hb dL_law_712 rfl ?_
  refine lv_goto (tgt := 2196) hx hb dL_law_713 (by decide) ?_
  exact hE _ _ _ _ _ hR2 hrel2_ hT hS (lv_sub hl [0, 1, 2, 3] rfl)

set_option maxRecDepth 100000 in
set_option maxHeartbeats 4000000 in
theorem law_14 {p : Program} {l : Launch} {e : Env} {s : State} {m : MethodId} {below : List Frame} {meth : Method} {c : Code} {D : va_G} {cz : Nat → ClassId} {h : Nat → Nat} {z : EZ} {i : Nat → Nat → Int32} {g : Nat → Nat → Int64} {b L : Nat} {xs : Nat → Int32} {H : Heap} {locs : List Loc} {ls : Array Slot} {Q : State → Prop} {x3 : Int32} (X : Cxt p s m c #[Value.ref b] cL_law 4 "UncutTaleLaw" D cz) (Y : EV h z s s.heap) (hR : Rg rA i) (hX : va_X b L xs s s.heap) (hbl : b < s.heap.size) (hbA : ¬ hA h b) (hT : TH D h cz i g H) (hS : va_S (hA h) s.heap H locs) (hx3 : rg 0 3066 x3) (hL3 : x3.toInt + 6 ≤ (L : Int)) (hl : lv_has ls 4 [(3, .int x3), (2, .ref (h 96)), (1, .ref (h 0)), (0, .ref b)]) (hrel : rel74 i) (hE : ∀ (i : Nat → Nat → Int32) (g : Nat → Nat → Int64) (H : Heap) (locs : List Loc) (ls : Array Slot), Rg rA i → rel74 i → TH D h cz i g H → va_S (hA h) s.heap H locs → lv_has ls 4 [(3, .int x3), (2, .ref (h 96)), (1, .ref (h 0)), (0, .ref b)] → W p l e room_1 s m #[Value.ref b] below meth c H locs 600000 7302250 Q (F0 m 2196 ls [])) : W p l e room_1 s m #[Value.ref b] below meth c H locs 600000 7302250 Q (F0 m 716 ls []) := by
  have hx := X.1
  have hb := X.2.1
  refine lv_aload_n hx hb dL_law_716 rfl (lv_at hl 2 rfl) ?_
  refine lv_aload_n hx hb dL_law_717 rfl (lv_at hl 3 rfl) ?_
  refine lv_iload_n hx hb dL_law_718 rfl (lv_at hl 0 rfl) ?_
  refine lv_iconst (v := 1) hx hb dL_law_719 (by decide) ?_
  refine lv_iadd hx hb dL_law_720 ?_
  refine va_sld hx hb hX hbl hbA hS (i := (x3 + 1)) (sl_in 1 hx3 hL3 (by decide)) dL_law_721 ?_
  refine lv_aload_n hx hb dL_law_722 rfl (lv_at hl 3 rfl) ?_
  refine lv_iload_n hx hb dL_law_723 rfl (lv_at hl 0 rfl) ?_
  refine lv_iconst (v := 2) hx hb dL_law_724 (by decide) ?_
  refine lv_iadd hx hb dL_law_725 ?_
  refine va_sld hx hb hX hbl hbA hS (i := (x3 + 2)) (sl_in 2 hx3 hL3 (by decide)) dL_law_726 ?_
  refine e_Vi (As := [.int (xs (Int32.toNatClampNeg (x3 + 1))), .int (xs (Int32.toNatClampNeg (x3 + 2)))]) (rest := []) X Y hT hS (m_X8_keeps hR (xs (Int32.toNatClampNeg (x3 + 1))) (xs (Int32.toNatClampNeg (x3 + 2)))) mk_X8_keeps gm_844 rfl rfl (by decide) hd_X8_keeps ⟨rfl, rfl⟩ ⟨Nat.le_of_ble_eq_true rfl, Nat.le_of_ble_eq_true rfl⟩ hl.1 rfl (Nat.le_of_ble_eq_true rfl) dL_law_727 ⟨Nat.le_refl _, Nat.le_refl _⟩ (fun r1 i1 g1 H locs hq hT hS => ?_)
  obtain ⟨hR1, hf1, hr1⟩ := hq
  have hrel1_ : rel74 i1 := rel74_f hrel hf1 (by decide) (by decide) (by decide) (by decide)
  refine lv_pop hx hb dL_law_730 rfl ?_
  refine lv_aload_n hx hb dL_law_731 rfl (lv_at hl 1 rfl) ?_
  refine lv_aload_n hx hb dL_law_732 rfl (lv_at hl 3 rfl) ?_
  refine lv_iload_n hx hb dL_law_733 rfl (lv_at hl 0 rfl) ?_
  refine lv_iconst (v := 1) hx hb dL_law_734 (by decide) ?_
  refine lv_iadd hx hb dL_law_735 ?_
  refine va_sld hx hb hX hbl hbA hS (i := (x3 + 1)) (sl_in 1 hx3 hL3 (by decide)) dL_law_736 ?_
  refine lv_aload_n hx hb dL_law_737 rfl (lv_at hl 3 rfl) ?_
  refine lv_iload_n hx hb dL_law_738 rfl (lv_at hl 0 rfl) ?_
  refine lv_iconst (v := 2) hx hb dL_law_739 (by decide) ?_
  refine lv_iadd hx hb dL_law_740 ?_
  refine va_sld hx hb hX hbl hbA hS (i := (x3 + 2)) (sl_in 2 hx3 hL3 (by decide)) dL_law_741 ?_
  refine e_Vi (As := [.int (xs (Int32.toNatClampNeg (x3 + 1))), .int (xs (Int32.toNatClampNeg (x3 + 2)))]) (rest := []) X Y hT hS (m_X9_keeps hR1 (xs (Int32.toNatClampNeg (x3 + 1))) (xs (Int32.toNatClampNeg (x3 + 2)))) mk_X9_keeps gm_1774 rfl rfl (by decide) hd_X9_keeps ⟨rfl, rfl⟩ ⟨Nat.le_of_ble_eq_true rfl, Nat.le_of_ble_eq_true rfl⟩ hl.1 rfl (Nat.le_of_ble_eq_true rfl) dL_law_742 ⟨Nat.le_refl _, Nat.le_refl _⟩ (fun r2 i2 g2 H locs hq hT hS => ?_)
  obtain ⟨hR2, hf2, hr2⟩ := hq
  have hrel2_ : rel74 i2 := rel74_f hrel1_ hf2 (by decide) (by decide) (by decide) (by decide)
  refine lv_pop hx hb dL_law_745 rfl ?_
  refine lv_goto (tgt := 2196) hx hb dL_law_746 (by decide) ?_
  exact hE _ _ _ _ _ hR2 hrel2_ hT hS (lv_sub hl [0, 1, 2, 3] rfl)

set_option maxRecDepth 100000 in
set_option maxHeartbeats 4000000 in
theorem law_15 {p : Program} {l : Launch} {e : Env} {s : State} {m : MethodId} {below : List Frame} {meth : Method} {c : Code} {D : va_G} {cz : Nat → ClassId} {h : Nat → Nat} {z : EZ} {i : Nat → Nat → Int32} {g : Nat → Nat → Int64} {b L : Nat} {xs : Nat → Int32} {H : Heap} {locs : List Loc} {ls : Array Slot} {Q : State → Prop} {x3 : Int32} (X : Cxt p s m c #[Value.ref b] cL_law 4 "UncutTaleLaw" D cz) (Y : EV h z s s.heap) (hR : Rg rA i) (hX : va_X b L xs s s.heap) (hbl : b < s.heap.size) (hbA : ¬ hA h b) (hT : TH D h cz i g H) (hS : va_S (hA h) s.heap H locs) (hx3 : rg 0 3066 x3) (hL3 : x3.toInt + 6 ≤ (L : Int)) (hl : lv_has ls 4 [(3, .int x3), (2, .ref (h 96)), (1, .ref (h 0)), (0, .ref b)]) (hrel : rel74 i) (hE : ∀ (i : Nat → Nat → Int32) (g : Nat → Nat → Int64) (H : Heap) (locs : List Loc) (ls : Array Slot), Rg rA i → rel74 i → TH D h cz i g H → va_S (hA h) s.heap H locs → lv_has ls 4 [(3, .int x3), (2, .ref (h 96)), (1, .ref (h 0)), (0, .ref b)] → W p l e room_1 s m #[Value.ref b] below meth c H locs 600000 7302250 Q (F0 m 2196 ls [])) : W p l e room_1 s m #[Value.ref b] below meth c H locs 600000 7302250 Q (F0 m 749 ls []) := by
  have hx := X.1
  have hb := X.2.1
  refine lv_aload_n hx hb dL_law_749 rfl (lv_at hl 2 rfl) ?_
  refine lv_aload_n hx hb dL_law_750 rfl (lv_at hl 3 rfl) ?_
  refine lv_iload_n hx hb dL_law_751 rfl (lv_at hl 0 rfl) ?_
  refine lv_iconst (v := 1) hx hb dL_law_752 (by decide) ?_
  refine lv_iadd hx hb dL_law_753 ?_
  refine va_sld hx hb hX hbl hbA hS (i := (x3 + 1)) (sl_in 1 hx3 hL3 (by decide)) dL_law_754 ?_
  refine e_Vi (As := [.int (xs (Int32.toNatClampNeg (x3 + 1)))]) (rest := []) X Y hT hS (m_X8_waits hR (xs (Int32.toNatClampNeg (x3 + 1)))) mk_X8_waits gm_852 rfl rfl (by decide) hd_X8_waits ⟨rfl, rfl⟩ ⟨Nat.le_of_ble_eq_true rfl, Nat.le_of_ble_eq_true rfl⟩ hl.1 rfl (Nat.le_of_ble_eq_true rfl) dL_law_755 ⟨Nat.le_refl _, Nat.le_refl _⟩ (fun r1 i1 g1 H locs hq hT hS => ?_)
  obtain ⟨hR1, hf1⟩ := hq
  have hrel1_ : rel74 i1 := rel74_f hrel hf1 (by decide) (by decide) (by decide) (by decide)
  refine lv_pop hx hb dL_law_758 rfl ?_
  refine lv_aload_n hx hb dL_law_759 rfl (lv_at hl 1 rfl) ?_
  refine lv_aload_n hx hb dL_law_760 rfl (lv_at hl 3 rfl) ?_
  refine lv_iload_n hx hb dL_law_761 rfl (lv_at hl 0 rfl) ?_
  refine lv_iconst (v := 1) hx hb dL_law_762 (by decide) ?_
  refine lv_iadd hx hb dL_law_763 ?_
  refine va_sld hx hb hX hbl hbA hS (i := (x3 + 1)) (sl_in 1 hx3 hL3 (by decide)) dL_law_764 ?_
  refine e_Vi (As := [.int (xs (Int32.toNatClampNeg (x3 + 1)))]) (rest := []) X Y hT hS (m_X9_waits hR1 (xs (Int32.toNatClampNeg (x3 + 1)))) mk_X9_waits gm_1782 rfl rfl (by decide) hd_X9_waits ⟨rfl, rfl⟩ ⟨Nat.le_of_ble_eq_true rfl, Nat.le_of_ble_eq_true rfl⟩ hl.1 rfl (Nat.le_of_ble_eq_true rfl) dL_law_765 ⟨Nat.le_refl _, Nat.le_refl _⟩ (fun r2 i2 g2 H locs hq hT hS => ?_)
  obtain ⟨hR2, hf2⟩ := hq
  have hrel2_ : rel74 i2 := rel74_f hrel1_ hf2 (by decide) (by decide) (by decide) (by decide)
  refine lv_pop hx hb dL_law_768 rfl ?_
  refine lv_goto (tgt := 2196) hx hb dL_law_769 (by decide) ?_
  exact hE _ _ _ _ _ hR2 hrel2_ hT hS (lv_sub hl [0, 1, 2, 3] rfl)

set_option maxRecDepth 100000 in
set_option maxHeartbeats 4000000 in
theorem law_16 {p : Program} {l : Launch} {e : Env} {s : State} {m : MethodId} {below : List Frame} {meth : Method} {c : Code} {D : va_G} {cz : Nat → ClassId} {h : Nat → Nat} {z : EZ} {i : Nat → Nat → Int32} {g : Nat → Nat → Int64} {b L : Nat} {xs : Nat → Int32} {H : Heap} {locs : List Loc} {ls : Array Slot} {Q : State → Prop} {x3 : Int32} (X : Cxt p s m c #[Value.ref b] cL_law 4 "UncutTaleLaw" D cz) (Y : EV h z s s.heap) (hR : Rg rA i) (hX : va_X b L xs s s.heap) (hbl : b < s.heap.size) (hbA : ¬ hA h b) (hT : TH D h cz i g H) (hS : va_S (hA h) s.heap H locs) (hx3 : rg 0 3066 x3) (hL3 : x3.toInt + 6 ≤ (L : Int)) (hl : lv_has ls 4 [(3, .int x3), (2, .ref (h 96)), (1, .ref (h 0)), (0, .ref b)]) (hrel : rel74 i) (hE : ∀ (i : Nat → Nat → Int32) (g : Nat → Nat → Int64) (H : Heap) (locs : List Loc) (ls : Array Slot), Rg rA i → rel74 i → TH D h cz i g H → va_S (hA h) s.heap H locs → lv_has ls 4 [(3, .int x3), (2, .ref (h 96)), (1, .ref (h 0)), (0, .ref b)] → W p l e room_1 s m #[Value.ref b] below meth c H locs 600000 7302250 Q (F0 m 2196 ls [])) : W p l e room_1 s m #[Value.ref b] below meth c H locs 600000 7302250 Q (F0 m 772 ls []) := by
  have hx := X.1
  have hb := X.2.1
  refine lv_aload_n hx hb dL_law_772 rfl (lv_at hl 2 rfl) ?_
  refine lv_aload_n hx hb dL_law_773 rfl (lv_at hl 3 rfl) ?_
  refine lv_iload_n hx hb dL_law_774 rfl (lv_at hl 0 rfl) ?_
  refine lv_iconst (v := 1) hx hb dL_law_775 (by decide) ?_
  refine lv_iadd hx hb dL_law_776 ?_
  refine va_sld hx hb hX hbl hbA hS (i := (x3 + 1)) (sl_in 1 hx3 hL3 (by decide)) dL_law_777 ?_
  refine e_Vi (As := [.int (xs (Int32.toNatClampNeg (x3 + 1)))]) (rest := []) X Y hT hS (m_X8_next hR (xs (Int32.toNatClampNeg (x3 + 1)))) mk_X8_next gm_857 rfl rfl (by decide) hd_X8_next ⟨rfl, rfl⟩ ⟨Nat.le_of_ble_eq_true rfl, Nat.le_of_ble_eq_true rfl⟩ hl.1 rfl (Nat.le_of_ble_eq_true rfl) dL_law_778 ⟨Nat.le_refl _, Nat.le_refl _⟩ (fun r1 i1 g1 H locs hq hT hS => ?_)
  obtain ⟨hR1, hf1, hr1⟩ := hq
  have hrel1_ : rel74 i1 := rel74_f hrel hf1 (by decide) (by decide) (by decide) (by decide)
  refine lv_pop hx hb dL_law_781 rfl ?_
  refine lv_aload_n hx hb dL_law_782 rfl (lv_at hl 1 rfl) ?_
  refine lv_aload_n hx hb dL_law_783 rfl (lv_at hl 3 rfl) ?_
  refine lv_iload_n hx hb dL_law_784 rfl (lv_at hl 0 rfl) ?_
  refine lv_iconst (v := 1) hx hb dL_law_785 (by decide) ?_
  refine lv_iadd hx hb dL_law_786 ?_
  refine va_sld hx hb hX hbl hbA hS (i := (x3 + 1)) (sl_in 1 hx3 hL3 (by decide)) dL_law_787 ?_
  refine e_Vi (As := [.int (xs (Int32.toNatClampNeg (x3 + 1)))]) (rest := []) X Y hT hS (m_X9_next hR1 (xs (Int32.toNatClampNeg (x3 + 1)))) mk_X9_next gm_1786 rfl rfl (by decide) hd_X9_next ⟨rfl, rfl⟩ ⟨Nat.le_of_ble_eq_true rfl, Nat.le_of_ble_eq_true rfl⟩ hl.1 rfl (Nat.le_of_ble_eq_true rfl) dL_law_788 ⟨Nat.le_refl _, Nat.le_refl _⟩ (fun r2 i2 g2 H locs hq hT hS => ?_)
  obtain ⟨hR2, hf2, hr2⟩ := hq
  have hrel2_ : rel74 i2 := rel74_f hrel1_ hf2 (by decide) (by decide) (by decide) (by decide)
  refine lv_pop hx hb dL_law_791 rfl ?_
  refine lv_goto (tgt := 2196) hx hb dL_law_792 (by decide) ?_
  exact hE _ _ _ _ _ hR2 hrel2_ hT hS (lv_sub hl [0, 1, 2, 3] rfl)

set_option maxRecDepth 100000 in
set_option maxHeartbeats 4000000 in
theorem law_17 {p : Program} {l : Launch} {e : Env} {s : State} {m : MethodId} {below : List Frame} {meth : Method} {c : Code} {D : va_G} {cz : Nat → ClassId} {h : Nat → Nat} {z : EZ} {i : Nat → Nat → Int32} {g : Nat → Nat → Int64} {b L : Nat} {xs : Nat → Int32} {H : Heap} {locs : List Loc} {ls : Array Slot} {Q : State → Prop} {x3 : Int32} (X : Cxt p s m c #[Value.ref b] cL_law 4 "UncutTaleLaw" D cz) (Y : EV h z s s.heap) (hR : Rg rA i) (hX : va_X b L xs s s.heap) (hbl : b < s.heap.size) (hbA : ¬ hA h b) (hT : TH D h cz i g H) (hS : va_S (hA h) s.heap H locs) (hx3 : rg 0 3066 x3) (hL3 : x3.toInt + 6 ≤ (L : Int)) (hl : lv_has ls 4 [(3, .int x3), (2, .ref (h 96)), (1, .ref (h 0)), (0, .ref b)]) (hrel : rel74 i) (hE : ∀ (i : Nat → Nat → Int32) (g : Nat → Nat → Int64) (H : Heap) (locs : List Loc) (ls : Array Slot), Rg rA i → rel74 i → TH D h cz i g H → va_S (hA h) s.heap H locs → lv_has ls 4 [(3, .int x3), (2, .ref (h 96)), (1, .ref (h 0)), (0, .ref b)] → W p l e room_1 s m #[Value.ref b] below meth c H locs 600000 7302250 Q (F0 m 2196 ls [])) : W p l e room_1 s m #[Value.ref b] below meth c H locs 600000 7302250 Q (F0 m 795 ls []) := by
  have hx := X.1
  have hb := X.2.1
  refine lv_aload_n hx hb dL_law_795 rfl (lv_at hl 2 rfl) ?_
  refine lv_aload_n hx hb dL_law_796 rfl (lv_at hl 3 rfl) ?_
  refine lv_iload_n hx hb dL_law_797 rfl (lv_at hl 0 rfl) ?_
  refine lv_iconst (v := 1) hx hb dL_law_798 (by decide) ?_
  refine lv_iadd hx hb dL_law_799 ?_
  refine va_sld hx hb hX hbl hbA hS (i := (x3 + 1)) (sl_in 1 hx3 hL3 (by decide)) dL_law_800 ?_
  refine e_Vi (As := [.int (xs (Int32.toNatClampNeg (x3 + 1)))]) (rest := []) X Y hT hS (m_X8_dull hR (xs (Int32.toNatClampNeg (x3 + 1)))) mk_X8_dull gm_861 rfl rfl (by decide) hd_X8_dull ⟨rfl, rfl⟩ ⟨Nat.le_of_ble_eq_true rfl, Nat.le_of_ble_eq_true rfl⟩ hl.1 rfl (Nat.le_of_ble_eq_true rfl) dL_law_801 ⟨Nat.le_refl _, Nat.le_refl _⟩ (fun r1 i1 g1 H locs hq hT hS => ?_)
  obtain ⟨hR1, hf1, hr1⟩ := hq
  have hrel1_ : rel74 i1 := rel74_f hrel hf1 (by decide) (by decide) (by decide) (by decide)
  refine lv_pop hx hb dL_law_804 rfl ?_
  refine lv_aload_n hx hb dL_law_805 rfl (lv_at hl 1 rfl) ?_
  refine lv_aload_n hx hb dL_law_806 rfl (lv_at hl 3 rfl) ?_
  refine lv_iload_n hx hb dL_law_807 rfl (lv_at hl 0 rfl) ?_
  refine lv_iconst (v := 1) hx hb dL_law_808 (by decide) ?_
  refine lv_iadd hx hb dL_law_809 ?_
  refine va_sld hx hb hX hbl hbA hS (i := (x3 + 1)) (sl_in 1 hx3 hL3 (by decide)) dL_law_810 ?_
  refine e_Vi (As := [.int (xs (Int32.toNatClampNeg (x3 + 1)))]) (rest := []) X Y hT hS (m_X9_dull hR1 (xs (Int32.toNatClampNeg (x3 + 1)))) mk_X9_dull gm_1790 rfl rfl (by decide) hd_X9_dull ⟨rfl, rfl⟩ ⟨Nat.le_of_ble_eq_true rfl, Nat.le_of_ble_eq_true rfl⟩ hl.1 rfl (Nat.le_of_ble_eq_true rfl) dL_law_811 ⟨Nat.le_refl _, Nat.le_refl _⟩ (fun r2 i2 g2 H locs hq hT hS => ?_)
  obtain ⟨hR2, hf2, hr2⟩ := hq
  have hrel2_ : rel74 i2 := rel74_f hrel1_ hf2 (by decide) (by decide) (by decide) (by decide)
  refine lv_pop hx hb dL_law_814 rfl ?_
  refine lv_goto (tgt := 2196) hx hb dL_law_815 (by decide) ?_
  exact hE _ _ _ _ _ hR2 hrel2_ hT hS (lv_sub hl [0, 1, 2, 3] rfl)

set_option maxRecDepth 100000 in
set_option maxHeartbeats 4000000 in
theorem law_18 {p : Program} {l : Launch} {e : Env} {s : State} {m : MethodId} {below : List Frame} {meth : Method} {c : Code} {D : va_G} {cz : Nat → ClassId} {h : Nat → Nat} {z : EZ} {i : Nat → Nat → Int32} {g : Nat → Nat → Int64} {b L : Nat} {xs : Nat → Int32} {H : Heap} {locs : List Loc} {ls : Array Slot} {Q : State → Prop} {x3 : Int32} (X : Cxt p s m c #[Value.ref b] cL_law 4 "UncutTaleLaw" D cz) (Y : EV h z s s.heap) (hR : Rg rA i) (hX : va_X b L xs s s.heap) (hbl : b < s.heap.size) (hbA : ¬ hA h b) (hT : TH D h cz i g H) (hS : va_S (hA h) s.heap H locs) (hx3 : rg 0 3066 x3) (hL3 : x3.toInt + 6 ≤ (L : Int)) (hl : lv_has ls 4 [(3, .int x3), (2, .ref (h 96)), (1, .ref (h 0)), (0, .ref b)]) (hrel : rel74 i) (hE : ∀ (i : Nat → Nat → Int32) (g : Nat → Nat → Int64) (H : Heap) (locs : List Loc) (ls : Array Slot), Rg rA i → rel74 i → TH D h cz i g H → va_S (hA h) s.heap H locs → lv_has ls 4 [(3, .int x3), (2, .ref (h 96)), (1, .ref (h 0)), (0, .ref b)] → W p l e room_1 s m #[Value.ref b] below meth c H locs 600000 7302250 Q (F0 m 2196 ls [])) : W p l e room_1 s m #[Value.ref b] below meth c H locs 600000 7302250 Q (F0 m 818 ls []) := by
  have hx := X.1
  have hb := X.2.1
  refine lv_aload_n hx hb dL_law_818 rfl (lv_at hl 2 rfl) ?_
  refine lv_aload_n hx hb dL_law_819 rfl (lv_at hl 3 rfl) ?_
  refine lv_iload_n hx hb dL_law_820 rfl (lv_at hl 0 rfl) ?_
  refine lv_iconst (v := 1) hx hb dL_law_821 (by decide) ?_
  refine lv_iadd hx hb dL_law_822 ?_
  refine va_sld hx hb hX hbl hbA hS (i := (x3 + 1)) (sl_in 1 hx3 hL3 (by decide)) dL_law_823 ?_
  refine e_Vi (As := [.int (xs (Int32.toNatClampNeg (x3 + 1)))]) (rest := []) X Y hT hS (m_X8_dies hR (xs (Int32.toNatClampNeg (x3 + 1)))) mk_X8_dies gm_865 rfl rfl (by decide) hd_X8_dies ⟨rfl, rfl⟩ ⟨Nat.le_of_ble_eq_true rfl, Nat.le_of_ble_eq_true rfl⟩ hl.1 rfl (Nat.le_of_ble_eq_true rfl) dL_law_824 ⟨Nat.le_refl _, Nat.le_refl _⟩ (fun r1 i1 g1 H locs hq hT hS => ?_)
  obtain ⟨hR1, hf1, hr1⟩ := hq
  have hrel1_ : rel74 i1 := rel74_f hrel hf1 (by decide) (by decide) (by decide) (by decide)
  refine lv_pop hx hb dL_law_827 rfl ?_
  refine lv_aload_n hx hb dL_law_828 rfl (lv_at hl 1 rfl) ?_
  refine lv_aload_n hx hb dL_law_829 rfl (lv_at hl 3 rfl) ?_
  refine lv_iload_n hx hb dL_law_830 rfl (lv_at hl 0 rfl) ?_
  refine lv_iconst (v := 1) hx hb dL_law_831 (by decide) ?_
  refine lv_iadd hx hb dL_law_832 ?_
  refine va_sld hx hb hX hbl hbA hS (i := (x3 + 1)) (sl_in 1 hx3 hL3 (by decide)) dL_law_833 ?_
  refine e_Vi (As := [.int (xs (Int32.toNatClampNeg (x3 + 1)))]) (rest := []) X Y hT hS (m_X9_dies hR1 (xs (Int32.toNatClampNeg (x3 + 1)))) mk_X9_dies gm_1794 rfl rfl (by decide) hd_X9_dies ⟨rfl, rfl⟩ ⟨Nat.le_of_ble_eq_true rfl, Nat.le_of_ble_eq_true rfl⟩ hl.1 rfl (Nat.le_of_ble_eq_true rfl) dL_law_834 ⟨Nat.le_refl _, Nat.le_refl _⟩ (fun r2 i2 g2 H locs hq hT hS => ?_)
  obtain ⟨hR2, hf2, hr2⟩ := hq
  have hrel2_ : rel74 i2 := rel74_f hrel1_ hf2 (by decide) (by decide) (by decide) (by decide)
  refine lv_pop hx hb dL_law_837 rfl ?_
  refine lv_goto (tgt := 2196) hx hb dL_law_838 (by decide) ?_
  exact hE _ _ _ _ _ hR2 hrel2_ hT hS (lv_sub hl [0, 1, 2, 3] rfl)

set_option maxRecDepth 100000 in
set_option maxHeartbeats 4000000 in
theorem law_19 {p : Program} {l : Launch} {e : Env} {s : State} {m : MethodId} {below : List Frame} {meth : Method} {c : Code} {D : va_G} {cz : Nat → ClassId} {h : Nat → Nat} {z : EZ} {i : Nat → Nat → Int32} {g : Nat → Nat → Int64} {b L : Nat} {xs : Nat → Int32} {H : Heap} {locs : List Loc} {ls : Array Slot} {Q : State → Prop} {x3 : Int32} (X : Cxt p s m c #[Value.ref b] cL_law 4 "UncutTaleLaw" D cz) (Y : EV h z s s.heap) (hR : Rg rA i) (hX : va_X b L xs s s.heap) (hbl : b < s.heap.size) (hbA : ¬ hA h b) (hT : TH D h cz i g H) (hS : va_S (hA h) s.heap H locs) (hx3 : rg 0 3066 x3) (hL3 : x3.toInt + 6 ≤ (L : Int)) (hl : lv_has ls 4 [(3, .int x3), (2, .ref (h 96)), (1, .ref (h 0)), (0, .ref b)]) (hrel : rel74 i) (hE : ∀ (i : Nat → Nat → Int32) (g : Nat → Nat → Int64) (H : Heap) (locs : List Loc) (ls : Array Slot), Rg rA i → rel74 i → TH D h cz i g H → va_S (hA h) s.heap H locs → lv_has ls 4 [(3, .int x3), (2, .ref (h 96)), (1, .ref (h 0)), (0, .ref b)] → W p l e room_1 s m #[Value.ref b] below meth c H locs 600000 7302250 Q (F0 m 2196 ls [])) : W p l e room_1 s m #[Value.ref b] below meth c H locs 600000 7302250 Q (F0 m 841 ls []) := by
  have hx := X.1
  have hb := X.2.1
  refine lv_aload_n hx hb dL_law_841 rfl (lv_at hl 2 rfl) ?_
  refine lv_aload_n hx hb dL_law_842 rfl (lv_at hl 3 rfl) ?_
  refine lv_iload_n hx hb dL_law_843 rfl (lv_at hl 0 rfl) ?_
  refine lv_iconst (v := 1) hx hb dL_law_844 (by decide) ?_
  refine lv_iadd hx hb dL_law_845 ?_
  refine va_sld hx hb hX hbl hbA hS (i := (x3 + 1)) (sl_in 1 hx3 hL3 (by decide)) dL_law_846 ?_
  refine e_Vi (As := [.int (xs (Int32.toNatClampNeg (x3 + 1)))]) (rest := []) X Y hT hS (m_X8_ages hR (xs (Int32.toNatClampNeg (x3 + 1)))) mk_X8_ages gm_869 rfl rfl (by decide) hd_X8_ages ⟨rfl, rfl⟩ ⟨Nat.le_of_ble_eq_true rfl, Nat.le_of_ble_eq_true rfl⟩ hl.1 rfl (Nat.le_of_ble_eq_true rfl) dL_law_847 ⟨Nat.le_refl _, Nat.le_refl _⟩ (fun r1 i1 g1 H locs hq hT hS => ?_)
  obtain ⟨hR1, hf1, hr1⟩ := hq
  have hrel1_ : rel74 i1 := rel74_f hrel hf1 (by decide) (by decide) (by decide) (by decide)
  refine lv_pop hx hb dL_law_850 rfl ?_
  refine lv_aload_n hx hb dL_law_851 rfl (lv_at hl 1 rfl) ?_
  refine lv_aload_n hx hb dL_law_852 rfl (lv_at hl 3 rfl) ?_
  refine lv_iload_n hx hb dL_law_853 rfl (lv_at hl 0 rfl) ?_
  refine lv_iconst (v := 1) hx hb dL_law_854 (by decide) ?_
  refine lv_iadd hx hb dL_law_855 ?_
  refine va_sld hx hb hX hbl hbA hS (i := (x3 + 1)) (sl_in 1 hx3 hL3 (by decide)) dL_law_856 ?_
  refine e_Vi (As := [.int (xs (Int32.toNatClampNeg (x3 + 1)))]) (rest := []) X Y hT hS (m_X9_ages hR1 (xs (Int32.toNatClampNeg (x3 + 1)))) mk_X9_ages gm_1798 rfl rfl (by decide) hd_X9_ages ⟨rfl, rfl⟩ ⟨Nat.le_of_ble_eq_true rfl, Nat.le_of_ble_eq_true rfl⟩ hl.1 rfl (Nat.le_of_ble_eq_true rfl) dL_law_857 ⟨Nat.le_refl _, Nat.le_refl _⟩ (fun r2 i2 g2 H locs hq hT hS => ?_)
  obtain ⟨hR2, hf2, hr2⟩ := hq
  have hrel2_ : rel74 i2 := rel74_f hrel1_ hf2 (by decide) (by decide) (by decide) (by decide)
  refine lv_pop hx hb dL_law_860 rfl ?_
  refine lv_goto (tgt := 2196) hx hb dL_law_861 (by decide) ?_
  exact hE _ _ _ _ _ hR2 hrel2_ hT hS (lv_sub hl [0, 1, 2, 3] rfl)

set_option maxRecDepth 100000 in
set_option maxHeartbeats 4000000 in
theorem law_20 {p : Program} {l : Launch} {e : Env} {s : State} {m : MethodId} {below : List Frame} {meth : Method} {c : Code} {D : va_G} {cz : Nat → ClassId} {h : Nat → Nat} {z : EZ} {i : Nat → Nat → Int32} {g : Nat → Nat → Int64} {b L : Nat} {xs : Nat → Int32} {H : Heap} {locs : List Loc} {ls : Array Slot} {Q : State → Prop} {x3 : Int32} (X : Cxt p s m c #[Value.ref b] cL_law 4 "UncutTaleLaw" D cz) (Y : EV h z s s.heap) (hR : Rg rA i) (hX : va_X b L xs s s.heap) (hbl : b < s.heap.size) (hbA : ¬ hA h b) (hT : TH D h cz i g H) (hS : va_S (hA h) s.heap H locs) (hx3 : rg 0 3066 x3) (hL3 : x3.toInt + 6 ≤ (L : Int)) (hl : lv_has ls 4 [(3, .int x3), (2, .ref (h 96)), (1, .ref (h 0)), (0, .ref b)]) (hrel : rel74 i) (hE : ∀ (i : Nat → Nat → Int32) (g : Nat → Nat → Int64) (H : Heap) (locs : List Loc) (ls : Array Slot), Rg rA i → rel74 i → TH D h cz i g H → va_S (hA h) s.heap H locs → lv_has ls 4 [(3, .int x3), (2, .ref (h 96)), (1, .ref (h 0)), (0, .ref b)] → W p l e room_1 s m #[Value.ref b] below meth c H locs 600000 7302250 Q (F0 m 2196 ls [])) : W p l e room_1 s m #[Value.ref b] below meth c H locs 600000 7302250 Q (F0 m 864 ls []) := by
  have hx := X.1
  have hb := X.2.1
  refine lv_aload_n hx hb dL_law_864 rfl (lv_at hl 2 rfl) ?_
  refine lv_aload_n hx hb dL_law_865 rfl (lv_at hl 3 rfl) ?_
  refine lv_iload_n hx hb dL_law_866 rfl (lv_at hl 0 rfl) ?_
  refine lv_iconst (v := 1) hx hb dL_law_867 (by decide) ?_
  refine lv_iadd hx hb dL_law_868 ?_
  refine va_sld hx hb hX hbl hbA hS (i := (x3 + 1)) (sl_in 1 hx3 hL3 (by decide)) dL_law_869 ?_
  refine e_Vi (As := [.int (xs (Int32.toNatClampNeg (x3 + 1)))]) (rest := []) X Y hT hS (m_X8_cut hR (xs (Int32.toNatClampNeg (x3 + 1)))) mk_X8_cut gm_885 rfl rfl (by decide) hd_X8_cut ⟨rfl, rfl⟩ ⟨Nat.le_of_ble_eq_true rfl, Nat.le_of_ble_eq_true rfl⟩ hl.1 rfl (Nat.le_of_ble_eq_true rfl) dL_law_870 ⟨Nat.le_refl _, Nat.le_refl _⟩ (fun r1 i1 g1 H locs hq hT hS => ?_)
  obtain ⟨hR1, hf1⟩ := hq
  have hrel1_ : rel74 i1 := rel74_f hrel hf1 (by decide) (by decide) (by decide) (by decide)
  refine lv_pop hx hb dL_law_873 rfl ?_
  refine lv_aload_n hx hb dL_law_874 rfl (lv_at hl 1 rfl) ?_
  refine lv_aload_n hx hb dL_law_875 rfl (lv_at hl 3 rfl) ?_
  refine lv_iload_n hx hb dL_law_876 rfl (lv_at hl 0 rfl) ?_
  refine lv_iconst (v := 1) hx hb dL_law_877 (by decide) ?_
  refine lv_iadd hx hb dL_law_878 ?_
  refine va_sld hx hb hX hbl hbA hS (i := (x3 + 1)) (sl_in 1 hx3 hL3 (by decide)) dL_law_879 ?_
  refine e_Vi (As := [.int (xs (Int32.toNatClampNeg (x3 + 1)))]) (rest := []) X Y hT hS (m_X9_cut_ hR1 (xs (Int32.toNatClampNeg (x3 + 1)))) mk_X9_cut_ gm_1802 rfl rfl (by decide) hd_X9_cut_ ⟨rfl, rfl⟩ ⟨Nat.le_of_ble_eq_true rfl, Nat.le_of_ble_eq_true rfl⟩ hl.1 rfl (Nat.le_of_ble_eq_true rfl) dL_law_880 ⟨Nat.le_refl _, Nat.le_refl _⟩ (fun r2 i2 g2 H locs hq hT hS => ?_)
  obtain ⟨hR2, hf2⟩ := hq
  have hrel2_ : rel74 i2 := rel74_f hrel1_ hf2 (by decide) (by decide) (by decide) (by decide)
  refine lv_pop hx hb dL_law_883 rfl ?_
  refine lv_goto (tgt := 2196) hx hb dL_law_884 (by decide) ?_
  exact hE _ _ _ _ _ hR2 hrel2_ hT hS (lv_sub hl [0, 1, 2, 3] rfl)

set_option maxRecDepth 100000 in
set_option maxHeartbeats 4000000 in
theorem law_21 {p : Program} {l : Launch} {e : Env} {s : State} {m : MethodId} {below : List Frame} {meth : Method} {c : Code} {D : va_G} {cz : Nat → ClassId} {h : Nat → Nat} {z : EZ} {i : Nat → Nat → Int32} {g : Nat → Nat → Int64} {b L : Nat} {xs : Nat → Int32} {H : Heap} {locs : List Loc} {ls : Array Slot} {Q : State → Prop} {x3 : Int32} (X : Cxt p s m c #[Value.ref b] cL_law 4 "UncutTaleLaw" D cz) (Y : EV h z s s.heap) (hR : Rg rA i) (hX : va_X b L xs s s.heap) (hbl : b < s.heap.size) (hbA : ¬ hA h b) (hT : TH D h cz i g H) (hS : va_S (hA h) s.heap H locs) (hx3 : rg 0 3066 x3) (hL3 : x3.toInt + 6 ≤ (L : Int)) (hl : lv_has ls 4 [(3, .int x3), (2, .ref (h 96)), (1, .ref (h 0)), (0, .ref b)]) (hrel : rel74 i) (hE : ∀ (i : Nat → Nat → Int32) (g : Nat → Nat → Int64) (H : Heap) (locs : List Loc) (ls : Array Slot), Rg rA i → rel74 i → TH D h cz i g H → va_S (hA h) s.heap H locs → lv_has ls 4 [(3, .int x3), (2, .ref (h 96)), (1, .ref (h 0)), (0, .ref b)] → W p l e room_1 s m #[Value.ref b] below meth c H locs 600000 7302250 Q (F0 m 2196 ls [])) : W p l e room_1 s m #[Value.ref b] below meth c H locs 600000 7302250 Q (F0 m 887 ls []) := by
  have hx := X.1
  have hb := X.2.1
  refine lv_aload_n hx hb dL_law_887 rfl (lv_at hl 2 rfl) ?_
  refine e_Vi (As := []) (rest := []) X Y hT hS (m_X8_sharp hR) mk_X8_sharp gm_889 rfl rfl (by decide) hd_X8_sharp ⟨rfl, rfl⟩ ⟨Nat.le_of_ble_eq_true rfl, Nat.le_of_ble_eq_true rfl⟩ hl.1 rfl (Nat.le_of_ble_eq_true rfl) dL_law_888 ⟨Nat.le_refl _, Nat.le_refl _⟩ (fun r1 i1 g1 H locs hq hT hS => ?_)
  obtain ⟨hR1, hf1⟩ := hq
  have hrel1_ : rel74 i1 := rel74_f hrel hf1 (by decide) (by decide) (by decide) (by decide)
  refine lv_pop hx hb dL_law_891 rfl ?_
  refine lv_aload_n hx hb dL_law_892 rfl (lv_at hl 1 rfl) ?_
  refine e_Vi (As := []) (rest := []) X Y hT hS (m_X9_sharp hR1) mk_X9_sharp gm_1806 rfl rfl (by decide) hd_X9_sharp ⟨rfl, rfl⟩ ⟨Nat.le_of_ble_eq_true rfl, Nat.le_of_ble_eq_true rfl⟩ hl.1 rfl (Nat.le_of_ble_eq_true rfl) dL_law_893 ⟨Nat.le_refl _, Nat.le_refl _⟩ (fun r2 i2 g2 H locs hq hT hS => ?_)
  obtain ⟨hR2, hf2⟩ := hq
  have hrel2_ : rel74 i2 := rel74_f hrel1_ hf2 (by decide) (by decide) (by decide) (by decide)
  refine lv_pop hx hb dL_law_896 rfl ?_
  refine lv_goto (tgt := 2196) hx hb dL_law_897 (by decide) ?_
  exact hE _ _ _ _ _ hR2 hrel2_ hT hS (lv_sub hl [0, 1, 2, 3] rfl)

set_option maxRecDepth 100000 in
set_option maxHeartbeats 4000000 in
theorem law_22 {p : Program} {l : Launch} {e : Env} {s : State} {m : MethodId} {below : List Frame} {meth : Method} {c : Code} {D : va_G} {cz : Nat → ClassId} {h : Nat → Nat} {z : EZ} {i : Nat → Nat → Int32} {g : Nat → Nat → Int64} {b L : Nat} {xs : Nat → Int32} {H : Heap} {locs : List Loc} {ls : Array Slot} {Q : State → Prop} {x3 : Int32} (X : Cxt p s m c #[Value.ref b] cL_law 4 "UncutTaleLaw" D cz) (Y : EV h z s s.heap) (hR : Rg rA i) (hX : va_X b L xs s s.heap) (hbl : b < s.heap.size) (hbA : ¬ hA h b) (hT : TH D h cz i g H) (hS : va_S (hA h) s.heap H locs) (hx3 : rg 0 3066 x3) (hL3 : x3.toInt + 6 ≤ (L : Int)) (hl : lv_has ls 4 [(3, .int x3), (2, .ref (h 96)), (1, .ref (h 0)), (0, .ref b)]) (hrel : rel74 i) (hE : ∀ (i : Nat → Nat → Int32) (g : Nat → Nat → Int64) (H : Heap) (locs : List Loc) (ls : Array Slot), Rg rA i → rel74 i → TH D h cz i g H → va_S (hA h) s.heap H locs → lv_has ls 4 [(3, .int x3), (2, .ref (h 96)), (1, .ref (h 0)), (0, .ref b)] → W p l e room_1 s m #[Value.ref b] below meth c H locs 600000 7302250 Q (F0 m 2196 ls [])) : W p l e room_1 s m #[Value.ref b] below meth c H locs 600000 7302250 Q (F0 m 900 ls []) := by
  have hx := X.1
  have hb := X.2.1
  refine lv_aload_n hx hb dL_law_900 rfl (lv_at hl 2 rfl) ?_
  refine e_Vi (As := []) (rest := []) X Y hT hS (m_X8_uncut hR) mk_X8_uncut gm_905 rfl rfl (by decide) hd_X8_uncut ⟨rfl, rfl⟩ ⟨Nat.le_of_ble_eq_true rfl, Nat.le_of_ble_eq_true rfl⟩ hl.1 rfl (Nat.le_of_ble_eq_true rfl) dL_law_901 ⟨Nat.le_refl _, Nat.le_refl _⟩ (fun r1 i1 g1 H locs hq hT hS => ?_)
  obtain ⟨hR1, hf1, hr1⟩ := hq
  have hrel1_ : rel74 i1 := rel74_f hrel hf1 (by decide) (by decide) (by decide) (by decide)
  refine lv_pop hx hb dL_law_904 rfl ?_
  refine lv_aload_n hx hb dL_law_905 rfl (lv_at hl 1 rfl) ?_
  refine e_Vi (As := []) (rest := []) X Y hT hS (m_X9_uncut hR1) mk_X9_uncut gm_1810 rfl rfl (by decide) hd_X9_uncut ⟨rfl, rfl⟩ ⟨Nat.le_of_ble_eq_true rfl, Nat.le_of_ble_eq_true rfl⟩ hl.1 rfl (Nat.le_of_ble_eq_true rfl) dL_law_906 ⟨Nat.le_refl _, Nat.le_refl _⟩ (fun r2 i2 g2 H locs hq hT hS => ?_)
  obtain ⟨hR2, hf2, hr2⟩ := hq
  have hrel2_ : rel74 i2 := rel74_f hrel1_ hf2 (by decide) (by decide) (by decide) (by decide)
  refine lv_pop hx hb dL_law_909 rfl ?_
  refine lv_goto (tgt := 2196) hx hb dL_law_910 (by decide) ?_
  exact hE _ _ _ _ _ hR2 hrel2_ hT hS (lv_sub hl [0, 1, 2, 3] rfl)

set_option maxRecDepth 100000 in
set_option maxHeartbeats 4000000 in
theorem law_23 {p : Program} {l : Launch} {e : Env} {s : State} {m : MethodId} {below : List Frame} {meth : Method} {c : Code} {D : va_G} {cz : Nat → ClassId} {h : Nat → Nat} {z : EZ} {i : Nat → Nat → Int32} {g : Nat → Nat → Int64} {b L : Nat} {xs : Nat → Int32} {H : Heap} {locs : List Loc} {ls : Array Slot} {Q : State → Prop} {x3 : Int32} (X : Cxt p s m c #[Value.ref b] cL_law 4 "UncutTaleLaw" D cz) (Y : EV h z s s.heap) (hR : Rg rA i) (hX : va_X b L xs s s.heap) (hbl : b < s.heap.size) (hbA : ¬ hA h b) (hT : TH D h cz i g H) (hS : va_S (hA h) s.heap H locs) (hx3 : rg 0 3066 x3) (hL3 : x3.toInt + 6 ≤ (L : Int)) (hl : lv_has ls 4 [(3, .int x3), (2, .ref (h 96)), (1, .ref (h 0)), (0, .ref b)]) (hrel : rel74 i) (hE : ∀ (i : Nat → Nat → Int32) (g : Nat → Nat → Int64) (H : Heap) (locs : List Loc) (ls : Array Slot), Rg rA i → rel74 i → TH D h cz i g H → va_S (hA h) s.heap H locs → lv_has ls 4 [(3, .int x3), (2, .ref (h 96)), (1, .ref (h 0)), (0, .ref b)] → W p l e room_1 s m #[Value.ref b] below meth c H locs 600000 7302250 Q (F0 m 2196 ls [])) : W p l e room_1 s m #[Value.ref b] below meth c H locs 600000 7302250 Q (F0 m 913 ls []) := by
  have hx := X.1
  have hb := X.2.1
  refine lv_aload_n hx hb dL_law_913 rfl (lv_at hl 2 rfl) ?_
  refine e_Vi (As := []) (rest := []) X Y hT hS (m_X8_done hR) mk_X8_done gm_917 rfl rfl (by decide) hd_X8_done ⟨rfl, rfl⟩ ⟨Nat.le_of_ble_eq_true rfl, Nat.le_of_ble_eq_true rfl⟩ hl.1 rfl (Nat.le_of_ble_eq_true rfl) dL_law_914 ⟨Nat.le_refl _, Nat.le_refl _⟩ (fun r1 i1 g1 H locs hq hT hS => ?_)
  obtain ⟨hR1, hf1, hr1⟩ := hq
  have hrel1_ : rel74 i1 := rel74_f hrel hf1 (by decide) (by decide) (by decide) (by decide)
  refine lv_pop hx hb dL_law_917 rfl ?_
  refine lv_aload_n hx hb dL_law_918 rfl (lv_at hl 1 rfl) ?_
  refine e_Vi (As := []) (rest := []) X Y hT hS (m_X9_done hR1) mk_X9_done gm_1818 rfl rfl (by decide) hd_X9_done ⟨rfl, rfl⟩ ⟨Nat.le_of_ble_eq_true rfl, Nat.le_of_ble_eq_true rfl⟩ hl.1 rfl (Nat.le_of_ble_eq_true rfl) dL_law_919 ⟨Nat.le_refl _, Nat.le_refl _⟩ (fun r2 i2 g2 H locs hq hT hS => ?_)
  obtain ⟨hR2, hf2, hr2⟩ := hq
  have hrel2_ : rel74 i2 := rel74_f hrel1_ hf2 (by decide) (by decide) (by decide) (by decide)
  refine lv_pop hx hb dL_law_922 rfl ?_
  refine lv_goto (tgt := 2196) hx hb dL_law_923 (by decide) ?_
  exact hE _ _ _ _ _ hR2 hrel2_ hT hS (lv_sub hl [0, 1, 2, 3] rfl)

set_option maxRecDepth 100000 in
set_option maxHeartbeats 4000000 in
theorem law_24 {p : Program} {l : Launch} {e : Env} {s : State} {m : MethodId} {below : List Frame} {meth : Method} {c : Code} {D : va_G} {cz : Nat → ClassId} {h : Nat → Nat} {z : EZ} {i : Nat → Nat → Int32} {g : Nat → Nat → Int64} {b L : Nat} {xs : Nat → Int32} {H : Heap} {locs : List Loc} {ls : Array Slot} {Q : State → Prop} {x3 : Int32} (X : Cxt p s m c #[Value.ref b] cL_law 4 "UncutTaleLaw" D cz) (Y : EV h z s s.heap) (hR : Rg rA i) (hX : va_X b L xs s s.heap) (hbl : b < s.heap.size) (hbA : ¬ hA h b) (hT : TH D h cz i g H) (hS : va_S (hA h) s.heap H locs) (hx3 : rg 0 3066 x3) (hL3 : x3.toInt + 6 ≤ (L : Int)) (hl : lv_has ls 4 [(3, .int x3), (2, .ref (h 96)), (1, .ref (h 0)), (0, .ref b)]) (hrel : rel74 i) (hE : ∀ (i : Nat → Nat → Int32) (g : Nat → Nat → Int64) (H : Heap) (locs : List Loc) (ls : Array Slot), Rg rA i → rel74 i → TH D h cz i g H → va_S (hA h) s.heap H locs → lv_has ls 4 [(3, .int x3), (2, .ref (h 96)), (1, .ref (h 0)), (0, .ref b)] → W p l e room_1 s m #[Value.ref b] below meth c H locs 600000 7302250 Q (F0 m 2196 ls [])) : W p l e room_1 s m #[Value.ref b] below meth c H locs 600000 7302250 Q (F0 m 926 ls []) := by
  have hx := X.1
  have hb := X.2.1
  refine lv_aload_n hx hb dL_law_926 rfl (lv_at hl 2 rfl) ?_
  refine e_Vi (As := []) (rest := []) X Y hT hS (m_X8_rush hR) mk_X8_rush gm_921 rfl rfl (by decide) hd_X8_rush ⟨rfl, rfl⟩ ⟨Nat.le_of_ble_eq_true rfl, Nat.le_of_ble_eq_true rfl⟩ hl.1 rfl (Nat.le_of_ble_eq_true rfl) dL_law_927 ⟨Nat.le_refl _, Nat.le_refl _⟩ (fun r1 i1 g1 H locs hq hT hS => ?_)
  obtain ⟨hR1, hf1, hr1⟩ := hq
  have hrel1_ : rel74 i1 := rel74_f hrel hf1 (by decide) (by decide) (by decide) (by decide)
  refine lv_pop hx hb dL_law_930 rfl ?_
  refine lv_aload_n hx hb dL_law_931 rfl (lv_at hl 1 rfl) ?_
  refine e_Vi (As := []) (rest := []) X Y hT hS (m_X9_rush hR1) mk_X9_rush gm_1822 rfl rfl (by decide) hd_X9_rush ⟨rfl, rfl⟩ ⟨Nat.le_of_ble_eq_true rfl, Nat.le_of_ble_eq_true rfl⟩ hl.1 rfl (Nat.le_of_ble_eq_true rfl) dL_law_932 ⟨Nat.le_refl _, Nat.le_refl _⟩ (fun r2 i2 g2 H locs hq hT hS => ?_)
  obtain ⟨hR2, hf2, hr2⟩ := hq
  have hrel2_ : rel74 i2 := rel74_f hrel1_ hf2 (by decide) (by decide) (by decide) (by decide)
  refine lv_pop hx hb dL_law_935 rfl ?_
  refine lv_goto (tgt := 2196) hx hb dL_law_936 (by decide) ?_
  exact hE _ _ _ _ _ hR2 hrel2_ hT hS (lv_sub hl [0, 1, 2, 3] rfl)
