theorem mono_FL : (List.range NC).all (fun j => (List.range (ln j)).all (fun k => decide ((rT rLT j k).1 ≤ (rT rFT j k).1) && decide ((rT rFT j k).2 ≤ (rT rLT j k).2))) = true := by decide +kernel
theorem mono_FM : (List.range NC).all (fun j => (List.range (ln j)).all (fun k => decide ((rT rMT j k).1 ≤ (rT rFT j k).1) && decide ((rT rFT j k).2 ≤ (rT rMT j k).2))) = true := by decide +kernel
theorem mono_FN : (List.range NC).all (fun j => (List.range (ln j)).all (fun k => decide ((rT rNT j k).1 ≤ (rT rFT j k).1) && decide ((rT rFT j k).2 ≤ (rT rNT j k).2))) = true := by decide +kernel
theorem mono_LM : (List.range NC).all (fun j => (List.range (ln j)).all (fun k => decide ((rT rMT j k).1 ≤ (rT rLT j k).1) && decide ((rT rLT j k).2 ≤ (rT rMT j k).2))) = true := by decide +kernel
theorem mono_LN : (List.range NC).all (fun j => (List.range (ln j)).all (fun k => decide ((rT rNT j k).1 ≤ (rT rLT j k).1) && decide ((rT rLT j k).2 ≤ (rT rNT j k).2))) = true := by decide +kernel
set_option maxRecDepth 100000 in
set_option maxHeartbeats 4000000 in
theorem law_0 {p : Program} {l : Launch} {e : Env} {s : State} {m : MethodId} {below : List Frame} {meth : Method} {c : Code} {D : va_G} {cz : Nat → ClassId} {h : Nat → Nat} {i : Nat → Nat → Int32} {g : Nat → Nat → Int64} {b : Nat} {xs : Nat → Int32} {H : Heap} {locs : List Loc} {ls : Array Slot} {Q : State → Prop} (X : Cxt p s m c #[Value.ref b] cL_law 4 "UncutTaleLaw" D cz) (hRF : Rg rF i) (hRL : Rg rL i) (hRM : Rg rM i) (hRN : Rg rN i) (hX : va_X b 6 xs s s.heap) (hbl : b < s.heap.size) (hbA : ¬ hA h b) (hT : TH D h cz i g H) (hS : va_S (hA h) s.heap H locs) (hl : lv_has ls 4 [(3, .int 0), (2, .ref (h 96)), (1, .ref (h 0)), (0, .ref b)]) (hE : ∀ (H : Heap) (locs : List Loc) (ls : Array Slot), va_S (hA h) s.heap H locs → lv_has ls 4 [(3, .int 0), (2, .ref (h 96)), (1, .ref (h 0)), (0, .ref b)] → W p l e room_1 s m #[Value.ref b] below meth c H locs 600000 7302250 Q (F0 m 2197 ls [])) : W p l e room_1 s m #[Value.ref b] below meth c H locs 600000 7302250 Q (F0 m 344 ls []) := by
  have hx := X.1
  have hb := X.2.1
  refine lv_aload_n hx hb dL_law_344 rfl (lv_at hl 2 rfl) ?_
  refine lv_aload_n hx hb dL_law_345 rfl (lv_at hl 3 rfl) ?_
  refine lv_iload_n hx hb dL_law_346 rfl (lv_at hl 0 rfl) ?_
  refine lv_iconst (v := 1) hx hb dL_law_347 (by decide) ?_
  refine q_iadd hx hb dL_law_348 (fun x1 ex1 => ?_)
  obtain rfl : x1 = 1 := by rw [ex1]; decide
  refine va_sld hx hb hX hbl hbA hS (i := 1) (v_in (rg_k (by decide) : rg 1 1 1) (by decide)) dL_law_349 ?_
  refine lv_aload_n hx hb dL_law_350 rfl (lv_at hl 3 rfl) ?_
  refine lv_iload_n hx hb dL_law_351 rfl (lv_at hl 0 rfl) ?_
  refine lv_iconst (v := 2) hx hb dL_law_352 (by decide) ?_
  refine q_iadd hx hb dL_law_353 (fun x2 ex2 => ?_)
  obtain rfl : x2 = 2 := by rw [ex2]; decide
  refine va_sld hx hb hX hbl hbA hS (i := 2) (v_in (rg_k (by decide) : rg 2 2 2) (by decide)) dL_law_354 ?_
  refine lv_aload_n hx hb dL_law_355 rfl (lv_at hl 3 rfl) ?_
  refine lv_iload_n hx hb dL_law_356 rfl (lv_at hl 0 rfl) ?_
  refine lv_iconst (v := 3) hx hb dL_law_357 (by decide) ?_
  refine q_iadd hx hb dL_law_358 (fun x3 ex3 => ?_)
  obtain rfl : x3 = 3 := by rw [ex3]; decide
  refine va_sld hx hb hX hbl hbA hS (i := 3) (v_in (rg_k (by decide) : rg 3 3 3) (by decide)) dL_law_359 ?_
  refine lv_aload_n hx hb dL_law_360 rfl (lv_at hl 3 rfl) ?_
  refine lv_iload_n hx hb dL_law_361 rfl (lv_at hl 0 rfl) ?_
  refine lv_iconst (v := 4) hx hb dL_law_362 (by decide) ?_
  refine q_iadd hx hb dL_law_363 (fun x4 ex4 => ?_)
  obtain rfl : x4 = 4 := by rw [ex4]; decide
  refine va_sld hx hb hX hbl hbA hS (i := 4) (v_in (rg_k (by decide) : rg 4 4 4) (by decide)) dL_law_364 ?_
  refine lv_aload_n hx hb dL_law_365 rfl (lv_at hl 3 rfl) ?_
  refine lv_iload_n hx hb dL_law_366 rfl (lv_at hl 0 rfl) ?_
  refine lv_iconst (v := 5) hx hb dL_law_367 (by decide) ?_
  refine q_iadd hx hb dL_law_368 (fun x5 ex5 => ?_)
  obtain rfl : x5 = 5 := by rw [ex5]; decide
  refine va_sld hx hb hX hbl hbA hS (i := 5) (v_in (rg_k (by decide) : rg 5 5 5) (by decide)) dL_law_369 ?_
  refine r_Vi (As := [.int (xs (Int32.toNatClampNeg 1)), .int (xs (Int32.toNatClampNeg 2)), .int (xs (Int32.toNatClampNeg 3)), .int (xs (Int32.toNatClampNeg 4)), .int (xs (Int32.toNatClampNeg 5))]) (rest := []) X hT hS (k_X8_feed hRL (xs (Int32.toNatClampNeg 1)) (xs (Int32.toNatClampNeg 2)) (xs (Int32.toNatClampNeg 3)) (xs (Int32.toNatClampNeg 4)) (xs (Int32.toNatClampNeg 5)) (Rg_at hRF 1 1 0 0 (by decide) rfl)) mk_X8_feed gm_489 rfl rfl (by decide) hd_X8_feed ⟨rfl, rfl⟩ ⟨Nat.le_of_ble_eq_true rfl, Nat.le_of_ble_eq_true rfl⟩ hl.1 rfl (Nat.le_of_ble_eq_true rfl) dL_law_370 ⟨Nat.le_refl _, Nat.le_refl _⟩ (fun r6 i6 g6 H locs hq hT hS => ?_)
  obtain ⟨hR6, rfl⟩ := hq
  have hRm6 : Rg rM i6 := Rg_mono hR6 mono_LM ln_hi
  have hRn6 : Rg rN i6 := Rg_mono hR6 mono_LN ln_hi
  refine lv_aload_n hx hb dL_law_373 rfl (lv_at hl 1 rfl) ?_
  refine lv_aload_n hx hb dL_law_374 rfl (lv_at hl 3 rfl) ?_
  refine lv_iload_n hx hb dL_law_375 rfl (lv_at hl 0 rfl) ?_
  refine lv_iconst (v := 1) hx hb dL_law_376 (by decide) ?_
  refine q_iadd hx hb dL_law_377 (fun x7 ex7 => ?_)
  obtain rfl : x7 = 1 := by rw [ex7]; decide
  refine va_sld hx hb hX hbl hbA hS (i := 1) (v_in (rg_k (by decide) : rg 1 1 1) (by decide)) dL_law_378 ?_
  refine lv_aload_n hx hb dL_law_379 rfl (lv_at hl 3 rfl) ?_
  refine lv_iload_n hx hb dL_law_380 rfl (lv_at hl 0 rfl) ?_
  refine lv_iconst (v := 2) hx hb dL_law_381 (by decide) ?_
  refine q_iadd hx hb dL_law_382 (fun x8 ex8 => ?_)
  obtain rfl : x8 = 2 := by rw [ex8]; decide
  refine va_sld hx hb hX hbl hbA hS (i := 2) (v_in (rg_k (by decide) : rg 2 2 2) (by decide)) dL_law_383 ?_
  refine lv_aload_n hx hb dL_law_384 rfl (lv_at hl 3 rfl) ?_
  refine lv_iload_n hx hb dL_law_385 rfl (lv_at hl 0 rfl) ?_
  refine lv_iconst (v := 3) hx hb dL_law_386 (by decide) ?_
  refine q_iadd hx hb dL_law_387 (fun x9 ex9 => ?_)
  obtain rfl : x9 = 3 := by rw [ex9]; decide
  refine va_sld hx hb hX hbl hbA hS (i := 3) (v_in (rg_k (by decide) : rg 3 3 3) (by decide)) dL_law_388 ?_
  refine lv_aload_n hx hb dL_law_389 rfl (lv_at hl 3 rfl) ?_
  refine lv_iload_n hx hb dL_law_390 rfl (lv_at hl 0 rfl) ?_
  refine lv_iconst (v := 4) hx hb dL_law_391 (by decide) ?_
  refine q_iadd hx hb dL_law_392 (fun x10 ex10 => ?_)
  obtain rfl : x10 = 4 := by rw [ex10]; decide
  refine va_sld hx hb hX hbl hbA hS (i := 4) (v_in (rg_k (by decide) : rg 4 4 4) (by decide)) dL_law_393 ?_
  refine lv_aload_n hx hb dL_law_394 rfl (lv_at hl 3 rfl) ?_
  refine lv_iload_n hx hb dL_law_395 rfl (lv_at hl 0 rfl) ?_
  refine lv_iconst (v := 5) hx hb dL_law_396 (by decide) ?_
  refine q_iadd hx hb dL_law_397 (fun x11 ex11 => ?_)
  obtain rfl : x11 = 5 := by rw [ex11]; decide
  refine va_sld hx hb hX hbl hbA hS (i := 5) (v_in (rg_k (by decide) : rg 5 5 5) (by decide)) dL_law_398 ?_
  refine r_Vi (As := [.int (xs (Int32.toNatClampNeg 1)), .int (xs (Int32.toNatClampNeg 2)), .int (xs (Int32.toNatClampNeg 3)), .int (xs (Int32.toNatClampNeg 4)), .int (xs (Int32.toNatClampNeg 5))]) (rest := [.int 20]) X hT hS (k_X9_feed hRn6 (xs (Int32.toNatClampNeg 1)) (xs (Int32.toNatClampNeg 2)) (xs (Int32.toNatClampNeg 3)) (xs (Int32.toNatClampNeg 4)) (xs (Int32.toNatClampNeg 5)) (Rg_at hRm6 96 6 0 0 (by decide) rfl)) mk_X9_feed gm_1510 rfl rfl (by decide) hd_X9_feed ⟨rfl, rfl⟩ ⟨Nat.le_of_ble_eq_true rfl, Nat.le_of_ble_eq_true rfl⟩ hl.1 rfl (Nat.le_of_ble_eq_true rfl) dL_law_399 ⟨Nat.le_refl _, Nat.le_refl _⟩ (fun r12 i12 g12 H locs hq hT hS => ?_)
  obtain ⟨hR12, rfl⟩ := hq
  refine lv_icmp_eq (tgt := 2197) hx hb dL_law_402 (by decide) (fun c13 => ?_) (fun c13 => (x_ne (rg_k (by decide) : rg 20 20 20) (rg_k (by decide) : rg 20 20 20) (i_ne c13) (by decide)).elim)
  exact hE _ _ _ hS (lv_sub hl [0, 1, 2, 3] rfl)

set_option maxRecDepth 100000 in
set_option maxHeartbeats 4000000 in
theorem law_1 {p : Program} {l : Launch} {e : Env} {s : State} {m : MethodId} {below : List Frame} {meth : Method} {c : Code} {D : va_G} {cz : Nat → ClassId} {h : Nat → Nat} {i : Nat → Nat → Int32} {g : Nat → Nat → Int64} {b : Nat} {xs : Nat → Int32} {H : Heap} {locs : List Loc} {ls : Array Slot} {Q : State → Prop} (X : Cxt p s m c #[Value.ref b] cL_law 4 "UncutTaleLaw" D cz) (hRF : Rg rF i) (hRL : Rg rL i) (hRM : Rg rM i) (hRN : Rg rN i) (hX : va_X b 6 xs s s.heap) (hbl : b < s.heap.size) (hbA : ¬ hA h b) (hT : TH D h cz i g H) (hS : va_S (hA h) s.heap H locs) (hl : lv_has ls 4 [(3, .int 0), (2, .ref (h 96)), (1, .ref (h 0)), (0, .ref b)]) (hE : ∀ (H : Heap) (locs : List Loc) (ls : Array Slot), va_S (hA h) s.heap H locs → lv_has ls 4 [(3, .int 0), (2, .ref (h 96)), (1, .ref (h 0)), (0, .ref b)] → W p l e room_1 s m #[Value.ref b] below meth c H locs 600000 7302250 Q (F0 m 2197 ls [])) : W p l e room_1 s m #[Value.ref b] below meth c H locs 600000 7302250 Q (F0 m 407 ls []) := by
  have hx := X.1
  have hb := X.2.1
  refine lv_aload_n hx hb dL_law_407 rfl (lv_at hl 2 rfl) ?_
  refine lv_aload_n hx hb dL_law_408 rfl (lv_at hl 3 rfl) ?_
  refine lv_iload_n hx hb dL_law_409 rfl (lv_at hl 0 rfl) ?_
  refine lv_iconst (v := 1) hx hb dL_law_410 (by decide) ?_
  refine q_iadd hx hb dL_law_411 (fun x1 ex1 => ?_)
  obtain rfl : x1 = 1 := by rw [ex1]; decide
  refine va_sld hx hb hX hbl hbA hS (i := 1) (v_in (rg_k (by decide) : rg 1 1 1) (by decide)) dL_law_412 ?_
  refine r_Vi (As := [.int (xs (Int32.toNatClampNeg 1))]) (rest := []) X hT hS (k_X8_end hRF (xs (Int32.toNatClampNeg 1))) mk_X8_end gm_501 rfl rfl (by decide) hd_X8_end ⟨rfl, rfl⟩ ⟨Nat.le_of_ble_eq_true rfl, Nat.le_of_ble_eq_true rfl⟩ hl.1 rfl (Nat.le_of_ble_eq_true rfl) dL_law_413 ⟨Nat.le_refl _, Nat.le_refl _⟩ (fun r2 i2 g2 H locs hq hT hS => ?_)
  rcases hq with hq | hq
  ·
    obtain ⟨hR2, rfl, hf2_0⟩ := hq
    have hRm2 : Rg rM i2 := Rg_mono hR2 mono_FM ln_hi
    have hRn2 : Rg rN i2 := Rg_mono hR2 mono_FN ln_hi
    refine lv_aload_n hx hb dL_law_416 rfl (lv_at hl 1 rfl) ?_
    refine lv_aload_n hx hb dL_law_417 rfl (lv_at hl 3 rfl) ?_
    refine lv_iload_n hx hb dL_law_418 rfl (lv_at hl 0 rfl) ?_
    refine lv_iconst (v := 1) hx hb dL_law_419 (by decide) ?_
    refine q_iadd hx hb dL_law_420 (fun x3 ex3 => ?_)
    obtain rfl : x3 = 1 := by rw [ex3]; decide
    refine va_sld hx hb hX hbl hbA hS (i := 1) (v_in (rg_k (by decide) : rg 1 1 1) (by decide)) dL_law_421 ?_
    refine r_Vi (As := [.int (xs (Int32.toNatClampNeg 1))]) (rest := [.int 0]) X hT hS (k_X9_end hRm2 (xs (Int32.toNatClampNeg 1))) mk_X9_end gm_1518 rfl rfl (by decide) hd_X9_end ⟨rfl, rfl⟩ ⟨Nat.le_of_ble_eq_true rfl, Nat.le_of_ble_eq_true rfl⟩ hl.1 rfl (Nat.le_of_ble_eq_true rfl) dL_law_422 ⟨Nat.le_refl _, Nat.le_refl _⟩ (fun r4 i4 g4 H locs hq hT hS => ?_)
    rcases hq with hq | hq
    ·
      obtain ⟨hR4, rfl, hf4_0⟩ := hq
      refine lv_icmp_eq (tgt := 2197) hx hb dL_law_425 (by decide) (fun c5 => ?_) (fun c5 => (x_ne (rg_k (by decide) : rg 0 0 0) (rg_k (by decide) : rg 0 0 0) (i_ne c5) (by decide)).elim)
      exact hE _ _ _ hS (lv_sub hl [0, 1, 2, 3] rfl)
    ·
      obtain ⟨hR4, rfl, hf4_0⟩ := hq
      refine lv_icmp_eq (tgt := 2197) hx hb dL_law_425 (by decide) (fun c6 => (x_eq (rg_k (by decide) : rg 0 0 0) (rg_k (by decide) : rg (-1) (-1) (-1)) (i_eq c6) (by decide)).elim) (fun c6 => ?_)
      refine lv_iconst (v := 0) hx hb dL_law_428 (by decide) ?_
      exact (by have := hf2_0; have := hf4_0; omega : False).elim
  ·
    obtain ⟨hR2, rfl, hf2_0⟩ := hq
    have hRm2 : Rg rM i2 := Rg_mono hR2 mono_FM ln_hi
    have hRn2 : Rg rN i2 := Rg_mono hR2 mono_FN ln_hi
    refine lv_aload_n hx hb dL_law_416 rfl (lv_at hl 1 rfl) ?_
    refine lv_aload_n hx hb dL_law_417 rfl (lv_at hl 3 rfl) ?_
    refine lv_iload_n hx hb dL_law_418 rfl (lv_at hl 0 rfl) ?_
    refine lv_iconst (v := 1) hx hb dL_law_419 (by decide) ?_
    refine q_iadd hx hb dL_law_420 (fun x7 ex7 => ?_)
    obtain rfl : x7 = 1 := by rw [ex7]; decide
    refine va_sld hx hb hX hbl hbA hS (i := 1) (v_in (rg_k (by decide) : rg 1 1 1) (by decide)) dL_law_421 ?_
    refine r_Vi (As := [.int (xs (Int32.toNatClampNeg 1))]) (rest := [.int (-1)]) X hT hS (k_X9_end hRm2 (xs (Int32.toNatClampNeg 1))) mk_X9_end gm_1518 rfl rfl (by decide) hd_X9_end ⟨rfl, rfl⟩ ⟨Nat.le_of_ble_eq_true rfl, Nat.le_of_ble_eq_true rfl⟩ hl.1 rfl (Nat.le_of_ble_eq_true rfl) dL_law_422 ⟨Nat.le_refl _, Nat.le_refl _⟩ (fun r8 i8 g8 H locs hq hT hS => ?_)
    rcases hq with hq | hq
    ·
      obtain ⟨hR8, rfl, hf8_0⟩ := hq
      refine lv_icmp_eq (tgt := 2197) hx hb dL_law_425 (by decide) (fun c9 => (x_eq (rg_k (by decide) : rg (-1) (-1) (-1)) (rg_k (by decide) : rg 0 0 0) (i_eq c9) (by decide)).elim) (fun c9 => ?_)
      refine lv_iconst (v := 0) hx hb dL_law_428 (by decide) ?_
      exact (by have := hf2_0; have := hf8_0; omega : False).elim
    ·
      obtain ⟨hR8, rfl, hf8_0⟩ := hq
      refine lv_icmp_eq (tgt := 2197) hx hb dL_law_425 (by decide) (fun c10 => ?_) (fun c10 => (x_ne (rg_k (by decide) : rg (-1) (-1) (-1)) (rg_k (by decide) : rg (-1) (-1) (-1)) (i_ne c10) (by decide)).elim)
      exact hE _ _ _ hS (lv_sub hl [0, 1, 2, 3] rfl)

set_option maxRecDepth 100000 in
set_option maxHeartbeats 4000000 in
theorem law_2 {p : Program} {l : Launch} {e : Env} {s : State} {m : MethodId} {below : List Frame} {meth : Method} {c : Code} {D : va_G} {cz : Nat → ClassId} {h : Nat → Nat} {i : Nat → Nat → Int32} {g : Nat → Nat → Int64} {b : Nat} {xs : Nat → Int32} {H : Heap} {locs : List Loc} {ls : Array Slot} {Q : State → Prop} (X : Cxt p s m c #[Value.ref b] cL_law 4 "UncutTaleLaw" D cz) (hRF : Rg rF i) (hRL : Rg rL i) (hRM : Rg rM i) (hRN : Rg rN i) (hX : va_X b 6 xs s s.heap) (hbl : b < s.heap.size) (hbA : ¬ hA h b) (hT : TH D h cz i g H) (hS : va_S (hA h) s.heap H locs) (hl : lv_has ls 4 [(3, .int 0), (2, .ref (h 96)), (1, .ref (h 0)), (0, .ref b)]) (hE : ∀ (H : Heap) (locs : List Loc) (ls : Array Slot), va_S (hA h) s.heap H locs → lv_has ls 4 [(3, .int 0), (2, .ref (h 96)), (1, .ref (h 0)), (0, .ref b)] → W p l e room_1 s m #[Value.ref b] below meth c H locs 600000 7302250 Q (F0 m 2197 ls [])) : W p l e room_1 s m #[Value.ref b] below meth c H locs 600000 7302250 Q (F0 m 430 ls []) := by
  have hx := X.1
  have hb := X.2.1
  refine lv_aload_n hx hb dL_law_430 rfl (lv_at hl 2 rfl) ?_
  refine r_Vi (As := []) (rest := []) X hT hS (k_X8_tale hRF) mk_X8_tale gm_505 rfl rfl (by decide) hd_X8_tale ⟨rfl, rfl⟩ ⟨Nat.le_of_ble_eq_true rfl, Nat.le_of_ble_eq_true rfl⟩ hl.1 rfl (Nat.le_of_ble_eq_true rfl) dL_law_431 ⟨Nat.le_refl _, Nat.le_refl _⟩ (fun r1 i1 g1 H locs hq hT hS => ?_)
  obtain ⟨hR1, rfl⟩ := hq
  have hRm1 : Rg rM i1 := Rg_mono hR1 mono_FM ln_hi
  have hRn1 : Rg rN i1 := Rg_mono hR1 mono_FN ln_hi
  refine lv_aload_n hx hb dL_law_434 rfl (lv_at hl 1 rfl) ?_
  refine r_Vi (As := []) (rest := [.int 0]) X hT hS (k_X9_tale hRm1) mk_X9_tale gm_1526 rfl rfl (by decide) hd_X9_tale ⟨rfl, rfl⟩ ⟨Nat.le_of_ble_eq_true rfl, Nat.le_of_ble_eq_true rfl⟩ hl.1 rfl (Nat.le_of_ble_eq_true rfl) dL_law_435 ⟨Nat.le_refl _, Nat.le_refl _⟩ (fun r2 i2 g2 H locs hq hT hS => ?_)
  obtain ⟨hR2, rfl⟩ := hq
  refine lv_icmp_eq (tgt := 2197) hx hb dL_law_438 (by decide) (fun c3 => ?_) (fun c3 => (x_ne (rg_k (by decide) : rg 0 0 0) (rg_k (by decide) : rg 0 0 0) (i_ne c3) (by decide)).elim)
  exact hE _ _ _ hS (lv_sub hl [0, 1, 2, 3] rfl)

set_option maxRecDepth 100000 in
set_option maxHeartbeats 4000000 in
theorem law_3 {p : Program} {l : Launch} {e : Env} {s : State} {m : MethodId} {below : List Frame} {meth : Method} {c : Code} {D : va_G} {cz : Nat → ClassId} {h : Nat → Nat} {i : Nat → Nat → Int32} {g : Nat → Nat → Int64} {b : Nat} {xs : Nat → Int32} {H : Heap} {locs : List Loc} {ls : Array Slot} {Q : State → Prop} (X : Cxt p s m c #[Value.ref b] cL_law 4 "UncutTaleLaw" D cz) (hRF : Rg rF i) (hRL : Rg rL i) (hRM : Rg rM i) (hRN : Rg rN i) (hX : va_X b 6 xs s s.heap) (hbl : b < s.heap.size) (hbA : ¬ hA h b) (hT : TH D h cz i g H) (hS : va_S (hA h) s.heap H locs) (hl : lv_has ls 4 [(3, .int 0), (2, .ref (h 96)), (1, .ref (h 0)), (0, .ref b)]) (hE : ∀ (H : Heap) (locs : List Loc) (ls : Array Slot), va_S (hA h) s.heap H locs → lv_has ls 4 [(3, .int 0), (2, .ref (h 96)), (1, .ref (h 0)), (0, .ref b)] → W p l e room_1 s m #[Value.ref b] below meth c H locs 600000 7302250 Q (F0 m 2197 ls [])) : W p l e room_1 s m #[Value.ref b] below meth c H locs 600000 7302250 Q (F0 m 443 ls []) := by
  have hx := X.1
  have hb := X.2.1
  refine lv_aload_n hx hb dL_law_443 rfl (lv_at hl 2 rfl) ?_
  refine lv_aload_n hx hb dL_law_444 rfl (lv_at hl 3 rfl) ?_
  refine lv_iload_n hx hb dL_law_445 rfl (lv_at hl 0 rfl) ?_
  refine lv_iconst (v := 1) hx hb dL_law_446 (by decide) ?_
  refine q_iadd hx hb dL_law_447 (fun x1 ex1 => ?_)
  obtain rfl : x1 = 1 := by rw [ex1]; decide
  refine va_sld hx hb hX hbl hbA hS (i := 1) (v_in (rg_k (by decide) : rg 1 1 1) (by decide)) dL_law_448 ?_
  refine r_Vi (As := [.int (xs (Int32.toNatClampNeg 1))]) (rest := []) X hT hS (k_X8_fault hRF (xs (Int32.toNatClampNeg 1))) mk_X8_fault gm_661 rfl rfl (by decide) hd_X8_fault ⟨rfl, rfl⟩ ⟨Nat.le_of_ble_eq_true rfl, Nat.le_of_ble_eq_true rfl⟩ hl.1 rfl (Nat.le_of_ble_eq_true rfl) dL_law_449 ⟨Nat.le_refl _, Nat.le_refl _⟩ (fun r2 i2 g2 H locs hq hT hS => ?_)
  rcases hq with hq | hq
  ·
    obtain ⟨eh2, rfl, hf2_0⟩ := hq
    rw [(Prod.mk.inj eh2).1, (Prod.mk.inj eh2).2] at hT
    refine lv_aload_n hx hb dL_law_452 rfl (lv_at hl 1 rfl) ?_
    refine lv_aload_n hx hb dL_law_453 rfl (lv_at hl 3 rfl) ?_
    refine lv_iload_n hx hb dL_law_454 rfl (lv_at hl 0 rfl) ?_
    refine lv_iconst (v := 1) hx hb dL_law_455 (by decide) ?_
    refine q_iadd hx hb dL_law_456 (fun x3 ex3 => ?_)
    obtain rfl : x3 = 1 := by rw [ex3]; decide
    refine va_sld hx hb hX hbl hbA hS (i := 1) (v_in (rg_k (by decide) : rg 1 1 1) (by decide)) dL_law_457 ?_
    refine r_Vi (As := [.int (xs (Int32.toNatClampNeg 1))]) (rest := [.int 0]) X hT hS (k_X9_fault hRM (xs (Int32.toNatClampNeg 1))) mk_X9_fault gm_1522 rfl rfl (by decide) hd_X9_fault ⟨rfl, rfl⟩ ⟨Nat.le_of_ble_eq_true rfl, Nat.le_of_ble_eq_true rfl⟩ hl.1 rfl (Nat.le_of_ble_eq_true rfl) dL_law_458 ⟨Nat.le_refl _, Nat.le_refl _⟩ (fun r4 i4 g4 H locs hq hT hS => ?_)
    rcases hq with hq | hq
    ·
      obtain ⟨hR4, rfl, hf4_0⟩ := hq
      refine lv_icmp_eq (tgt := 2197) hx hb dL_law_461 (by decide) (fun c5 => ?_) (fun c5 => (x_ne (rg_k (by decide) : rg 0 0 0) (rg_k (by decide) : rg 0 0 0) (i_ne c5) (by decide)).elim)
      exact hE _ _ _ hS (lv_sub hl [0, 1, 2, 3] rfl)
    ·
      obtain ⟨hR4, rfl, hf4_0⟩ := hq
      refine lv_icmp_eq (tgt := 2197) hx hb dL_law_461 (by decide) (fun c6 => (x_eq (rg_k (by decide) : rg 0 0 0) (rg_k (by decide) : rg (-1) (-1) (-1)) (i_eq c6) (by decide)).elim) (fun c6 => ?_)
      refine lv_iconst (v := 0) hx hb dL_law_464 (by decide) ?_
      exact (by have := hf2_0; have := hf4_0; omega : False).elim
  ·
    obtain ⟨eh2, rfl, hf2_0⟩ := hq
    rw [(Prod.mk.inj eh2).1, (Prod.mk.inj eh2).2] at hT
    refine lv_aload_n hx hb dL_law_452 rfl (lv_at hl 1 rfl) ?_
    refine lv_aload_n hx hb dL_law_453 rfl (lv_at hl 3 rfl) ?_
    refine lv_iload_n hx hb dL_law_454 rfl (lv_at hl 0 rfl) ?_
    refine lv_iconst (v := 1) hx hb dL_law_455 (by decide) ?_
    refine q_iadd hx hb dL_law_456 (fun x7 ex7 => ?_)
    obtain rfl : x7 = 1 := by rw [ex7]; decide
    refine va_sld hx hb hX hbl hbA hS (i := 1) (v_in (rg_k (by decide) : rg 1 1 1) (by decide)) dL_law_457 ?_
    refine r_Vi (As := [.int (xs (Int32.toNatClampNeg 1))]) (rest := [.int (-1)]) X hT hS (k_X9_fault hRM (xs (Int32.toNatClampNeg 1))) mk_X9_fault gm_1522 rfl rfl (by decide) hd_X9_fault ⟨rfl, rfl⟩ ⟨Nat.le_of_ble_eq_true rfl, Nat.le_of_ble_eq_true rfl⟩ hl.1 rfl (Nat.le_of_ble_eq_true rfl) dL_law_458 ⟨Nat.le_refl _, Nat.le_refl _⟩ (fun r8 i8 g8 H locs hq hT hS => ?_)
    rcases hq with hq | hq
    ·
      obtain ⟨hR8, rfl, hf8_0⟩ := hq
      refine lv_icmp_eq (tgt := 2197) hx hb dL_law_461 (by decide) (fun c9 => (x_eq (rg_k (by decide) : rg (-1) (-1) (-1)) (rg_k (by decide) : rg 0 0 0) (i_eq c9) (by decide)).elim) (fun c9 => ?_)
      refine lv_iconst (v := 0) hx hb dL_law_464 (by decide) ?_
      exact (by have := hf2_0; have := hf8_0; omega : False).elim
    ·
      obtain ⟨hR8, rfl, hf8_0⟩ := hq
      refine lv_icmp_eq (tgt := 2197) hx hb dL_law_461 (by decide) (fun c10 => ?_) (fun c10 => (x_ne (rg_k (by decide) : rg (-1) (-1) (-1)) (rg_k (by decide) : rg (-1) (-1) (-1)) (i_ne c10) (by decide)).elim)
      exact hE _ _ _ hS (lv_sub hl [0, 1, 2, 3] rfl)

set_option maxRecDepth 100000 in
set_option maxHeartbeats 4000000 in
theorem law_4 {p : Program} {l : Launch} {e : Env} {s : State} {m : MethodId} {below : List Frame} {meth : Method} {c : Code} {D : va_G} {cz : Nat → ClassId} {h : Nat → Nat} {i : Nat → Nat → Int32} {g : Nat → Nat → Int64} {b : Nat} {xs : Nat → Int32} {H : Heap} {locs : List Loc} {ls : Array Slot} {Q : State → Prop} (X : Cxt p s m c #[Value.ref b] cL_law 4 "UncutTaleLaw" D cz) (hRF : Rg rF i) (hRL : Rg rL i) (hRM : Rg rM i) (hRN : Rg rN i) (hX : va_X b 6 xs s s.heap) (hbl : b < s.heap.size) (hbA : ¬ hA h b) (hT : TH D h cz i g H) (hS : va_S (hA h) s.heap H locs) (hl : lv_has ls 4 [(3, .int 0), (2, .ref (h 96)), (1, .ref (h 0)), (0, .ref b)]) (hE : ∀ (H : Heap) (locs : List Loc) (ls : Array Slot), va_S (hA h) s.heap H locs → lv_has ls 4 [(3, .int 0), (2, .ref (h 96)), (1, .ref (h 0)), (0, .ref b)] → W p l e room_1 s m #[Value.ref b] below meth c H locs 600000 7302250 Q (F0 m 2197 ls [])) : W p l e room_1 s m #[Value.ref b] below meth c H locs 600000 7302250 Q (F0 m 466 ls []) := by
  have hx := X.1
  have hb := X.2.1
  refine lv_aload_n hx hb dL_law_466 rfl (lv_at hl 2 rfl) ?_
  refine lv_aload_n hx hb dL_law_467 rfl (lv_at hl 3 rfl) ?_
  refine lv_iload_n hx hb dL_law_468 rfl (lv_at hl 0 rfl) ?_
  refine lv_iconst (v := 1) hx hb dL_law_469 (by decide) ?_
  refine q_iadd hx hb dL_law_470 (fun x1 ex1 => ?_)
  obtain rfl : x1 = 1 := by rw [ex1]; decide
  refine va_sld hx hb hX hbl hbA hS (i := 1) (v_in (rg_k (by decide) : rg 1 1 1) (by decide)) dL_law_471 ?_
  refine lv_aload_n hx hb dL_law_472 rfl (lv_at hl 3 rfl) ?_
  refine lv_iload_n hx hb dL_law_473 rfl (lv_at hl 0 rfl) ?_
  refine lv_iconst (v := 2) hx hb dL_law_474 (by decide) ?_
  refine q_iadd hx hb dL_law_475 (fun x2 ex2 => ?_)
  obtain rfl : x2 = 2 := by rw [ex2]; decide
  refine va_sld hx hb hX hbl hbA hS (i := 2) (v_in (rg_k (by decide) : rg 2 2 2) (by decide)) dL_law_476 ?_
  refine r_Vi (As := [.int (xs (Int32.toNatClampNeg 1)), .int (xs (Int32.toNatClampNeg 2))]) (rest := []) X hT hS (k_X8_part hRF (xs (Int32.toNatClampNeg 1)) (xs (Int32.toNatClampNeg 2))) mk_X8_part gm_665 rfl rfl (by decide) hd_X8_part ⟨rfl, rfl⟩ ⟨Nat.le_of_ble_eq_true rfl, Nat.le_of_ble_eq_true rfl⟩ hl.1 rfl (Nat.le_of_ble_eq_true rfl) dL_law_477 ⟨Nat.le_refl _, Nat.le_refl _⟩ (fun r3 i3 g3 H locs hq hT hS => ?_)
  obtain ⟨eh3, rfl⟩ := hq
  rw [(Prod.mk.inj eh3).1, (Prod.mk.inj eh3).2] at hT
  refine lv_aload_n hx hb dL_law_480 rfl (lv_at hl 1 rfl) ?_
  refine lv_aload_n hx hb dL_law_481 rfl (lv_at hl 3 rfl) ?_
  refine lv_iload_n hx hb dL_law_482 rfl (lv_at hl 0 rfl) ?_
  refine lv_iconst (v := 1) hx hb dL_law_483 (by decide) ?_
  refine q_iadd hx hb dL_law_484 (fun x4 ex4 => ?_)
  obtain rfl : x4 = 1 := by rw [ex4]; decide
  refine va_sld hx hb hX hbl hbA hS (i := 1) (v_in (rg_k (by decide) : rg 1 1 1) (by decide)) dL_law_485 ?_
  refine lv_aload_n hx hb dL_law_486 rfl (lv_at hl 3 rfl) ?_
  refine lv_iload_n hx hb dL_law_487 rfl (lv_at hl 0 rfl) ?_
  refine lv_iconst (v := 2) hx hb dL_law_488 (by decide) ?_
  refine q_iadd hx hb dL_law_489 (fun x5 ex5 => ?_)
  obtain rfl : x5 = 2 := by rw [ex5]; decide
  refine va_sld hx hb hX hbl hbA hS (i := 2) (v_in (rg_k (by decide) : rg 2 2 2) (by decide)) dL_law_490 ?_
  refine r_Vi (As := [.int (xs (Int32.toNatClampNeg 1)), .int (xs (Int32.toNatClampNeg 2))]) (rest := [.int (-2)]) X hT hS (k_X9_part hRM (xs (Int32.toNatClampNeg 1)) (xs (Int32.toNatClampNeg 2))) mk_X9_part gm_1641 rfl rfl (by decide) hd_X9_part ⟨rfl, rfl⟩ ⟨Nat.le_of_ble_eq_true rfl, Nat.le_of_ble_eq_true rfl⟩ hl.1 rfl (Nat.le_of_ble_eq_true rfl) dL_law_491 ⟨Nat.le_refl _, Nat.le_refl _⟩ (fun r6 i6 g6 H locs hq hT hS => ?_)
  obtain ⟨hR6, rfl⟩ := hq
  refine lv_icmp_eq (tgt := 2197) hx hb dL_law_494 (by decide) (fun c7 => ?_) (fun c7 => (x_ne (rg_k (by decide) : rg (-2) (-2) (-2)) (rg_k (by decide) : rg (-2) (-2) (-2)) (i_ne c7) (by decide)).elim)
  exact hE _ _ _ hS (lv_sub hl [0, 1, 2, 3] rfl)

set_option maxRecDepth 100000 in
set_option maxHeartbeats 4000000 in
theorem law_5 {p : Program} {l : Launch} {e : Env} {s : State} {m : MethodId} {below : List Frame} {meth : Method} {c : Code} {D : va_G} {cz : Nat → ClassId} {h : Nat → Nat} {i : Nat → Nat → Int32} {g : Nat → Nat → Int64} {b : Nat} {xs : Nat → Int32} {H : Heap} {locs : List Loc} {ls : Array Slot} {Q : State → Prop} (X : Cxt p s m c #[Value.ref b] cL_law 4 "UncutTaleLaw" D cz) (hRF : Rg rF i) (hRL : Rg rL i) (hRM : Rg rM i) (hRN : Rg rN i) (hX : va_X b 6 xs s s.heap) (hbl : b < s.heap.size) (hbA : ¬ hA h b) (hT : TH D h cz i g H) (hS : va_S (hA h) s.heap H locs) (hl : lv_has ls 4 [(3, .int 0), (2, .ref (h 96)), (1, .ref (h 0)), (0, .ref b)]) (hE : ∀ (H : Heap) (locs : List Loc) (ls : Array Slot), va_S (hA h) s.heap H locs → lv_has ls 4 [(3, .int 0), (2, .ref (h 96)), (1, .ref (h 0)), (0, .ref b)] → W p l e room_1 s m #[Value.ref b] below meth c H locs 600000 7302250 Q (F0 m 2197 ls [])) : W p l e room_1 s m #[Value.ref b] below meth c H locs 600000 7302250 Q (F0 m 499 ls []) := by
  have hx := X.1
  have hb := X.2.1
  refine lv_aload_n hx hb dL_law_499 rfl (lv_at hl 2 rfl) ?_
  refine lv_aload_n hx hb dL_law_500 rfl (lv_at hl 3 rfl) ?_
  refine lv_iload_n hx hb dL_law_501 rfl (lv_at hl 0 rfl) ?_
  refine lv_iconst (v := 1) hx hb dL_law_502 (by decide) ?_
  refine q_iadd hx hb dL_law_503 (fun x1 ex1 => ?_)
  obtain rfl : x1 = 1 := by rw [ex1]; decide
  refine va_sld hx hb hX hbl hbA hS (i := 1) (v_in (rg_k (by decide) : rg 1 1 1) (by decide)) dL_law_504 ?_
  refine r_Vi (As := [.int (xs (Int32.toNatClampNeg 1))]) (rest := []) X hT hS (k_X8_near hRF (xs (Int32.toNatClampNeg 1))) mk_X8_near gm_673 rfl rfl (by decide) hd_X8_near ⟨rfl, rfl⟩ ⟨Nat.le_of_ble_eq_true rfl, Nat.le_of_ble_eq_true rfl⟩ hl.1 rfl (Nat.le_of_ble_eq_true rfl) dL_law_505 ⟨Nat.le_refl _, Nat.le_refl _⟩ (fun r2 i2 g2 H locs hq hT hS => ?_)
  obtain ⟨eh2, rfl⟩ := hq
  rw [(Prod.mk.inj eh2).1, (Prod.mk.inj eh2).2] at hT
  refine lv_aload_n hx hb dL_law_508 rfl (lv_at hl 1 rfl) ?_
  refine lv_aload_n hx hb dL_law_509 rfl (lv_at hl 3 rfl) ?_
  refine lv_iload_n hx hb dL_law_510 rfl (lv_at hl 0 rfl) ?_
  refine lv_iconst (v := 1) hx hb dL_law_511 (by decide) ?_
  refine q_iadd hx hb dL_law_512 (fun x3 ex3 => ?_)
  obtain rfl : x3 = 1 := by rw [ex3]; decide
  refine va_sld hx hb hX hbl hbA hS (i := 1) (v_in (rg_k (by decide) : rg 1 1 1) (by decide)) dL_law_513 ?_
  refine r_Vi (As := [.int (xs (Int32.toNatClampNeg 1))]) (rest := [.int (-2)]) X hT hS (k_X9_near hRM (xs (Int32.toNatClampNeg 1))) mk_X9_near gm_1654 rfl rfl (by decide) hd_X9_near ⟨rfl, rfl⟩ ⟨Nat.le_of_ble_eq_true rfl, Nat.le_of_ble_eq_true rfl⟩ hl.1 rfl (Nat.le_of_ble_eq_true rfl) dL_law_514 ⟨Nat.le_refl _, Nat.le_refl _⟩ (fun r4 i4 g4 H locs hq hT hS => ?_)
  obtain ⟨hR4, rfl⟩ := hq
  refine lv_icmp_eq (tgt := 2197) hx hb dL_law_517 (by decide) (fun c5 => ?_) (fun c5 => (x_ne (rg_k (by decide) : rg (-2) (-2) (-2)) (rg_k (by decide) : rg (-2) (-2) (-2)) (i_ne c5) (by decide)).elim)
  exact hE _ _ _ hS (lv_sub hl [0, 1, 2, 3] rfl)

set_option maxRecDepth 100000 in
set_option maxHeartbeats 4000000 in
theorem law_6 {p : Program} {l : Launch} {e : Env} {s : State} {m : MethodId} {below : List Frame} {meth : Method} {c : Code} {D : va_G} {cz : Nat → ClassId} {h : Nat → Nat} {i : Nat → Nat → Int32} {g : Nat → Nat → Int64} {b : Nat} {xs : Nat → Int32} {H : Heap} {locs : List Loc} {ls : Array Slot} {Q : State → Prop} (X : Cxt p s m c #[Value.ref b] cL_law 4 "UncutTaleLaw" D cz) (hRF : Rg rF i) (hRL : Rg rL i) (hRM : Rg rM i) (hRN : Rg rN i) (hX : va_X b 6 xs s s.heap) (hbl : b < s.heap.size) (hbA : ¬ hA h b) (hT : TH D h cz i g H) (hS : va_S (hA h) s.heap H locs) (hl : lv_has ls 4 [(3, .int 0), (2, .ref (h 96)), (1, .ref (h 0)), (0, .ref b)]) (hE : ∀ (H : Heap) (locs : List Loc) (ls : Array Slot), va_S (hA h) s.heap H locs → lv_has ls 4 [(3, .int 0), (2, .ref (h 96)), (1, .ref (h 0)), (0, .ref b)] → W p l e room_1 s m #[Value.ref b] below meth c H locs 600000 7302250 Q (F0 m 2197 ls [])) : W p l e room_1 s m #[Value.ref b] below meth c H locs 600000 7302250 Q (F0 m 522 ls []) := by
  have hx := X.1
  have hb := X.2.1
  refine lv_aload_n hx hb dL_law_522 rfl (lv_at hl 2 rfl) ?_
  refine lv_aload_n hx hb dL_law_523 rfl (lv_at hl 3 rfl) ?_
  refine lv_iload_n hx hb dL_law_524 rfl (lv_at hl 0 rfl) ?_
  refine lv_iconst (v := 1) hx hb dL_law_525 (by decide) ?_
  refine q_iadd hx hb dL_law_526 (fun x1 ex1 => ?_)
  obtain rfl : x1 = 1 := by rw [ex1]; decide
  refine va_sld hx hb hX hbl hbA hS (i := 1) (v_in (rg_k (by decide) : rg 1 1 1) (by decide)) dL_law_527 ?_
  refine lv_aload_n hx hb dL_law_528 rfl (lv_at hl 3 rfl) ?_
  refine lv_iload_n hx hb dL_law_529 rfl (lv_at hl 0 rfl) ?_
  refine lv_iconst (v := 2) hx hb dL_law_530 (by decide) ?_
  refine q_iadd hx hb dL_law_531 (fun x2 ex2 => ?_)
  obtain rfl : x2 = 2 := by rw [ex2]; decide
  refine va_sld hx hb hX hbl hbA hS (i := 2) (v_in (rg_k (by decide) : rg 2 2 2) (by decide)) dL_law_532 ?_
  refine r_Vi (As := [.int (xs (Int32.toNatClampNeg 1)), .int (xs (Int32.toNatClampNeg 2))]) (rest := []) X hT hS (k_X8_far hRF (xs (Int32.toNatClampNeg 1)) (xs (Int32.toNatClampNeg 2))) mk_X8_far gm_681 rfl rfl (by decide) hd_X8_far ⟨rfl, rfl⟩ ⟨Nat.le_of_ble_eq_true rfl, Nat.le_of_ble_eq_true rfl⟩ hl.1 rfl (Nat.le_of_ble_eq_true rfl) dL_law_533 ⟨Nat.le_refl _, Nat.le_refl _⟩ (fun r3 i3 g3 H locs hq hT hS => ?_)
  obtain ⟨eh3, rfl⟩ := hq
  rw [(Prod.mk.inj eh3).1, (Prod.mk.inj eh3).2] at hT
  refine lv_aload_n hx hb dL_law_536 rfl (lv_at hl 1 rfl) ?_
  refine lv_aload_n hx hb dL_law_537 rfl (lv_at hl 3 rfl) ?_
  refine lv_iload_n hx hb dL_law_538 rfl (lv_at hl 0 rfl) ?_
  refine lv_iconst (v := 1) hx hb dL_law_539 (by decide) ?_
  refine q_iadd hx hb dL_law_540 (fun x4 ex4 => ?_)
  obtain rfl : x4 = 1 := by rw [ex4]; decide
  refine va_sld hx hb hX hbl hbA hS (i := 1) (v_in (rg_k (by decide) : rg 1 1 1) (by decide)) dL_law_541 ?_
  refine lv_aload_n hx hb dL_law_542 rfl (lv_at hl 3 rfl) ?_
  refine lv_iload_n hx hb dL_law_543 rfl (lv_at hl 0 rfl) ?_
  refine lv_iconst (v := 2) hx hb dL_law_544 (by decide) ?_
  refine q_iadd hx hb dL_law_545 (fun x5 ex5 => ?_)
  obtain rfl : x5 = 2 := by rw [ex5]; decide
  refine va_sld hx hb hX hbl hbA hS (i := 2) (v_in (rg_k (by decide) : rg 2 2 2) (by decide)) dL_law_546 ?_
  refine r_Vi (As := [.int (xs (Int32.toNatClampNeg 1)), .int (xs (Int32.toNatClampNeg 2))]) (rest := [.int (-2)]) X hT hS (k_X9_far hRM (xs (Int32.toNatClampNeg 1)) (xs (Int32.toNatClampNeg 2))) mk_X9_far gm_1666 rfl rfl (by decide) hd_X9_far ⟨rfl, rfl⟩ ⟨Nat.le_of_ble_eq_true rfl, Nat.le_of_ble_eq_true rfl⟩ hl.1 rfl (Nat.le_of_ble_eq_true rfl) dL_law_547 ⟨Nat.le_refl _, Nat.le_refl _⟩ (fun r6 i6 g6 H locs hq hT hS => ?_)
  obtain ⟨hR6, rfl⟩ := hq
  refine lv_icmp_eq (tgt := 2197) hx hb dL_law_550 (by decide) (fun c7 => ?_) (fun c7 => (x_ne (rg_k (by decide) : rg (-2) (-2) (-2)) (rg_k (by decide) : rg (-2) (-2) (-2)) (i_ne c7) (by decide)).elim)
  exact hE _ _ _ hS (lv_sub hl [0, 1, 2, 3] rfl)

set_option maxRecDepth 100000 in
set_option maxHeartbeats 4000000 in
theorem law_7 {p : Program} {l : Launch} {e : Env} {s : State} {m : MethodId} {below : List Frame} {meth : Method} {c : Code} {D : va_G} {cz : Nat → ClassId} {h : Nat → Nat} {i : Nat → Nat → Int32} {g : Nat → Nat → Int64} {b : Nat} {xs : Nat → Int32} {H : Heap} {locs : List Loc} {ls : Array Slot} {Q : State → Prop} (X : Cxt p s m c #[Value.ref b] cL_law 4 "UncutTaleLaw" D cz) (hRF : Rg rF i) (hRL : Rg rL i) (hRM : Rg rM i) (hRN : Rg rN i) (hX : va_X b 6 xs s s.heap) (hbl : b < s.heap.size) (hbA : ¬ hA h b) (hT : TH D h cz i g H) (hS : va_S (hA h) s.heap H locs) (hl : lv_has ls 4 [(3, .int 0), (2, .ref (h 96)), (1, .ref (h 0)), (0, .ref b)]) (hE : ∀ (H : Heap) (locs : List Loc) (ls : Array Slot), va_S (hA h) s.heap H locs → lv_has ls 4 [(3, .int 0), (2, .ref (h 96)), (1, .ref (h 0)), (0, .ref b)] → W p l e room_1 s m #[Value.ref b] below meth c H locs 600000 7302250 Q (F0 m 2197 ls [])) : W p l e room_1 s m #[Value.ref b] below meth c H locs 600000 7302250 Q (F0 m 555 ls []) := by
  have hx := X.1
  have hb := X.2.1
  refine lv_aload_n hx hb dL_law_555 rfl (lv_at hl 2 rfl) ?_
  refine lv_aload_n hx hb dL_law_556 rfl (lv_at hl 3 rfl) ?_
  refine lv_iload_n hx hb dL_law_557 rfl (lv_at hl 0 rfl) ?_
  refine lv_iconst (v := 1) hx hb dL_law_558 (by decide) ?_
  refine q_iadd hx hb dL_law_559 (fun x1 ex1 => ?_)
  obtain rfl : x1 = 1 := by rw [ex1]; decide
  refine va_sld hx hb hX hbl hbA hS (i := 1) (v_in (rg_k (by decide) : rg 1 1 1) (by decide)) dL_law_560 ?_
  refine lv_aload_n hx hb dL_law_561 rfl (lv_at hl 3 rfl) ?_
  refine lv_iload_n hx hb dL_law_562 rfl (lv_at hl 0 rfl) ?_
  refine lv_iconst (v := 2) hx hb dL_law_563 (by decide) ?_
  refine q_iadd hx hb dL_law_564 (fun x2 ex2 => ?_)
  obtain rfl : x2 = 2 := by rw [ex2]; decide
  refine va_sld hx hb hX hbl hbA hS (i := 2) (v_in (rg_k (by decide) : rg 2 2 2) (by decide)) dL_law_565 ?_
  refine r_Vi (As := [.int (xs (Int32.toNatClampNeg 1)), .int (xs (Int32.toNatClampNeg 2))]) (rest := []) X hT hS (k_X8_stiff hRF (xs (Int32.toNatClampNeg 1)) (xs (Int32.toNatClampNeg 2))) mk_X8_stiff gm_723 rfl rfl (by decide) hd_X8_stiff ⟨rfl, rfl⟩ ⟨Nat.le_of_ble_eq_true rfl, Nat.le_of_ble_eq_true rfl⟩ hl.1 rfl (Nat.le_of_ble_eq_true rfl) dL_law_566 ⟨Nat.le_refl _, Nat.le_refl _⟩ (fun r3 i3 g3 H locs hq hT hS => ?_)
  obtain ⟨eh3, rfl⟩ := hq
  rw [(Prod.mk.inj eh3).1, (Prod.mk.inj eh3).2] at hT
  refine lv_aload_n hx hb dL_law_569 rfl (lv_at hl 1 rfl) ?_
  refine lv_aload_n hx hb dL_law_570 rfl (lv_at hl 3 rfl) ?_
  refine lv_iload_n hx hb dL_law_571 rfl (lv_at hl 0 rfl) ?_
  refine lv_iconst (v := 1) hx hb dL_law_572 (by decide) ?_
  refine q_iadd hx hb dL_law_573 (fun x4 ex4 => ?_)
  obtain rfl : x4 = 1 := by rw [ex4]; decide
  refine va_sld hx hb hX hbl hbA hS (i := 1) (v_in (rg_k (by decide) : rg 1 1 1) (by decide)) dL_law_574 ?_
  refine lv_aload_n hx hb dL_law_575 rfl (lv_at hl 3 rfl) ?_
  refine lv_iload_n hx hb dL_law_576 rfl (lv_at hl 0 rfl) ?_
  refine lv_iconst (v := 2) hx hb dL_law_577 (by decide) ?_
  refine q_iadd hx hb dL_law_578 (fun x5 ex5 => ?_)
  obtain rfl : x5 = 2 := by rw [ex5]; decide
  refine va_sld hx hb hX hbl hbA hS (i := 2) (v_in (rg_k (by decide) : rg 2 2 2) (by decide)) dL_law_579 ?_
  refine r_Vi (As := [.int (xs (Int32.toNatClampNeg 1)), .int (xs (Int32.toNatClampNeg 2))]) (rest := [.int (-2)]) X hT hS (k_X9_stiff hRM (xs (Int32.toNatClampNeg 1)) (xs (Int32.toNatClampNeg 2))) mk_X9_stiff gm_1673 rfl rfl (by decide) hd_X9_stiff ⟨rfl, rfl⟩ ⟨Nat.le_of_ble_eq_true rfl, Nat.le_of_ble_eq_true rfl⟩ hl.1 rfl (Nat.le_of_ble_eq_true rfl) dL_law_580 ⟨Nat.le_refl _, Nat.le_refl _⟩ (fun r6 i6 g6 H locs hq hT hS => ?_)
  obtain ⟨hR6, rfl⟩ := hq
  refine lv_icmp_eq (tgt := 2197) hx hb dL_law_583 (by decide) (fun c7 => ?_) (fun c7 => (x_ne (rg_k (by decide) : rg (-2) (-2) (-2)) (rg_k (by decide) : rg (-2) (-2) (-2)) (i_ne c7) (by decide)).elim)
  exact hE _ _ _ hS (lv_sub hl [0, 1, 2, 3] rfl)

set_option maxRecDepth 100000 in
set_option maxHeartbeats 4000000 in
theorem law_8 {p : Program} {l : Launch} {e : Env} {s : State} {m : MethodId} {below : List Frame} {meth : Method} {c : Code} {D : va_G} {cz : Nat → ClassId} {h : Nat → Nat} {i : Nat → Nat → Int32} {g : Nat → Nat → Int64} {b : Nat} {xs : Nat → Int32} {H : Heap} {locs : List Loc} {ls : Array Slot} {Q : State → Prop} (X : Cxt p s m c #[Value.ref b] cL_law 4 "UncutTaleLaw" D cz) (hRF : Rg rF i) (hRL : Rg rL i) (hRM : Rg rM i) (hRN : Rg rN i) (hX : va_X b 6 xs s s.heap) (hbl : b < s.heap.size) (hbA : ¬ hA h b) (hT : TH D h cz i g H) (hS : va_S (hA h) s.heap H locs) (hl : lv_has ls 4 [(3, .int 0), (2, .ref (h 96)), (1, .ref (h 0)), (0, .ref b)]) (hE : ∀ (H : Heap) (locs : List Loc) (ls : Array Slot), va_S (hA h) s.heap H locs → lv_has ls 4 [(3, .int 0), (2, .ref (h 96)), (1, .ref (h 0)), (0, .ref b)] → W p l e room_1 s m #[Value.ref b] below meth c H locs 600000 7302250 Q (F0 m 2197 ls [])) : W p l e room_1 s m #[Value.ref b] below meth c H locs 600000 7302250 Q (F0 m 588 ls []) := by
  have hx := X.1
  have hb := X.2.1
  refine lv_aload_n hx hb dL_law_588 rfl (lv_at hl 2 rfl) ?_
  refine lv_aload_n hx hb dL_law_589 rfl (lv_at hl 3 rfl) ?_
  refine lv_iload_n hx hb dL_law_590 rfl (lv_at hl 0 rfl) ?_
  refine lv_iconst (v := 1) hx hb dL_law_591 (by decide) ?_
  refine q_iadd hx hb dL_law_592 (fun x1 ex1 => ?_)
  obtain rfl : x1 = 1 := by rw [ex1]; decide
  refine va_sld hx hb hX hbl hbA hS (i := 1) (v_in (rg_k (by decide) : rg 1 1 1) (by decide)) dL_law_593 ?_
  refine r_Vi (As := [.int (xs (Int32.toNatClampNeg 1))]) (rest := []) X hT hS (k_X8_open hRF (xs (Int32.toNatClampNeg 1))) mk_X8_open gm_795 rfl rfl (by decide) hd_X8_open ⟨rfl, rfl⟩ ⟨Nat.le_of_ble_eq_true rfl, Nat.le_of_ble_eq_true rfl⟩ hl.1 rfl (Nat.le_of_ble_eq_true rfl) dL_law_594 ⟨Nat.le_refl _, Nat.le_refl _⟩ (fun r2 i2 g2 H locs hq hT hS => ?_)
  obtain ⟨eh2, rfl⟩ := hq
  rw [(Prod.mk.inj eh2).1, (Prod.mk.inj eh2).2] at hT
  refine lv_aload_n hx hb dL_law_597 rfl (lv_at hl 1 rfl) ?_
  refine lv_aload_n hx hb dL_law_598 rfl (lv_at hl 3 rfl) ?_
  refine lv_iload_n hx hb dL_law_599 rfl (lv_at hl 0 rfl) ?_
  refine lv_iconst (v := 1) hx hb dL_law_600 (by decide) ?_
  refine q_iadd hx hb dL_law_601 (fun x3 ex3 => ?_)
  obtain rfl : x3 = 1 := by rw [ex3]; decide
  refine va_sld hx hb hX hbl hbA hS (i := 1) (v_in (rg_k (by decide) : rg 1 1 1) (by decide)) dL_law_602 ?_
  refine r_Vi (As := [.int (xs (Int32.toNatClampNeg 1))]) (rest := [.int (-2)]) X hT hS (k_X9_open hRM (xs (Int32.toNatClampNeg 1))) mk_X9_open gm_1738 rfl rfl (by decide) hd_X9_open ⟨rfl, rfl⟩ ⟨Nat.le_of_ble_eq_true rfl, Nat.le_of_ble_eq_true rfl⟩ hl.1 rfl (Nat.le_of_ble_eq_true rfl) dL_law_603 ⟨Nat.le_refl _, Nat.le_refl _⟩ (fun r4 i4 g4 H locs hq hT hS => ?_)
  obtain ⟨hR4, rfl⟩ := hq
  refine lv_icmp_eq (tgt := 2197) hx hb dL_law_606 (by decide) (fun c5 => ?_) (fun c5 => (x_ne (rg_k (by decide) : rg (-2) (-2) (-2)) (rg_k (by decide) : rg (-2) (-2) (-2)) (i_ne c5) (by decide)).elim)
  exact hE _ _ _ hS (lv_sub hl [0, 1, 2, 3] rfl)

set_option maxRecDepth 100000 in
set_option maxHeartbeats 4000000 in
theorem law_9 {p : Program} {l : Launch} {e : Env} {s : State} {m : MethodId} {below : List Frame} {meth : Method} {c : Code} {D : va_G} {cz : Nat → ClassId} {h : Nat → Nat} {i : Nat → Nat → Int32} {g : Nat → Nat → Int64} {b : Nat} {xs : Nat → Int32} {H : Heap} {locs : List Loc} {ls : Array Slot} {Q : State → Prop} (X : Cxt p s m c #[Value.ref b] cL_law 4 "UncutTaleLaw" D cz) (hRF : Rg rF i) (hRL : Rg rL i) (hRM : Rg rM i) (hRN : Rg rN i) (hX : va_X b 6 xs s s.heap) (hbl : b < s.heap.size) (hbA : ¬ hA h b) (hT : TH D h cz i g H) (hS : va_S (hA h) s.heap H locs) (hl : lv_has ls 4 [(3, .int 0), (2, .ref (h 96)), (1, .ref (h 0)), (0, .ref b)]) (hE : ∀ (H : Heap) (locs : List Loc) (ls : Array Slot), va_S (hA h) s.heap H locs → lv_has ls 4 [(3, .int 0), (2, .ref (h 96)), (1, .ref (h 0)), (0, .ref b)] → W p l e room_1 s m #[Value.ref b] below meth c H locs 600000 7302250 Q (F0 m 2197 ls [])) : W p l e room_1 s m #[Value.ref b] below meth c H locs 600000 7302250 Q (F0 m 611 ls []) := by
  have hx := X.1
  have hb := X.2.1
  refine lv_aload_n hx hb dL_law_611 rfl (lv_at hl 2 rfl) ?_
  refine lv_aload_n hx hb dL_law_612 rfl (lv_at hl 3 rfl) ?_
  refine lv_iload_n hx hb dL_law_613 rfl (lv_at hl 0 rfl) ?_
  refine lv_iconst (v := 1) hx hb dL_law_614 (by decide) ?_
  refine q_iadd hx hb dL_law_615 (fun x1 ex1 => ?_)
  obtain rfl : x1 = 1 := by rw [ex1]; decide
  refine va_sld hx hb hX hbl hbA hS (i := 1) (v_in (rg_k (by decide) : rg 1 1 1) (by decide)) dL_law_616 ?_
  refine r_Vi (As := [.int (xs (Int32.toNatClampNeg 1))]) (rest := []) X hT hS (k_X8_when hRF (xs (Int32.toNatClampNeg 1))) mk_X8_when gm_803 rfl rfl (by decide) hd_X8_when ⟨rfl, rfl⟩ ⟨Nat.le_of_ble_eq_true rfl, Nat.le_of_ble_eq_true rfl⟩ hl.1 rfl (Nat.le_of_ble_eq_true rfl) dL_law_617 ⟨Nat.le_refl _, Nat.le_refl _⟩ (fun r2 i2 g2 H locs hq hT hS => ?_)
  obtain ⟨eh2, rfl⟩ := hq
  rw [(Prod.mk.inj eh2).1, (Prod.mk.inj eh2).2] at hT
  refine lv_aload_n hx hb dL_law_620 rfl (lv_at hl 1 rfl) ?_
  refine lv_aload_n hx hb dL_law_621 rfl (lv_at hl 3 rfl) ?_
  refine lv_iload_n hx hb dL_law_622 rfl (lv_at hl 0 rfl) ?_
  refine lv_iconst (v := 1) hx hb dL_law_623 (by decide) ?_
  refine q_iadd hx hb dL_law_624 (fun x3 ex3 => ?_)
  obtain rfl : x3 = 1 := by rw [ex3]; decide
  refine va_sld hx hb hX hbl hbA hS (i := 1) (v_in (rg_k (by decide) : rg 1 1 1) (by decide)) dL_law_625 ?_
  refine r_Vi (As := [.int (xs (Int32.toNatClampNeg 1))]) (rest := [.int (-2)]) X hT hS (k_X9_when hRM (xs (Int32.toNatClampNeg 1))) mk_X9_when gm_1742 rfl rfl (by decide) hd_X9_when ⟨rfl, rfl⟩ ⟨Nat.le_of_ble_eq_true rfl, Nat.le_of_ble_eq_true rfl⟩ hl.1 rfl (Nat.le_of_ble_eq_true rfl) dL_law_626 ⟨Nat.le_refl _, Nat.le_refl _⟩ (fun r4 i4 g4 H locs hq hT hS => ?_)
  obtain ⟨hR4, rfl⟩ := hq
  refine lv_icmp_eq (tgt := 2197) hx hb dL_law_629 (by decide) (fun c5 => ?_) (fun c5 => (x_ne (rg_k (by decide) : rg (-2) (-2) (-2)) (rg_k (by decide) : rg (-2) (-2) (-2)) (i_ne c5) (by decide)).elim)
  exact hE _ _ _ hS (lv_sub hl [0, 1, 2, 3] rfl)

set_option maxRecDepth 100000 in
set_option maxHeartbeats 4000000 in
theorem law_10 {p : Program} {l : Launch} {e : Env} {s : State} {m : MethodId} {below : List Frame} {meth : Method} {c : Code} {D : va_G} {cz : Nat → ClassId} {h : Nat → Nat} {i : Nat → Nat → Int32} {g : Nat → Nat → Int64} {b : Nat} {xs : Nat → Int32} {H : Heap} {locs : List Loc} {ls : Array Slot} {Q : State → Prop} (X : Cxt p s m c #[Value.ref b] cL_law 4 "UncutTaleLaw" D cz) (hRF : Rg rF i) (hRL : Rg rL i) (hRM : Rg rM i) (hRN : Rg rN i) (hX : va_X b 6 xs s s.heap) (hbl : b < s.heap.size) (hbA : ¬ hA h b) (hT : TH D h cz i g H) (hS : va_S (hA h) s.heap H locs) (hl : lv_has ls 4 [(3, .int 0), (2, .ref (h 96)), (1, .ref (h 0)), (0, .ref b)]) (hE : ∀ (H : Heap) (locs : List Loc) (ls : Array Slot), va_S (hA h) s.heap H locs → lv_has ls 4 [(3, .int 0), (2, .ref (h 96)), (1, .ref (h 0)), (0, .ref b)] → W p l e room_1 s m #[Value.ref b] below meth c H locs 600000 7302250 Q (F0 m 2197 ls [])) : W p l e room_1 s m #[Value.ref b] below meth c H locs 600000 7302250 Q (F0 m 634 ls []) := by
  have hx := X.1
  have hb := X.2.1
  refine lv_aload_n hx hb dL_law_634 rfl (lv_at hl 2 rfl) ?_
  refine lv_aload_n hx hb dL_law_635 rfl (lv_at hl 3 rfl) ?_
  refine lv_iload_n hx hb dL_law_636 rfl (lv_at hl 0 rfl) ?_
  refine lv_iconst (v := 1) hx hb dL_law_637 (by decide) ?_
  refine q_iadd hx hb dL_law_638 (fun x1 ex1 => ?_)
  obtain rfl : x1 = 1 := by rw [ex1]; decide
  refine va_sld hx hb hX hbl hbA hS (i := 1) (v_in (rg_k (by decide) : rg 1 1 1) (by decide)) dL_law_639 ?_
  refine r_Vi (As := [.int (xs (Int32.toNatClampNeg 1))]) (rest := []) X hT hS (k_X8_how hRF (xs (Int32.toNatClampNeg 1))) mk_X8_how gm_811 rfl rfl (by decide) hd_X8_how ⟨rfl, rfl⟩ ⟨Nat.le_of_ble_eq_true rfl, Nat.le_of_ble_eq_true rfl⟩ hl.1 rfl (Nat.le_of_ble_eq_true rfl) dL_law_640 ⟨Nat.le_refl _, Nat.le_refl _⟩ (fun r2 i2 g2 H locs hq hT hS => ?_)
  obtain ⟨eh2, rfl⟩ := hq
  rw [(Prod.mk.inj eh2).1, (Prod.mk.inj eh2).2] at hT
  refine lv_aload_n hx hb dL_law_643 rfl (lv_at hl 1 rfl) ?_
  refine lv_aload_n hx hb dL_law_644 rfl (lv_at hl 3 rfl) ?_
  refine lv_iload_n hx hb dL_law_645 rfl (lv_at hl 0 rfl) ?_
  refine lv_iconst (v := 1) hx hb dL_law_646 (by decide) ?_
  refine q_iadd hx hb dL_law_647 (fun x3 ex3 => ?_)
  obtain rfl : x3 = 1 := by rw [ex3]; decide
  refine va_sld hx hb hX hbl hbA hS (i := 1) (v_in (rg_k (by decide) : rg 1 1 1) (by decide)) dL_law_648 ?_
  refine r_Vi (As := [.int (xs (Int32.toNatClampNeg 1))]) (rest := [.int (-2)]) X hT hS (k_X9_how hRM (xs (Int32.toNatClampNeg 1))) mk_X9_how gm_1746 rfl rfl (by decide) hd_X9_how ⟨rfl, rfl⟩ ⟨Nat.le_of_ble_eq_true rfl, Nat.le_of_ble_eq_true rfl⟩ hl.1 rfl (Nat.le_of_ble_eq_true rfl) dL_law_649 ⟨Nat.le_refl _, Nat.le_refl _⟩ (fun r4 i4 g4 H locs hq hT hS => ?_)
  obtain ⟨hR4, rfl⟩ := hq
  refine lv_icmp_eq (tgt := 2197) hx hb dL_law_652 (by decide) (fun c5 => ?_) (fun c5 => (x_ne (rg_k (by decide) : rg (-2) (-2) (-2)) (rg_k (by decide) : rg (-2) (-2) (-2)) (i_ne c5) (by decide)).elim)
  exact hE _ _ _ hS (lv_sub hl [0, 1, 2, 3] rfl)

set_option maxRecDepth 100000 in
set_option maxHeartbeats 4000000 in
theorem law_11 {p : Program} {l : Launch} {e : Env} {s : State} {m : MethodId} {below : List Frame} {meth : Method} {c : Code} {D : va_G} {cz : Nat → ClassId} {h : Nat → Nat} {i : Nat → Nat → Int32} {g : Nat → Nat → Int64} {b : Nat} {xs : Nat → Int32} {H : Heap} {locs : List Loc} {ls : Array Slot} {Q : State → Prop} (X : Cxt p s m c #[Value.ref b] cL_law 4 "UncutTaleLaw" D cz) (hRF : Rg rF i) (hRL : Rg rL i) (hRM : Rg rM i) (hRN : Rg rN i) (hX : va_X b 6 xs s s.heap) (hbl : b < s.heap.size) (hbA : ¬ hA h b) (hT : TH D h cz i g H) (hS : va_S (hA h) s.heap H locs) (hl : lv_has ls 4 [(3, .int 0), (2, .ref (h 96)), (1, .ref (h 0)), (0, .ref b)]) (hE : ∀ (H : Heap) (locs : List Loc) (ls : Array Slot), va_S (hA h) s.heap H locs → lv_has ls 4 [(3, .int 0), (2, .ref (h 96)), (1, .ref (h 0)), (0, .ref b)] → W p l e room_1 s m #[Value.ref b] below meth c H locs 600000 7302250 Q (F0 m 2197 ls [])) : W p l e room_1 s m #[Value.ref b] below meth c H locs 600000 7302250 Q (F0 m 657 ls []) := by
  have hx := X.1
  have hb := X.2.1
  refine lv_aload_n hx hb dL_law_657 rfl (lv_at hl 2 rfl) ?_
  refine lv_aload_n hx hb dL_law_658 rfl (lv_at hl 3 rfl) ?_
  refine lv_iload_n hx hb dL_law_659 rfl (lv_at hl 0 rfl) ?_
  refine lv_iconst (v := 1) hx hb dL_law_660 (by decide) ?_
  refine q_iadd hx hb dL_law_661 (fun x1 ex1 => ?_)
  obtain rfl : x1 = 1 := by rw [ex1]; decide
  refine va_sld hx hb hX hbl hbA hS (i := 1) (v_in (rg_k (by decide) : rg 1 1 1) (by decide)) dL_law_662 ?_
  refine r_Vi (As := [.int (xs (Int32.toNatClampNeg 1))]) (rest := []) X hT hS (k_X8_read hRF (xs (Int32.toNatClampNeg 1))) mk_X8_read gm_815 rfl rfl (by decide) hd_X8_read ⟨rfl, rfl⟩ ⟨Nat.le_of_ble_eq_true rfl, Nat.le_of_ble_eq_true rfl⟩ hl.1 rfl (Nat.le_of_ble_eq_true rfl) dL_law_663 ⟨Nat.le_refl _, Nat.le_refl _⟩ (fun r2 i2 g2 H locs hq hT hS => ?_)
  obtain ⟨eh2, rfl⟩ := hq
  rw [(Prod.mk.inj eh2).1, (Prod.mk.inj eh2).2] at hT
  refine lv_aload_n hx hb dL_law_666 rfl (lv_at hl 1 rfl) ?_
  refine lv_aload_n hx hb dL_law_667 rfl (lv_at hl 3 rfl) ?_
  refine lv_iload_n hx hb dL_law_668 rfl (lv_at hl 0 rfl) ?_
  refine lv_iconst (v := 1) hx hb dL_law_669 (by decide) ?_
  refine q_iadd hx hb dL_law_670 (fun x3 ex3 => ?_)
  obtain rfl : x3 = 1 := by rw [ex3]; decide
  refine va_sld hx hb hX hbl hbA hS (i := 1) (v_in (rg_k (by decide) : rg 1 1 1) (by decide)) dL_law_671 ?_
  refine r_Vi (As := [.int (xs (Int32.toNatClampNeg 1))]) (rest := [.int (-2)]) X hT hS (k_X9_read hRM (xs (Int32.toNatClampNeg 1))) mk_X9_read gm_1750 rfl rfl (by decide) hd_X9_read ⟨rfl, rfl⟩ ⟨Nat.le_of_ble_eq_true rfl, Nat.le_of_ble_eq_true rfl⟩ hl.1 rfl (Nat.le_of_ble_eq_true rfl) dL_law_672 ⟨Nat.le_refl _, Nat.le_refl _⟩ (fun r4 i4 g4 H locs hq hT hS => ?_)
  obtain ⟨hR4, rfl⟩ := hq
  refine lv_icmp_eq (tgt := 2197) hx hb dL_law_675 (by decide) (fun c5 => ?_) (fun c5 => (x_ne (rg_k (by decide) : rg (-2) (-2) (-2)) (rg_k (by decide) : rg (-2) (-2) (-2)) (i_ne c5) (by decide)).elim)
  exact hE _ _ _ hS (lv_sub hl [0, 1, 2, 3] rfl)

set_option maxRecDepth 100000 in
set_option maxHeartbeats 4000000 in
theorem law_12 {p : Program} {l : Launch} {e : Env} {s : State} {m : MethodId} {below : List Frame} {meth : Method} {c : Code} {D : va_G} {cz : Nat → ClassId} {h : Nat → Nat} {i : Nat → Nat → Int32} {g : Nat → Nat → Int64} {b : Nat} {xs : Nat → Int32} {H : Heap} {locs : List Loc} {ls : Array Slot} {Q : State → Prop} (X : Cxt p s m c #[Value.ref b] cL_law 4 "UncutTaleLaw" D cz) (hRF : Rg rF i) (hRL : Rg rL i) (hRM : Rg rM i) (hRN : Rg rN i) (hX : va_X b 6 xs s s.heap) (hbl : b < s.heap.size) (hbA : ¬ hA h b) (hT : TH D h cz i g H) (hS : va_S (hA h) s.heap H locs) (hl : lv_has ls 4 [(3, .int 0), (2, .ref (h 96)), (1, .ref (h 0)), (0, .ref b)]) (hE : ∀ (H : Heap) (locs : List Loc) (ls : Array Slot), va_S (hA h) s.heap H locs → lv_has ls 4 [(3, .int 0), (2, .ref (h 96)), (1, .ref (h 0)), (0, .ref b)] → W p l e room_1 s m #[Value.ref b] below meth c H locs 600000 7302250 Q (F0 m 2197 ls [])) : W p l e room_1 s m #[Value.ref b] below meth c H locs 600000 7302250 Q (F0 m 680 ls []) := by
  have hx := X.1
  have hb := X.2.1
  refine lv_aload_n hx hb dL_law_680 rfl (lv_at hl 2 rfl) ?_
  refine lv_aload_n hx hb dL_law_681 rfl (lv_at hl 3 rfl) ?_
  refine lv_iload_n hx hb dL_law_682 rfl (lv_at hl 0 rfl) ?_
  refine lv_iconst (v := 1) hx hb dL_law_683 (by decide) ?_
  refine q_iadd hx hb dL_law_684 (fun x1 ex1 => ?_)
  obtain rfl : x1 = 1 := by rw [ex1]; decide
  refine va_sld hx hb hX hbl hbA hS (i := 1) (v_in (rg_k (by decide) : rg 1 1 1) (by decide)) dL_law_685 ?_
  refine r_Vi (As := [.int (xs (Int32.toNatClampNeg 1))]) (rest := []) X hT hS (k_X8_reads hRF (xs (Int32.toNatClampNeg 1))) mk_X8_reads gm_823 rfl rfl (by decide) hd_X8_reads ⟨rfl, rfl⟩ ⟨Nat.le_of_ble_eq_true rfl, Nat.le_of_ble_eq_true rfl⟩ hl.1 rfl (Nat.le_of_ble_eq_true rfl) dL_law_686 ⟨Nat.le_refl _, Nat.le_refl _⟩ (fun r2 i2 g2 H locs hq hT hS => ?_)
  obtain ⟨eh2, rfl⟩ := hq
  rw [(Prod.mk.inj eh2).1, (Prod.mk.inj eh2).2] at hT
  refine lv_aload_n hx hb dL_law_689 rfl (lv_at hl 1 rfl) ?_
  refine lv_aload_n hx hb dL_law_690 rfl (lv_at hl 3 rfl) ?_
  refine lv_iload_n hx hb dL_law_691 rfl (lv_at hl 0 rfl) ?_
  refine lv_iconst (v := 1) hx hb dL_law_692 (by decide) ?_
  refine q_iadd hx hb dL_law_693 (fun x3 ex3 => ?_)
  obtain rfl : x3 = 1 := by rw [ex3]; decide
  refine va_sld hx hb hX hbl hbA hS (i := 1) (v_in (rg_k (by decide) : rg 1 1 1) (by decide)) dL_law_694 ?_
  refine r_Vi (As := [.int (xs (Int32.toNatClampNeg 1))]) (rest := [.int (-2)]) X hT hS (k_X9_reads hRM (xs (Int32.toNatClampNeg 1))) mk_X9_reads gm_1754 rfl rfl (by decide) hd_X9_reads ⟨rfl, rfl⟩ ⟨Nat.le_of_ble_eq_true rfl, Nat.le_of_ble_eq_true rfl⟩ hl.1 rfl (Nat.le_of_ble_eq_true rfl) dL_law_695 ⟨Nat.le_refl _, Nat.le_refl _⟩ (fun r4 i4 g4 H locs hq hT hS => ?_)
  obtain ⟨hR4, rfl⟩ := hq
  refine lv_icmp_eq (tgt := 2197) hx hb dL_law_698 (by decide) (fun c5 => ?_) (fun c5 => (x_ne (rg_k (by decide) : rg (-2) (-2) (-2)) (rg_k (by decide) : rg (-2) (-2) (-2)) (i_ne c5) (by decide)).elim)
  exact hE _ _ _ hS (lv_sub hl [0, 1, 2, 3] rfl)

set_option maxRecDepth 100000 in
set_option maxHeartbeats 4000000 in
theorem law_13 {p : Program} {l : Launch} {e : Env} {s : State} {m : MethodId} {below : List Frame} {meth : Method} {c : Code} {D : va_G} {cz : Nat → ClassId} {h : Nat → Nat} {i : Nat → Nat → Int32} {g : Nat → Nat → Int64} {b : Nat} {xs : Nat → Int32} {H : Heap} {locs : List Loc} {ls : Array Slot} {Q : State → Prop} (X : Cxt p s m c #[Value.ref b] cL_law 4 "UncutTaleLaw" D cz) (hRF : Rg rF i) (hRL : Rg rL i) (hRM : Rg rM i) (hRN : Rg rN i) (hX : va_X b 6 xs s s.heap) (hbl : b < s.heap.size) (hbA : ¬ hA h b) (hT : TH D h cz i g H) (hS : va_S (hA h) s.heap H locs) (hl : lv_has ls 4 [(3, .int 0), (2, .ref (h 96)), (1, .ref (h 0)), (0, .ref b)]) (hE : ∀ (H : Heap) (locs : List Loc) (ls : Array Slot), va_S (hA h) s.heap H locs → lv_has ls 4 [(3, .int 0), (2, .ref (h 96)), (1, .ref (h 0)), (0, .ref b)] → W p l e room_1 s m #[Value.ref b] below meth c H locs 600000 7302250 Q (F0 m 2197 ls [])) : W p l e room_1 s m #[Value.ref b] below meth c H locs 600000 7302250 Q (F0 m 703 ls []) := by
  have hx := X.1
  have hb := X.2.1
  refine lv_aload_n hx hb dL_law_703 rfl (lv_at hl 2 rfl) ?_
  refine r_Vi (As := []) (rest := []) X hT hS (k_X8_all hRF) mk_X8_all gm_836 rfl rfl (by decide) hd_X8_all ⟨rfl, rfl⟩ ⟨Nat.le_of_ble_eq_true rfl, Nat.le_of_ble_eq_true rfl⟩ hl.1 rfl (Nat.le_of_ble_eq_true rfl) dL_law_704 ⟨Nat.le_refl _, Nat.le_refl _⟩ (fun r1 i1 g1 H locs hq hT hS => ?_)
  obtain ⟨eh1, rfl⟩ := hq
  rw [(Prod.mk.inj eh1).1, (Prod.mk.inj eh1).2] at hT
  refine lv_aload_n hx hb dL_law_707 rfl (lv_at hl 1 rfl) ?_
  refine r_Vi (As := []) (rest := [.int (-2)]) X hT hS (k_X9_all hRM) mk_X9_all gm_1766 rfl rfl (by decide) hd_X9_all ⟨rfl, rfl⟩ ⟨Nat.le_of_ble_eq_true rfl, Nat.le_of_ble_eq_true rfl⟩ hl.1 rfl (Nat.le_of_ble_eq_true rfl) dL_law_708 ⟨Nat.le_refl _, Nat.le_refl _⟩ (fun r2 i2 g2 H locs hq hT hS => ?_)
  obtain ⟨hR2, rfl⟩ := hq
  refine lv_icmp_eq (tgt := 2197) hx hb dL_law_711 (by decide) (fun c3 => ?_) (fun c3 => (x_ne (rg_k (by decide) : rg (-2) (-2) (-2)) (rg_k (by decide) : rg (-2) (-2) (-2)) (i_ne c3) (by decide)).elim)
  exact hE _ _ _ hS (lv_sub hl [0, 1, 2, 3] rfl)

set_option maxRecDepth 100000 in
set_option maxHeartbeats 4000000 in
theorem law_14 {p : Program} {l : Launch} {e : Env} {s : State} {m : MethodId} {below : List Frame} {meth : Method} {c : Code} {D : va_G} {cz : Nat → ClassId} {h : Nat → Nat} {i : Nat → Nat → Int32} {g : Nat → Nat → Int64} {b : Nat} {xs : Nat → Int32} {H : Heap} {locs : List Loc} {ls : Array Slot} {Q : State → Prop} (X : Cxt p s m c #[Value.ref b] cL_law 4 "UncutTaleLaw" D cz) (hRF : Rg rF i) (hRL : Rg rL i) (hRM : Rg rM i) (hRN : Rg rN i) (hX : va_X b 6 xs s s.heap) (hbl : b < s.heap.size) (hbA : ¬ hA h b) (hT : TH D h cz i g H) (hS : va_S (hA h) s.heap H locs) (hl : lv_has ls 4 [(3, .int 0), (2, .ref (h 96)), (1, .ref (h 0)), (0, .ref b)]) (hE : ∀ (H : Heap) (locs : List Loc) (ls : Array Slot), va_S (hA h) s.heap H locs → lv_has ls 4 [(3, .int 0), (2, .ref (h 96)), (1, .ref (h 0)), (0, .ref b)] → W p l e room_1 s m #[Value.ref b] below meth c H locs 600000 7302250 Q (F0 m 2197 ls [])) : W p l e room_1 s m #[Value.ref b] below meth c H locs 600000 7302250 Q (F0 m 716 ls []) := by
  have hx := X.1
  have hb := X.2.1
  refine lv_aload_n hx hb dL_law_716 rfl (lv_at hl 2 rfl) ?_
  refine lv_aload_n hx hb dL_law_717 rfl (lv_at hl 3 rfl) ?_
  refine lv_iload_n hx hb dL_law_718 rfl (lv_at hl 0 rfl) ?_
  refine lv_iconst (v := 1) hx hb dL_law_719 (by decide) ?_
  refine q_iadd hx hb dL_law_720 (fun x1 ex1 => ?_)
  obtain rfl : x1 = 1 := by rw [ex1]; decide
  refine va_sld hx hb hX hbl hbA hS (i := 1) (v_in (rg_k (by decide) : rg 1 1 1) (by decide)) dL_law_721 ?_
  refine lv_aload_n hx hb dL_law_722 rfl (lv_at hl 3 rfl) ?_
  refine lv_iload_n hx hb dL_law_723 rfl (lv_at hl 0 rfl) ?_
  refine lv_iconst (v := 2) hx hb dL_law_724 (by decide) ?_
  refine q_iadd hx hb dL_law_725 (fun x2 ex2 => ?_)
  obtain rfl : x2 = 2 := by rw [ex2]; decide
  refine va_sld hx hb hX hbl hbA hS (i := 2) (v_in (rg_k (by decide) : rg 2 2 2) (by decide)) dL_law_726 ?_
  refine r_Vi (As := [.int (xs (Int32.toNatClampNeg 1)), .int (xs (Int32.toNatClampNeg 2))]) (rest := []) X hT hS (k_X8_keeps hRF (xs (Int32.toNatClampNeg 1)) (xs (Int32.toNatClampNeg 2))) mk_X8_keeps gm_844 rfl rfl (by decide) hd_X8_keeps ⟨rfl, rfl⟩ ⟨Nat.le_of_ble_eq_true rfl, Nat.le_of_ble_eq_true rfl⟩ hl.1 rfl (Nat.le_of_ble_eq_true rfl) dL_law_727 ⟨Nat.le_refl _, Nat.le_refl _⟩ (fun r3 i3 g3 H locs hq hT hS => ?_)
  obtain ⟨eh3, rfl⟩ := hq
  rw [(Prod.mk.inj eh3).1, (Prod.mk.inj eh3).2] at hT
  refine lv_aload_n hx hb dL_law_730 rfl (lv_at hl 1 rfl) ?_
  refine lv_aload_n hx hb dL_law_731 rfl (lv_at hl 3 rfl) ?_
  refine lv_iload_n hx hb dL_law_732 rfl (lv_at hl 0 rfl) ?_
  refine lv_iconst (v := 1) hx hb dL_law_733 (by decide) ?_
  refine q_iadd hx hb dL_law_734 (fun x4 ex4 => ?_)
  obtain rfl : x4 = 1 := by rw [ex4]; decide
  refine va_sld hx hb hX hbl hbA hS (i := 1) (v_in (rg_k (by decide) : rg 1 1 1) (by decide)) dL_law_735 ?_
  refine lv_aload_n hx hb dL_law_736 rfl (lv_at hl 3 rfl) ?_
  refine lv_iload_n hx hb dL_law_737 rfl (lv_at hl 0 rfl) ?_
  refine lv_iconst (v := 2) hx hb dL_law_738 (by decide) ?_
  refine q_iadd hx hb dL_law_739 (fun x5 ex5 => ?_)
  obtain rfl : x5 = 2 := by rw [ex5]; decide
  refine va_sld hx hb hX hbl hbA hS (i := 2) (v_in (rg_k (by decide) : rg 2 2 2) (by decide)) dL_law_740 ?_
  refine r_Vi (As := [.int (xs (Int32.toNatClampNeg 1)), .int (xs (Int32.toNatClampNeg 2))]) (rest := [.int (-2)]) X hT hS (k_X9_keeps hRM (xs (Int32.toNatClampNeg 1)) (xs (Int32.toNatClampNeg 2))) mk_X9_keeps gm_1774 rfl rfl (by decide) hd_X9_keeps ⟨rfl, rfl⟩ ⟨Nat.le_of_ble_eq_true rfl, Nat.le_of_ble_eq_true rfl⟩ hl.1 rfl (Nat.le_of_ble_eq_true rfl) dL_law_741 ⟨Nat.le_refl _, Nat.le_refl _⟩ (fun r6 i6 g6 H locs hq hT hS => ?_)
  obtain ⟨hR6, rfl⟩ := hq
  refine lv_icmp_eq (tgt := 2197) hx hb dL_law_744 (by decide) (fun c7 => ?_) (fun c7 => (x_ne (rg_k (by decide) : rg (-2) (-2) (-2)) (rg_k (by decide) : rg (-2) (-2) (-2)) (i_ne c7) (by decide)).elim)
  exact hE _ _ _ hS (lv_sub hl [0, 1, 2, 3] rfl)

set_option maxRecDepth 100000 in
set_option maxHeartbeats 4000000 in
theorem law_15 {p : Program} {l : Launch} {e : Env} {s : State} {m : MethodId} {below : List Frame} {meth : Method} {c : Code} {D : va_G} {cz : Nat → ClassId} {h : Nat → Nat} {i : Nat → Nat → Int32} {g : Nat → Nat → Int64} {b : Nat} {xs : Nat → Int32} {H : Heap} {locs : List Loc} {ls : Array Slot} {Q : State → Prop} (X : Cxt p s m c #[Value.ref b] cL_law 4 "UncutTaleLaw" D cz) (hRF : Rg rF i) (hRL : Rg rL i) (hRM : Rg rM i) (hRN : Rg rN i) (hX : va_X b 6 xs s s.heap) (hbl : b < s.heap.size) (hbA : ¬ hA h b) (hT : TH D h cz i g H) (hS : va_S (hA h) s.heap H locs) (hl : lv_has ls 4 [(3, .int 0), (2, .ref (h 96)), (1, .ref (h 0)), (0, .ref b)]) (hE : ∀ (H : Heap) (locs : List Loc) (ls : Array Slot), va_S (hA h) s.heap H locs → lv_has ls 4 [(3, .int 0), (2, .ref (h 96)), (1, .ref (h 0)), (0, .ref b)] → W p l e room_1 s m #[Value.ref b] below meth c H locs 600000 7302250 Q (F0 m 2197 ls [])) : W p l e room_1 s m #[Value.ref b] below meth c H locs 600000 7302250 Q (F0 m 749 ls []) := by
  have hx := X.1
  have hb := X.2.1
  refine lv_aload_n hx hb dL_law_749 rfl (lv_at hl 2 rfl) ?_
  refine lv_aload_n hx hb dL_law_750 rfl (lv_at hl 3 rfl) ?_
  refine lv_iload_n hx hb dL_law_751 rfl (lv_at hl 0 rfl) ?_
  refine lv_iconst (v := 1) hx hb dL_law_752 (by decide) ?_
  refine q_iadd hx hb dL_law_753 (fun x1 ex1 => ?_)
  obtain rfl : x1 = 1 := by rw [ex1]; decide
  refine va_sld hx hb hX hbl hbA hS (i := 1) (v_in (rg_k (by decide) : rg 1 1 1) (by decide)) dL_law_754 ?_
  refine r_Vi (As := [.int (xs (Int32.toNatClampNeg 1))]) (rest := []) X hT hS (k_X8_waits hRF (xs (Int32.toNatClampNeg 1))) mk_X8_waits gm_852 rfl rfl (by decide) hd_X8_waits ⟨rfl, rfl⟩ ⟨Nat.le_of_ble_eq_true rfl, Nat.le_of_ble_eq_true rfl⟩ hl.1 rfl (Nat.le_of_ble_eq_true rfl) dL_law_755 ⟨Nat.le_refl _, Nat.le_refl _⟩ (fun r2 i2 g2 H locs hq hT hS => ?_)
  obtain ⟨eh2, rfl⟩ := hq
  rw [(Prod.mk.inj eh2).1, (Prod.mk.inj eh2).2] at hT
  refine lv_aload_n hx hb dL_law_758 rfl (lv_at hl 1 rfl) ?_
  refine lv_aload_n hx hb dL_law_759 rfl (lv_at hl 3 rfl) ?_
  refine lv_iload_n hx hb dL_law_760 rfl (lv_at hl 0 rfl) ?_
  refine lv_iconst (v := 1) hx hb dL_law_761 (by decide) ?_
  refine q_iadd hx hb dL_law_762 (fun x3 ex3 => ?_)
  obtain rfl : x3 = 1 := by rw [ex3]; decide
  refine va_sld hx hb hX hbl hbA hS (i := 1) (v_in (rg_k (by decide) : rg 1 1 1) (by decide)) dL_law_763 ?_
  refine r_Vi (As := [.int (xs (Int32.toNatClampNeg 1))]) (rest := [.int (-2)]) X hT hS (k_X9_waits hRM (xs (Int32.toNatClampNeg 1))) mk_X9_waits gm_1782 rfl rfl (by decide) hd_X9_waits ⟨rfl, rfl⟩ ⟨Nat.le_of_ble_eq_true rfl, Nat.le_of_ble_eq_true rfl⟩ hl.1 rfl (Nat.le_of_ble_eq_true rfl) dL_law_764 ⟨Nat.le_refl _, Nat.le_refl _⟩ (fun r4 i4 g4 H locs hq hT hS => ?_)
  obtain ⟨hR4, rfl⟩ := hq
  refine lv_icmp_eq (tgt := 2197) hx hb dL_law_767 (by decide) (fun c5 => ?_) (fun c5 => (x_ne (rg_k (by decide) : rg (-2) (-2) (-2)) (rg_k (by decide) : rg (-2) (-2) (-2)) (i_ne c5) (by decide)).elim)
  exact hE _ _ _ hS (lv_sub hl [0, 1, 2, 3] rfl)

set_option maxRecDepth 100000 in
set_option maxHeartbeats 4000000 in
theorem law_16 {p : Program} {l : Launch} {e : Env} {s : State} {m : MethodId} {below : List Frame} {meth : Method} {c : Code} {D : va_G} {cz : Nat → ClassId} {h : Nat → Nat} {i : Nat → Nat → Int32} {g : Nat → Nat → Int64} {b : Nat} {xs : Nat → Int32} {H : Heap} {locs : List Loc} {ls : Array Slot} {Q : State → Prop} (X : Cxt p s m c #[Value.ref b] cL_law 4 "UncutTaleLaw" D cz) (hRF : Rg rF i) (hRL : Rg rL i) (hRM : Rg rM i) (hRN : Rg rN i) (hX : va_X b 6 xs s s.heap) (hbl : b < s.heap.size) (hbA : ¬ hA h b) (hT : TH D h cz i g H) (hS : va_S (hA h) s.heap H locs) (hl : lv_has ls 4 [(3, .int 0), (2, .ref (h 96)), (1, .ref (h 0)), (0, .ref b)]) (hE : ∀ (H : Heap) (locs : List Loc) (ls : Array Slot), va_S (hA h) s.heap H locs → lv_has ls 4 [(3, .int 0), (2, .ref (h 96)), (1, .ref (h 0)), (0, .ref b)] → W p l e room_1 s m #[Value.ref b] below meth c H locs 600000 7302250 Q (F0 m 2197 ls [])) : W p l e room_1 s m #[Value.ref b] below meth c H locs 600000 7302250 Q (F0 m 772 ls []) := by
  have hx := X.1
  have hb := X.2.1
  refine lv_aload_n hx hb dL_law_772 rfl (lv_at hl 2 rfl) ?_
  refine lv_aload_n hx hb dL_law_773 rfl (lv_at hl 3 rfl) ?_
  refine lv_iload_n hx hb dL_law_774 rfl (lv_at hl 0 rfl) ?_
  refine lv_iconst (v := 1) hx hb dL_law_775 (by decide) ?_
  refine q_iadd hx hb dL_law_776 (fun x1 ex1 => ?_)
  obtain rfl : x1 = 1 := by rw [ex1]; decide
  refine va_sld hx hb hX hbl hbA hS (i := 1) (v_in (rg_k (by decide) : rg 1 1 1) (by decide)) dL_law_777 ?_
  refine r_Vi (As := [.int (xs (Int32.toNatClampNeg 1))]) (rest := []) X hT hS (k_X8_next hRF (xs (Int32.toNatClampNeg 1))) mk_X8_next gm_857 rfl rfl (by decide) hd_X8_next ⟨rfl, rfl⟩ ⟨Nat.le_of_ble_eq_true rfl, Nat.le_of_ble_eq_true rfl⟩ hl.1 rfl (Nat.le_of_ble_eq_true rfl) dL_law_778 ⟨Nat.le_refl _, Nat.le_refl _⟩ (fun r2 i2 g2 H locs hq hT hS => ?_)
  obtain ⟨eh2, rfl⟩ := hq
  rw [(Prod.mk.inj eh2).1, (Prod.mk.inj eh2).2] at hT
  refine lv_aload_n hx hb dL_law_781 rfl (lv_at hl 1 rfl) ?_
  refine lv_aload_n hx hb dL_law_782 rfl (lv_at hl 3 rfl) ?_
  refine lv_iload_n hx hb dL_law_783 rfl (lv_at hl 0 rfl) ?_
  refine lv_iconst (v := 1) hx hb dL_law_784 (by decide) ?_
  refine q_iadd hx hb dL_law_785 (fun x3 ex3 => ?_)
  obtain rfl : x3 = 1 := by rw [ex3]; decide
  refine va_sld hx hb hX hbl hbA hS (i := 1) (v_in (rg_k (by decide) : rg 1 1 1) (by decide)) dL_law_786 ?_
  refine r_Vi (As := [.int (xs (Int32.toNatClampNeg 1))]) (rest := [.int (-2)]) X hT hS (k_X9_next hRM (xs (Int32.toNatClampNeg 1))) mk_X9_next gm_1786 rfl rfl (by decide) hd_X9_next ⟨rfl, rfl⟩ ⟨Nat.le_of_ble_eq_true rfl, Nat.le_of_ble_eq_true rfl⟩ hl.1 rfl (Nat.le_of_ble_eq_true rfl) dL_law_787 ⟨Nat.le_refl _, Nat.le_refl _⟩ (fun r4 i4 g4 H locs hq hT hS => ?_)
  obtain ⟨hR4, rfl⟩ := hq
  refine lv_icmp_eq (tgt := 2197) hx hb dL_law_790 (by decide) (fun c5 => ?_) (fun c5 => (x_ne (rg_k (by decide) : rg (-2) (-2) (-2)) (rg_k (by decide) : rg (-2) (-2) (-2)) (i_ne c5) (by decide)).elim)
  exact hE _ _ _ hS (lv_sub hl [0, 1, 2, 3] rfl)

set_option maxRecDepth 100000 in
set_option maxHeartbeats 4000000 in
theorem law_17 {p : Program} {l : Launch} {e : Env} {s : State} {m : MethodId} {below : List Frame} {meth : Method} {c : Code} {D : va_G} {cz : Nat → ClassId} {h : Nat → Nat} {i : Nat → Nat → Int32} {g : Nat → Nat → Int64} {b : Nat} {xs : Nat → Int32} {H : Heap} {locs : List Loc} {ls : Array Slot} {Q : State → Prop} (X : Cxt p s m c #[Value.ref b] cL_law 4 "UncutTaleLaw" D cz) (hRF : Rg rF i) (hRL : Rg rL i) (hRM : Rg rM i) (hRN : Rg rN i) (hX : va_X b 6 xs s s.heap) (hbl : b < s.heap.size) (hbA : ¬ hA h b) (hT : TH D h cz i g H) (hS : va_S (hA h) s.heap H locs) (hl : lv_has ls 4 [(3, .int 0), (2, .ref (h 96)), (1, .ref (h 0)), (0, .ref b)]) (hE : ∀ (H : Heap) (locs : List Loc) (ls : Array Slot), va_S (hA h) s.heap H locs → lv_has ls 4 [(3, .int 0), (2, .ref (h 96)), (1, .ref (h 0)), (0, .ref b)] → W p l e room_1 s m #[Value.ref b] below meth c H locs 600000 7302250 Q (F0 m 2197 ls [])) : W p l e room_1 s m #[Value.ref b] below meth c H locs 600000 7302250 Q (F0 m 795 ls []) := by
  have hx := X.1
  have hb := X.2.1
  refine lv_aload_n hx hb dL_law_795 rfl (lv_at hl 2 rfl) ?_
  refine lv_aload_n hx hb dL_law_796 rfl (lv_at hl 3 rfl) ?_
  refine lv_iload_n hx hb dL_law_797 rfl (lv_at hl 0 rfl) ?_
  refine lv_iconst (v := 1) hx hb dL_law_798 (by decide) ?_
  refine q_iadd hx hb dL_law_799 (fun x1 ex1 => ?_)
  obtain rfl : x1 = 1 := by rw [ex1]; decide
  refine va_sld hx hb hX hbl hbA hS (i := 1) (v_in (rg_k (by decide) : rg 1 1 1) (by decide)) dL_law_800 ?_
  refine r_Vi (As := [.int (xs (Int32.toNatClampNeg 1))]) (rest := []) X hT hS (k_X8_dull hRF (xs (Int32.toNatClampNeg 1))) mk_X8_dull gm_861 rfl rfl (by decide) hd_X8_dull ⟨rfl, rfl⟩ ⟨Nat.le_of_ble_eq_true rfl, Nat.le_of_ble_eq_true rfl⟩ hl.1 rfl (Nat.le_of_ble_eq_true rfl) dL_law_801 ⟨Nat.le_refl _, Nat.le_refl _⟩ (fun r2 i2 g2 H locs hq hT hS => ?_)
  obtain ⟨eh2, rfl⟩ := hq
  rw [(Prod.mk.inj eh2).1, (Prod.mk.inj eh2).2] at hT
  refine lv_aload_n hx hb dL_law_804 rfl (lv_at hl 1 rfl) ?_
  refine lv_aload_n hx hb dL_law_805 rfl (lv_at hl 3 rfl) ?_
  refine lv_iload_n hx hb dL_law_806 rfl (lv_at hl 0 rfl) ?_
  refine lv_iconst (v := 1) hx hb dL_law_807 (by decide) ?_
  refine q_iadd hx hb dL_law_808 (fun x3 ex3 => ?_)
  obtain rfl : x3 = 1 := by rw [ex3]; decide
  refine va_sld hx hb hX hbl hbA hS (i := 1) (v_in (rg_k (by decide) : rg 1 1 1) (by decide)) dL_law_809 ?_
  refine r_Vi (As := [.int (xs (Int32.toNatClampNeg 1))]) (rest := [.int (-2)]) X hT hS (k_X9_dull hRM (xs (Int32.toNatClampNeg 1))) mk_X9_dull gm_1790 rfl rfl (by decide) hd_X9_dull ⟨rfl, rfl⟩ ⟨Nat.le_of_ble_eq_true rfl, Nat.le_of_ble_eq_true rfl⟩ hl.1 rfl (Nat.le_of_ble_eq_true rfl) dL_law_810 ⟨Nat.le_refl _, Nat.le_refl _⟩ (fun r4 i4 g4 H locs hq hT hS => ?_)
  obtain ⟨hR4, rfl⟩ := hq
  refine lv_icmp_eq (tgt := 2197) hx hb dL_law_813 (by decide) (fun c5 => ?_) (fun c5 => (x_ne (rg_k (by decide) : rg (-2) (-2) (-2)) (rg_k (by decide) : rg (-2) (-2) (-2)) (i_ne c5) (by decide)).elim)
  exact hE _ _ _ hS (lv_sub hl [0, 1, 2, 3] rfl)

set_option maxRecDepth 100000 in
set_option maxHeartbeats 4000000 in
theorem law_18 {p : Program} {l : Launch} {e : Env} {s : State} {m : MethodId} {below : List Frame} {meth : Method} {c : Code} {D : va_G} {cz : Nat → ClassId} {h : Nat → Nat} {i : Nat → Nat → Int32} {g : Nat → Nat → Int64} {b : Nat} {xs : Nat → Int32} {H : Heap} {locs : List Loc} {ls : Array Slot} {Q : State → Prop} (X : Cxt p s m c #[Value.ref b] cL_law 4 "UncutTaleLaw" D cz) (hRF : Rg rF i) (hRL : Rg rL i) (hRM : Rg rM i) (hRN : Rg rN i) (hX : va_X b 6 xs s s.heap) (hbl : b < s.heap.size) (hbA : ¬ hA h b) (hT : TH D h cz i g H) (hS : va_S (hA h) s.heap H locs) (hl : lv_has ls 4 [(3, .int 0), (2, .ref (h 96)), (1, .ref (h 0)), (0, .ref b)]) (hE : ∀ (H : Heap) (locs : List Loc) (ls : Array Slot), va_S (hA h) s.heap H locs → lv_has ls 4 [(3, .int 0), (2, .ref (h 96)), (1, .ref (h 0)), (0, .ref b)] → W p l e room_1 s m #[Value.ref b] below meth c H locs 600000 7302250 Q (F0 m 2197 ls [])) : W p l e room_1 s m #[Value.ref b] below meth c H locs 600000 7302250 Q (F0 m 818 ls []) := by
  have hx := X.1
  have hb := X.2.1
  refine lv_aload_n hx hb dL_law_818 rfl (lv_at hl 2 rfl) ?_
  refine lv_aload_n hx hb dL_law_819 rfl (lv_at hl 3 rfl) ?_
  refine lv_iload_n hx hb dL_law_820 rfl (lv_at hl 0 rfl) ?_
  refine lv_iconst (v := 1) hx hb dL_law_821 (by decide) ?_
  refine q_iadd hx hb dL_law_822 (fun x1 ex1 => ?_)
  obtain rfl : x1 = 1 := by rw [ex1]; decide
  refine va_sld hx hb hX hbl hbA hS (i := 1) (v_in (rg_k (by decide) : rg 1 1 1) (by decide)) dL_law_823 ?_
  refine r_Vi (As := [.int (xs (Int32.toNatClampNeg 1))]) (rest := []) X hT hS (k_X8_dies hRF (xs (Int32.toNatClampNeg 1))) mk_X8_dies gm_865 rfl rfl (by decide) hd_X8_dies ⟨rfl, rfl⟩ ⟨Nat.le_of_ble_eq_true rfl, Nat.le_of_ble_eq_true rfl⟩ hl.1 rfl (Nat.le_of_ble_eq_true rfl) dL_law_824 ⟨Nat.le_refl _, Nat.le_refl _⟩ (fun r2 i2 g2 H locs hq hT hS => ?_)
  obtain ⟨eh2, rfl⟩ := hq
  rw [(Prod.mk.inj eh2).1, (Prod.mk.inj eh2).2] at hT
  refine lv_aload_n hx hb dL_law_827 rfl (lv_at hl 1 rfl) ?_
  refine lv_aload_n hx hb dL_law_828 rfl (lv_at hl 3 rfl) ?_
  refine lv_iload_n hx hb dL_law_829 rfl (lv_at hl 0 rfl) ?_
  refine lv_iconst (v := 1) hx hb dL_law_830 (by decide) ?_
  refine q_iadd hx hb dL_law_831 (fun x3 ex3 => ?_)
  obtain rfl : x3 = 1 := by rw [ex3]; decide
  refine va_sld hx hb hX hbl hbA hS (i := 1) (v_in (rg_k (by decide) : rg 1 1 1) (by decide)) dL_law_832 ?_
  refine r_Vi (As := [.int (xs (Int32.toNatClampNeg 1))]) (rest := [.int (-2)]) X hT hS (k_X9_dies hRM (xs (Int32.toNatClampNeg 1))) mk_X9_dies gm_1794 rfl rfl (by decide) hd_X9_dies ⟨rfl, rfl⟩ ⟨Nat.le_of_ble_eq_true rfl, Nat.le_of_ble_eq_true rfl⟩ hl.1 rfl (Nat.le_of_ble_eq_true rfl) dL_law_833 ⟨Nat.le_refl _, Nat.le_refl _⟩ (fun r4 i4 g4 H locs hq hT hS => ?_)
  obtain ⟨hR4, rfl⟩ := hq
  refine lv_icmp_eq (tgt := 2197) hx hb dL_law_836 (by decide) (fun c5 => ?_) (fun c5 => (x_ne (rg_k (by decide) : rg (-2) (-2) (-2)) (rg_k (by decide) : rg (-2) (-2) (-2)) (i_ne c5) (by decide)).elim)
  exact hE _ _ _ hS (lv_sub hl [0, 1, 2, 3] rfl)

set_option maxRecDepth 100000 in
set_option maxHeartbeats 4000000 in
theorem law_19 {p : Program} {l : Launch} {e : Env} {s : State} {m : MethodId} {below : List Frame} {meth : Method} {c : Code} {D : va_G} {cz : Nat → ClassId} {h : Nat → Nat} {i : Nat → Nat → Int32} {g : Nat → Nat → Int64} {b : Nat} {xs : Nat → Int32} {H : Heap} {locs : List Loc} {ls : Array Slot} {Q : State → Prop} (X : Cxt p s m c #[Value.ref b] cL_law 4 "UncutTaleLaw" D cz) (hRF : Rg rF i) (hRL : Rg rL i) (hRM : Rg rM i) (hRN : Rg rN i) (hX : va_X b 6 xs s s.heap) (hbl : b < s.heap.size) (hbA : ¬ hA h b) (hT : TH D h cz i g H) (hS : va_S (hA h) s.heap H locs) (hl : lv_has ls 4 [(3, .int 0), (2, .ref (h 96)), (1, .ref (h 0)), (0, .ref b)]) (hE : ∀ (H : Heap) (locs : List Loc) (ls : Array Slot), va_S (hA h) s.heap H locs → lv_has ls 4 [(3, .int 0), (2, .ref (h 96)), (1, .ref (h 0)), (0, .ref b)] → W p l e room_1 s m #[Value.ref b] below meth c H locs 600000 7302250 Q (F0 m 2197 ls [])) : W p l e room_1 s m #[Value.ref b] below meth c H locs 600000 7302250 Q (F0 m 841 ls []) := by
  have hx := X.1
  have hb := X.2.1
  refine lv_aload_n hx hb dL_law_841 rfl (lv_at hl 2 rfl) ?_
  refine lv_aload_n hx hb dL_law_842 rfl (lv_at hl 3 rfl) ?_
  refine lv_iload_n hx hb dL_law_843 rfl (lv_at hl 0 rfl) ?_
  refine lv_iconst (v := 1) hx hb dL_law_844 (by decide) ?_
  refine q_iadd hx hb dL_law_845 (fun x1 ex1 => ?_)
  obtain rfl : x1 = 1 := by rw [ex1]; decide
  refine va_sld hx hb hX hbl hbA hS (i := 1) (v_in (rg_k (by decide) : rg 1 1 1) (by decide)) dL_law_846 ?_
  refine r_Vi (As := [.int (xs (Int32.toNatClampNeg 1))]) (rest := []) X hT hS (k_X8_ages hRF (xs (Int32.toNatClampNeg 1))) mk_X8_ages gm_869 rfl rfl (by decide) hd_X8_ages ⟨rfl, rfl⟩ ⟨Nat.le_of_ble_eq_true rfl, Nat.le_of_ble_eq_true rfl⟩ hl.1 rfl (Nat.le_of_ble_eq_true rfl) dL_law_847 ⟨Nat.le_refl _, Nat.le_refl _⟩ (fun r2 i2 g2 H locs hq hT hS => ?_)
  obtain ⟨eh2, rfl⟩ := hq
  rw [(Prod.mk.inj eh2).1, (Prod.mk.inj eh2).2] at hT
  refine lv_aload_n hx hb dL_law_850 rfl (lv_at hl 1 rfl) ?_
  refine lv_aload_n hx hb dL_law_851 rfl (lv_at hl 3 rfl) ?_
  refine lv_iload_n hx hb dL_law_852 rfl (lv_at hl 0 rfl) ?_
  refine lv_iconst (v := 1) hx hb dL_law_853 (by decide) ?_
  refine q_iadd hx hb dL_law_854 (fun x3 ex3 => ?_)
  obtain rfl : x3 = 1 := by rw [ex3]; decide
  refine va_sld hx hb hX hbl hbA hS (i := 1) (v_in (rg_k (by decide) : rg 1 1 1) (by decide)) dL_law_855 ?_
  refine r_Vi (As := [.int (xs (Int32.toNatClampNeg 1))]) (rest := [.int (-100)]) X hT hS (k_X9_ages hRM (xs (Int32.toNatClampNeg 1))) mk_X9_ages gm_1798 rfl rfl (by decide) hd_X9_ages ⟨rfl, rfl⟩ ⟨Nat.le_of_ble_eq_true rfl, Nat.le_of_ble_eq_true rfl⟩ hl.1 rfl (Nat.le_of_ble_eq_true rfl) dL_law_856 ⟨Nat.le_refl _, Nat.le_refl _⟩ (fun r4 i4 g4 H locs hq hT hS => ?_)
  obtain ⟨hR4, rfl⟩ := hq
  refine lv_icmp_eq (tgt := 2197) hx hb dL_law_859 (by decide) (fun c5 => ?_) (fun c5 => (x_ne (rg_k (by decide) : rg (-100) (-100) (-100)) (rg_k (by decide) : rg (-100) (-100) (-100)) (i_ne c5) (by decide)).elim)
  exact hE _ _ _ hS (lv_sub hl [0, 1, 2, 3] rfl)

set_option maxRecDepth 100000 in
set_option maxHeartbeats 4000000 in
theorem law_20 {p : Program} {l : Launch} {e : Env} {s : State} {m : MethodId} {below : List Frame} {meth : Method} {c : Code} {D : va_G} {cz : Nat → ClassId} {h : Nat → Nat} {i : Nat → Nat → Int32} {g : Nat → Nat → Int64} {b : Nat} {xs : Nat → Int32} {H : Heap} {locs : List Loc} {ls : Array Slot} {Q : State → Prop} (X : Cxt p s m c #[Value.ref b] cL_law 4 "UncutTaleLaw" D cz) (hRF : Rg rF i) (hRL : Rg rL i) (hRM : Rg rM i) (hRN : Rg rN i) (hX : va_X b 6 xs s s.heap) (hbl : b < s.heap.size) (hbA : ¬ hA h b) (hT : TH D h cz i g H) (hS : va_S (hA h) s.heap H locs) (hl : lv_has ls 4 [(3, .int 0), (2, .ref (h 96)), (1, .ref (h 0)), (0, .ref b)]) (hE : ∀ (H : Heap) (locs : List Loc) (ls : Array Slot), va_S (hA h) s.heap H locs → lv_has ls 4 [(3, .int 0), (2, .ref (h 96)), (1, .ref (h 0)), (0, .ref b)] → W p l e room_1 s m #[Value.ref b] below meth c H locs 600000 7302250 Q (F0 m 2197 ls [])) : W p l e room_1 s m #[Value.ref b] below meth c H locs 600000 7302250 Q (F0 m 864 ls []) := by
  have hx := X.1
  have hb := X.2.1
  refine lv_aload_n hx hb dL_law_864 rfl (lv_at hl 2 rfl) ?_
  refine lv_aload_n hx hb dL_law_865 rfl (lv_at hl 3 rfl) ?_
  refine lv_iload_n hx hb dL_law_866 rfl (lv_at hl 0 rfl) ?_
  refine lv_iconst (v := 1) hx hb dL_law_867 (by decide) ?_
  refine q_iadd hx hb dL_law_868 (fun x1 ex1 => ?_)
  obtain rfl : x1 = 1 := by rw [ex1]; decide
  refine va_sld hx hb hX hbl hbA hS (i := 1) (v_in (rg_k (by decide) : rg 1 1 1) (by decide)) dL_law_869 ?_
  refine r_Vi (As := [.int (xs (Int32.toNatClampNeg 1))]) (rest := []) X hT hS (k_X8_cut hRF (xs (Int32.toNatClampNeg 1))) mk_X8_cut gm_885 rfl rfl (by decide) hd_X8_cut ⟨rfl, rfl⟩ ⟨Nat.le_of_ble_eq_true rfl, Nat.le_of_ble_eq_true rfl⟩ hl.1 rfl (Nat.le_of_ble_eq_true rfl) dL_law_870 ⟨Nat.le_refl _, Nat.le_refl _⟩ (fun r2 i2 g2 H locs hq hT hS => ?_)
  obtain ⟨eh2, rfl⟩ := hq
  rw [(Prod.mk.inj eh2).1, (Prod.mk.inj eh2).2] at hT
  refine lv_aload_n hx hb dL_law_873 rfl (lv_at hl 1 rfl) ?_
  refine lv_aload_n hx hb dL_law_874 rfl (lv_at hl 3 rfl) ?_
  refine lv_iload_n hx hb dL_law_875 rfl (lv_at hl 0 rfl) ?_
  refine lv_iconst (v := 1) hx hb dL_law_876 (by decide) ?_
  refine q_iadd hx hb dL_law_877 (fun x3 ex3 => ?_)
  obtain rfl : x3 = 1 := by rw [ex3]; decide
  refine va_sld hx hb hX hbl hbA hS (i := 1) (v_in (rg_k (by decide) : rg 1 1 1) (by decide)) dL_law_878 ?_
  refine r_Vi (As := [.int (xs (Int32.toNatClampNeg 1))]) (rest := [.int (-2)]) X hT hS (k_X9_cut_ hRM (xs (Int32.toNatClampNeg 1))) mk_X9_cut_ gm_1802 rfl rfl (by decide) hd_X9_cut_ ⟨rfl, rfl⟩ ⟨Nat.le_of_ble_eq_true rfl, Nat.le_of_ble_eq_true rfl⟩ hl.1 rfl (Nat.le_of_ble_eq_true rfl) dL_law_879 ⟨Nat.le_refl _, Nat.le_refl _⟩ (fun r4 i4 g4 H locs hq hT hS => ?_)
  obtain ⟨hR4, rfl⟩ := hq
  refine lv_icmp_eq (tgt := 2197) hx hb dL_law_882 (by decide) (fun c5 => ?_) (fun c5 => (x_ne (rg_k (by decide) : rg (-2) (-2) (-2)) (rg_k (by decide) : rg (-2) (-2) (-2)) (i_ne c5) (by decide)).elim)
  exact hE _ _ _ hS (lv_sub hl [0, 1, 2, 3] rfl)

set_option maxRecDepth 100000 in
set_option maxHeartbeats 4000000 in
theorem law_21 {p : Program} {l : Launch} {e : Env} {s : State} {m : MethodId} {below : List Frame} {meth : Method} {c : Code} {D : va_G} {cz : Nat → ClassId} {h : Nat → Nat} {i : Nat → Nat → Int32} {g : Nat → Nat → Int64} {b : Nat} {xs : Nat → Int32} {H : Heap} {locs : List Loc} {ls : Array Slot} {Q : State → Prop} (X : Cxt p s m c #[Value.ref b] cL_law 4 "UncutTaleLaw" D cz) (hRF : Rg rF i) (hRL : Rg rL i) (hRM : Rg rM i) (hRN : Rg rN i) (hX : va_X b 6 xs s s.heap) (hbl : b < s.heap.size) (hbA : ¬ hA h b) (hT : TH D h cz i g H) (hS : va_S (hA h) s.heap H locs) (hl : lv_has ls 4 [(3, .int 0), (2, .ref (h 96)), (1, .ref (h 0)), (0, .ref b)]) (hE : ∀ (H : Heap) (locs : List Loc) (ls : Array Slot), va_S (hA h) s.heap H locs → lv_has ls 4 [(3, .int 0), (2, .ref (h 96)), (1, .ref (h 0)), (0, .ref b)] → W p l e room_1 s m #[Value.ref b] below meth c H locs 600000 7302250 Q (F0 m 2197 ls [])) : W p l e room_1 s m #[Value.ref b] below meth c H locs 600000 7302250 Q (F0 m 887 ls []) := by
  have hx := X.1
  have hb := X.2.1
  refine lv_aload_n hx hb dL_law_887 rfl (lv_at hl 2 rfl) ?_
  refine r_Vi (As := []) (rest := []) X hT hS (k_X8_sharp hRF) mk_X8_sharp gm_889 rfl rfl (by decide) hd_X8_sharp ⟨rfl, rfl⟩ ⟨Nat.le_of_ble_eq_true rfl, Nat.le_of_ble_eq_true rfl⟩ hl.1 rfl (Nat.le_of_ble_eq_true rfl) dL_law_888 ⟨Nat.le_refl _, Nat.le_refl _⟩ (fun r1 i1 g1 H locs hq hT hS => ?_)
  obtain ⟨eh1, rfl⟩ := hq
  rw [(Prod.mk.inj eh1).1, (Prod.mk.inj eh1).2] at hT
  refine lv_aload_n hx hb dL_law_891 rfl (lv_at hl 1 rfl) ?_
  refine r_Vi (As := []) (rest := [.int (-2)]) X hT hS (k_X9_sharp hRM) mk_X9_sharp gm_1806 rfl rfl (by decide) hd_X9_sharp ⟨rfl, rfl⟩ ⟨Nat.le_of_ble_eq_true rfl, Nat.le_of_ble_eq_true rfl⟩ hl.1 rfl (Nat.le_of_ble_eq_true rfl) dL_law_892 ⟨Nat.le_refl _, Nat.le_refl _⟩ (fun r2 i2 g2 H locs hq hT hS => ?_)
  obtain ⟨hR2, rfl⟩ := hq
  refine lv_icmp_eq (tgt := 2197) hx hb dL_law_895 (by decide) (fun c3 => ?_) (fun c3 => (x_ne (rg_k (by decide) : rg (-2) (-2) (-2)) (rg_k (by decide) : rg (-2) (-2) (-2)) (i_ne c3) (by decide)).elim)
  exact hE _ _ _ hS (lv_sub hl [0, 1, 2, 3] rfl)

set_option maxRecDepth 100000 in
set_option maxHeartbeats 4000000 in
theorem law_22 {p : Program} {l : Launch} {e : Env} {s : State} {m : MethodId} {below : List Frame} {meth : Method} {c : Code} {D : va_G} {cz : Nat → ClassId} {h : Nat → Nat} {i : Nat → Nat → Int32} {g : Nat → Nat → Int64} {b : Nat} {xs : Nat → Int32} {H : Heap} {locs : List Loc} {ls : Array Slot} {Q : State → Prop} (X : Cxt p s m c #[Value.ref b] cL_law 4 "UncutTaleLaw" D cz) (hRF : Rg rF i) (hRL : Rg rL i) (hRM : Rg rM i) (hRN : Rg rN i) (hX : va_X b 6 xs s s.heap) (hbl : b < s.heap.size) (hbA : ¬ hA h b) (hT : TH D h cz i g H) (hS : va_S (hA h) s.heap H locs) (hl : lv_has ls 4 [(3, .int 0), (2, .ref (h 96)), (1, .ref (h 0)), (0, .ref b)]) (hE : ∀ (H : Heap) (locs : List Loc) (ls : Array Slot), va_S (hA h) s.heap H locs → lv_has ls 4 [(3, .int 0), (2, .ref (h 96)), (1, .ref (h 0)), (0, .ref b)] → W p l e room_1 s m #[Value.ref b] below meth c H locs 600000 7302250 Q (F0 m 2197 ls [])) : W p l e room_1 s m #[Value.ref b] below meth c H locs 600000 7302250 Q (F0 m 900 ls []) := by
  have hx := X.1
  have hb := X.2.1
  refine lv_aload_n hx hb dL_law_900 rfl (lv_at hl 2 rfl) ?_
  refine r_Vi (As := []) (rest := []) X hT hS (k_X8_uncut hRF) mk_X8_uncut gm_905 rfl rfl (by decide) hd_X8_uncut ⟨rfl, rfl⟩ ⟨Nat.le_of_ble_eq_true rfl, Nat.le_of_ble_eq_true rfl⟩ hl.1 rfl (Nat.le_of_ble_eq_true rfl) dL_law_901 ⟨Nat.le_refl _, Nat.le_refl _⟩ (fun r1 i1 g1 H locs hq hT hS => ?_)
  obtain ⟨eh1, rfl⟩ := hq
  rw [(Prod.mk.inj eh1).1, (Prod.mk.inj eh1).2] at hT
  refine lv_aload_n hx hb dL_law_904 rfl (lv_at hl 1 rfl) ?_
  refine r_Vi (As := []) (rest := [.int (-2)]) X hT hS (k_X9_uncut hRM) mk_X9_uncut gm_1810 rfl rfl (by decide) hd_X9_uncut ⟨rfl, rfl⟩ ⟨Nat.le_of_ble_eq_true rfl, Nat.le_of_ble_eq_true rfl⟩ hl.1 rfl (Nat.le_of_ble_eq_true rfl) dL_law_905 ⟨Nat.le_refl _, Nat.le_refl _⟩ (fun r2 i2 g2 H locs hq hT hS => ?_)
  obtain ⟨hR2, rfl⟩ := hq
  refine lv_icmp_eq (tgt := 2197) hx hb dL_law_908 (by decide) (fun c3 => ?_) (fun c3 => (x_ne (rg_k (by decide) : rg (-2) (-2) (-2)) (rg_k (by decide) : rg (-2) (-2) (-2)) (i_ne c3) (by decide)).elim)
  exact hE _ _ _ hS (lv_sub hl [0, 1, 2, 3] rfl)

set_option maxRecDepth 100000 in
set_option maxHeartbeats 4000000 in
theorem law_23 {p : Program} {l : Launch} {e : Env} {s : State} {m : MethodId} {below : List Frame} {meth : Method} {c : Code} {D : va_G} {cz : Nat → ClassId} {h : Nat → Nat} {i : Nat → Nat → Int32} {g : Nat → Nat → Int64} {b : Nat} {xs : Nat → Int32} {H : Heap} {locs : List Loc} {ls : Array Slot} {Q : State → Prop} (X : Cxt p s m c #[Value.ref b] cL_law 4 "UncutTaleLaw" D cz) (hRF : Rg rF i) (hRL : Rg rL i) (hRM : Rg rM i) (hRN : Rg rN i) (hX : va_X b 6 xs s s.heap) (hbl : b < s.heap.size) (hbA : ¬ hA h b) (hT : TH D h cz i g H) (hS : va_S (hA h) s.heap H locs) (hl : lv_has ls 4 [(3, .int 0), (2, .ref (h 96)), (1, .ref (h 0)), (0, .ref b)]) (hE : ∀ (H : Heap) (locs : List Loc) (ls : Array Slot), va_S (hA h) s.heap H locs → lv_has ls 4 [(3, .int 0), (2, .ref (h 96)), (1, .ref (h 0)), (0, .ref b)] → W p l e room_1 s m #[Value.ref b] below meth c H locs 600000 7302250 Q (F0 m 2197 ls [])) : W p l e room_1 s m #[Value.ref b] below meth c H locs 600000 7302250 Q (F0 m 913 ls []) := by
  have hx := X.1
  have hb := X.2.1
  refine lv_aload_n hx hb dL_law_913 rfl (lv_at hl 2 rfl) ?_
  refine r_Vi (As := []) (rest := []) X hT hS (k_X8_done hRF) mk_X8_done gm_917 rfl rfl (by decide) hd_X8_done ⟨rfl, rfl⟩ ⟨Nat.le_of_ble_eq_true rfl, Nat.le_of_ble_eq_true rfl⟩ hl.1 rfl (Nat.le_of_ble_eq_true rfl) dL_law_914 ⟨Nat.le_refl _, Nat.le_refl _⟩ (fun r1 i1 g1 H locs hq hT hS => ?_)
  obtain ⟨eh1, rfl⟩ := hq
  rw [(Prod.mk.inj eh1).1, (Prod.mk.inj eh1).2] at hT
  refine lv_aload_n hx hb dL_law_917 rfl (lv_at hl 1 rfl) ?_
  refine r_Vi (As := []) (rest := [.int (-2)]) X hT hS (k_X9_done hRM) mk_X9_done gm_1818 rfl rfl (by decide) hd_X9_done ⟨rfl, rfl⟩ ⟨Nat.le_of_ble_eq_true rfl, Nat.le_of_ble_eq_true rfl⟩ hl.1 rfl (Nat.le_of_ble_eq_true rfl) dL_law_918 ⟨Nat.le_refl _, Nat.le_refl _⟩ (fun r2 i2 g2 H locs hq hT hS => ?_)
  obtain ⟨hR2, rfl⟩ := hq
  refine lv_icmp_eq (tgt := 2197) hx hb dL_law_921 (by decide) (fun c3 => ?_) (fun c3 => (x_ne (rg_k (by decide) : rg (-2) (-2) (-2)) (rg_k (by decide) : rg (-2) (-2) (-2)) (i_ne c3) (by decide)).elim)
  exact hE _ _ _ hS (lv_sub hl [0, 1, 2, 3] rfl)

set_option maxRecDepth 100000 in
set_option maxHeartbeats 4000000 in
theorem law_24 {p : Program} {l : Launch} {e : Env} {s : State} {m : MethodId} {below : List Frame} {meth : Method} {c : Code} {D : va_G} {cz : Nat → ClassId} {h : Nat → Nat} {i : Nat → Nat → Int32} {g : Nat → Nat → Int64} {b : Nat} {xs : Nat → Int32} {H : Heap} {locs : List Loc} {ls : Array Slot} {Q : State → Prop} (X : Cxt p s m c #[Value.ref b] cL_law 4 "UncutTaleLaw" D cz) (hRF : Rg rF i) (hRL : Rg rL i) (hRM : Rg rM i) (hRN : Rg rN i) (hX : va_X b 6 xs s s.heap) (hbl : b < s.heap.size) (hbA : ¬ hA h b) (hT : TH D h cz i g H) (hS : va_S (hA h) s.heap H locs) (hl : lv_has ls 4 [(3, .int 0), (2, .ref (h 96)), (1, .ref (h 0)), (0, .ref b)]) (hE : ∀ (H : Heap) (locs : List Loc) (ls : Array Slot), va_S (hA h) s.heap H locs → lv_has ls 4 [(3, .int 0), (2, .ref (h 96)), (1, .ref (h 0)), (0, .ref b)] → W p l e room_1 s m #[Value.ref b] below meth c H locs 600000 7302250 Q (F0 m 2197 ls [])) : W p l e room_1 s m #[Value.ref b] below meth c H locs 600000 7302250 Q (F0 m 926 ls []) := by
  have hx := X.1
  have hb := X.2.1
  refine lv_aload_n hx hb dL_law_926 rfl (lv_at hl 2 rfl) ?_
  refine r_Vi (As := []) (rest := []) X hT hS (k_X8_rush hRF) mk_X8_rush gm_921 rfl rfl (by decide) hd_X8_rush ⟨rfl, rfl⟩ ⟨Nat.le_of_ble_eq_true rfl, Nat.le_of_ble_eq_true rfl⟩ hl.1 rfl (Nat.le_of_ble_eq_true rfl) dL_law_927 ⟨Nat.le_refl _, Nat.le_refl _⟩ (fun r1 i1 g1 H locs hq hT hS => ?_)
  obtain ⟨eh1, rfl⟩ := hq
  rw [(Prod.mk.inj eh1).1, (Prod.mk.inj eh1).2] at hT
  refine lv_aload_n hx hb dL_law_930 rfl (lv_at hl 1 rfl) ?_
  refine r_Vi (As := []) (rest := [.int (-2)]) X hT hS (k_X9_rush hRM) mk_X9_rush gm_1822 rfl rfl (by decide) hd_X9_rush ⟨rfl, rfl⟩ ⟨Nat.le_of_ble_eq_true rfl, Nat.le_of_ble_eq_true rfl⟩ hl.1 rfl (Nat.le_of_ble_eq_true rfl) dL_law_931 ⟨Nat.le_refl _, Nat.le_refl _⟩ (fun r2 i2 g2 H locs hq hT hS => ?_)
  obtain ⟨hR2, rfl⟩ := hq
  refine lv_icmp_eq (tgt := 2197) hx hb dL_law_934 (by decide) (fun c3 => ?_) (fun c3 => (x_ne (rg_k (by decide) : rg (-2) (-2) (-2)) (rg_k (by decide) : rg (-2) (-2) (-2)) (i_ne c3) (by decide)).elim)
  exact hE _ _ _ hS (lv_sub hl [0, 1, 2, 3] rfl)

set_option maxRecDepth 100000 in
set_option maxHeartbeats 4000000 in
theorem law_25 {p : Program} {l : Launch} {e : Env} {s : State} {m : MethodId} {below : List Frame} {meth : Method} {c : Code} {D : va_G} {cz : Nat → ClassId} {h : Nat → Nat} {i : Nat → Nat → Int32} {g : Nat → Nat → Int64} {b : Nat} {xs : Nat → Int32} {H : Heap} {locs : List Loc} {ls : Array Slot} {Q : State → Prop} (X : Cxt p s m c #[Value.ref b] cL_law 4 "UncutTaleLaw" D cz) (hRF : Rg rF i) (hRL : Rg rL i) (hRM : Rg rM i) (hRN : Rg rN i) (hX : va_X b 6 xs s s.heap) (hbl : b < s.heap.size) (hbA : ¬ hA h b) (hT : TH D h cz i g H) (hS : va_S (hA h) s.heap H locs) (hl : lv_has ls 4 [(3, .int 0), (2, .ref (h 96)), (1, .ref (h 0)), (0, .ref b)]) (hE : ∀ (H : Heap) (locs : List Loc) (ls : Array Slot), va_S (hA h) s.heap H locs → lv_has ls 4 [(3, .int 0), (2, .ref (h 96)), (1, .ref (h 0)), (0, .ref b)] → W p l e room_1 s m #[Value.ref b] below meth c H locs 600000 7302250 Q (F0 m 2197 ls [])) : W p l e room_1 s m #[Value.ref b] below meth c H locs 600000 7302250 Q (F0 m 939 ls []) := by
  have hx := X.1
  have hb := X.2.1
  refine lv_aload_n hx hb dL_law_939 rfl (lv_at hl 2 rfl) ?_
  refine lv_aload_n hx hb dL_law_940 rfl (lv_at hl 3 rfl) ?_
  refine lv_iload_n hx hb dL_law_941 rfl (lv_at hl 0 rfl) ?_
  refine lv_iconst (v := 1) hx hb dL_law_942 (by decide) ?_
  refine q_iadd hx hb dL_law_943 (fun x1 ex1 => ?_)
  obtain rfl : x1 = 1 := by rw [ex1]; decide
  refine va_sld hx hb hX hbl hbA hS (i := 1) (v_in (rg_k (by decide) : rg 1 1 1) (by decide)) dL_law_944 ?_
  refine r_Vi (As := [.int (xs (Int32.toNatClampNeg 1))]) (rest := []) X hT hS (k_X8_with hRF (xs (Int32.toNatClampNeg 1))) mk_X8_with gm_930 rfl rfl (by decide) hd_X8_with ⟨rfl, rfl⟩ ⟨Nat.le_of_ble_eq_true rfl, Nat.le_of_ble_eq_true rfl⟩ hl.1 rfl (Nat.le_of_ble_eq_true rfl) dL_law_945 ⟨Nat.le_refl _, Nat.le_refl _⟩ (fun r2 i2 g2 H locs hq hT hS => ?_)
  obtain ⟨eh2, rfl⟩ := hq
  rw [(Prod.mk.inj eh2).1, (Prod.mk.inj eh2).2] at hT
  refine lv_aload_n hx hb dL_law_948 rfl (lv_at hl 1 rfl) ?_
  refine lv_aload_n hx hb dL_law_949 rfl (lv_at hl 3 rfl) ?_
  refine lv_iload_n hx hb dL_law_950 rfl (lv_at hl 0 rfl) ?_
  refine lv_iconst (v := 1) hx hb dL_law_951 (by decide) ?_
  refine q_iadd hx hb dL_law_952 (fun x3 ex3 => ?_)
  obtain rfl : x3 = 1 := by rw [ex3]; decide
  refine va_sld hx hb hX hbl hbA hS (i := 1) (v_in (rg_k (by decide) : rg 1 1 1) (by decide)) dL_law_953 ?_
  refine r_Vi (As := [.int (xs (Int32.toNatClampNeg 1))]) (rest := [.int (-2)]) X hT hS (k_X9_with hRM (xs (Int32.toNatClampNeg 1))) mk_X9_with gm_1830 rfl rfl (by decide) hd_X9_with ⟨rfl, rfl⟩ ⟨Nat.le_of_ble_eq_true rfl, Nat.le_of_ble_eq_true rfl⟩ hl.1 rfl (Nat.le_of_ble_eq_true rfl) dL_law_954 ⟨Nat.le_refl _, Nat.le_refl _⟩ (fun r4 i4 g4 H locs hq hT hS => ?_)
  obtain ⟨hR4, rfl⟩ := hq
  refine lv_icmp_eq (tgt := 2197) hx hb dL_law_957 (by decide) (fun c5 => ?_) (fun c5 => (x_ne (rg_k (by decide) : rg (-2) (-2) (-2)) (rg_k (by decide) : rg (-2) (-2) (-2)) (i_ne c5) (by decide)).elim)
  exact hE _ _ _ hS (lv_sub hl [0, 1, 2, 3] rfl)

set_option maxRecDepth 100000 in
set_option maxHeartbeats 4000000 in
theorem law_26 {p : Program} {l : Launch} {e : Env} {s : State} {m : MethodId} {below : List Frame} {meth : Method} {c : Code} {D : va_G} {cz : Nat → ClassId} {h : Nat → Nat} {i : Nat → Nat → Int32} {g : Nat → Nat → Int64} {b : Nat} {xs : Nat → Int32} {H : Heap} {locs : List Loc} {ls : Array Slot} {Q : State → Prop} (X : Cxt p s m c #[Value.ref b] cL_law 4 "UncutTaleLaw" D cz) (hRF : Rg rF i) (hRL : Rg rL i) (hRM : Rg rM i) (hRN : Rg rN i) (hX : va_X b 6 xs s s.heap) (hbl : b < s.heap.size) (hbA : ¬ hA h b) (hT : TH D h cz i g H) (hS : va_S (hA h) s.heap H locs) (hl : lv_has ls 4 [(3, .int 0), (2, .ref (h 96)), (1, .ref (h 0)), (0, .ref b)]) (hE : ∀ (H : Heap) (locs : List Loc) (ls : Array Slot), va_S (hA h) s.heap H locs → lv_has ls 4 [(3, .int 0), (2, .ref (h 96)), (1, .ref (h 0)), (0, .ref b)] → W p l e room_1 s m #[Value.ref b] below meth c H locs 600000 7302250 Q (F0 m 2197 ls [])) : W p l e room_1 s m #[Value.ref b] below meth c H locs 600000 7302250 Q (F0 m 962 ls []) := by
  have hx := X.1
  have hb := X.2.1
  refine lv_aload_n hx hb dL_law_962 rfl (lv_at hl 2 rfl) ?_
  refine r_Vi (As := []) (rest := []) X hT hS (k_X8_charms hRF) mk_X8_charms gm_934 rfl rfl (by decide) hd_X8_charms ⟨rfl, rfl⟩ ⟨Nat.le_of_ble_eq_true rfl, Nat.le_of_ble_eq_true rfl⟩ hl.1 rfl (Nat.le_of_ble_eq_true rfl) dL_law_963 ⟨Nat.le_refl _, Nat.le_refl _⟩ (fun r1 i1 g1 H locs hq hT hS => ?_)
  obtain ⟨eh1, rfl⟩ := hq
  rw [(Prod.mk.inj eh1).1, (Prod.mk.inj eh1).2] at hT
  refine lv_aload_n hx hb dL_law_966 rfl (lv_at hl 1 rfl) ?_
  refine r_Vi (As := []) (rest := [.int (-2)]) X hT hS (k_X9_charms hRM) mk_X9_charms gm_1834 rfl rfl (by decide) hd_X9_charms ⟨rfl, rfl⟩ ⟨Nat.le_of_ble_eq_true rfl, Nat.le_of_ble_eq_true rfl⟩ hl.1 rfl (Nat.le_of_ble_eq_true rfl) dL_law_967 ⟨Nat.le_refl _, Nat.le_refl _⟩ (fun r2 i2 g2 H locs hq hT hS => ?_)
  obtain ⟨hR2, rfl⟩ := hq
  refine lv_icmp_eq (tgt := 2197) hx hb dL_law_970 (by decide) (fun c3 => ?_) (fun c3 => (x_ne (rg_k (by decide) : rg (-2) (-2) (-2)) (rg_k (by decide) : rg (-2) (-2) (-2)) (i_ne c3) (by decide)).elim)
  exact hE _ _ _ hS (lv_sub hl [0, 1, 2, 3] rfl)

set_option maxRecDepth 100000 in
set_option maxHeartbeats 4000000 in
theorem law_27 {p : Program} {l : Launch} {e : Env} {s : State} {m : MethodId} {below : List Frame} {meth : Method} {c : Code} {D : va_G} {cz : Nat → ClassId} {h : Nat → Nat} {i : Nat → Nat → Int32} {g : Nat → Nat → Int64} {b : Nat} {xs : Nat → Int32} {H : Heap} {locs : List Loc} {ls : Array Slot} {Q : State → Prop} (X : Cxt p s m c #[Value.ref b] cL_law 4 "UncutTaleLaw" D cz) (hRF : Rg rF i) (hRL : Rg rL i) (hRM : Rg rM i) (hRN : Rg rN i) (hX : va_X b 6 xs s s.heap) (hbl : b < s.heap.size) (hbA : ¬ hA h b) (hT : TH D h cz i g H) (hS : va_S (hA h) s.heap H locs) (hl : lv_has ls 4 [(3, .int 0), (2, .ref (h 96)), (1, .ref (h 0)), (0, .ref b)]) (hE : ∀ (H : Heap) (locs : List Loc) (ls : Array Slot), va_S (hA h) s.heap H locs → lv_has ls 4 [(3, .int 0), (2, .ref (h 96)), (1, .ref (h 0)), (0, .ref b)] → W p l e room_1 s m #[Value.ref b] below meth c H locs 600000 7302250 Q (F0 m 2197 ls [])) : W p l e room_1 s m #[Value.ref b] below meth c H locs 600000 7302250 Q (F0 m 975 ls []) := by
  have hx := X.1
  have hb := X.2.1
  refine lv_aload_n hx hb dL_law_975 rfl (lv_at hl 2 rfl) ?_
  refine lv_aload_n hx hb dL_law_976 rfl (lv_at hl 3 rfl) ?_
  refine lv_iload_n hx hb dL_law_977 rfl (lv_at hl 0 rfl) ?_
  refine lv_iconst (v := 1) hx hb dL_law_978 (by decide) ?_
  refine q_iadd hx hb dL_law_979 (fun x1 ex1 => ?_)
  obtain rfl : x1 = 1 := by rw [ex1]; decide
  refine va_sld hx hb hX hbl hbA hS (i := 1) (v_in (rg_k (by decide) : rg 1 1 1) (by decide)) dL_law_980 ?_
  refine r_Vi (As := [.int (xs (Int32.toNatClampNeg 1))]) (rest := []) X hT hS (k_X8_best hRF (xs (Int32.toNatClampNeg 1))) mk_X8_best gm_873 rfl rfl (by decide) hd_X8_best ⟨rfl, rfl⟩ ⟨Nat.le_of_ble_eq_true rfl, Nat.le_of_ble_eq_true rfl⟩ hl.1 rfl (Nat.le_of_ble_eq_true rfl) dL_law_981 ⟨Nat.le_refl _, Nat.le_refl _⟩ (fun r2 i2 g2 H locs hq hT hS => ?_)
  obtain ⟨eh2, rfl⟩ := hq
  rw [(Prod.mk.inj eh2).1, (Prod.mk.inj eh2).2] at hT
  refine lv_aload_n hx hb dL_law_984 rfl (lv_at hl 1 rfl) ?_
  refine lv_aload_n hx hb dL_law_985 rfl (lv_at hl 3 rfl) ?_
  refine lv_iload_n hx hb dL_law_986 rfl (lv_at hl 0 rfl) ?_
  refine lv_iconst (v := 1) hx hb dL_law_987 (by decide) ?_
  refine q_iadd hx hb dL_law_988 (fun x3 ex3 => ?_)
  obtain rfl : x3 = 1 := by rw [ex3]; decide
  refine va_sld hx hb hX hbl hbA hS (i := 1) (v_in (rg_k (by decide) : rg 1 1 1) (by decide)) dL_law_989 ?_
  refine r_Vi (As := [.int (xs (Int32.toNatClampNeg 1))]) (rest := [.int (-2)]) X hT hS (k_X9_best hRM (xs (Int32.toNatClampNeg 1))) mk_X9_best gm_1838 rfl rfl (by decide) hd_X9_best ⟨rfl, rfl⟩ ⟨Nat.le_of_ble_eq_true rfl, Nat.le_of_ble_eq_true rfl⟩ hl.1 rfl (Nat.le_of_ble_eq_true rfl) dL_law_990 ⟨Nat.le_refl _, Nat.le_refl _⟩ (fun r4 i4 g4 H locs hq hT hS => ?_)
  obtain ⟨hR4, rfl⟩ := hq
  refine lv_icmp_eq (tgt := 2197) hx hb dL_law_993 (by decide) (fun c5 => ?_) (fun c5 => (x_ne (rg_k (by decide) : rg (-2) (-2) (-2)) (rg_k (by decide) : rg (-2) (-2) (-2)) (i_ne c5) (by decide)).elim)
  exact hE _ _ _ hS (lv_sub hl [0, 1, 2, 3] rfl)

set_option maxRecDepth 100000 in
set_option maxHeartbeats 4000000 in
theorem law_28 {p : Program} {l : Launch} {e : Env} {s : State} {m : MethodId} {below : List Frame} {meth : Method} {c : Code} {D : va_G} {cz : Nat → ClassId} {h : Nat → Nat} {i : Nat → Nat → Int32} {g : Nat → Nat → Int64} {b : Nat} {xs : Nat → Int32} {H : Heap} {locs : List Loc} {ls : Array Slot} {Q : State → Prop} (X : Cxt p s m c #[Value.ref b] cL_law 4 "UncutTaleLaw" D cz) (hRF : Rg rF i) (hRL : Rg rL i) (hRM : Rg rM i) (hRN : Rg rN i) (hX : va_X b 6 xs s s.heap) (hbl : b < s.heap.size) (hbA : ¬ hA h b) (hT : TH D h cz i g H) (hS : va_S (hA h) s.heap H locs) (hl : lv_has ls 4 [(3, .int 0), (2, .ref (h 96)), (1, .ref (h 0)), (0, .ref b)]) (hE : ∀ (H : Heap) (locs : List Loc) (ls : Array Slot), va_S (hA h) s.heap H locs → lv_has ls 4 [(3, .int 0), (2, .ref (h 96)), (1, .ref (h 0)), (0, .ref b)] → W p l e room_1 s m #[Value.ref b] below meth c H locs 600000 7302250 Q (F0 m 2197 ls [])) : W p l e room_1 s m #[Value.ref b] below meth c H locs 600000 7302250 Q (F0 m 998 ls []) := by
  have hx := X.1
  have hb := X.2.1
  refine lv_aload_n hx hb dL_law_998 rfl (lv_at hl 2 rfl) ?_
  refine r_Vi (As := []) (rest := []) X hT hS (k_X8_peak hRF) mk_X8_peak gm_938 rfl rfl (by decide) hd_X8_peak ⟨rfl, rfl⟩ ⟨Nat.le_of_ble_eq_true rfl, Nat.le_of_ble_eq_true rfl⟩ hl.1 rfl (Nat.le_of_ble_eq_true rfl) dL_law_999 ⟨Nat.le_refl _, Nat.le_refl _⟩ (fun r1 i1 g1 H locs hq hT hS => ?_)
  obtain ⟨eh1, rfl⟩ := hq
  rw [(Prod.mk.inj eh1).1, (Prod.mk.inj eh1).2] at hT
  refine lv_aload_n hx hb dL_law_1002 rfl (lv_at hl 1 rfl) ?_
  refine r_Vi (As := []) (rest := [.int (-2)]) X hT hS (k_X9_peak hRM) mk_X9_peak gm_1842 rfl rfl (by decide) hd_X9_peak ⟨rfl, rfl⟩ ⟨Nat.le_of_ble_eq_true rfl, Nat.le_of_ble_eq_true rfl⟩ hl.1 rfl (Nat.le_of_ble_eq_true rfl) dL_law_1003 ⟨Nat.le_refl _, Nat.le_refl _⟩ (fun r2 i2 g2 H locs hq hT hS => ?_)
  obtain ⟨hR2, rfl⟩ := hq
  refine lv_icmp_eq (tgt := 2197) hx hb dL_law_1006 (by decide) (fun c3 => ?_) (fun c3 => (x_ne (rg_k (by decide) : rg (-2) (-2) (-2)) (rg_k (by decide) : rg (-2) (-2) (-2)) (i_ne c3) (by decide)).elim)
  exact hE _ _ _ hS (lv_sub hl [0, 1, 2, 3] rfl)

set_option maxRecDepth 100000 in
set_option maxHeartbeats 4000000 in
theorem law_29 {p : Program} {l : Launch} {e : Env} {s : State} {m : MethodId} {below : List Frame} {meth : Method} {c : Code} {D : va_G} {cz : Nat → ClassId} {h : Nat → Nat} {i : Nat → Nat → Int32} {g : Nat → Nat → Int64} {b : Nat} {xs : Nat → Int32} {H : Heap} {locs : List Loc} {ls : Array Slot} {Q : State → Prop} (X : Cxt p s m c #[Value.ref b] cL_law 4 "UncutTaleLaw" D cz) (hRF : Rg rF i) (hRL : Rg rL i) (hRM : Rg rM i) (hRN : Rg rN i) (hX : va_X b 6 xs s s.heap) (hbl : b < s.heap.size) (hbA : ¬ hA h b) (hT : TH D h cz i g H) (hS : va_S (hA h) s.heap H locs) (hl : lv_has ls 4 [(3, .int 0), (2, .ref (h 96)), (1, .ref (h 0)), (0, .ref b)]) (hE : ∀ (H : Heap) (locs : List Loc) (ls : Array Slot), va_S (hA h) s.heap H locs → lv_has ls 4 [(3, .int 0), (2, .ref (h 96)), (1, .ref (h 0)), (0, .ref b)] → W p l e room_1 s m #[Value.ref b] below meth c H locs 600000 7302250 Q (F0 m 2197 ls [])) : W p l e room_1 s m #[Value.ref b] below meth c H locs 600000 7302250 Q (F0 m 1011 ls []) := by
  have hx := X.1
  have hb := X.2.1
  refine lv_aload_n hx hb dL_law_1011 rfl (lv_at hl 2 rfl) ?_
  refine r_Vi (As := []) (rest := []) X hT hS (k_X8_first hRF) mk_X8_first gm_942 rfl rfl (by decide) hd_X8_first ⟨rfl, rfl⟩ ⟨Nat.le_of_ble_eq_true rfl, Nat.le_of_ble_eq_true rfl⟩ hl.1 rfl (Nat.le_of_ble_eq_true rfl) dL_law_1012 ⟨Nat.le_refl _, Nat.le_refl _⟩ (fun r1 i1 g1 H locs hq hT hS => ?_)
  obtain ⟨eh1, rfl⟩ := hq
  rw [(Prod.mk.inj eh1).1, (Prod.mk.inj eh1).2] at hT
  refine lv_aload_n hx hb dL_law_1015 rfl (lv_at hl 1 rfl) ?_
  refine r_Vi (As := []) (rest := [.int (-2)]) X hT hS (k_X9_first hRM) mk_X9_first gm_1846 rfl rfl (by decide) hd_X9_first ⟨rfl, rfl⟩ ⟨Nat.le_of_ble_eq_true rfl, Nat.le_of_ble_eq_true rfl⟩ hl.1 rfl (Nat.le_of_ble_eq_true rfl) dL_law_1016 ⟨Nat.le_refl _, Nat.le_refl _⟩ (fun r2 i2 g2 H locs hq hT hS => ?_)
  obtain ⟨hR2, rfl⟩ := hq
  refine lv_icmp_eq (tgt := 2197) hx hb dL_law_1019 (by decide) (fun c3 => ?_) (fun c3 => (x_ne (rg_k (by decide) : rg (-2) (-2) (-2)) (rg_k (by decide) : rg (-2) (-2) (-2)) (i_ne c3) (by decide)).elim)
  exact hE _ _ _ hS (lv_sub hl [0, 1, 2, 3] rfl)

set_option maxRecDepth 100000 in
set_option maxHeartbeats 4000000 in
theorem law_30 {p : Program} {l : Launch} {e : Env} {s : State} {m : MethodId} {below : List Frame} {meth : Method} {c : Code} {D : va_G} {cz : Nat → ClassId} {h : Nat → Nat} {i : Nat → Nat → Int32} {g : Nat → Nat → Int64} {b : Nat} {xs : Nat → Int32} {H : Heap} {locs : List Loc} {ls : Array Slot} {Q : State → Prop} (X : Cxt p s m c #[Value.ref b] cL_law 4 "UncutTaleLaw" D cz) (hRF : Rg rF i) (hRL : Rg rL i) (hRM : Rg rM i) (hRN : Rg rN i) (hX : va_X b 6 xs s s.heap) (hbl : b < s.heap.size) (hbA : ¬ hA h b) (hT : TH D h cz i g H) (hS : va_S (hA h) s.heap H locs) (hl : lv_has ls 4 [(3, .int 0), (2, .ref (h 96)), (1, .ref (h 0)), (0, .ref b)]) (hE : ∀ (H : Heap) (locs : List Loc) (ls : Array Slot), va_S (hA h) s.heap H locs → lv_has ls 4 [(3, .int 0), (2, .ref (h 96)), (1, .ref (h 0)), (0, .ref b)] → W p l e room_1 s m #[Value.ref b] below meth c H locs 600000 7302250 Q (F0 m 2197 ls [])) : W p l e room_1 s m #[Value.ref b] below meth c H locs 600000 7302250 Q (F0 m 1024 ls []) := by
  have hx := X.1
  have hb := X.2.1
  refine lv_aload_n hx hb dL_law_1024 rfl (lv_at hl 2 rfl) ?_
  refine r_Vi (As := []) (rest := []) X hT hS (k_X8_quiet hRF) mk_X8_quiet gm_946 rfl rfl (by decide) hd_X8_quiet ⟨rfl, rfl⟩ ⟨Nat.le_of_ble_eq_true rfl, Nat.le_of_ble_eq_true rfl⟩ hl.1 rfl (Nat.le_of_ble_eq_true rfl) dL_law_1025 ⟨Nat.le_refl _, Nat.le_refl _⟩ (fun r1 i1 g1 H locs hq hT hS => ?_)
  obtain ⟨eh1, rfl⟩ := hq
  rw [(Prod.mk.inj eh1).1, (Prod.mk.inj eh1).2] at hT
  refine lv_aload_n hx hb dL_law_1028 rfl (lv_at hl 1 rfl) ?_
  refine r_Vi (As := []) (rest := [.int (-2)]) X hT hS (k_X9_quiet hRM) mk_X9_quiet gm_1850 rfl rfl (by decide) hd_X9_quiet ⟨rfl, rfl⟩ ⟨Nat.le_of_ble_eq_true rfl, Nat.le_of_ble_eq_true rfl⟩ hl.1 rfl (Nat.le_of_ble_eq_true rfl) dL_law_1029 ⟨Nat.le_refl _, Nat.le_refl _⟩ (fun r2 i2 g2 H locs hq hT hS => ?_)
  obtain ⟨hR2, rfl⟩ := hq
  refine lv_icmp_eq (tgt := 2197) hx hb dL_law_1032 (by decide) (fun c3 => ?_) (fun c3 => (x_ne (rg_k (by decide) : rg (-2) (-2) (-2)) (rg_k (by decide) : rg (-2) (-2) (-2)) (i_ne c3) (by decide)).elim)
  exact hE _ _ _ hS (lv_sub hl [0, 1, 2, 3] rfl)

set_option maxRecDepth 100000 in
set_option maxHeartbeats 4000000 in
theorem law_31 {p : Program} {l : Launch} {e : Env} {s : State} {m : MethodId} {below : List Frame} {meth : Method} {c : Code} {D : va_G} {cz : Nat → ClassId} {h : Nat → Nat} {i : Nat → Nat → Int32} {g : Nat → Nat → Int64} {b : Nat} {xs : Nat → Int32} {H : Heap} {locs : List Loc} {ls : Array Slot} {Q : State → Prop} (X : Cxt p s m c #[Value.ref b] cL_law 4 "UncutTaleLaw" D cz) (hRF : Rg rF i) (hRL : Rg rL i) (hRM : Rg rM i) (hRN : Rg rN i) (hX : va_X b 6 xs s s.heap) (hbl : b < s.heap.size) (hbA : ¬ hA h b) (hT : TH D h cz i g H) (hS : va_S (hA h) s.heap H locs) (hl : lv_has ls 4 [(3, .int 0), (2, .ref (h 96)), (1, .ref (h 0)), (0, .ref b)]) (hE : ∀ (H : Heap) (locs : List Loc) (ls : Array Slot), va_S (hA h) s.heap H locs → lv_has ls 4 [(3, .int 0), (2, .ref (h 96)), (1, .ref (h 0)), (0, .ref b)] → W p l e room_1 s m #[Value.ref b] below meth c H locs 600000 7302250 Q (F0 m 2197 ls [])) : W p l e room_1 s m #[Value.ref b] below meth c H locs 600000 7302250 Q (F0 m 1037 ls []) := by
  have hx := X.1
  have hb := X.2.1
  refine lv_aload_n hx hb dL_law_1037 rfl (lv_at hl 2 rfl) ?_
  refine lv_aload_n hx hb dL_law_1038 rfl (lv_at hl 3 rfl) ?_
  refine lv_iload_n hx hb dL_law_1039 rfl (lv_at hl 0 rfl) ?_
  refine lv_iconst (v := 1) hx hb dL_law_1040 (by decide) ?_
  refine q_iadd hx hb dL_law_1041 (fun x1 ex1 => ?_)
  obtain rfl : x1 = 1 := by rw [ex1]; decide
  refine va_sld hx hb hX hbl hbA hS (i := 1) (v_in (rg_k (by decide) : rg 1 1 1) (by decide)) dL_law_1042 ?_
  refine r_Vi (As := [.int (xs (Int32.toNatClampNeg 1))]) (rest := []) X hT hS (k_X8_lone hRF (xs (Int32.toNatClampNeg 1))) mk_X8_lone gm_877 rfl rfl (by decide) hd_X8_lone ⟨rfl, rfl⟩ ⟨Nat.le_of_ble_eq_true rfl, Nat.le_of_ble_eq_true rfl⟩ hl.1 rfl (Nat.le_of_ble_eq_true rfl) dL_law_1043 ⟨Nat.le_refl _, Nat.le_refl _⟩ (fun r2 i2 g2 H locs hq hT hS => ?_)
  obtain ⟨eh2, rfl⟩ := hq
  rw [(Prod.mk.inj eh2).1, (Prod.mk.inj eh2).2] at hT
  refine lv_aload_n hx hb dL_law_1046 rfl (lv_at hl 1 rfl) ?_
  refine lv_aload_n hx hb dL_law_1047 rfl (lv_at hl 3 rfl) ?_
  refine lv_iload_n hx hb dL_law_1048 rfl (lv_at hl 0 rfl) ?_
  refine lv_iconst (v := 1) hx hb dL_law_1049 (by decide) ?_
  refine q_iadd hx hb dL_law_1050 (fun x3 ex3 => ?_)
  obtain rfl : x3 = 1 := by rw [ex3]; decide
  refine va_sld hx hb hX hbl hbA hS (i := 1) (v_in (rg_k (by decide) : rg 1 1 1) (by decide)) dL_law_1051 ?_
  refine r_Vi (As := [.int (xs (Int32.toNatClampNeg 1))]) (rest := [.int (-2)]) X hT hS (k_X9_lone hRM (xs (Int32.toNatClampNeg 1))) mk_X9_lone gm_1854 rfl rfl (by decide) hd_X9_lone ⟨rfl, rfl⟩ ⟨Nat.le_of_ble_eq_true rfl, Nat.le_of_ble_eq_true rfl⟩ hl.1 rfl (Nat.le_of_ble_eq_true rfl) dL_law_1052 ⟨Nat.le_refl _, Nat.le_refl _⟩ (fun r4 i4 g4 H locs hq hT hS => ?_)
  obtain ⟨hR4, rfl⟩ := hq
  refine lv_icmp_eq (tgt := 2197) hx hb dL_law_1055 (by decide) (fun c5 => ?_) (fun c5 => (x_ne (rg_k (by decide) : rg (-2) (-2) (-2)) (rg_k (by decide) : rg (-2) (-2) (-2)) (i_ne c5) (by decide)).elim)
  exact hE _ _ _ hS (lv_sub hl [0, 1, 2, 3] rfl)

set_option maxRecDepth 100000 in
set_option maxHeartbeats 4000000 in
theorem law_32 {p : Program} {l : Launch} {e : Env} {s : State} {m : MethodId} {below : List Frame} {meth : Method} {c : Code} {D : va_G} {cz : Nat → ClassId} {h : Nat → Nat} {i : Nat → Nat → Int32} {g : Nat → Nat → Int64} {b : Nat} {xs : Nat → Int32} {H : Heap} {locs : List Loc} {ls : Array Slot} {Q : State → Prop} (X : Cxt p s m c #[Value.ref b] cL_law 4 "UncutTaleLaw" D cz) (hRF : Rg rF i) (hRL : Rg rL i) (hRM : Rg rM i) (hRN : Rg rN i) (hX : va_X b 6 xs s s.heap) (hbl : b < s.heap.size) (hbA : ¬ hA h b) (hT : TH D h cz i g H) (hS : va_S (hA h) s.heap H locs) (hl : lv_has ls 4 [(3, .int 0), (2, .ref (h 96)), (1, .ref (h 0)), (0, .ref b)]) (hE : ∀ (H : Heap) (locs : List Loc) (ls : Array Slot), va_S (hA h) s.heap H locs → lv_has ls 4 [(3, .int 0), (2, .ref (h 96)), (1, .ref (h 0)), (0, .ref b)] → W p l e room_1 s m #[Value.ref b] below meth c H locs 600000 7302250 Q (F0 m 2197 ls [])) : W p l e room_1 s m #[Value.ref b] below meth c H locs 600000 7302250 Q (F0 m 1060 ls []) := by
  have hx := X.1
  have hb := X.2.1
  refine lv_aload_n hx hb dL_law_1060 rfl (lv_at hl 2 rfl) ?_
  refine lv_aload_n hx hb dL_law_1061 rfl (lv_at hl 3 rfl) ?_
  refine lv_iload_n hx hb dL_law_1062 rfl (lv_at hl 0 rfl) ?_
  refine lv_iconst (v := 1) hx hb dL_law_1063 (by decide) ?_
  refine q_iadd hx hb dL_law_1064 (fun x1 ex1 => ?_)
  obtain rfl : x1 = 1 := by rw [ex1]; decide
  refine va_sld hx hb hX hbl hbA hS (i := 1) (v_in (rg_k (by decide) : rg 1 1 1) (by decide)) dL_law_1065 ?_
  refine r_Vi (As := [.int (xs (Int32.toNatClampNeg 1))]) (rest := []) X hT hS (k_X8_stalest hRF (xs (Int32.toNatClampNeg 1))) mk_X8_stalest gm_881 rfl rfl (by decide) hd_X8_stalest ⟨rfl, rfl⟩ ⟨Nat.le_of_ble_eq_true rfl, Nat.le_of_ble_eq_true rfl⟩ hl.1 rfl (Nat.le_of_ble_eq_true rfl) dL_law_1066 ⟨Nat.le_refl _, Nat.le_refl _⟩ (fun r2 i2 g2 H locs hq hT hS => ?_)
  obtain ⟨eh2, rfl⟩ := hq
  rw [(Prod.mk.inj eh2).1, (Prod.mk.inj eh2).2] at hT
  refine lv_aload_n hx hb dL_law_1069 rfl (lv_at hl 1 rfl) ?_
  refine lv_aload_n hx hb dL_law_1070 rfl (lv_at hl 3 rfl) ?_
  refine lv_iload_n hx hb dL_law_1071 rfl (lv_at hl 0 rfl) ?_
  refine lv_iconst (v := 1) hx hb dL_law_1072 (by decide) ?_
  refine q_iadd hx hb dL_law_1073 (fun x3 ex3 => ?_)
  obtain rfl : x3 = 1 := by rw [ex3]; decide
  refine va_sld hx hb hX hbl hbA hS (i := 1) (v_in (rg_k (by decide) : rg 1 1 1) (by decide)) dL_law_1074 ?_
  refine r_Vi (As := [.int (xs (Int32.toNatClampNeg 1))]) (rest := [.int (-2)]) X hT hS (k_X9_stalest hRM (xs (Int32.toNatClampNeg 1))) mk_X9_stalest gm_1858 rfl rfl (by decide) hd_X9_stalest ⟨rfl, rfl⟩ ⟨Nat.le_of_ble_eq_true rfl, Nat.le_of_ble_eq_true rfl⟩ hl.1 rfl (Nat.le_of_ble_eq_true rfl) dL_law_1075 ⟨Nat.le_refl _, Nat.le_refl _⟩ (fun r4 i4 g4 H locs hq hT hS => ?_)
  obtain ⟨hR4, rfl⟩ := hq
  refine lv_icmp_eq (tgt := 2197) hx hb dL_law_1078 (by decide) (fun c5 => ?_) (fun c5 => (x_ne (rg_k (by decide) : rg (-2) (-2) (-2)) (rg_k (by decide) : rg (-2) (-2) (-2)) (i_ne c5) (by decide)).elim)
  exact hE _ _ _ hS (lv_sub hl [0, 1, 2, 3] rfl)

set_option maxRecDepth 100000 in
set_option maxHeartbeats 4000000 in
theorem law_33 {p : Program} {l : Launch} {e : Env} {s : State} {m : MethodId} {below : List Frame} {meth : Method} {c : Code} {D : va_G} {cz : Nat → ClassId} {h : Nat → Nat} {i : Nat → Nat → Int32} {g : Nat → Nat → Int64} {b : Nat} {xs : Nat → Int32} {H : Heap} {locs : List Loc} {ls : Array Slot} {Q : State → Prop} (X : Cxt p s m c #[Value.ref b] cL_law 4 "UncutTaleLaw" D cz) (hRF : Rg rF i) (hRL : Rg rL i) (hRM : Rg rM i) (hRN : Rg rN i) (hX : va_X b 6 xs s s.heap) (hbl : b < s.heap.size) (hbA : ¬ hA h b) (hT : TH D h cz i g H) (hS : va_S (hA h) s.heap H locs) (hl : lv_has ls 4 [(3, .int 0), (2, .ref (h 96)), (1, .ref (h 0)), (0, .ref b)]) (hE : ∀ (H : Heap) (locs : List Loc) (ls : Array Slot), va_S (hA h) s.heap H locs → lv_has ls 4 [(3, .int 0), (2, .ref (h 96)), (1, .ref (h 0)), (0, .ref b)] → W p l e room_1 s m #[Value.ref b] below meth c H locs 600000 7302250 Q (F0 m 2197 ls [])) : W p l e room_1 s m #[Value.ref b] below meth c H locs 600000 7302250 Q (F0 m 1083 ls []) := by
  have hx := X.1
  have hb := X.2.1
  refine lv_aload_n hx hb dL_law_1083 rfl (lv_at hl 2 rfl) ?_
  refine r_Vi (As := []) (rest := []) X hT hS (k_X8_pieces hRF) mk_X8_pieces gm_694 rfl rfl (by decide) hd_X8_pieces ⟨rfl, rfl⟩ ⟨Nat.le_of_ble_eq_true rfl, Nat.le_of_ble_eq_true rfl⟩ hl.1 rfl (Nat.le_of_ble_eq_true rfl) dL_law_1084 ⟨Nat.le_refl _, Nat.le_refl _⟩ (fun r1 i1 g1 H locs hq hT hS => ?_)
  obtain ⟨eh1, rfl⟩ := hq
  rw [(Prod.mk.inj eh1).1, (Prod.mk.inj eh1).2] at hT
  refine lv_aload_n hx hb dL_law_1087 rfl (lv_at hl 1 rfl) ?_
  refine r_Vi (As := []) (rest := [.int (-2)]) X hT hS (k_X9_pieces hRM) mk_X9_pieces gm_1862 rfl rfl (by decide) hd_X9_pieces ⟨rfl, rfl⟩ ⟨Nat.le_of_ble_eq_true rfl, Nat.le_of_ble_eq_true rfl⟩ hl.1 rfl (Nat.le_of_ble_eq_true rfl) dL_law_1088 ⟨Nat.le_refl _, Nat.le_refl _⟩ (fun r2 i2 g2 H locs hq hT hS => ?_)
  obtain ⟨hR2, rfl⟩ := hq
  refine lv_icmp_eq (tgt := 2197) hx hb dL_law_1091 (by decide) (fun c3 => ?_) (fun c3 => (x_ne (rg_k (by decide) : rg (-2) (-2) (-2)) (rg_k (by decide) : rg (-2) (-2) (-2)) (i_ne c3) (by decide)).elim)
  exact hE _ _ _ hS (lv_sub hl [0, 1, 2, 3] rfl)

set_option maxRecDepth 100000 in
set_option maxHeartbeats 4000000 in
theorem law_34 {p : Program} {l : Launch} {e : Env} {s : State} {m : MethodId} {below : List Frame} {meth : Method} {c : Code} {D : va_G} {cz : Nat → ClassId} {h : Nat → Nat} {i : Nat → Nat → Int32} {g : Nat → Nat → Int64} {b : Nat} {xs : Nat → Int32} {H : Heap} {locs : List Loc} {ls : Array Slot} {Q : State → Prop} (X : Cxt p s m c #[Value.ref b] cL_law 4 "UncutTaleLaw" D cz) (hRF : Rg rF i) (hRL : Rg rL i) (hRM : Rg rM i) (hRN : Rg rN i) (hX : va_X b 6 xs s s.heap) (hbl : b < s.heap.size) (hbA : ¬ hA h b) (hT : TH D h cz i g H) (hS : va_S (hA h) s.heap H locs) (hl : lv_has ls 4 [(3, .int 0), (2, .ref (h 96)), (1, .ref (h 0)), (0, .ref b)]) (hE : ∀ (H : Heap) (locs : List Loc) (ls : Array Slot), va_S (hA h) s.heap H locs → lv_has ls 4 [(3, .int 0), (2, .ref (h 96)), (1, .ref (h 0)), (0, .ref b)] → W p l e room_1 s m #[Value.ref b] below meth c H locs 600000 7302250 Q (F0 m 2197 ls [])) : W p l e room_1 s m #[Value.ref b] below meth c H locs 600000 7302250 Q (F0 m 1096 ls []) := by
  have hx := X.1
  have hb := X.2.1
  refine lv_aload_n hx hb dL_law_1096 rfl (lv_at hl 2 rfl) ?_
  refine r_Vi (As := []) (rest := []) X hT hS (k_X8_lost hRF) mk_X8_lost gm_950 rfl rfl (by decide) hd_X8_lost ⟨rfl, rfl⟩ ⟨Nat.le_of_ble_eq_true rfl, Nat.le_of_ble_eq_true rfl⟩ hl.1 rfl (Nat.le_of_ble_eq_true rfl) dL_law_1097 ⟨Nat.le_refl _, Nat.le_refl _⟩ (fun r1 i1 g1 H locs hq hT hS => ?_)
  obtain ⟨eh1, rfl⟩ := hq
  rw [(Prod.mk.inj eh1).1, (Prod.mk.inj eh1).2] at hT
  refine lv_aload_n hx hb dL_law_1100 rfl (lv_at hl 1 rfl) ?_
  refine r_Vi (As := []) (rest := [.int (-2)]) X hT hS (k_X9_lost hRM) mk_X9_lost gm_1866 rfl rfl (by decide) hd_X9_lost ⟨rfl, rfl⟩ ⟨Nat.le_of_ble_eq_true rfl, Nat.le_of_ble_eq_true rfl⟩ hl.1 rfl (Nat.le_of_ble_eq_true rfl) dL_law_1101 ⟨Nat.le_refl _, Nat.le_refl _⟩ (fun r2 i2 g2 H locs hq hT hS => ?_)
  obtain ⟨hR2, rfl⟩ := hq
  refine lv_icmp_eq (tgt := 2197) hx hb dL_law_1104 (by decide) (fun c3 => ?_) (fun c3 => (x_ne (rg_k (by decide) : rg (-2) (-2) (-2)) (rg_k (by decide) : rg (-2) (-2) (-2)) (i_ne c3) (by decide)).elim)
  exact hE _ _ _ hS (lv_sub hl [0, 1, 2, 3] rfl)

set_option maxRecDepth 100000 in
set_option maxHeartbeats 4000000 in
theorem law_35 {p : Program} {l : Launch} {e : Env} {s : State} {m : MethodId} {below : List Frame} {meth : Method} {c : Code} {D : va_G} {cz : Nat → ClassId} {h : Nat → Nat} {i : Nat → Nat → Int32} {g : Nat → Nat → Int64} {b : Nat} {xs : Nat → Int32} {H : Heap} {locs : List Loc} {ls : Array Slot} {Q : State → Prop} (X : Cxt p s m c #[Value.ref b] cL_law 4 "UncutTaleLaw" D cz) (hRF : Rg rF i) (hRL : Rg rL i) (hRM : Rg rM i) (hRN : Rg rN i) (hX : va_X b 6 xs s s.heap) (hbl : b < s.heap.size) (hbA : ¬ hA h b) (hT : TH D h cz i g H) (hS : va_S (hA h) s.heap H locs) (hl : lv_has ls 4 [(3, .int 0), (2, .ref (h 96)), (1, .ref (h 0)), (0, .ref b)]) (hE : ∀ (H : Heap) (locs : List Loc) (ls : Array Slot), va_S (hA h) s.heap H locs → lv_has ls 4 [(3, .int 0), (2, .ref (h 96)), (1, .ref (h 0)), (0, .ref b)] → W p l e room_1 s m #[Value.ref b] below meth c H locs 600000 7302250 Q (F0 m 2197 ls [])) : W p l e room_1 s m #[Value.ref b] below meth c H locs 600000 7302250 Q (F0 m 1109 ls []) := by
  have hx := X.1
  have hb := X.2.1
  refine lv_aload_n hx hb dL_law_1109 rfl (lv_at hl 2 rfl) ?_
  refine lv_aload_n hx hb dL_law_1110 rfl (lv_at hl 3 rfl) ?_
  refine lv_iload_n hx hb dL_law_1111 rfl (lv_at hl 0 rfl) ?_
  refine lv_iconst (v := 1) hx hb dL_law_1112 (by decide) ?_
  refine q_iadd hx hb dL_law_1113 (fun x1 ex1 => ?_)
  obtain rfl : x1 = 1 := by rw [ex1]; decide
  refine va_sld hx hb hX hbl hbA hS (i := 1) (v_in (rg_k (by decide) : rg 1 1 1) (by decide)) dL_law_1114 ?_
  refine r_Vi (As := [.int (xs (Int32.toNatClampNeg 1))]) (rest := []) X hT hS (k_X8_knives hRF (xs (Int32.toNatClampNeg 1))) mk_X8_knives gm_707 rfl rfl (by decide) hd_X8_knives ⟨rfl, rfl⟩ ⟨Nat.le_of_ble_eq_true rfl, Nat.le_of_ble_eq_true rfl⟩ hl.1 rfl (Nat.le_of_ble_eq_true rfl) dL_law_1115 ⟨Nat.le_refl _, Nat.le_refl _⟩ (fun r2 i2 g2 H locs hq hT hS => ?_)
  obtain ⟨eh2, rfl⟩ := hq
  rw [(Prod.mk.inj eh2).1, (Prod.mk.inj eh2).2] at hT
  refine lv_aload_n hx hb dL_law_1118 rfl (lv_at hl 1 rfl) ?_
  refine lv_aload_n hx hb dL_law_1119 rfl (lv_at hl 3 rfl) ?_
  refine lv_iload_n hx hb dL_law_1120 rfl (lv_at hl 0 rfl) ?_
  refine lv_iconst (v := 1) hx hb dL_law_1121 (by decide) ?_
  refine q_iadd hx hb dL_law_1122 (fun x3 ex3 => ?_)
  obtain rfl : x3 = 1 := by rw [ex3]; decide
  refine va_sld hx hb hX hbl hbA hS (i := 1) (v_in (rg_k (by decide) : rg 1 1 1) (by decide)) dL_law_1123 ?_
  refine r_Vi (As := [.int (xs (Int32.toNatClampNeg 1))]) (rest := [.int (-2)]) X hT hS (k_X9_knives hRM (xs (Int32.toNatClampNeg 1))) mk_X9_knives gm_1870 rfl rfl (by decide) hd_X9_knives ⟨rfl, rfl⟩ ⟨Nat.le_of_ble_eq_true rfl, Nat.le_of_ble_eq_true rfl⟩ hl.1 rfl (Nat.le_of_ble_eq_true rfl) dL_law_1124 ⟨Nat.le_refl _, Nat.le_refl _⟩ (fun r4 i4 g4 H locs hq hT hS => ?_)
  obtain ⟨hR4, rfl⟩ := hq
  refine lv_icmp_eq (tgt := 2197) hx hb dL_law_1127 (by decide) (fun c5 => ?_) (fun c5 => (x_ne (rg_k (by decide) : rg (-2) (-2) (-2)) (rg_k (by decide) : rg (-2) (-2) (-2)) (i_ne c5) (by decide)).elim)
  exact hE _ _ _ hS (lv_sub hl [0, 1, 2, 3] rfl)

set_option maxRecDepth 100000 in
set_option maxHeartbeats 4000000 in
theorem law_36 {p : Program} {l : Launch} {e : Env} {s : State} {m : MethodId} {below : List Frame} {meth : Method} {c : Code} {D : va_G} {cz : Nat → ClassId} {h : Nat → Nat} {i : Nat → Nat → Int32} {g : Nat → Nat → Int64} {b : Nat} {xs : Nat → Int32} {H : Heap} {locs : List Loc} {ls : Array Slot} {Q : State → Prop} (X : Cxt p s m c #[Value.ref b] cL_law 4 "UncutTaleLaw" D cz) (hRF : Rg rF i) (hRL : Rg rL i) (hRM : Rg rM i) (hRN : Rg rN i) (hX : va_X b 6 xs s s.heap) (hbl : b < s.heap.size) (hbA : ¬ hA h b) (hT : TH D h cz i g H) (hS : va_S (hA h) s.heap H locs) (hl : lv_has ls 4 [(3, .int 0), (2, .ref (h 96)), (1, .ref (h 0)), (0, .ref b)]) (hE : ∀ (H : Heap) (locs : List Loc) (ls : Array Slot), va_S (hA h) s.heap H locs → lv_has ls 4 [(3, .int 0), (2, .ref (h 96)), (1, .ref (h 0)), (0, .ref b)] → W p l e room_1 s m #[Value.ref b] below meth c H locs 600000 7302250 Q (F0 m 2197 ls [])) : W p l e room_1 s m #[Value.ref b] below meth c H locs 600000 7302250 Q (F0 m 1132 ls []) := by
  have hx := X.1
  have hb := X.2.1
  refine lv_aload_n hx hb dL_law_1132 rfl (lv_at hl 2 rfl) ?_
  refine r_Vi (As := []) (rest := []) X hT hS (k_X8_idle hRF) mk_X8_idle gm_901 rfl rfl (by decide) hd_X8_idle ⟨rfl, rfl⟩ ⟨Nat.le_of_ble_eq_true rfl, Nat.le_of_ble_eq_true rfl⟩ hl.1 rfl (Nat.le_of_ble_eq_true rfl) dL_law_1133 ⟨Nat.le_refl _, Nat.le_refl _⟩ (fun r1 i1 g1 H locs hq hT hS => ?_)
  obtain ⟨eh1, rfl⟩ := hq
  rw [(Prod.mk.inj eh1).1, (Prod.mk.inj eh1).2] at hT
  refine lv_aload_n hx hb dL_law_1136 rfl (lv_at hl 1 rfl) ?_
  refine r_Vi (As := []) (rest := [.int (-2)]) X hT hS (k_X9_idle hRM) mk_X9_idle gm_1874 rfl rfl (by decide) hd_X9_idle ⟨rfl, rfl⟩ ⟨Nat.le_of_ble_eq_true rfl, Nat.le_of_ble_eq_true rfl⟩ hl.1 rfl (Nat.le_of_ble_eq_true rfl) dL_law_1137 ⟨Nat.le_refl _, Nat.le_refl _⟩ (fun r2 i2 g2 H locs hq hT hS => ?_)
  obtain ⟨hR2, rfl⟩ := hq
  refine lv_icmp_eq (tgt := 2197) hx hb dL_law_1140 (by decide) (fun c3 => ?_) (fun c3 => (x_ne (rg_k (by decide) : rg (-2) (-2) (-2)) (rg_k (by decide) : rg (-2) (-2) (-2)) (i_ne c3) (by decide)).elim)
  exact hE _ _ _ hS (lv_sub hl [0, 1, 2, 3] rfl)

set_option maxRecDepth 100000 in
set_option maxHeartbeats 4000000 in
theorem law_37 {p : Program} {l : Launch} {e : Env} {s : State} {m : MethodId} {below : List Frame} {meth : Method} {c : Code} {D : va_G} {cz : Nat → ClassId} {h : Nat → Nat} {i : Nat → Nat → Int32} {g : Nat → Nat → Int64} {b : Nat} {xs : Nat → Int32} {H : Heap} {locs : List Loc} {ls : Array Slot} {Q : State → Prop} (X : Cxt p s m c #[Value.ref b] cL_law 4 "UncutTaleLaw" D cz) (hRF : Rg rF i) (hRL : Rg rL i) (hRM : Rg rM i) (hRN : Rg rN i) (hX : va_X b 6 xs s s.heap) (hbl : b < s.heap.size) (hbA : ¬ hA h b) (hT : TH D h cz i g H) (hS : va_S (hA h) s.heap H locs) (hl : lv_has ls 4 [(3, .int 0), (2, .ref (h 96)), (1, .ref (h 0)), (0, .ref b)]) (hE : ∀ (H : Heap) (locs : List Loc) (ls : Array Slot), va_S (hA h) s.heap H locs → lv_has ls 4 [(3, .int 0), (2, .ref (h 96)), (1, .ref (h 0)), (0, .ref b)] → W p l e room_1 s m #[Value.ref b] below meth c H locs 600000 7302250 Q (F0 m 2197 ls [])) : W p l e room_1 s m #[Value.ref b] below meth c H locs 600000 7302250 Q (F0 m 1145 ls []) := by
  have hx := X.1
  have hb := X.2.1
  refine lv_aload_n hx hb dL_law_1145 rfl (lv_at hl 2 rfl) ?_
  refine r_Vi (As := []) (rest := []) X hT hS (k_X8_few hRF) mk_X8_few gm_954 rfl rfl (by decide) hd_X8_few ⟨rfl, rfl⟩ ⟨Nat.le_of_ble_eq_true rfl, Nat.le_of_ble_eq_true rfl⟩ hl.1 rfl (Nat.le_of_ble_eq_true rfl) dL_law_1146 ⟨Nat.le_refl _, Nat.le_refl _⟩ (fun r1 i1 g1 H locs hq hT hS => ?_)
  obtain ⟨eh1, rfl⟩ := hq
  rw [(Prod.mk.inj eh1).1, (Prod.mk.inj eh1).2] at hT
  refine lv_aload_n hx hb dL_law_1149 rfl (lv_at hl 1 rfl) ?_
  refine r_Vi (As := []) (rest := [.int (-2)]) X hT hS (k_X9_few hRM) mk_X9_few gm_1878 rfl rfl (by decide) hd_X9_few ⟨rfl, rfl⟩ ⟨Nat.le_of_ble_eq_true rfl, Nat.le_of_ble_eq_true rfl⟩ hl.1 rfl (Nat.le_of_ble_eq_true rfl) dL_law_1150 ⟨Nat.le_refl _, Nat.le_refl _⟩ (fun r2 i2 g2 H locs hq hT hS => ?_)
  obtain ⟨hR2, rfl⟩ := hq
  refine lv_icmp_eq (tgt := 2197) hx hb dL_law_1153 (by decide) (fun c3 => ?_) (fun c3 => (x_ne (rg_k (by decide) : rg (-2) (-2) (-2)) (rg_k (by decide) : rg (-2) (-2) (-2)) (i_ne c3) (by decide)).elim)
  exact hE _ _ _ hS (lv_sub hl [0, 1, 2, 3] rfl)

set_option maxRecDepth 100000 in
set_option maxHeartbeats 4000000 in
theorem law_38 {p : Program} {l : Launch} {e : Env} {s : State} {m : MethodId} {below : List Frame} {meth : Method} {c : Code} {D : va_G} {cz : Nat → ClassId} {h : Nat → Nat} {i : Nat → Nat → Int32} {g : Nat → Nat → Int64} {b : Nat} {xs : Nat → Int32} {H : Heap} {locs : List Loc} {ls : Array Slot} {Q : State → Prop} (X : Cxt p s m c #[Value.ref b] cL_law 4 "UncutTaleLaw" D cz) (hRF : Rg rF i) (hRL : Rg rL i) (hRM : Rg rM i) (hRN : Rg rN i) (hX : va_X b 6 xs s s.heap) (hbl : b < s.heap.size) (hbA : ¬ hA h b) (hT : TH D h cz i g H) (hS : va_S (hA h) s.heap H locs) (hl : lv_has ls 4 [(3, .int 0), (2, .ref (h 96)), (1, .ref (h 0)), (0, .ref b)]) (hE : ∀ (H : Heap) (locs : List Loc) (ls : Array Slot), va_S (hA h) s.heap H locs → lv_has ls 4 [(3, .int 0), (2, .ref (h 96)), (1, .ref (h 0)), (0, .ref b)] → W p l e room_1 s m #[Value.ref b] below meth c H locs 600000 7302250 Q (F0 m 2197 ls [])) : W p l e room_1 s m #[Value.ref b] below meth c H locs 600000 7302250 Q (F0 m 1158 ls []) := by
  have hx := X.1
  have hb := X.2.1
  refine lv_aload_n hx hb dL_law_1158 rfl (lv_at hl 2 rfl) ?_
  refine r_Vi (As := []) (rest := []) X hT hS (k_X8_fews hRF) mk_X8_fews gm_963 rfl rfl (by decide) hd_X8_fews ⟨rfl, rfl⟩ ⟨Nat.le_of_ble_eq_true rfl, Nat.le_of_ble_eq_true rfl⟩ hl.1 rfl (Nat.le_of_ble_eq_true rfl) dL_law_1159 ⟨Nat.le_refl _, Nat.le_refl _⟩ (fun r1 i1 g1 H locs hq hT hS => ?_)
  obtain ⟨eh1, rfl⟩ := hq
  rw [(Prod.mk.inj eh1).1, (Prod.mk.inj eh1).2] at hT
  refine lv_aload_n hx hb dL_law_1162 rfl (lv_at hl 1 rfl) ?_
  refine r_Vi (As := []) (rest := [.int (-2)]) X hT hS (k_X9_fews hRM) mk_X9_fews gm_1890 rfl rfl (by decide) hd_X9_fews ⟨rfl, rfl⟩ ⟨Nat.le_of_ble_eq_true rfl, Nat.le_of_ble_eq_true rfl⟩ hl.1 rfl (Nat.le_of_ble_eq_true rfl) dL_law_1163 ⟨Nat.le_refl _, Nat.le_refl _⟩ (fun r2 i2 g2 H locs hq hT hS => ?_)
  obtain ⟨hR2, rfl⟩ := hq
  refine lv_icmp_eq (tgt := 2197) hx hb dL_law_1166 (by decide) (fun c3 => ?_) (fun c3 => (x_ne (rg_k (by decide) : rg (-2) (-2) (-2)) (rg_k (by decide) : rg (-2) (-2) (-2)) (i_ne c3) (by decide)).elim)
  exact hE _ _ _ hS (lv_sub hl [0, 1, 2, 3] rfl)

set_option maxRecDepth 100000 in
set_option maxHeartbeats 4000000 in
theorem law_39 {p : Program} {l : Launch} {e : Env} {s : State} {m : MethodId} {below : List Frame} {meth : Method} {c : Code} {D : va_G} {cz : Nat → ClassId} {h : Nat → Nat} {i : Nat → Nat → Int32} {g : Nat → Nat → Int64} {b : Nat} {xs : Nat → Int32} {H : Heap} {locs : List Loc} {ls : Array Slot} {Q : State → Prop} (X : Cxt p s m c #[Value.ref b] cL_law 4 "UncutTaleLaw" D cz) (hRF : Rg rF i) (hRL : Rg rL i) (hRM : Rg rM i) (hRN : Rg rN i) (hX : va_X b 6 xs s s.heap) (hbl : b < s.heap.size) (hbA : ¬ hA h b) (hT : TH D h cz i g H) (hS : va_S (hA h) s.heap H locs) (hl : lv_has ls 4 [(3, .int 0), (2, .ref (h 96)), (1, .ref (h 0)), (0, .ref b)]) (hE : ∀ (H : Heap) (locs : List Loc) (ls : Array Slot), va_S (hA h) s.heap H locs → lv_has ls 4 [(3, .int 0), (2, .ref (h 96)), (1, .ref (h 0)), (0, .ref b)] → W p l e room_1 s m #[Value.ref b] below meth c H locs 600000 7302250 Q (F0 m 2197 ls [])) : W p l e room_1 s m #[Value.ref b] below meth c H locs 600000 7302250 Q (F0 m 1171 ls []) := by
  have hx := X.1
  have hb := X.2.1
  refine lv_aload_n hx hb dL_law_1171 rfl (lv_at hl 2 rfl) ?_
  refine lv_aload_n hx hb dL_law_1172 rfl (lv_at hl 3 rfl) ?_
  refine lv_iload_n hx hb dL_law_1173 rfl (lv_at hl 0 rfl) ?_
  refine lv_iconst (v := 1) hx hb dL_law_1174 (by decide) ?_
  refine q_iadd hx hb dL_law_1175 (fun x1 ex1 => ?_)
  obtain rfl : x1 = 1 := by rw [ex1]; decide
  refine va_sld hx hb hX hbl hbA hS (i := 1) (v_in (rg_k (by decide) : rg 1 1 1) (by decide)) dL_law_1176 ?_
  refine r_Vi (As := [.int (xs (Int32.toNatClampNeg 1))]) (rest := []) X hT hS (k_X8_worth hRF (xs (Int32.toNatClampNeg 1))) mk_X8_worth gm_967 rfl rfl (by decide) hd_X8_worth ⟨rfl, rfl⟩ ⟨Nat.le_of_ble_eq_true rfl, Nat.le_of_ble_eq_true rfl⟩ hl.1 rfl (Nat.le_of_ble_eq_true rfl) dL_law_1177 ⟨Nat.le_refl _, Nat.le_refl _⟩ (fun r2 i2 g2 H locs hq hT hS => ?_)
  obtain ⟨eh2, rfl⟩ := hq
  rw [(Prod.mk.inj eh2).1, (Prod.mk.inj eh2).2] at hT
  refine lv_aload_n hx hb dL_law_1180 rfl (lv_at hl 1 rfl) ?_
  refine lv_aload_n hx hb dL_law_1181 rfl (lv_at hl 3 rfl) ?_
  refine lv_iload_n hx hb dL_law_1182 rfl (lv_at hl 0 rfl) ?_
  refine lv_iconst (v := 1) hx hb dL_law_1183 (by decide) ?_
  refine q_iadd hx hb dL_law_1184 (fun x3 ex3 => ?_)
  obtain rfl : x3 = 1 := by rw [ex3]; decide
  refine va_sld hx hb hX hbl hbA hS (i := 1) (v_in (rg_k (by decide) : rg 1 1 1) (by decide)) dL_law_1185 ?_
  refine r_Vi (As := [.int (xs (Int32.toNatClampNeg 1))]) (rest := [.int (-2)]) X hT hS (k_X9_worth hRM (xs (Int32.toNatClampNeg 1))) mk_X9_worth gm_1894 rfl rfl (by decide) hd_X9_worth ⟨rfl, rfl⟩ ⟨Nat.le_of_ble_eq_true rfl, Nat.le_of_ble_eq_true rfl⟩ hl.1 rfl (Nat.le_of_ble_eq_true rfl) dL_law_1186 ⟨Nat.le_refl _, Nat.le_refl _⟩ (fun r4 i4 g4 H locs hq hT hS => ?_)
  obtain ⟨hR4, rfl⟩ := hq
  refine lv_icmp_eq (tgt := 2197) hx hb dL_law_1189 (by decide) (fun c5 => ?_) (fun c5 => (x_ne (rg_k (by decide) : rg (-2) (-2) (-2)) (rg_k (by decide) : rg (-2) (-2) (-2)) (i_ne c5) (by decide)).elim)
  exact hE _ _ _ hS (lv_sub hl [0, 1, 2, 3] rfl)

set_option maxRecDepth 100000 in
set_option maxHeartbeats 4000000 in
theorem law_40 {p : Program} {l : Launch} {e : Env} {s : State} {m : MethodId} {below : List Frame} {meth : Method} {c : Code} {D : va_G} {cz : Nat → ClassId} {h : Nat → Nat} {i : Nat → Nat → Int32} {g : Nat → Nat → Int64} {b : Nat} {xs : Nat → Int32} {H : Heap} {locs : List Loc} {ls : Array Slot} {Q : State → Prop} (X : Cxt p s m c #[Value.ref b] cL_law 4 "UncutTaleLaw" D cz) (hRF : Rg rF i) (hRL : Rg rL i) (hRM : Rg rM i) (hRN : Rg rN i) (hX : va_X b 6 xs s s.heap) (hbl : b < s.heap.size) (hbA : ¬ hA h b) (hT : TH D h cz i g H) (hS : va_S (hA h) s.heap H locs) (hl : lv_has ls 4 [(3, .int 0), (2, .ref (h 96)), (1, .ref (h 0)), (0, .ref b)]) (hE : ∀ (H : Heap) (locs : List Loc) (ls : Array Slot), va_S (hA h) s.heap H locs → lv_has ls 4 [(3, .int 0), (2, .ref (h 96)), (1, .ref (h 0)), (0, .ref b)] → W p l e room_1 s m #[Value.ref b] below meth c H locs 600000 7302250 Q (F0 m 2197 ls [])) : W p l e room_1 s m #[Value.ref b] below meth c H locs 600000 7302250 Q (F0 m 1194 ls []) := by
  have hx := X.1
  have hb := X.2.1
  refine lv_aload_n hx hb dL_law_1194 rfl (lv_at hl 2 rfl) ?_
  refine lv_aload_n hx hb dL_law_1195 rfl (lv_at hl 3 rfl) ?_
  refine lv_iload_n hx hb dL_law_1196 rfl (lv_at hl 0 rfl) ?_
  refine lv_iconst (v := 1) hx hb dL_law_1197 (by decide) ?_
  refine q_iadd hx hb dL_law_1198 (fun x1 ex1 => ?_)
  obtain rfl : x1 = 1 := by rw [ex1]; decide
  refine va_sld hx hb hX hbl hbA hS (i := 1) (v_in (rg_k (by decide) : rg 1 1 1) (by decide)) dL_law_1199 ?_
  refine lv_aload_n hx hb dL_law_1200 rfl (lv_at hl 3 rfl) ?_
  refine lv_iload_n hx hb dL_law_1201 rfl (lv_at hl 0 rfl) ?_
  refine lv_iconst (v := 2) hx hb dL_law_1202 (by decide) ?_
  refine q_iadd hx hb dL_law_1203 (fun x2 ex2 => ?_)
  obtain rfl : x2 = 2 := by rw [ex2]; decide
  refine va_sld hx hb hX hbl hbA hS (i := 2) (v_in (rg_k (by decide) : rg 2 2 2) (by decide)) dL_law_1204 ?_
  refine r_Vi (As := [.int (xs (Int32.toNatClampNeg 1)), .int (xs (Int32.toNatClampNeg 2))]) (rest := []) X hT hS (k_X8_share hRF (xs (Int32.toNatClampNeg 1)) (xs (Int32.toNatClampNeg 2))) mk_X8_share gm_979 rfl rfl (by decide) hd_X8_share ⟨rfl, rfl⟩ ⟨Nat.le_of_ble_eq_true rfl, Nat.le_of_ble_eq_true rfl⟩ hl.1 rfl (Nat.le_of_ble_eq_true rfl) dL_law_1205 ⟨Nat.le_refl _, Nat.le_refl _⟩ (fun r3 i3 g3 H locs hq hT hS => ?_)
  obtain ⟨eh3, rfl⟩ := hq
  rw [(Prod.mk.inj eh3).1, (Prod.mk.inj eh3).2] at hT
  refine lv_aload_n hx hb dL_law_1208 rfl (lv_at hl 1 rfl) ?_
  refine lv_aload_n hx hb dL_law_1209 rfl (lv_at hl 3 rfl) ?_
  refine lv_iload_n hx hb dL_law_1210 rfl (lv_at hl 0 rfl) ?_
  refine lv_iconst (v := 1) hx hb dL_law_1211 (by decide) ?_
  refine q_iadd hx hb dL_law_1212 (fun x4 ex4 => ?_)
  obtain rfl : x4 = 1 := by rw [ex4]; decide
  refine va_sld hx hb hX hbl hbA hS (i := 1) (v_in (rg_k (by decide) : rg 1 1 1) (by decide)) dL_law_1213 ?_
  refine lv_aload_n hx hb dL_law_1214 rfl (lv_at hl 3 rfl) ?_
  refine lv_iload_n hx hb dL_law_1215 rfl (lv_at hl 0 rfl) ?_
  refine lv_iconst (v := 2) hx hb dL_law_1216 (by decide) ?_
  refine q_iadd hx hb dL_law_1217 (fun x5 ex5 => ?_)
  obtain rfl : x5 = 2 := by rw [ex5]; decide
  refine va_sld hx hb hX hbl hbA hS (i := 2) (v_in (rg_k (by decide) : rg 2 2 2) (by decide)) dL_law_1218 ?_
  refine r_Vi (As := [.int (xs (Int32.toNatClampNeg 1)), .int (xs (Int32.toNatClampNeg 2))]) (rest := [.int (-1000000)]) X hT hS (k_X9_share hRM (xs (Int32.toNatClampNeg 1)) (xs (Int32.toNatClampNeg 2))) mk_X9_share gm_1898 rfl rfl (by decide) hd_X9_share ⟨rfl, rfl⟩ ⟨Nat.le_of_ble_eq_true rfl, Nat.le_of_ble_eq_true rfl⟩ hl.1 rfl (Nat.le_of_ble_eq_true rfl) dL_law_1219 ⟨Nat.le_refl _, Nat.le_refl _⟩ (fun r6 i6 g6 H locs hq hT hS => ?_)
  obtain ⟨hR6, rfl⟩ := hq
  refine lv_icmp_eq (tgt := 2197) hx hb dL_law_1222 (by decide) (fun c7 => ?_) (fun c7 => (x_ne (rg_k (by decide) : rg (-1000000) (-1000000) (-1000000)) (rg_k (by decide) : rg (-1000000) (-1000000) (-1000000)) (i_ne c7) (by decide)).elim)
  exact hE _ _ _ hS (lv_sub hl [0, 1, 2, 3] rfl)

set_option maxRecDepth 100000 in
set_option maxHeartbeats 4000000 in
theorem law_41 {p : Program} {l : Launch} {e : Env} {s : State} {m : MethodId} {below : List Frame} {meth : Method} {c : Code} {D : va_G} {cz : Nat → ClassId} {h : Nat → Nat} {i : Nat → Nat → Int32} {g : Nat → Nat → Int64} {b : Nat} {xs : Nat → Int32} {H : Heap} {locs : List Loc} {ls : Array Slot} {Q : State → Prop} (X : Cxt p s m c #[Value.ref b] cL_law 4 "UncutTaleLaw" D cz) (hRF : Rg rF i) (hRL : Rg rL i) (hRM : Rg rM i) (hRN : Rg rN i) (hX : va_X b 6 xs s s.heap) (hbl : b < s.heap.size) (hbA : ¬ hA h b) (hT : TH D h cz i g H) (hS : va_S (hA h) s.heap H locs) (hl : lv_has ls 4 [(3, .int 0), (2, .ref (h 96)), (1, .ref (h 0)), (0, .ref b)]) (hE : ∀ (H : Heap) (locs : List Loc) (ls : Array Slot), va_S (hA h) s.heap H locs → lv_has ls 4 [(3, .int 0), (2, .ref (h 96)), (1, .ref (h 0)), (0, .ref b)] → W p l e room_1 s m #[Value.ref b] below meth c H locs 600000 7302250 Q (F0 m 2197 ls [])) : W p l e room_1 s m #[Value.ref b] below meth c H locs 600000 7302250 Q (F0 m 1227 ls []) := by
  have hx := X.1
  have hb := X.2.1
  refine lv_aload_n hx hb dL_law_1227 rfl (lv_at hl 2 rfl) ?_
  refine lv_aload_n hx hb dL_law_1228 rfl (lv_at hl 3 rfl) ?_
  refine lv_iload_n hx hb dL_law_1229 rfl (lv_at hl 0 rfl) ?_
  refine lv_iconst (v := 1) hx hb dL_law_1230 (by decide) ?_
  refine q_iadd hx hb dL_law_1231 (fun x1 ex1 => ?_)
  obtain rfl : x1 = 1 := by rw [ex1]; decide
  refine va_sld hx hb hX hbl hbA hS (i := 1) (v_in (rg_k (by decide) : rg 1 1 1) (by decide)) dL_law_1232 ?_
  refine r_Vi (As := [.int (xs (Int32.toNatClampNeg 1))]) (rest := []) X hT hS (k_X8_plan hRF (xs (Int32.toNatClampNeg 1))) mk_X8_plan gm_1004 rfl rfl (by decide) hd_X8_plan ⟨rfl, rfl⟩ ⟨Nat.le_of_ble_eq_true rfl, Nat.le_of_ble_eq_true rfl⟩ hl.1 rfl (Nat.le_of_ble_eq_true rfl) dL_law_1233 ⟨Nat.le_refl _, Nat.le_refl _⟩ (fun r2 i2 g2 H locs hq hT hS => ?_)
  obtain ⟨eh2, rfl⟩ := hq
  rw [(Prod.mk.inj eh2).1, (Prod.mk.inj eh2).2] at hT
  refine lv_aload_n hx hb dL_law_1236 rfl (lv_at hl 1 rfl) ?_
  refine lv_aload_n hx hb dL_law_1237 rfl (lv_at hl 3 rfl) ?_
  refine lv_iload_n hx hb dL_law_1238 rfl (lv_at hl 0 rfl) ?_
  refine lv_iconst (v := 1) hx hb dL_law_1239 (by decide) ?_
  refine q_iadd hx hb dL_law_1240 (fun x3 ex3 => ?_)
  obtain rfl : x3 = 1 := by rw [ex3]; decide
  refine va_sld hx hb hX hbl hbA hS (i := 1) (v_in (rg_k (by decide) : rg 1 1 1) (by decide)) dL_law_1241 ?_
  refine r_Vi (As := [.int (xs (Int32.toNatClampNeg 1))]) (rest := [.int (-2)]) X hT hS (k_X9_plan hRM (xs (Int32.toNatClampNeg 1))) mk_X9_plan gm_1915 rfl rfl (by decide) hd_X9_plan ⟨rfl, rfl⟩ ⟨Nat.le_of_ble_eq_true rfl, Nat.le_of_ble_eq_true rfl⟩ hl.1 rfl (Nat.le_of_ble_eq_true rfl) dL_law_1242 ⟨Nat.le_refl _, Nat.le_refl _⟩ (fun r4 i4 g4 H locs hq hT hS => ?_)
  obtain ⟨hR4, rfl⟩ := hq
  refine lv_icmp_eq (tgt := 2197) hx hb dL_law_1245 (by decide) (fun c5 => ?_) (fun c5 => (x_ne (rg_k (by decide) : rg (-2) (-2) (-2)) (rg_k (by decide) : rg (-2) (-2) (-2)) (i_ne c5) (by decide)).elim)
  exact hE _ _ _ hS (lv_sub hl [0, 1, 2, 3] rfl)

set_option maxRecDepth 100000 in
set_option maxHeartbeats 4000000 in
theorem law_42 {p : Program} {l : Launch} {e : Env} {s : State} {m : MethodId} {below : List Frame} {meth : Method} {c : Code} {D : va_G} {cz : Nat → ClassId} {h : Nat → Nat} {i : Nat → Nat → Int32} {g : Nat → Nat → Int64} {b : Nat} {xs : Nat → Int32} {H : Heap} {locs : List Loc} {ls : Array Slot} {Q : State → Prop} (X : Cxt p s m c #[Value.ref b] cL_law 4 "UncutTaleLaw" D cz) (hRF : Rg rF i) (hRL : Rg rL i) (hRM : Rg rM i) (hRN : Rg rN i) (hX : va_X b 6 xs s s.heap) (hbl : b < s.heap.size) (hbA : ¬ hA h b) (hT : TH D h cz i g H) (hS : va_S (hA h) s.heap H locs) (hl : lv_has ls 4 [(3, .int 0), (2, .ref (h 96)), (1, .ref (h 0)), (0, .ref b)]) (hE : ∀ (H : Heap) (locs : List Loc) (ls : Array Slot), va_S (hA h) s.heap H locs → lv_has ls 4 [(3, .int 0), (2, .ref (h 96)), (1, .ref (h 0)), (0, .ref b)] → W p l e room_1 s m #[Value.ref b] below meth c H locs 600000 7302250 Q (F0 m 2197 ls [])) : W p l e room_1 s m #[Value.ref b] below meth c H locs 600000 7302250 Q (F0 m 1250 ls []) := by
  have hx := X.1
  have hb := X.2.1
  refine lv_aload_n hx hb dL_law_1250 rfl (lv_at hl 2 rfl) ?_
  refine lv_aload_n hx hb dL_law_1251 rfl (lv_at hl 3 rfl) ?_
  refine lv_iload_n hx hb dL_law_1252 rfl (lv_at hl 0 rfl) ?_
  refine lv_iconst (v := 1) hx hb dL_law_1253 (by decide) ?_
  refine q_iadd hx hb dL_law_1254 (fun x1 ex1 => ?_)
  obtain rfl : x1 = 1 := by rw [ex1]; decide
  refine va_sld hx hb hX hbl hbA hS (i := 1) (v_in (rg_k (by decide) : rg 1 1 1) (by decide)) dL_law_1255 ?_
  refine lv_aload_n hx hb dL_law_1256 rfl (lv_at hl 3 rfl) ?_
  refine lv_iload_n hx hb dL_law_1257 rfl (lv_at hl 0 rfl) ?_
  refine lv_iconst (v := 2) hx hb dL_law_1258 (by decide) ?_
  refine q_iadd hx hb dL_law_1259 (fun x2 ex2 => ?_)
  obtain rfl : x2 = 2 := by rw [ex2]; decide
  refine va_sld hx hb hX hbl hbA hS (i := 2) (v_in (rg_k (by decide) : rg 2 2 2) (by decide)) dL_law_1260 ?_
  refine r_Vi (As := [.int (xs (Int32.toNatClampNeg 1)), .int (xs (Int32.toNatClampNeg 2))]) (rest := []) X hT hS (k_X8_planned hRF (xs (Int32.toNatClampNeg 1)) (xs (Int32.toNatClampNeg 2))) mk_X8_planned gm_1036 rfl rfl (by decide) hd_X8_planned ⟨rfl, rfl⟩ ⟨Nat.le_of_ble_eq_true rfl, Nat.le_of_ble_eq_true rfl⟩ hl.1 rfl (Nat.le_of_ble_eq_true rfl) dL_law_1261 ⟨Nat.le_refl _, Nat.le_refl _⟩ (fun r3 i3 g3 H locs hq hT hS => ?_)
  obtain ⟨eh3, rfl⟩ := hq
  rw [(Prod.mk.inj eh3).1, (Prod.mk.inj eh3).2] at hT
  refine lv_aload_n hx hb dL_law_1264 rfl (lv_at hl 1 rfl) ?_
  refine lv_aload_n hx hb dL_law_1265 rfl (lv_at hl 3 rfl) ?_
  refine lv_iload_n hx hb dL_law_1266 rfl (lv_at hl 0 rfl) ?_
  refine lv_iconst (v := 1) hx hb dL_law_1267 (by decide) ?_
  refine q_iadd hx hb dL_law_1268 (fun x4 ex4 => ?_)
  obtain rfl : x4 = 1 := by rw [ex4]; decide
  refine va_sld hx hb hX hbl hbA hS (i := 1) (v_in (rg_k (by decide) : rg 1 1 1) (by decide)) dL_law_1269 ?_
  refine lv_aload_n hx hb dL_law_1270 rfl (lv_at hl 3 rfl) ?_
  refine lv_iload_n hx hb dL_law_1271 rfl (lv_at hl 0 rfl) ?_
  refine lv_iconst (v := 2) hx hb dL_law_1272 (by decide) ?_
  refine q_iadd hx hb dL_law_1273 (fun x5 ex5 => ?_)
  obtain rfl : x5 = 2 := by rw [ex5]; decide
  refine va_sld hx hb hX hbl hbA hS (i := 2) (v_in (rg_k (by decide) : rg 2 2 2) (by decide)) dL_law_1274 ?_
  refine r_Vi (As := [.int (xs (Int32.toNatClampNeg 1)), .int (xs (Int32.toNatClampNeg 2))]) (rest := [.int (-2)]) X hT hS (k_X9_planned hRM (xs (Int32.toNatClampNeg 1)) (xs (Int32.toNatClampNeg 2))) mk_X9_planned gm_1935 rfl rfl (by decide) hd_X9_planned ⟨rfl, rfl⟩ ⟨Nat.le_of_ble_eq_true rfl, Nat.le_of_ble_eq_true rfl⟩ hl.1 rfl (Nat.le_of_ble_eq_true rfl) dL_law_1275 ⟨Nat.le_refl _, Nat.le_refl _⟩ (fun r6 i6 g6 H locs hq hT hS => ?_)
  obtain ⟨hR6, rfl⟩ := hq
  refine lv_icmp_eq (tgt := 2197) hx hb dL_law_1278 (by decide) (fun c7 => ?_) (fun c7 => (x_ne (rg_k (by decide) : rg (-2) (-2) (-2)) (rg_k (by decide) : rg (-2) (-2) (-2)) (i_ne c7) (by decide)).elim)
  exact hE _ _ _ hS (lv_sub hl [0, 1, 2, 3] rfl)

set_option maxRecDepth 100000 in
set_option maxHeartbeats 4000000 in
theorem law_43 {p : Program} {l : Launch} {e : Env} {s : State} {m : MethodId} {below : List Frame} {meth : Method} {c : Code} {D : va_G} {cz : Nat → ClassId} {h : Nat → Nat} {i : Nat → Nat → Int32} {g : Nat → Nat → Int64} {b : Nat} {xs : Nat → Int32} {H : Heap} {locs : List Loc} {ls : Array Slot} {Q : State → Prop} (X : Cxt p s m c #[Value.ref b] cL_law 4 "UncutTaleLaw" D cz) (hRF : Rg rF i) (hRL : Rg rL i) (hRM : Rg rM i) (hRN : Rg rN i) (hX : va_X b 6 xs s s.heap) (hbl : b < s.heap.size) (hbA : ¬ hA h b) (hT : TH D h cz i g H) (hS : va_S (hA h) s.heap H locs) (hl : lv_has ls 4 [(3, .int 0), (2, .ref (h 96)), (1, .ref (h 0)), (0, .ref b)]) (hE : ∀ (H : Heap) (locs : List Loc) (ls : Array Slot), va_S (hA h) s.heap H locs → lv_has ls 4 [(3, .int 0), (2, .ref (h 96)), (1, .ref (h 0)), (0, .ref b)] → W p l e room_1 s m #[Value.ref b] below meth c H locs 600000 7302250 Q (F0 m 2197 ls [])) : W p l e room_1 s m #[Value.ref b] below meth c H locs 600000 7302250 Q (F0 m 1283 ls []) := by
  have hx := X.1
  have hb := X.2.1
  refine lv_aload_n hx hb dL_law_1283 rfl (lv_at hl 2 rfl) ?_
  refine lv_aload_n hx hb dL_law_1284 rfl (lv_at hl 3 rfl) ?_
  refine lv_iload_n hx hb dL_law_1285 rfl (lv_at hl 0 rfl) ?_
  refine lv_iconst (v := 1) hx hb dL_law_1286 (by decide) ?_
  refine q_iadd hx hb dL_law_1287 (fun x1 ex1 => ?_)
  obtain rfl : x1 = 1 := by rw [ex1]; decide
  refine va_sld hx hb hX hbl hbA hS (i := 1) (v_in (rg_k (by decide) : rg 1 1 1) (by decide)) dL_law_1288 ?_
  refine r_Vi (As := [.int (xs (Int32.toNatClampNeg 1))]) (rest := []) X hT hS (k_X8_plans hRF (xs (Int32.toNatClampNeg 1))) mk_X8_plans gm_1040 rfl rfl (by decide) hd_X8_plans ⟨rfl, rfl⟩ ⟨Nat.le_of_ble_eq_true rfl, Nat.le_of_ble_eq_true rfl⟩ hl.1 rfl (Nat.le_of_ble_eq_true rfl) dL_law_1289 ⟨Nat.le_refl _, Nat.le_refl _⟩ (fun r2 i2 g2 H locs hq hT hS => ?_)
  obtain ⟨eh2, rfl⟩ := hq
  rw [(Prod.mk.inj eh2).1, (Prod.mk.inj eh2).2] at hT
  refine lv_aload_n hx hb dL_law_1292 rfl (lv_at hl 1 rfl) ?_
  refine lv_aload_n hx hb dL_law_1293 rfl (lv_at hl 3 rfl) ?_
  refine lv_iload_n hx hb dL_law_1294 rfl (lv_at hl 0 rfl) ?_
  refine lv_iconst (v := 1) hx hb dL_law_1295 (by decide) ?_
  refine q_iadd hx hb dL_law_1296 (fun x3 ex3 => ?_)
  obtain rfl : x3 = 1 := by rw [ex3]; decide
  refine va_sld hx hb hX hbl hbA hS (i := 1) (v_in (rg_k (by decide) : rg 1 1 1) (by decide)) dL_law_1297 ?_
  refine r_Vi (As := [.int (xs (Int32.toNatClampNeg 1))]) (rest := [.int (-2)]) X hT hS (k_X9_plans hRM (xs (Int32.toNatClampNeg 1))) mk_X9_plans gm_1939 rfl rfl (by decide) hd_X9_plans ⟨rfl, rfl⟩ ⟨Nat.le_of_ble_eq_true rfl, Nat.le_of_ble_eq_true rfl⟩ hl.1 rfl (Nat.le_of_ble_eq_true rfl) dL_law_1298 ⟨Nat.le_refl _, Nat.le_refl _⟩ (fun r4 i4 g4 H locs hq hT hS => ?_)
  obtain ⟨hR4, rfl⟩ := hq
  refine lv_icmp_eq (tgt := 2197) hx hb dL_law_1301 (by decide) (fun c5 => ?_) (fun c5 => (x_ne (rg_k (by decide) : rg (-2) (-2) (-2)) (rg_k (by decide) : rg (-2) (-2) (-2)) (i_ne c5) (by decide)).elim)
  exact hE _ _ _ hS (lv_sub hl [0, 1, 2, 3] rfl)

set_option maxRecDepth 100000 in
set_option maxHeartbeats 4000000 in
theorem law_44 {p : Program} {l : Launch} {e : Env} {s : State} {m : MethodId} {below : List Frame} {meth : Method} {c : Code} {D : va_G} {cz : Nat → ClassId} {h : Nat → Nat} {i : Nat → Nat → Int32} {g : Nat → Nat → Int64} {b : Nat} {xs : Nat → Int32} {H : Heap} {locs : List Loc} {ls : Array Slot} {Q : State → Prop} (X : Cxt p s m c #[Value.ref b] cL_law 4 "UncutTaleLaw" D cz) (hRF : Rg rF i) (hRL : Rg rL i) (hRM : Rg rM i) (hRN : Rg rN i) (hX : va_X b 6 xs s s.heap) (hbl : b < s.heap.size) (hbA : ¬ hA h b) (hT : TH D h cz i g H) (hS : va_S (hA h) s.heap H locs) (hl : lv_has ls 4 [(3, .int 0), (2, .ref (h 96)), (1, .ref (h 0)), (0, .ref b)]) (hE : ∀ (H : Heap) (locs : List Loc) (ls : Array Slot), va_S (hA h) s.heap H locs → lv_has ls 4 [(3, .int 0), (2, .ref (h 96)), (1, .ref (h 0)), (0, .ref b)] → W p l e room_1 s m #[Value.ref b] below meth c H locs 600000 7302250 Q (F0 m 2197 ls [])) : W p l e room_1 s m #[Value.ref b] below meth c H locs 600000 7302250 Q (F0 m 1306 ls []) := by
  have hx := X.1
  have hb := X.2.1
  refine lv_aload_n hx hb dL_law_1306 rfl (lv_at hl 2 rfl) ?_
  refine lv_aload_n hx hb dL_law_1307 rfl (lv_at hl 3 rfl) ?_
  refine lv_iload_n hx hb dL_law_1308 rfl (lv_at hl 0 rfl) ?_
  refine lv_iconst (v := 1) hx hb dL_law_1309 (by decide) ?_
  refine q_iadd hx hb dL_law_1310 (fun x1 ex1 => ?_)
  obtain rfl : x1 = 1 := by rw [ex1]; decide
  refine va_sld hx hb hX hbl hbA hS (i := 1) (v_in (rg_k (by decide) : rg 1 1 1) (by decide)) dL_law_1311 ?_
  refine lv_aload_n hx hb dL_law_1312 rfl (lv_at hl 3 rfl) ?_
  refine lv_iload_n hx hb dL_law_1313 rfl (lv_at hl 0 rfl) ?_
  refine lv_iconst (v := 2) hx hb dL_law_1314 (by decide) ?_
  refine q_iadd hx hb dL_law_1315 (fun x2 ex2 => ?_)
  obtain rfl : x2 = 2 := by rw [ex2]; decide
  refine va_sld hx hb hX hbl hbA hS (i := 2) (v_in (rg_k (by decide) : rg 2 2 2) (by decide)) dL_law_1316 ?_
  refine r_Vi (As := [.int (xs (Int32.toNatClampNeg 1)), .int (xs (Int32.toNatClampNeg 2))]) (rest := []) X hT hS (k_X8_stiffs hRF (xs (Int32.toNatClampNeg 1)) (xs (Int32.toNatClampNeg 2))) mk_X8_stiffs gm_1044 rfl rfl (by decide) hd_X8_stiffs ⟨rfl, rfl⟩ ⟨Nat.le_of_ble_eq_true rfl, Nat.le_of_ble_eq_true rfl⟩ hl.1 rfl (Nat.le_of_ble_eq_true rfl) dL_law_1317 ⟨Nat.le_refl _, Nat.le_refl _⟩ (fun r3 i3 g3 H locs hq hT hS => ?_)
  obtain ⟨eh3, rfl⟩ := hq
  rw [(Prod.mk.inj eh3).1, (Prod.mk.inj eh3).2] at hT
  refine lv_aload_n hx hb dL_law_1320 rfl (lv_at hl 1 rfl) ?_
  refine lv_aload_n hx hb dL_law_1321 rfl (lv_at hl 3 rfl) ?_
  refine lv_iload_n hx hb dL_law_1322 rfl (lv_at hl 0 rfl) ?_
  refine lv_iconst (v := 1) hx hb dL_law_1323 (by decide) ?_
  refine q_iadd hx hb dL_law_1324 (fun x4 ex4 => ?_)
  obtain rfl : x4 = 1 := by rw [ex4]; decide
  refine va_sld hx hb hX hbl hbA hS (i := 1) (v_in (rg_k (by decide) : rg 1 1 1) (by decide)) dL_law_1325 ?_
  refine lv_aload_n hx hb dL_law_1326 rfl (lv_at hl 3 rfl) ?_
  refine lv_iload_n hx hb dL_law_1327 rfl (lv_at hl 0 rfl) ?_
  refine lv_iconst (v := 2) hx hb dL_law_1328 (by decide) ?_
  refine q_iadd hx hb dL_law_1329 (fun x5 ex5 => ?_)
  obtain rfl : x5 = 2 := by rw [ex5]; decide
  refine va_sld hx hb hX hbl hbA hS (i := 2) (v_in (rg_k (by decide) : rg 2 2 2) (by decide)) dL_law_1330 ?_
  refine r_Vi (As := [.int (xs (Int32.toNatClampNeg 1)), .int (xs (Int32.toNatClampNeg 2))]) (rest := [.int (-2)]) X hT hS (k_X9_stiffs hRM (xs (Int32.toNatClampNeg 1)) (xs (Int32.toNatClampNeg 2))) mk_X9_stiffs gm_1943 rfl rfl (by decide) hd_X9_stiffs ⟨rfl, rfl⟩ ⟨Nat.le_of_ble_eq_true rfl, Nat.le_of_ble_eq_true rfl⟩ hl.1 rfl (Nat.le_of_ble_eq_true rfl) dL_law_1331 ⟨Nat.le_refl _, Nat.le_refl _⟩ (fun r6 i6 g6 H locs hq hT hS => ?_)
  obtain ⟨hR6, rfl⟩ := hq
  refine lv_icmp_eq (tgt := 2197) hx hb dL_law_1334 (by decide) (fun c7 => ?_) (fun c7 => (x_ne (rg_k (by decide) : rg (-2) (-2) (-2)) (rg_k (by decide) : rg (-2) (-2) (-2)) (i_ne c7) (by decide)).elim)
  exact hE _ _ _ hS (lv_sub hl [0, 1, 2, 3] rfl)

set_option maxRecDepth 100000 in
set_option maxHeartbeats 4000000 in
theorem law_45 {p : Program} {l : Launch} {e : Env} {s : State} {m : MethodId} {below : List Frame} {meth : Method} {c : Code} {D : va_G} {cz : Nat → ClassId} {h : Nat → Nat} {i : Nat → Nat → Int32} {g : Nat → Nat → Int64} {b : Nat} {xs : Nat → Int32} {H : Heap} {locs : List Loc} {ls : Array Slot} {Q : State → Prop} (X : Cxt p s m c #[Value.ref b] cL_law 4 "UncutTaleLaw" D cz) (hRF : Rg rF i) (hRL : Rg rL i) (hRM : Rg rM i) (hRN : Rg rN i) (hX : va_X b 6 xs s s.heap) (hbl : b < s.heap.size) (hbA : ¬ hA h b) (hT : TH D h cz i g H) (hS : va_S (hA h) s.heap H locs) (hl : lv_has ls 4 [(3, .int 0), (2, .ref (h 96)), (1, .ref (h 0)), (0, .ref b)]) (hE : ∀ (H : Heap) (locs : List Loc) (ls : Array Slot), va_S (hA h) s.heap H locs → lv_has ls 4 [(3, .int 0), (2, .ref (h 96)), (1, .ref (h 0)), (0, .ref b)] → W p l e room_1 s m #[Value.ref b] below meth c H locs 600000 7302250 Q (F0 m 2197 ls [])) : W p l e room_1 s m #[Value.ref b] below meth c H locs 600000 7302250 Q (F0 m 1339 ls []) := by
  have hx := X.1
  have hb := X.2.1
  refine lv_aload_n hx hb dL_law_1339 rfl (lv_at hl 2 rfl) ?_
  refine lv_aload_n hx hb dL_law_1340 rfl (lv_at hl 3 rfl) ?_
  refine lv_iload_n hx hb dL_law_1341 rfl (lv_at hl 0 rfl) ?_
  refine lv_iconst (v := 1) hx hb dL_law_1342 (by decide) ?_
  refine q_iadd hx hb dL_law_1343 (fun x1 ex1 => ?_)
  obtain rfl : x1 = 1 := by rw [ex1]; decide
  refine va_sld hx hb hX hbl hbA hS (i := 1) (v_in (rg_k (by decide) : rg 1 1 1) (by decide)) dL_law_1344 ?_
  refine lv_aload_n hx hb dL_law_1345 rfl (lv_at hl 3 rfl) ?_
  refine lv_iload_n hx hb dL_law_1346 rfl (lv_at hl 0 rfl) ?_
  refine lv_iconst (v := 2) hx hb dL_law_1347 (by decide) ?_
  refine q_iadd hx hb dL_law_1348 (fun x2 ex2 => ?_)
  obtain rfl : x2 = 2 := by rw [ex2]; decide
  refine va_sld hx hb hX hbl hbA hS (i := 2) (v_in (rg_k (by decide) : rg 2 2 2) (by decide)) dL_law_1349 ?_
  refine r_Vi (As := [.int (xs (Int32.toNatClampNeg 1)), .int (xs (Int32.toNatClampNeg 2))]) (rest := []) X hT hS (k_X8_low hRF (xs (Int32.toNatClampNeg 1)) (xs (Int32.toNatClampNeg 2))) mk_X8_low gm_1088 rfl rfl (by decide) hd_X8_low ⟨rfl, rfl⟩ ⟨Nat.le_of_ble_eq_true rfl, Nat.le_of_ble_eq_true rfl⟩ hl.1 rfl (Nat.le_of_ble_eq_true rfl) dL_law_1350 ⟨Nat.le_refl _, Nat.le_refl _⟩ (fun r3 i3 g3 H locs hq hT hS => ?_)
  obtain ⟨eh3, rfl⟩ := hq
  rw [(Prod.mk.inj eh3).1, (Prod.mk.inj eh3).2] at hT
  refine lv_aload_n hx hb dL_law_1353 rfl (lv_at hl 1 rfl) ?_
  refine lv_aload_n hx hb dL_law_1354 rfl (lv_at hl 3 rfl) ?_
  refine lv_iload_n hx hb dL_law_1355 rfl (lv_at hl 0 rfl) ?_
  refine lv_iconst (v := 1) hx hb dL_law_1356 (by decide) ?_
  refine q_iadd hx hb dL_law_1357 (fun x4 ex4 => ?_)
  obtain rfl : x4 = 1 := by rw [ex4]; decide
  refine va_sld hx hb hX hbl hbA hS (i := 1) (v_in (rg_k (by decide) : rg 1 1 1) (by decide)) dL_law_1358 ?_
  refine lv_aload_n hx hb dL_law_1359 rfl (lv_at hl 3 rfl) ?_
  refine lv_iload_n hx hb dL_law_1360 rfl (lv_at hl 0 rfl) ?_
  refine lv_iconst (v := 2) hx hb dL_law_1361 (by decide) ?_
  refine q_iadd hx hb dL_law_1362 (fun x5 ex5 => ?_)
  obtain rfl : x5 = 2 := by rw [ex5]; decide
  refine va_sld hx hb hX hbl hbA hS (i := 2) (v_in (rg_k (by decide) : rg 2 2 2) (by decide)) dL_law_1363 ?_
  refine r_Vi (As := [.int (xs (Int32.toNatClampNeg 1)), .int (xs (Int32.toNatClampNeg 2))]) (rest := [.int (-2)]) X hT hS (k_X9_low hRM (xs (Int32.toNatClampNeg 1)) (xs (Int32.toNatClampNeg 2))) mk_X9_low gm_1960 rfl rfl (by decide) hd_X9_low ⟨rfl, rfl⟩ ⟨Nat.le_of_ble_eq_true rfl, Nat.le_of_ble_eq_true rfl⟩ hl.1 rfl (Nat.le_of_ble_eq_true rfl) dL_law_1364 ⟨Nat.le_refl _, Nat.le_refl _⟩ (fun r6 i6 g6 H locs hq hT hS => ?_)
  obtain ⟨hR6, rfl⟩ := hq
  refine lv_icmp_eq (tgt := 2197) hx hb dL_law_1367 (by decide) (fun c7 => ?_) (fun c7 => (x_ne (rg_k (by decide) : rg (-2) (-2) (-2)) (rg_k (by decide) : rg (-2) (-2) (-2)) (i_ne c7) (by decide)).elim)
  exact hE _ _ _ hS (lv_sub hl [0, 1, 2, 3] rfl)

set_option maxRecDepth 100000 in
set_option maxHeartbeats 4000000 in
theorem law_46 {p : Program} {l : Launch} {e : Env} {s : State} {m : MethodId} {below : List Frame} {meth : Method} {c : Code} {D : va_G} {cz : Nat → ClassId} {h : Nat → Nat} {i : Nat → Nat → Int32} {g : Nat → Nat → Int64} {b : Nat} {xs : Nat → Int32} {H : Heap} {locs : List Loc} {ls : Array Slot} {Q : State → Prop} (X : Cxt p s m c #[Value.ref b] cL_law 4 "UncutTaleLaw" D cz) (hRF : Rg rF i) (hRL : Rg rL i) (hRM : Rg rM i) (hRN : Rg rN i) (hX : va_X b 6 xs s s.heap) (hbl : b < s.heap.size) (hbA : ¬ hA h b) (hT : TH D h cz i g H) (hS : va_S (hA h) s.heap H locs) (hl : lv_has ls 4 [(3, .int 0), (2, .ref (h 96)), (1, .ref (h 0)), (0, .ref b)]) (hE : ∀ (H : Heap) (locs : List Loc) (ls : Array Slot), va_S (hA h) s.heap H locs → lv_has ls 4 [(3, .int 0), (2, .ref (h 96)), (1, .ref (h 0)), (0, .ref b)] → W p l e room_1 s m #[Value.ref b] below meth c H locs 600000 7302250 Q (F0 m 2197 ls [])) : W p l e room_1 s m #[Value.ref b] below meth c H locs 600000 7302250 Q (F0 m 1372 ls []) := by
  have hx := X.1
  have hb := X.2.1
  refine lv_aload_n hx hb dL_law_1372 rfl (lv_at hl 2 rfl) ?_
  refine lv_aload_n hx hb dL_law_1373 rfl (lv_at hl 3 rfl) ?_
  refine lv_iload_n hx hb dL_law_1374 rfl (lv_at hl 0 rfl) ?_
  refine lv_iconst (v := 1) hx hb dL_law_1375 (by decide) ?_
  refine q_iadd hx hb dL_law_1376 (fun x1 ex1 => ?_)
  obtain rfl : x1 = 1 := by rw [ex1]; decide
  refine va_sld hx hb hX hbl hbA hS (i := 1) (v_in (rg_k (by decide) : rg 1 1 1) (by decide)) dL_law_1377 ?_
  refine lv_aload_n hx hb dL_law_1378 rfl (lv_at hl 3 rfl) ?_
  refine lv_iload_n hx hb dL_law_1379 rfl (lv_at hl 0 rfl) ?_
  refine lv_iconst (v := 2) hx hb dL_law_1380 (by decide) ?_
  refine q_iadd hx hb dL_law_1381 (fun x2 ex2 => ?_)
  obtain rfl : x2 = 2 := by rw [ex2]; decide
  refine va_sld hx hb hX hbl hbA hS (i := 2) (v_in (rg_k (by decide) : rg 2 2 2) (by decide)) dL_law_1382 ?_
  refine r_Vi (As := [.int (xs (Int32.toNatClampNeg 1)), .int (xs (Int32.toNatClampNeg 2))]) (rest := []) X hT hS (k_X8_high hRF (xs (Int32.toNatClampNeg 1)) (xs (Int32.toNatClampNeg 2))) mk_X8_high gm_1096 rfl rfl (by decide) hd_X8_high ⟨rfl, rfl⟩ ⟨Nat.le_of_ble_eq_true rfl, Nat.le_of_ble_eq_true rfl⟩ hl.1 rfl (Nat.le_of_ble_eq_true rfl) dL_law_1383 ⟨Nat.le_refl _, Nat.le_refl _⟩ (fun r3 i3 g3 H locs hq hT hS => ?_)
  obtain ⟨eh3, rfl⟩ := hq
  rw [(Prod.mk.inj eh3).1, (Prod.mk.inj eh3).2] at hT
  refine lv_aload_n hx hb dL_law_1386 rfl (lv_at hl 1 rfl) ?_
  refine lv_aload_n hx hb dL_law_1387 rfl (lv_at hl 3 rfl) ?_
  refine lv_iload_n hx hb dL_law_1388 rfl (lv_at hl 0 rfl) ?_
  refine lv_iconst (v := 1) hx hb dL_law_1389 (by decide) ?_
  refine q_iadd hx hb dL_law_1390 (fun x4 ex4 => ?_)
  obtain rfl : x4 = 1 := by rw [ex4]; decide
  refine va_sld hx hb hX hbl hbA hS (i := 1) (v_in (rg_k (by decide) : rg 1 1 1) (by decide)) dL_law_1391 ?_
  refine lv_aload_n hx hb dL_law_1392 rfl (lv_at hl 3 rfl) ?_
  refine lv_iload_n hx hb dL_law_1393 rfl (lv_at hl 0 rfl) ?_
  refine lv_iconst (v := 2) hx hb dL_law_1394 (by decide) ?_
  refine q_iadd hx hb dL_law_1395 (fun x5 ex5 => ?_)
  obtain rfl : x5 = 2 := by rw [ex5]; decide
  refine va_sld hx hb hX hbl hbA hS (i := 2) (v_in (rg_k (by decide) : rg 2 2 2) (by decide)) dL_law_1396 ?_
  refine r_Vi (As := [.int (xs (Int32.toNatClampNeg 1)), .int (xs (Int32.toNatClampNeg 2))]) (rest := [.int (-2)]) X hT hS (k_X9_high hRM (xs (Int32.toNatClampNeg 1)) (xs (Int32.toNatClampNeg 2))) mk_X9_high gm_1964 rfl rfl (by decide) hd_X9_high ⟨rfl, rfl⟩ ⟨Nat.le_of_ble_eq_true rfl, Nat.le_of_ble_eq_true rfl⟩ hl.1 rfl (Nat.le_of_ble_eq_true rfl) dL_law_1397 ⟨Nat.le_refl _, Nat.le_refl _⟩ (fun r6 i6 g6 H locs hq hT hS => ?_)
  obtain ⟨hR6, rfl⟩ := hq
  refine lv_icmp_eq (tgt := 2197) hx hb dL_law_1400 (by decide) (fun c7 => ?_) (fun c7 => (x_ne (rg_k (by decide) : rg (-2) (-2) (-2)) (rg_k (by decide) : rg (-2) (-2) (-2)) (i_ne c7) (by decide)).elim)
  exact hE _ _ _ hS (lv_sub hl [0, 1, 2, 3] rfl)

set_option maxRecDepth 100000 in
set_option maxHeartbeats 4000000 in
theorem law_47 {p : Program} {l : Launch} {e : Env} {s : State} {m : MethodId} {below : List Frame} {meth : Method} {c : Code} {D : va_G} {cz : Nat → ClassId} {h : Nat → Nat} {i : Nat → Nat → Int32} {g : Nat → Nat → Int64} {b : Nat} {xs : Nat → Int32} {H : Heap} {locs : List Loc} {ls : Array Slot} {Q : State → Prop} (X : Cxt p s m c #[Value.ref b] cL_law 4 "UncutTaleLaw" D cz) (hRF : Rg rF i) (hRL : Rg rL i) (hRM : Rg rM i) (hRN : Rg rN i) (hX : va_X b 6 xs s s.heap) (hbl : b < s.heap.size) (hbA : ¬ hA h b) (hT : TH D h cz i g H) (hS : va_S (hA h) s.heap H locs) (hl : lv_has ls 4 [(3, .int 0), (2, .ref (h 96)), (1, .ref (h 0)), (0, .ref b)]) (hE : ∀ (H : Heap) (locs : List Loc) (ls : Array Slot), va_S (hA h) s.heap H locs → lv_has ls 4 [(3, .int 0), (2, .ref (h 96)), (1, .ref (h 0)), (0, .ref b)] → W p l e room_1 s m #[Value.ref b] below meth c H locs 600000 7302250 Q (F0 m 2197 ls [])) : W p l e room_1 s m #[Value.ref b] below meth c H locs 600000 7302250 Q (F0 m 1405 ls []) := by
  have hx := X.1
  have hb := X.2.1
  refine lv_aload_n hx hb dL_law_1405 rfl (lv_at hl 2 rfl) ?_
  refine lv_aload_n hx hb dL_law_1406 rfl (lv_at hl 3 rfl) ?_
  refine lv_iload_n hx hb dL_law_1407 rfl (lv_at hl 0 rfl) ?_
  refine lv_iconst (v := 1) hx hb dL_law_1408 (by decide) ?_
  refine q_iadd hx hb dL_law_1409 (fun x1 ex1 => ?_)
  obtain rfl : x1 = 1 := by rw [ex1]; decide
  refine va_sld hx hb hX hbl hbA hS (i := 1) (v_in (rg_k (by decide) : rg 1 1 1) (by decide)) dL_law_1410 ?_
  refine lv_aload_n hx hb dL_law_1411 rfl (lv_at hl 3 rfl) ?_
  refine lv_iload_n hx hb dL_law_1412 rfl (lv_at hl 0 rfl) ?_
  refine lv_iconst (v := 2) hx hb dL_law_1413 (by decide) ?_
  refine q_iadd hx hb dL_law_1414 (fun x2 ex2 => ?_)
  obtain rfl : x2 = 2 := by rw [ex2]; decide
  refine va_sld hx hb hX hbl hbA hS (i := 2) (v_in (rg_k (by decide) : rg 2 2 2) (by decide)) dL_law_1415 ?_
  refine r_Vi (As := [.int (xs (Int32.toNatClampNeg 1)), .int (xs (Int32.toNatClampNeg 2))]) (rest := []) X hT hS (k_X8_ask hRF (xs (Int32.toNatClampNeg 1)) (xs (Int32.toNatClampNeg 2))) mk_X8_ask gm_1104 rfl rfl (by decide) hd_X8_ask ⟨rfl, rfl⟩ ⟨Nat.le_of_ble_eq_true rfl, Nat.le_of_ble_eq_true rfl⟩ hl.1 rfl (Nat.le_of_ble_eq_true rfl) dL_law_1416 ⟨Nat.le_refl _, Nat.le_refl _⟩ (fun r3 i3 g3 H locs hq hT hS => ?_)
  obtain ⟨eh3, rfl⟩ := hq
  rw [(Prod.mk.inj eh3).1, (Prod.mk.inj eh3).2] at hT
  refine lv_aload_n hx hb dL_law_1419 rfl (lv_at hl 1 rfl) ?_
  refine lv_aload_n hx hb dL_law_1420 rfl (lv_at hl 3 rfl) ?_
  refine lv_iload_n hx hb dL_law_1421 rfl (lv_at hl 0 rfl) ?_
  refine lv_iconst (v := 1) hx hb dL_law_1422 (by decide) ?_
  refine q_iadd hx hb dL_law_1423 (fun x4 ex4 => ?_)
  obtain rfl : x4 = 1 := by rw [ex4]; decide
  refine va_sld hx hb hX hbl hbA hS (i := 1) (v_in (rg_k (by decide) : rg 1 1 1) (by decide)) dL_law_1424 ?_
  refine lv_aload_n hx hb dL_law_1425 rfl (lv_at hl 3 rfl) ?_
  refine lv_iload_n hx hb dL_law_1426 rfl (lv_at hl 0 rfl) ?_
  refine lv_iconst (v := 2) hx hb dL_law_1427 (by decide) ?_
  refine q_iadd hx hb dL_law_1428 (fun x5 ex5 => ?_)
  obtain rfl : x5 = 2 := by rw [ex5]; decide
  refine va_sld hx hb hX hbl hbA hS (i := 2) (v_in (rg_k (by decide) : rg 2 2 2) (by decide)) dL_law_1429 ?_
  refine r_Vi (As := [.int (xs (Int32.toNatClampNeg 1)), .int (xs (Int32.toNatClampNeg 2))]) (rest := [.int (-2)]) X hT hS (k_X9_ask hRM (xs (Int32.toNatClampNeg 1)) (xs (Int32.toNatClampNeg 2))) mk_X9_ask gm_1968 rfl rfl (by decide) hd_X9_ask ⟨rfl, rfl⟩ ⟨Nat.le_of_ble_eq_true rfl, Nat.le_of_ble_eq_true rfl⟩ hl.1 rfl (Nat.le_of_ble_eq_true rfl) dL_law_1430 ⟨Nat.le_refl _, Nat.le_refl _⟩ (fun r6 i6 g6 H locs hq hT hS => ?_)
  obtain ⟨hR6, rfl⟩ := hq
  refine lv_icmp_eq (tgt := 2197) hx hb dL_law_1433 (by decide) (fun c7 => ?_) (fun c7 => (x_ne (rg_k (by decide) : rg (-2) (-2) (-2)) (rg_k (by decide) : rg (-2) (-2) (-2)) (i_ne c7) (by decide)).elim)
  exact hE _ _ _ hS (lv_sub hl [0, 1, 2, 3] rfl)

set_option maxRecDepth 100000 in
set_option maxHeartbeats 4000000 in
theorem law_48 {p : Program} {l : Launch} {e : Env} {s : State} {m : MethodId} {below : List Frame} {meth : Method} {c : Code} {D : va_G} {cz : Nat → ClassId} {h : Nat → Nat} {i : Nat → Nat → Int32} {g : Nat → Nat → Int64} {b : Nat} {xs : Nat → Int32} {H : Heap} {locs : List Loc} {ls : Array Slot} {Q : State → Prop} (X : Cxt p s m c #[Value.ref b] cL_law 4 "UncutTaleLaw" D cz) (hRF : Rg rF i) (hRL : Rg rL i) (hRM : Rg rM i) (hRN : Rg rN i) (hX : va_X b 6 xs s s.heap) (hbl : b < s.heap.size) (hbA : ¬ hA h b) (hT : TH D h cz i g H) (hS : va_S (hA h) s.heap H locs) (hl : lv_has ls 4 [(3, .int 0), (2, .ref (h 96)), (1, .ref (h 0)), (0, .ref b)]) (hE : ∀ (H : Heap) (locs : List Loc) (ls : Array Slot), va_S (hA h) s.heap H locs → lv_has ls 4 [(3, .int 0), (2, .ref (h 96)), (1, .ref (h 0)), (0, .ref b)] → W p l e room_1 s m #[Value.ref b] below meth c H locs 600000 7302250 Q (F0 m 2197 ls [])) : W p l e room_1 s m #[Value.ref b] below meth c H locs 600000 7302250 Q (F0 m 1438 ls []) := by
  have hx := X.1
  have hb := X.2.1
  refine lv_aload_n hx hb dL_law_1438 rfl (lv_at hl 2 rfl) ?_
  refine lv_aload_n hx hb dL_law_1439 rfl (lv_at hl 3 rfl) ?_
  refine lv_iload_n hx hb dL_law_1440 rfl (lv_at hl 0 rfl) ?_
  refine lv_iconst (v := 1) hx hb dL_law_1441 (by decide) ?_
  refine q_iadd hx hb dL_law_1442 (fun x1 ex1 => ?_)
  obtain rfl : x1 = 1 := by rw [ex1]; decide
  refine va_sld hx hb hX hbl hbA hS (i := 1) (v_in (rg_k (by decide) : rg 1 1 1) (by decide)) dL_law_1443 ?_
  refine lv_aload_n hx hb dL_law_1444 rfl (lv_at hl 3 rfl) ?_
  refine lv_iload_n hx hb dL_law_1445 rfl (lv_at hl 0 rfl) ?_
  refine lv_iconst (v := 2) hx hb dL_law_1446 (by decide) ?_
  refine q_iadd hx hb dL_law_1447 (fun x2 ex2 => ?_)
  obtain rfl : x2 = 2 := by rw [ex2]; decide
  refine va_sld hx hb hX hbl hbA hS (i := 2) (v_in (rg_k (by decide) : rg 2 2 2) (by decide)) dL_law_1448 ?_
  refine r_Vi (As := [.int (xs (Int32.toNatClampNeg 1)), .int (xs (Int32.toNatClampNeg 2))]) (rest := []) X hT hS (k_X8_leaves hRF (xs (Int32.toNatClampNeg 1)) (xs (Int32.toNatClampNeg 2))) mk_X8_leaves gm_1123 rfl rfl (by decide) hd_X8_leaves ⟨rfl, rfl⟩ ⟨Nat.le_of_ble_eq_true rfl, Nat.le_of_ble_eq_true rfl⟩ hl.1 rfl (Nat.le_of_ble_eq_true rfl) dL_law_1449 ⟨Nat.le_refl _, Nat.le_refl _⟩ (fun r3 i3 g3 H locs hq hT hS => ?_)
  obtain ⟨eh3, rfl⟩ := hq
  rw [(Prod.mk.inj eh3).1, (Prod.mk.inj eh3).2] at hT
  refine lv_aload_n hx hb dL_law_1452 rfl (lv_at hl 1 rfl) ?_
  refine lv_aload_n hx hb dL_law_1453 rfl (lv_at hl 3 rfl) ?_
  refine lv_iload_n hx hb dL_law_1454 rfl (lv_at hl 0 rfl) ?_
  refine lv_iconst (v := 1) hx hb dL_law_1455 (by decide) ?_
  refine q_iadd hx hb dL_law_1456 (fun x4 ex4 => ?_)
  obtain rfl : x4 = 1 := by rw [ex4]; decide
  refine va_sld hx hb hX hbl hbA hS (i := 1) (v_in (rg_k (by decide) : rg 1 1 1) (by decide)) dL_law_1457 ?_
  refine lv_aload_n hx hb dL_law_1458 rfl (lv_at hl 3 rfl) ?_
  refine lv_iload_n hx hb dL_law_1459 rfl (lv_at hl 0 rfl) ?_
  refine lv_iconst (v := 2) hx hb dL_law_1460 (by decide) ?_
  refine q_iadd hx hb dL_law_1461 (fun x5 ex5 => ?_)
  obtain rfl : x5 = 2 := by rw [ex5]; decide
  refine va_sld hx hb hX hbl hbA hS (i := 2) (v_in (rg_k (by decide) : rg 2 2 2) (by decide)) dL_law_1462 ?_
  refine r_Vi (As := [.int (xs (Int32.toNatClampNeg 1)), .int (xs (Int32.toNatClampNeg 2))]) (rest := [.int (-2)]) X hT hS (k_X9_leaves hRM (xs (Int32.toNatClampNeg 1)) (xs (Int32.toNatClampNeg 2))) mk_X9_leaves gm_1972 rfl rfl (by decide) hd_X9_leaves ⟨rfl, rfl⟩ ⟨Nat.le_of_ble_eq_true rfl, Nat.le_of_ble_eq_true rfl⟩ hl.1 rfl (Nat.le_of_ble_eq_true rfl) dL_law_1463 ⟨Nat.le_refl _, Nat.le_refl _⟩ (fun r6 i6 g6 H locs hq hT hS => ?_)
  obtain ⟨hR6, rfl⟩ := hq
  refine lv_icmp_eq (tgt := 2197) hx hb dL_law_1466 (by decide) (fun c7 => ?_) (fun c7 => (x_ne (rg_k (by decide) : rg (-2) (-2) (-2)) (rg_k (by decide) : rg (-2) (-2) (-2)) (i_ne c7) (by decide)).elim)
  exact hE _ _ _ hS (lv_sub hl [0, 1, 2, 3] rfl)

set_option maxRecDepth 100000 in
set_option maxHeartbeats 4000000 in
theorem law_49 {p : Program} {l : Launch} {e : Env} {s : State} {m : MethodId} {below : List Frame} {meth : Method} {c : Code} {D : va_G} {cz : Nat → ClassId} {h : Nat → Nat} {i : Nat → Nat → Int32} {g : Nat → Nat → Int64} {b : Nat} {xs : Nat → Int32} {H : Heap} {locs : List Loc} {ls : Array Slot} {Q : State → Prop} (X : Cxt p s m c #[Value.ref b] cL_law 4 "UncutTaleLaw" D cz) (hRF : Rg rF i) (hRL : Rg rL i) (hRM : Rg rM i) (hRN : Rg rN i) (hX : va_X b 6 xs s s.heap) (hbl : b < s.heap.size) (hbA : ¬ hA h b) (hT : TH D h cz i g H) (hS : va_S (hA h) s.heap H locs) (hl : lv_has ls 4 [(3, .int 0), (2, .ref (h 96)), (1, .ref (h 0)), (0, .ref b)]) (hE : ∀ (H : Heap) (locs : List Loc) (ls : Array Slot), va_S (hA h) s.heap H locs → lv_has ls 4 [(3, .int 0), (2, .ref (h 96)), (1, .ref (h 0)), (0, .ref b)] → W p l e room_1 s m #[Value.ref b] below meth c H locs 600000 7302250 Q (F0 m 2197 ls [])) : W p l e room_1 s m #[Value.ref b] below meth c H locs 600000 7302250 Q (F0 m 1471 ls []) := by
  have hx := X.1
  have hb := X.2.1
  refine lv_aload_n hx hb dL_law_1471 rfl (lv_at hl 2 rfl) ?_
  refine lv_aload_n hx hb dL_law_1472 rfl (lv_at hl 3 rfl) ?_
  refine lv_iload_n hx hb dL_law_1473 rfl (lv_at hl 0 rfl) ?_
  refine lv_iconst (v := 1) hx hb dL_law_1474 (by decide) ?_
  refine q_iadd hx hb dL_law_1475 (fun x1 ex1 => ?_)
  obtain rfl : x1 = 1 := by rw [ex1]; decide
  refine va_sld hx hb hX hbl hbA hS (i := 1) (v_in (rg_k (by decide) : rg 1 1 1) (by decide)) dL_law_1476 ?_
  refine r_Vi (As := [.int (xs (Int32.toNatClampNeg 1))]) (rest := []) X hT hS (k_X8_laws hRF (xs (Int32.toNatClampNeg 1))) mk_X8_laws gm_1127 rfl rfl (by decide) hd_X8_laws ⟨rfl, rfl⟩ ⟨Nat.le_of_ble_eq_true rfl, Nat.le_of_ble_eq_true rfl⟩ hl.1 rfl (Nat.le_of_ble_eq_true rfl) dL_law_1477 ⟨Nat.le_refl _, Nat.le_refl _⟩ (fun r2 i2 g2 H locs hq hT hS => ?_)
  obtain ⟨eh2, rfl⟩ := hq
  rw [(Prod.mk.inj eh2).1, (Prod.mk.inj eh2).2] at hT
  refine lv_aload_n hx hb dL_law_1480 rfl (lv_at hl 1 rfl) ?_
  refine lv_aload_n hx hb dL_law_1481 rfl (lv_at hl 3 rfl) ?_
  refine lv_iload_n hx hb dL_law_1482 rfl (lv_at hl 0 rfl) ?_
  refine lv_iconst (v := 1) hx hb dL_law_1483 (by decide) ?_
  refine q_iadd hx hb dL_law_1484 (fun x3 ex3 => ?_)
  obtain rfl : x3 = 1 := by rw [ex3]; decide
  refine va_sld hx hb hX hbl hbA hS (i := 1) (v_in (rg_k (by decide) : rg 1 1 1) (by decide)) dL_law_1485 ?_
  refine r_Vi (As := [.int (xs (Int32.toNatClampNeg 1))]) (rest := [.int (-2)]) X hT hS (k_X9_laws hRM (xs (Int32.toNatClampNeg 1))) mk_X9_laws gm_1976 rfl rfl (by decide) hd_X9_laws ⟨rfl, rfl⟩ ⟨Nat.le_of_ble_eq_true rfl, Nat.le_of_ble_eq_true rfl⟩ hl.1 rfl (Nat.le_of_ble_eq_true rfl) dL_law_1486 ⟨Nat.le_refl _, Nat.le_refl _⟩ (fun r4 i4 g4 H locs hq hT hS => ?_)
  obtain ⟨hR4, rfl⟩ := hq
  refine lv_icmp_eq (tgt := 2197) hx hb dL_law_1489 (by decide) (fun c5 => ?_) (fun c5 => (x_ne (rg_k (by decide) : rg (-2) (-2) (-2)) (rg_k (by decide) : rg (-2) (-2) (-2)) (i_ne c5) (by decide)).elim)
  exact hE _ _ _ hS (lv_sub hl [0, 1, 2, 3] rfl)

set_option maxRecDepth 100000 in
set_option maxHeartbeats 4000000 in
theorem law_50 {p : Program} {l : Launch} {e : Env} {s : State} {m : MethodId} {below : List Frame} {meth : Method} {c : Code} {D : va_G} {cz : Nat → ClassId} {h : Nat → Nat} {i : Nat → Nat → Int32} {g : Nat → Nat → Int64} {b : Nat} {xs : Nat → Int32} {H : Heap} {locs : List Loc} {ls : Array Slot} {Q : State → Prop} (X : Cxt p s m c #[Value.ref b] cL_law 4 "UncutTaleLaw" D cz) (hRF : Rg rF i) (hRL : Rg rL i) (hRM : Rg rM i) (hRN : Rg rN i) (hX : va_X b 6 xs s s.heap) (hbl : b < s.heap.size) (hbA : ¬ hA h b) (hT : TH D h cz i g H) (hS : va_S (hA h) s.heap H locs) (hl : lv_has ls 4 [(3, .int 0), (2, .ref (h 96)), (1, .ref (h 0)), (0, .ref b)]) (hE : ∀ (H : Heap) (locs : List Loc) (ls : Array Slot), va_S (hA h) s.heap H locs → lv_has ls 4 [(3, .int 0), (2, .ref (h 96)), (1, .ref (h 0)), (0, .ref b)] → W p l e room_1 s m #[Value.ref b] below meth c H locs 600000 7302250 Q (F0 m 2197 ls [])) : W p l e room_1 s m #[Value.ref b] below meth c H locs 600000 7302250 Q (F0 m 1494 ls []) := by
  have hx := X.1
  have hb := X.2.1
  refine lv_aload_n hx hb dL_law_1494 rfl (lv_at hl 2 rfl) ?_
  refine lv_aload_n hx hb dL_law_1495 rfl (lv_at hl 3 rfl) ?_
  refine lv_iload_n hx hb dL_law_1496 rfl (lv_at hl 0 rfl) ?_
  refine lv_iconst (v := 1) hx hb dL_law_1497 (by decide) ?_
  refine q_iadd hx hb dL_law_1498 (fun x1 ex1 => ?_)
  obtain rfl : x1 = 1 := by rw [ex1]; decide
  refine va_sld hx hb hX hbl hbA hS (i := 1) (v_in (rg_k (by decide) : rg 1 1 1) (by decide)) dL_law_1499 ?_
  refine r_Vi (As := [.int (xs (Int32.toNatClampNeg 1))]) (rest := []) X hT hS (k_X8_by hRF (xs (Int32.toNatClampNeg 1))) mk_X8_by gm_1136 rfl rfl (by decide) hd_X8_by ⟨rfl, rfl⟩ ⟨Nat.le_of_ble_eq_true rfl, Nat.le_of_ble_eq_true rfl⟩ hl.1 rfl (Nat.le_of_ble_eq_true rfl) dL_law_1500 ⟨Nat.le_refl _, Nat.le_refl _⟩ (fun r2 i2 g2 H locs hq hT hS => ?_)
  obtain ⟨eh2, rfl⟩ := hq
  rw [(Prod.mk.inj eh2).1, (Prod.mk.inj eh2).2] at hT
  refine lv_aload_n hx hb dL_law_1503 rfl (lv_at hl 1 rfl) ?_
  refine lv_aload_n hx hb dL_law_1504 rfl (lv_at hl 3 rfl) ?_
  refine lv_iload_n hx hb dL_law_1505 rfl (lv_at hl 0 rfl) ?_
  refine lv_iconst (v := 1) hx hb dL_law_1506 (by decide) ?_
  refine q_iadd hx hb dL_law_1507 (fun x3 ex3 => ?_)
  obtain rfl : x3 = 1 := by rw [ex3]; decide
  refine va_sld hx hb hX hbl hbA hS (i := 1) (v_in (rg_k (by decide) : rg 1 1 1) (by decide)) dL_law_1508 ?_
  refine r_Vi (As := [.int (xs (Int32.toNatClampNeg 1))]) (rest := [.int (-2)]) X hT hS (k_X9_by hRM (xs (Int32.toNatClampNeg 1))) mk_X9_by gm_1984 rfl rfl (by decide) hd_X9_by ⟨rfl, rfl⟩ ⟨Nat.le_of_ble_eq_true rfl, Nat.le_of_ble_eq_true rfl⟩ hl.1 rfl (Nat.le_of_ble_eq_true rfl) dL_law_1509 ⟨Nat.le_refl _, Nat.le_refl _⟩ (fun r4 i4 g4 H locs hq hT hS => ?_)
  obtain ⟨hR4, rfl⟩ := hq
  refine lv_icmp_eq (tgt := 2197) hx hb dL_law_1512 (by decide) (fun c5 => ?_) (fun c5 => (x_ne (rg_k (by decide) : rg (-2) (-2) (-2)) (rg_k (by decide) : rg (-2) (-2) (-2)) (i_ne c5) (by decide)).elim)
  exact hE _ _ _ hS (lv_sub hl [0, 1, 2, 3] rfl)

set_option maxRecDepth 100000 in
set_option maxHeartbeats 4000000 in
theorem law_51 {p : Program} {l : Launch} {e : Env} {s : State} {m : MethodId} {below : List Frame} {meth : Method} {c : Code} {D : va_G} {cz : Nat → ClassId} {h : Nat → Nat} {i : Nat → Nat → Int32} {g : Nat → Nat → Int64} {b : Nat} {xs : Nat → Int32} {H : Heap} {locs : List Loc} {ls : Array Slot} {Q : State → Prop} (X : Cxt p s m c #[Value.ref b] cL_law 4 "UncutTaleLaw" D cz) (hRF : Rg rF i) (hRL : Rg rL i) (hRM : Rg rM i) (hRN : Rg rN i) (hX : va_X b 6 xs s s.heap) (hbl : b < s.heap.size) (hbA : ¬ hA h b) (hT : TH D h cz i g H) (hS : va_S (hA h) s.heap H locs) (hl : lv_has ls 4 [(3, .int 0), (2, .ref (h 96)), (1, .ref (h 0)), (0, .ref b)]) (hE : ∀ (H : Heap) (locs : List Loc) (ls : Array Slot), va_S (hA h) s.heap H locs → lv_has ls 4 [(3, .int 0), (2, .ref (h 96)), (1, .ref (h 0)), (0, .ref b)] → W p l e room_1 s m #[Value.ref b] below meth c H locs 600000 7302250 Q (F0 m 2197 ls [])) : W p l e room_1 s m #[Value.ref b] below meth c H locs 600000 7302250 Q (F0 m 1517 ls []) := by
  have hx := X.1
  have hb := X.2.1
  refine lv_aload_n hx hb dL_law_1517 rfl (lv_at hl 2 rfl) ?_
  refine r_Vi (As := []) (rest := []) X hT hS (k_X8_law hRF) mk_X8_law gm_1144 rfl rfl (by decide) hd_X8_law ⟨rfl, rfl⟩ ⟨Nat.le_of_ble_eq_true rfl, Nat.le_of_ble_eq_true rfl⟩ hl.1 rfl (Nat.le_of_ble_eq_true rfl) dL_law_1518 ⟨Nat.le_refl _, Nat.le_refl _⟩ (fun r1 i1 g1 H locs hq hT hS => ?_)
  obtain ⟨eh1, rfl⟩ := hq
  rw [(Prod.mk.inj eh1).1, (Prod.mk.inj eh1).2] at hT
  refine lv_aload_n hx hb dL_law_1521 rfl (lv_at hl 1 rfl) ?_
  refine r_Vi (As := []) (rest := [.int (-2)]) X hT hS (k_X9_law hRM) mk_X9_law gm_1988 rfl rfl (by decide) hd_X9_law ⟨rfl, rfl⟩ ⟨Nat.le_of_ble_eq_true rfl, Nat.le_of_ble_eq_true rfl⟩ hl.1 rfl (Nat.le_of_ble_eq_true rfl) dL_law_1522 ⟨Nat.le_refl _, Nat.le_refl _⟩ (fun r2 i2 g2 H locs hq hT hS => ?_)
  obtain ⟨hR2, rfl⟩ := hq
  refine lv_icmp_eq (tgt := 2197) hx hb dL_law_1525 (by decide) (fun c3 => ?_) (fun c3 => (x_ne (rg_k (by decide) : rg (-2) (-2) (-2)) (rg_k (by decide) : rg (-2) (-2) (-2)) (i_ne c3) (by decide)).elim)
  exact hE _ _ _ hS (lv_sub hl [0, 1, 2, 3] rfl)

set_option maxRecDepth 100000 in
set_option maxHeartbeats 4000000 in
theorem law_52 {p : Program} {l : Launch} {e : Env} {s : State} {m : MethodId} {below : List Frame} {meth : Method} {c : Code} {D : va_G} {cz : Nat → ClassId} {h : Nat → Nat} {i : Nat → Nat → Int32} {g : Nat → Nat → Int64} {b : Nat} {xs : Nat → Int32} {H : Heap} {locs : List Loc} {ls : Array Slot} {Q : State → Prop} (X : Cxt p s m c #[Value.ref b] cL_law 4 "UncutTaleLaw" D cz) (hRF : Rg rF i) (hRL : Rg rL i) (hRM : Rg rM i) (hRN : Rg rN i) (hX : va_X b 6 xs s s.heap) (hbl : b < s.heap.size) (hbA : ¬ hA h b) (hT : TH D h cz i g H) (hS : va_S (hA h) s.heap H locs) (hl : lv_has ls 4 [(3, .int 0), (2, .ref (h 96)), (1, .ref (h 0)), (0, .ref b)]) (hE : ∀ (H : Heap) (locs : List Loc) (ls : Array Slot), va_S (hA h) s.heap H locs → lv_has ls 4 [(3, .int 0), (2, .ref (h 96)), (1, .ref (h 0)), (0, .ref b)] → W p l e room_1 s m #[Value.ref b] below meth c H locs 600000 7302250 Q (F0 m 2197 ls [])) : W p l e room_1 s m #[Value.ref b] below meth c H locs 600000 7302250 Q (F0 m 1530 ls []) := by
  have hx := X.1
  have hb := X.2.1
  refine lv_aload_n hx hb dL_law_1530 rfl (lv_at hl 2 rfl) ?_
  refine r_Vi (As := []) (rest := []) X hT hS (k_X8_blunt hRF) mk_X8_blunt gm_1148 rfl rfl (by decide) hd_X8_blunt ⟨rfl, rfl⟩ ⟨Nat.le_of_ble_eq_true rfl, Nat.le_of_ble_eq_true rfl⟩ hl.1 rfl (Nat.le_of_ble_eq_true rfl) dL_law_1531 ⟨Nat.le_refl _, Nat.le_refl _⟩ (fun r1 i1 g1 H locs hq hT hS => ?_)
  obtain ⟨eh1, rfl⟩ := hq
  rw [(Prod.mk.inj eh1).1, (Prod.mk.inj eh1).2] at hT
  refine lv_aload_n hx hb dL_law_1534 rfl (lv_at hl 1 rfl) ?_
  refine r_Vi (As := []) (rest := [.int (-2)]) X hT hS (k_X9_blunt hRM) mk_X9_blunt gm_1992 rfl rfl (by decide) hd_X9_blunt ⟨rfl, rfl⟩ ⟨Nat.le_of_ble_eq_true rfl, Nat.le_of_ble_eq_true rfl⟩ hl.1 rfl (Nat.le_of_ble_eq_true rfl) dL_law_1535 ⟨Nat.le_refl _, Nat.le_refl _⟩ (fun r2 i2 g2 H locs hq hT hS => ?_)
  obtain ⟨hR2, rfl⟩ := hq
  refine lv_icmp_eq (tgt := 2197) hx hb dL_law_1538 (by decide) (fun c3 => ?_) (fun c3 => (x_ne (rg_k (by decide) : rg (-2) (-2) (-2)) (rg_k (by decide) : rg (-2) (-2) (-2)) (i_ne c3) (by decide)).elim)
  exact hE _ _ _ hS (lv_sub hl [0, 1, 2, 3] rfl)

set_option maxRecDepth 100000 in
set_option maxHeartbeats 4000000 in
theorem law_53 {p : Program} {l : Launch} {e : Env} {s : State} {m : MethodId} {below : List Frame} {meth : Method} {c : Code} {D : va_G} {cz : Nat → ClassId} {h : Nat → Nat} {i : Nat → Nat → Int32} {g : Nat → Nat → Int64} {b : Nat} {xs : Nat → Int32} {H : Heap} {locs : List Loc} {ls : Array Slot} {Q : State → Prop} (X : Cxt p s m c #[Value.ref b] cL_law 4 "UncutTaleLaw" D cz) (hRF : Rg rF i) (hRL : Rg rL i) (hRM : Rg rM i) (hRN : Rg rN i) (hX : va_X b 6 xs s s.heap) (hbl : b < s.heap.size) (hbA : ¬ hA h b) (hT : TH D h cz i g H) (hS : va_S (hA h) s.heap H locs) (hl : lv_has ls 4 [(3, .int 0), (2, .ref (h 96)), (1, .ref (h 0)), (0, .ref b)]) (hE : ∀ (H : Heap) (locs : List Loc) (ls : Array Slot), va_S (hA h) s.heap H locs → lv_has ls 4 [(3, .int 0), (2, .ref (h 96)), (1, .ref (h 0)), (0, .ref b)] → W p l e room_1 s m #[Value.ref b] below meth c H locs 600000 7302250 Q (F0 m 2197 ls [])) : W p l e room_1 s m #[Value.ref b] below meth c H locs 600000 7302250 Q (F0 m 1543 ls []) := by
  have hx := X.1
  have hb := X.2.1
  refine lv_aload_n hx hb dL_law_1543 rfl (lv_at hl 2 rfl) ?_
  refine r_Vi (As := []) (rest := []) X hT hS (k_X8_slit hRF) mk_X8_slit gm_1152 rfl rfl (by decide) hd_X8_slit ⟨rfl, rfl⟩ ⟨Nat.le_of_ble_eq_true rfl, Nat.le_of_ble_eq_true rfl⟩ hl.1 rfl (Nat.le_of_ble_eq_true rfl) dL_law_1544 ⟨Nat.le_refl _, Nat.le_refl _⟩ (fun r1 i1 g1 H locs hq hT hS => ?_)
  obtain ⟨eh1, rfl⟩ := hq
  rw [(Prod.mk.inj eh1).1, (Prod.mk.inj eh1).2] at hT
  refine lv_aload_n hx hb dL_law_1547 rfl (lv_at hl 1 rfl) ?_
  refine r_Vi (As := []) (rest := [.int (-2)]) X hT hS (k_X9_slit hRM) mk_X9_slit gm_1996 rfl rfl (by decide) hd_X9_slit ⟨rfl, rfl⟩ ⟨Nat.le_of_ble_eq_true rfl, Nat.le_of_ble_eq_true rfl⟩ hl.1 rfl (Nat.le_of_ble_eq_true rfl) dL_law_1548 ⟨Nat.le_refl _, Nat.le_refl _⟩ (fun r2 i2 g2 H locs hq hT hS => ?_)
  obtain ⟨hR2, rfl⟩ := hq
  refine lv_icmp_eq (tgt := 2197) hx hb dL_law_1551 (by decide) (fun c3 => ?_) (fun c3 => (x_ne (rg_k (by decide) : rg (-2) (-2) (-2)) (rg_k (by decide) : rg (-2) (-2) (-2)) (i_ne c3) (by decide)).elim)
  exact hE _ _ _ hS (lv_sub hl [0, 1, 2, 3] rfl)

set_option maxRecDepth 100000 in
set_option maxHeartbeats 4000000 in
theorem law_54 {p : Program} {l : Launch} {e : Env} {s : State} {m : MethodId} {below : List Frame} {meth : Method} {c : Code} {D : va_G} {cz : Nat → ClassId} {h : Nat → Nat} {i : Nat → Nat → Int32} {g : Nat → Nat → Int64} {b : Nat} {xs : Nat → Int32} {H : Heap} {locs : List Loc} {ls : Array Slot} {Q : State → Prop} (X : Cxt p s m c #[Value.ref b] cL_law 4 "UncutTaleLaw" D cz) (hRF : Rg rF i) (hRL : Rg rL i) (hRM : Rg rM i) (hRN : Rg rN i) (hX : va_X b 6 xs s s.heap) (hbl : b < s.heap.size) (hbA : ¬ hA h b) (hT : TH D h cz i g H) (hS : va_S (hA h) s.heap H locs) (hl : lv_has ls 4 [(3, .int 0), (2, .ref (h 96)), (1, .ref (h 0)), (0, .ref b)]) (hE : ∀ (H : Heap) (locs : List Loc) (ls : Array Slot), va_S (hA h) s.heap H locs → lv_has ls 4 [(3, .int 0), (2, .ref (h 96)), (1, .ref (h 0)), (0, .ref b)] → W p l e room_1 s m #[Value.ref b] below meth c H locs 600000 7302250 Q (F0 m 2197 ls [])) : W p l e room_1 s m #[Value.ref b] below meth c H locs 600000 7302250 Q (F0 m 1556 ls []) := by
  have hx := X.1
  have hb := X.2.1
  refine lv_aload_n hx hb dL_law_1556 rfl (lv_at hl 2 rfl) ?_
  refine r_Vi (As := []) (rest := []) X hT hS (k_X8_uncle hRF) mk_X8_uncle gm_1156 rfl rfl (by decide) hd_X8_uncle ⟨rfl, rfl⟩ ⟨Nat.le_of_ble_eq_true rfl, Nat.le_of_ble_eq_true rfl⟩ hl.1 rfl (Nat.le_of_ble_eq_true rfl) dL_law_1557 ⟨Nat.le_refl _, Nat.le_refl _⟩ (fun r1 i1 g1 H locs hq hT hS => ?_)
  obtain ⟨eh1, rfl⟩ := hq
  rw [(Prod.mk.inj eh1).1, (Prod.mk.inj eh1).2] at hT
  refine lv_aload_n hx hb dL_law_1560 rfl (lv_at hl 1 rfl) ?_
  refine r_Vi (As := []) (rest := [.int (-1000)]) X hT hS (k_X9_uncle hRM) mk_X9_uncle gm_2000 rfl rfl (by decide) hd_X9_uncle ⟨rfl, rfl⟩ ⟨Nat.le_of_ble_eq_true rfl, Nat.le_of_ble_eq_true rfl⟩ hl.1 rfl (Nat.le_of_ble_eq_true rfl) dL_law_1561 ⟨Nat.le_refl _, Nat.le_refl _⟩ (fun r2 i2 g2 H locs hq hT hS => ?_)
  obtain ⟨hR2, rfl⟩ := hq
  refine lv_icmp_eq (tgt := 2197) hx hb dL_law_1564 (by decide) (fun c3 => ?_) (fun c3 => (x_ne (rg_k (by decide) : rg (-1000) (-1000) (-1000)) (rg_k (by decide) : rg (-1000) (-1000) (-1000)) (i_ne c3) (by decide)).elim)
  exact hE _ _ _ hS (lv_sub hl [0, 1, 2, 3] rfl)

set_option maxRecDepth 100000 in
set_option maxHeartbeats 4000000 in
theorem law_55 {p : Program} {l : Launch} {e : Env} {s : State} {m : MethodId} {below : List Frame} {meth : Method} {c : Code} {D : va_G} {cz : Nat → ClassId} {h : Nat → Nat} {i : Nat → Nat → Int32} {g : Nat → Nat → Int64} {b : Nat} {xs : Nat → Int32} {H : Heap} {locs : List Loc} {ls : Array Slot} {Q : State → Prop} (X : Cxt p s m c #[Value.ref b] cL_law 4 "UncutTaleLaw" D cz) (hRF : Rg rF i) (hRL : Rg rL i) (hRM : Rg rM i) (hRN : Rg rN i) (hX : va_X b 6 xs s s.heap) (hbl : b < s.heap.size) (hbA : ¬ hA h b) (hT : TH D h cz i g H) (hS : va_S (hA h) s.heap H locs) (hl : lv_has ls 4 [(3, .int 0), (2, .ref (h 96)), (1, .ref (h 0)), (0, .ref b)]) (hE : ∀ (H : Heap) (locs : List Loc) (ls : Array Slot), va_S (hA h) s.heap H locs → lv_has ls 4 [(3, .int 0), (2, .ref (h 96)), (1, .ref (h 0)), (0, .ref b)] → W p l e room_1 s m #[Value.ref b] below meth c H locs 600000 7302250 Q (F0 m 2197 ls [])) : W p l e room_1 s m #[Value.ref b] below meth c H locs 600000 7302250 Q (F0 m 1569 ls []) := by
  have hx := X.1
  have hb := X.2.1
  refine lv_aload_n hx hb dL_law_1569 rfl (lv_at hl 2 rfl) ?_
  refine r_Vi (As := []) (rest := []) X hT hS (k_X8_opens hRF) mk_X8_opens gm_1168 rfl rfl (by decide) hd_X8_opens ⟨rfl, rfl⟩ ⟨Nat.le_of_ble_eq_true rfl, Nat.le_of_ble_eq_true rfl⟩ hl.1 rfl (Nat.le_of_ble_eq_true rfl) dL_law_1570 ⟨Nat.le_refl _, Nat.le_refl _⟩ (fun r1 i1 g1 H locs hq hT hS => ?_)
  obtain ⟨eh1, rfl⟩ := hq
  rw [(Prod.mk.inj eh1).1, (Prod.mk.inj eh1).2] at hT
  refine lv_aload_n hx hb dL_law_1573 rfl (lv_at hl 1 rfl) ?_
  refine r_Vi (As := []) (rest := [.int (-2)]) X hT hS (k_X9_opens hRM) mk_X9_opens gm_2012 rfl rfl (by decide) hd_X9_opens ⟨rfl, rfl⟩ ⟨Nat.le_of_ble_eq_true rfl, Nat.le_of_ble_eq_true rfl⟩ hl.1 rfl (Nat.le_of_ble_eq_true rfl) dL_law_1574 ⟨Nat.le_refl _, Nat.le_refl _⟩ (fun r2 i2 g2 H locs hq hT hS => ?_)
  obtain ⟨hR2, rfl⟩ := hq
  refine lv_icmp_eq (tgt := 2197) hx hb dL_law_1577 (by decide) (fun c3 => ?_) (fun c3 => (x_ne (rg_k (by decide) : rg (-2) (-2) (-2)) (rg_k (by decide) : rg (-2) (-2) (-2)) (i_ne c3) (by decide)).elim)
  exact hE _ _ _ hS (lv_sub hl [0, 1, 2, 3] rfl)

set_option maxRecDepth 100000 in
set_option maxHeartbeats 4000000 in
theorem law_56 {p : Program} {l : Launch} {e : Env} {s : State} {m : MethodId} {below : List Frame} {meth : Method} {c : Code} {D : va_G} {cz : Nat → ClassId} {h : Nat → Nat} {i : Nat → Nat → Int32} {g : Nat → Nat → Int64} {b : Nat} {xs : Nat → Int32} {H : Heap} {locs : List Loc} {ls : Array Slot} {Q : State → Prop} (X : Cxt p s m c #[Value.ref b] cL_law 4 "UncutTaleLaw" D cz) (hRF : Rg rF i) (hRL : Rg rL i) (hRM : Rg rM i) (hRN : Rg rN i) (hX : va_X b 6 xs s s.heap) (hbl : b < s.heap.size) (hbA : ¬ hA h b) (hT : TH D h cz i g H) (hS : va_S (hA h) s.heap H locs) (hl : lv_has ls 4 [(3, .int 0), (2, .ref (h 96)), (1, .ref (h 0)), (0, .ref b)]) (hE : ∀ (H : Heap) (locs : List Loc) (ls : Array Slot), va_S (hA h) s.heap H locs → lv_has ls 4 [(3, .int 0), (2, .ref (h 96)), (1, .ref (h 0)), (0, .ref b)] → W p l e room_1 s m #[Value.ref b] below meth c H locs 600000 7302250 Q (F0 m 2197 ls [])) : W p l e room_1 s m #[Value.ref b] below meth c H locs 600000 7302250 Q (F0 m 1582 ls []) := by
  have hx := X.1
  have hb := X.2.1
  refine lv_aload_n hx hb dL_law_1582 rfl (lv_at hl 2 rfl) ?_
  refine lv_aload_n hx hb dL_law_1583 rfl (lv_at hl 3 rfl) ?_
  refine lv_iload_n hx hb dL_law_1584 rfl (lv_at hl 0 rfl) ?_
  refine lv_iconst (v := 1) hx hb dL_law_1585 (by decide) ?_
  refine q_iadd hx hb dL_law_1586 (fun x1 ex1 => ?_)
  obtain rfl : x1 = 1 := by rw [ex1]; decide
  refine va_sld hx hb hX hbl hbA hS (i := 1) (v_in (rg_k (by decide) : rg 1 1 1) (by decide)) dL_law_1587 ?_
  refine r_Vi (As := [.int (xs (Int32.toNatClampNeg 1))]) (rest := []) X hT hS (k_X8_replies hRF (xs (Int32.toNatClampNeg 1))) mk_X8_replies gm_1172 rfl rfl (by decide) hd_X8_replies ⟨rfl, rfl⟩ ⟨Nat.le_of_ble_eq_true rfl, Nat.le_of_ble_eq_true rfl⟩ hl.1 rfl (Nat.le_of_ble_eq_true rfl) dL_law_1588 ⟨Nat.le_refl _, Nat.le_refl _⟩ (fun r2 i2 g2 H locs hq hT hS => ?_)
  obtain ⟨eh2, rfl⟩ := hq
  rw [(Prod.mk.inj eh2).1, (Prod.mk.inj eh2).2] at hT
  refine lv_aload_n hx hb dL_law_1591 rfl (lv_at hl 1 rfl) ?_
  refine lv_aload_n hx hb dL_law_1592 rfl (lv_at hl 3 rfl) ?_
  refine lv_iload_n hx hb dL_law_1593 rfl (lv_at hl 0 rfl) ?_
  refine lv_iconst (v := 1) hx hb dL_law_1594 (by decide) ?_
  refine q_iadd hx hb dL_law_1595 (fun x3 ex3 => ?_)
  obtain rfl : x3 = 1 := by rw [ex3]; decide
  refine va_sld hx hb hX hbl hbA hS (i := 1) (v_in (rg_k (by decide) : rg 1 1 1) (by decide)) dL_law_1596 ?_
  refine r_Vi (As := [.int (xs (Int32.toNatClampNeg 1))]) (rest := [.int (-2)]) X hT hS (k_X9_replies hRM (xs (Int32.toNatClampNeg 1))) mk_X9_replies gm_2016 rfl rfl (by decide) hd_X9_replies ⟨rfl, rfl⟩ ⟨Nat.le_of_ble_eq_true rfl, Nat.le_of_ble_eq_true rfl⟩ hl.1 rfl (Nat.le_of_ble_eq_true rfl) dL_law_1597 ⟨Nat.le_refl _, Nat.le_refl _⟩ (fun r4 i4 g4 H locs hq hT hS => ?_)
  obtain ⟨hR4, rfl⟩ := hq
  refine lv_icmp_eq (tgt := 2197) hx hb dL_law_1600 (by decide) (fun c5 => ?_) (fun c5 => (x_ne (rg_k (by decide) : rg (-2) (-2) (-2)) (rg_k (by decide) : rg (-2) (-2) (-2)) (i_ne c5) (by decide)).elim)
  exact hE _ _ _ hS (lv_sub hl [0, 1, 2, 3] rfl)

set_option maxRecDepth 100000 in
set_option maxHeartbeats 4000000 in
theorem law_57 {p : Program} {l : Launch} {e : Env} {s : State} {m : MethodId} {below : List Frame} {meth : Method} {c : Code} {D : va_G} {cz : Nat → ClassId} {h : Nat → Nat} {i : Nat → Nat → Int32} {g : Nat → Nat → Int64} {b : Nat} {xs : Nat → Int32} {H : Heap} {locs : List Loc} {ls : Array Slot} {Q : State → Prop} (X : Cxt p s m c #[Value.ref b] cL_law 4 "UncutTaleLaw" D cz) (hRF : Rg rF i) (hRL : Rg rL i) (hRM : Rg rM i) (hRN : Rg rN i) (hX : va_X b 6 xs s s.heap) (hbl : b < s.heap.size) (hbA : ¬ hA h b) (hT : TH D h cz i g H) (hS : va_S (hA h) s.heap H locs) (hl : lv_has ls 4 [(3, .int 0), (2, .ref (h 96)), (1, .ref (h 0)), (0, .ref b)]) (hE : ∀ (H : Heap) (locs : List Loc) (ls : Array Slot), va_S (hA h) s.heap H locs → lv_has ls 4 [(3, .int 0), (2, .ref (h 96)), (1, .ref (h 0)), (0, .ref b)] → W p l e room_1 s m #[Value.ref b] below meth c H locs 600000 7302250 Q (F0 m 2197 ls [])) : W p l e room_1 s m #[Value.ref b] below meth c H locs 600000 7302250 Q (F0 m 1605 ls []) := by
  have hx := X.1
  have hb := X.2.1
  refine lv_aload_n hx hb dL_law_1605 rfl (lv_at hl 2 rfl) ?_
  refine lv_aload_n hx hb dL_law_1606 rfl (lv_at hl 3 rfl) ?_
  refine lv_iload_n hx hb dL_law_1607 rfl (lv_at hl 0 rfl) ?_
  refine lv_iconst (v := 1) hx hb dL_law_1608 (by decide) ?_
  refine q_iadd hx hb dL_law_1609 (fun x1 ex1 => ?_)
  obtain rfl : x1 = 1 := by rw [ex1]; decide
  refine va_sld hx hb hX hbl hbA hS (i := 1) (v_in (rg_k (by decide) : rg 1 1 1) (by decide)) dL_law_1610 ?_
  refine lv_aload_n hx hb dL_law_1611 rfl (lv_at hl 3 rfl) ?_
  refine lv_iload_n hx hb dL_law_1612 rfl (lv_at hl 0 rfl) ?_
  refine lv_iconst (v := 2) hx hb dL_law_1613 (by decide) ?_
  refine q_iadd hx hb dL_law_1614 (fun x2 ex2 => ?_)
  obtain rfl : x2 = 2 := by rw [ex2]; decide
  refine va_sld hx hb hX hbl hbA hS (i := 2) (v_in (rg_k (by decide) : rg 2 2 2) (by decide)) dL_law_1615 ?_
  refine r_Vi (As := [.int (xs (Int32.toNatClampNeg 1)), .int (xs (Int32.toNatClampNeg 2))]) (rest := []) X hT hS (k_X8_rests hRF (xs (Int32.toNatClampNeg 1)) (xs (Int32.toNatClampNeg 2))) mk_X8_rests gm_1176 rfl rfl (by decide) hd_X8_rests ⟨rfl, rfl⟩ ⟨Nat.le_of_ble_eq_true rfl, Nat.le_of_ble_eq_true rfl⟩ hl.1 rfl (Nat.le_of_ble_eq_true rfl) dL_law_1616 ⟨Nat.le_refl _, Nat.le_refl _⟩ (fun r3 i3 g3 H locs hq hT hS => ?_)
  obtain ⟨eh3, rfl⟩ := hq
  rw [(Prod.mk.inj eh3).1, (Prod.mk.inj eh3).2] at hT
  refine lv_aload_n hx hb dL_law_1619 rfl (lv_at hl 1 rfl) ?_
  refine lv_aload_n hx hb dL_law_1620 rfl (lv_at hl 3 rfl) ?_
  refine lv_iload_n hx hb dL_law_1621 rfl (lv_at hl 0 rfl) ?_
  refine lv_iconst (v := 1) hx hb dL_law_1622 (by decide) ?_
  refine q_iadd hx hb dL_law_1623 (fun x4 ex4 => ?_)
  obtain rfl : x4 = 1 := by rw [ex4]; decide
  refine va_sld hx hb hX hbl hbA hS (i := 1) (v_in (rg_k (by decide) : rg 1 1 1) (by decide)) dL_law_1624 ?_
  refine lv_aload_n hx hb dL_law_1625 rfl (lv_at hl 3 rfl) ?_
  refine lv_iload_n hx hb dL_law_1626 rfl (lv_at hl 0 rfl) ?_
  refine lv_iconst (v := 2) hx hb dL_law_1627 (by decide) ?_
  refine q_iadd hx hb dL_law_1628 (fun x5 ex5 => ?_)
  obtain rfl : x5 = 2 := by rw [ex5]; decide
  refine va_sld hx hb hX hbl hbA hS (i := 2) (v_in (rg_k (by decide) : rg 2 2 2) (by decide)) dL_law_1629 ?_
  refine r_Vi (As := [.int (xs (Int32.toNatClampNeg 1)), .int (xs (Int32.toNatClampNeg 2))]) (rest := [.int (-2)]) X hT hS (k_X9_rests hRM (xs (Int32.toNatClampNeg 1)) (xs (Int32.toNatClampNeg 2))) mk_X9_rests gm_2020 rfl rfl (by decide) hd_X9_rests ⟨rfl, rfl⟩ ⟨Nat.le_of_ble_eq_true rfl, Nat.le_of_ble_eq_true rfl⟩ hl.1 rfl (Nat.le_of_ble_eq_true rfl) dL_law_1630 ⟨Nat.le_refl _, Nat.le_refl _⟩ (fun r6 i6 g6 H locs hq hT hS => ?_)
  obtain ⟨hR6, rfl⟩ := hq
  refine lv_icmp_eq (tgt := 2197) hx hb dL_law_1633 (by decide) (fun c7 => ?_) (fun c7 => (x_ne (rg_k (by decide) : rg (-2) (-2) (-2)) (rg_k (by decide) : rg (-2) (-2) (-2)) (i_ne c7) (by decide)).elim)
  exact hE _ _ _ hS (lv_sub hl [0, 1, 2, 3] rfl)

set_option maxRecDepth 100000 in
set_option maxHeartbeats 4000000 in
theorem law_58 {p : Program} {l : Launch} {e : Env} {s : State} {m : MethodId} {below : List Frame} {meth : Method} {c : Code} {D : va_G} {cz : Nat → ClassId} {h : Nat → Nat} {i : Nat → Nat → Int32} {g : Nat → Nat → Int64} {b : Nat} {xs : Nat → Int32} {H : Heap} {locs : List Loc} {ls : Array Slot} {Q : State → Prop} (X : Cxt p s m c #[Value.ref b] cL_law 4 "UncutTaleLaw" D cz) (hRF : Rg rF i) (hRL : Rg rL i) (hRM : Rg rM i) (hRN : Rg rN i) (hX : va_X b 6 xs s s.heap) (hbl : b < s.heap.size) (hbA : ¬ hA h b) (hT : TH D h cz i g H) (hS : va_S (hA h) s.heap H locs) (hl : lv_has ls 4 [(3, .int 0), (2, .ref (h 96)), (1, .ref (h 0)), (0, .ref b)]) (hE : ∀ (H : Heap) (locs : List Loc) (ls : Array Slot), va_S (hA h) s.heap H locs → lv_has ls 4 [(3, .int 0), (2, .ref (h 96)), (1, .ref (h 0)), (0, .ref b)] → W p l e room_1 s m #[Value.ref b] below meth c H locs 600000 7302250 Q (F0 m 2197 ls [])) : W p l e room_1 s m #[Value.ref b] below meth c H locs 600000 7302250 Q (F0 m 1638 ls []) := by
  have hx := X.1
  have hb := X.2.1
  refine lv_aload_n hx hb dL_law_1638 rfl (lv_at hl 2 rfl) ?_
  refine lv_aload_n hx hb dL_law_1639 rfl (lv_at hl 3 rfl) ?_
  refine lv_iload_n hx hb dL_law_1640 rfl (lv_at hl 0 rfl) ?_
  refine lv_iconst (v := 1) hx hb dL_law_1641 (by decide) ?_
  refine q_iadd hx hb dL_law_1642 (fun x1 ex1 => ?_)
  obtain rfl : x1 = 1 := by rw [ex1]; decide
  refine va_sld hx hb hX hbl hbA hS (i := 1) (v_in (rg_k (by decide) : rg 1 1 1) (by decide)) dL_law_1643 ?_
  refine lv_aload_n hx hb dL_law_1644 rfl (lv_at hl 3 rfl) ?_
  refine lv_iload_n hx hb dL_law_1645 rfl (lv_at hl 0 rfl) ?_
  refine lv_iconst (v := 2) hx hb dL_law_1646 (by decide) ?_
  refine q_iadd hx hb dL_law_1647 (fun x2 ex2 => ?_)
  obtain rfl : x2 = 2 := by rw [ex2]; decide
  refine va_sld hx hb hX hbl hbA hS (i := 2) (v_in (rg_k (by decide) : rg 2 2 2) (by decide)) dL_law_1648 ?_
  refine lv_aload_n hx hb dL_law_1649 rfl (lv_at hl 3 rfl) ?_
  refine lv_iload_n hx hb dL_law_1650 rfl (lv_at hl 0 rfl) ?_
  refine lv_iconst (v := 3) hx hb dL_law_1651 (by decide) ?_
  refine q_iadd hx hb dL_law_1652 (fun x3 ex3 => ?_)
  obtain rfl : x3 = 3 := by rw [ex3]; decide
  refine va_sld hx hb hX hbl hbA hS (i := 3) (v_in (rg_k (by decide) : rg 3 3 3) (by decide)) dL_law_1653 ?_
  refine lv_aload_n hx hb dL_law_1654 rfl (lv_at hl 3 rfl) ?_
  refine lv_iload_n hx hb dL_law_1655 rfl (lv_at hl 0 rfl) ?_
  refine lv_iconst (v := 4) hx hb dL_law_1656 (by decide) ?_
  refine q_iadd hx hb dL_law_1657 (fun x4 ex4 => ?_)
  obtain rfl : x4 = 4 := by rw [ex4]; decide
  refine va_sld hx hb hX hbl hbA hS (i := 4) (v_in (rg_k (by decide) : rg 4 4 4) (by decide)) dL_law_1658 ?_
  refine r_Vi (As := [.int (xs (Int32.toNatClampNeg 1)), .int (xs (Int32.toNatClampNeg 2)), .int (xs (Int32.toNatClampNeg 3)), .int (xs (Int32.toNatClampNeg 4))]) (rest := []) X hT hS (k_X8_gets hRF (xs (Int32.toNatClampNeg 1)) (xs (Int32.toNatClampNeg 2)) (xs (Int32.toNatClampNeg 3)) (xs (Int32.toNatClampNeg 4))) mk_X8_gets gm_1188 rfl rfl (by decide) hd_X8_gets ⟨rfl, rfl⟩ ⟨Nat.le_of_ble_eq_true rfl, Nat.le_of_ble_eq_true rfl⟩ hl.1 rfl (Nat.le_of_ble_eq_true rfl) dL_law_1659 ⟨Nat.le_refl _, Nat.le_refl _⟩ (fun r5 i5 g5 H locs hq hT hS => ?_)
  obtain ⟨eh5, rfl⟩ := hq
  rw [(Prod.mk.inj eh5).1, (Prod.mk.inj eh5).2] at hT
  refine lv_aload_n hx hb dL_law_1662 rfl (lv_at hl 1 rfl) ?_
  refine lv_aload_n hx hb dL_law_1663 rfl (lv_at hl 3 rfl) ?_
  refine lv_iload_n hx hb dL_law_1664 rfl (lv_at hl 0 rfl) ?_
  refine lv_iconst (v := 1) hx hb dL_law_1665 (by decide) ?_
  refine q_iadd hx hb dL_law_1666 (fun x6 ex6 => ?_)
  obtain rfl : x6 = 1 := by rw [ex6]; decide
  refine va_sld hx hb hX hbl hbA hS (i := 1) (v_in (rg_k (by decide) : rg 1 1 1) (by decide)) dL_law_1667 ?_
  refine lv_aload_n hx hb dL_law_1668 rfl (lv_at hl 3 rfl) ?_
  refine lv_iload_n hx hb dL_law_1669 rfl (lv_at hl 0 rfl) ?_
  refine lv_iconst (v := 2) hx hb dL_law_1670 (by decide) ?_
  refine q_iadd hx hb dL_law_1671 (fun x7 ex7 => ?_)
  obtain rfl : x7 = 2 := by rw [ex7]; decide
  refine va_sld hx hb hX hbl hbA hS (i := 2) (v_in (rg_k (by decide) : rg 2 2 2) (by decide)) dL_law_1672 ?_
  refine lv_aload_n hx hb dL_law_1673 rfl (lv_at hl 3 rfl) ?_
  refine lv_iload_n hx hb dL_law_1674 rfl (lv_at hl 0 rfl) ?_
  refine lv_iconst (v := 3) hx hb dL_law_1675 (by decide) ?_
  refine q_iadd hx hb dL_law_1676 (fun x8 ex8 => ?_)
  obtain rfl : x8 = 3 := by rw [ex8]; decide
  refine va_sld hx hb hX hbl hbA hS (i := 3) (v_in (rg_k (by decide) : rg 3 3 3) (by decide)) dL_law_1677 ?_
  refine lv_aload_n hx hb dL_law_1678 rfl (lv_at hl 3 rfl) ?_
  refine lv_iload_n hx hb dL_law_1679 rfl (lv_at hl 0 rfl) ?_
  refine lv_iconst (v := 4) hx hb dL_law_1680 (by decide) ?_
  refine q_iadd hx hb dL_law_1681 (fun x9 ex9 => ?_)
  obtain rfl : x9 = 4 := by rw [ex9]; decide
  refine va_sld hx hb hX hbl hbA hS (i := 4) (v_in (rg_k (by decide) : rg 4 4 4) (by decide)) dL_law_1682 ?_
  refine r_Vi (As := [.int (xs (Int32.toNatClampNeg 1)), .int (xs (Int32.toNatClampNeg 2)), .int (xs (Int32.toNatClampNeg 3)), .int (xs (Int32.toNatClampNeg 4))]) (rest := [.int (-1000)]) X hT hS (k_X9_gets hRM (xs (Int32.toNatClampNeg 1)) (xs (Int32.toNatClampNeg 2)) (xs (Int32.toNatClampNeg 3)) (xs (Int32.toNatClampNeg 4))) mk_X9_gets gm_2032 rfl rfl (by decide) hd_X9_gets ⟨rfl, rfl⟩ ⟨Nat.le_of_ble_eq_true rfl, Nat.le_of_ble_eq_true rfl⟩ hl.1 rfl (Nat.le_of_ble_eq_true rfl) dL_law_1683 ⟨Nat.le_refl _, Nat.le_refl _⟩ (fun r10 i10 g10 H locs hq hT hS => ?_)
  obtain ⟨hR10, rfl⟩ := hq
  refine lv_icmp_eq (tgt := 2197) hx hb dL_law_1686 (by decide) (fun c11 => ?_) (fun c11 => (x_ne (rg_k (by decide) : rg (-1000) (-1000) (-1000)) (rg_k (by decide) : rg (-1000) (-1000) (-1000)) (i_ne c11) (by decide)).elim)
  exact hE _ _ _ hS (lv_sub hl [0, 1, 2, 3] rfl)

set_option maxRecDepth 100000 in
set_option maxHeartbeats 4000000 in
theorem law_59 {p : Program} {l : Launch} {e : Env} {s : State} {m : MethodId} {below : List Frame} {meth : Method} {c : Code} {D : va_G} {cz : Nat → ClassId} {h : Nat → Nat} {i : Nat → Nat → Int32} {g : Nat → Nat → Int64} {b : Nat} {xs : Nat → Int32} {H : Heap} {locs : List Loc} {ls : Array Slot} {Q : State → Prop} (X : Cxt p s m c #[Value.ref b] cL_law 4 "UncutTaleLaw" D cz) (hRF : Rg rF i) (hRL : Rg rL i) (hRM : Rg rM i) (hRN : Rg rN i) (hX : va_X b 6 xs s s.heap) (hbl : b < s.heap.size) (hbA : ¬ hA h b) (hT : TH D h cz i g H) (hS : va_S (hA h) s.heap H locs) (hl : lv_has ls 4 [(3, .int 0), (2, .ref (h 96)), (1, .ref (h 0)), (0, .ref b)]) (hE : ∀ (H : Heap) (locs : List Loc) (ls : Array Slot), va_S (hA h) s.heap H locs → lv_has ls 4 [(3, .int 0), (2, .ref (h 96)), (1, .ref (h 0)), (0, .ref b)] → W p l e room_1 s m #[Value.ref b] below meth c H locs 600000 7302250 Q (F0 m 2197 ls [])) : W p l e room_1 s m #[Value.ref b] below meth c H locs 600000 7302250 Q (F0 m 1691 ls []) := by
  have hx := X.1
  have hb := X.2.1
  refine lv_aload_n hx hb dL_law_1691 rfl (lv_at hl 2 rfl) ?_
  refine lv_aload_n hx hb dL_law_1692 rfl (lv_at hl 3 rfl) ?_
  refine lv_iload_n hx hb dL_law_1693 rfl (lv_at hl 0 rfl) ?_
  refine lv_iconst (v := 1) hx hb dL_law_1694 (by decide) ?_
  refine q_iadd hx hb dL_law_1695 (fun x1 ex1 => ?_)
  obtain rfl : x1 = 1 := by rw [ex1]; decide
  refine va_sld hx hb hX hbl hbA hS (i := 1) (v_in (rg_k (by decide) : rg 1 1 1) (by decide)) dL_law_1696 ?_
  refine lv_aload_n hx hb dL_law_1697 rfl (lv_at hl 3 rfl) ?_
  refine lv_iload_n hx hb dL_law_1698 rfl (lv_at hl 0 rfl) ?_
  refine lv_iconst (v := 2) hx hb dL_law_1699 (by decide) ?_
  refine q_iadd hx hb dL_law_1700 (fun x2 ex2 => ?_)
  obtain rfl : x2 = 2 := by rw [ex2]; decide
  refine va_sld hx hb hX hbl hbA hS (i := 2) (v_in (rg_k (by decide) : rg 2 2 2) (by decide)) dL_law_1701 ?_
  refine r_Vi (As := [.int (xs (Int32.toNatClampNeg 1)), .int (xs (Int32.toNatClampNeg 2))]) (rest := []) X hT hS (k_X8_chance hRF (xs (Int32.toNatClampNeg 1)) (xs (Int32.toNatClampNeg 2))) mk_X8_chance gm_1195 rfl rfl (by decide) hd_X8_chance ⟨rfl, rfl⟩ ⟨Nat.le_of_ble_eq_true rfl, Nat.le_of_ble_eq_true rfl⟩ hl.1 rfl (Nat.le_of_ble_eq_true rfl) dL_law_1702 ⟨Nat.le_refl _, Nat.le_refl _⟩ (fun r3 i3 g3 H locs hq hT hS => ?_)
  obtain ⟨eh3, rfl⟩ := hq
  rw [(Prod.mk.inj eh3).1, (Prod.mk.inj eh3).2] at hT
  refine lv_aload_n hx hb dL_law_1705 rfl (lv_at hl 1 rfl) ?_
  refine lv_aload_n hx hb dL_law_1706 rfl (lv_at hl 3 rfl) ?_
  refine lv_iload_n hx hb dL_law_1707 rfl (lv_at hl 0 rfl) ?_
  refine lv_iconst (v := 1) hx hb dL_law_1708 (by decide) ?_
  refine q_iadd hx hb dL_law_1709 (fun x4 ex4 => ?_)
  obtain rfl : x4 = 1 := by rw [ex4]; decide
  refine va_sld hx hb hX hbl hbA hS (i := 1) (v_in (rg_k (by decide) : rg 1 1 1) (by decide)) dL_law_1710 ?_
  refine lv_aload_n hx hb dL_law_1711 rfl (lv_at hl 3 rfl) ?_
  refine lv_iload_n hx hb dL_law_1712 rfl (lv_at hl 0 rfl) ?_
  refine lv_iconst (v := 2) hx hb dL_law_1713 (by decide) ?_
  refine q_iadd hx hb dL_law_1714 (fun x5 ex5 => ?_)
  obtain rfl : x5 = 2 := by rw [ex5]; decide
  refine va_sld hx hb hX hbl hbA hS (i := 2) (v_in (rg_k (by decide) : rg 2 2 2) (by decide)) dL_law_1715 ?_
  refine r_Vi (As := [.int (xs (Int32.toNatClampNeg 1)), .int (xs (Int32.toNatClampNeg 2))]) (rest := [.int (-2)]) X hT hS (k_X9_chance hRM (xs (Int32.toNatClampNeg 1)) (xs (Int32.toNatClampNeg 2))) mk_X9_chance gm_2036 rfl rfl (by decide) hd_X9_chance ⟨rfl, rfl⟩ ⟨Nat.le_of_ble_eq_true rfl, Nat.le_of_ble_eq_true rfl⟩ hl.1 rfl (Nat.le_of_ble_eq_true rfl) dL_law_1716 ⟨Nat.le_refl _, Nat.le_refl _⟩ (fun r6 i6 g6 H locs hq hT hS => ?_)
  obtain ⟨hR6, rfl⟩ := hq
  refine lv_icmp_eq (tgt := 2197) hx hb dL_law_1719 (by decide) (fun c7 => ?_) (fun c7 => (x_ne (rg_k (by decide) : rg (-2) (-2) (-2)) (rg_k (by decide) : rg (-2) (-2) (-2)) (i_ne c7) (by decide)).elim)
  exact hE _ _ _ hS (lv_sub hl [0, 1, 2, 3] rfl)

set_option maxRecDepth 100000 in
set_option maxHeartbeats 4000000 in
theorem law_60 {p : Program} {l : Launch} {e : Env} {s : State} {m : MethodId} {below : List Frame} {meth : Method} {c : Code} {D : va_G} {cz : Nat → ClassId} {h : Nat → Nat} {i : Nat → Nat → Int32} {g : Nat → Nat → Int64} {b : Nat} {xs : Nat → Int32} {H : Heap} {locs : List Loc} {ls : Array Slot} {Q : State → Prop} (X : Cxt p s m c #[Value.ref b] cL_law 4 "UncutTaleLaw" D cz) (hRF : Rg rF i) (hRL : Rg rL i) (hRM : Rg rM i) (hRN : Rg rN i) (hX : va_X b 6 xs s s.heap) (hbl : b < s.heap.size) (hbA : ¬ hA h b) (hT : TH D h cz i g H) (hS : va_S (hA h) s.heap H locs) (hl : lv_has ls 4 [(3, .int 0), (2, .ref (h 96)), (1, .ref (h 0)), (0, .ref b)]) (hE : ∀ (H : Heap) (locs : List Loc) (ls : Array Slot), va_S (hA h) s.heap H locs → lv_has ls 4 [(3, .int 0), (2, .ref (h 96)), (1, .ref (h 0)), (0, .ref b)] → W p l e room_1 s m #[Value.ref b] below meth c H locs 600000 7302250 Q (F0 m 2197 ls [])) : W p l e room_1 s m #[Value.ref b] below meth c H locs 600000 7302250 Q (F0 m 1724 ls []) := by
  have hx := X.1
  have hb := X.2.1
  refine lv_aload_n hx hb dL_law_1724 rfl (lv_at hl 2 rfl) ?_
  refine lv_aload_n hx hb dL_law_1725 rfl (lv_at hl 3 rfl) ?_
  refine lv_iload_n hx hb dL_law_1726 rfl (lv_at hl 0 rfl) ?_
  refine lv_iconst (v := 1) hx hb dL_law_1727 (by decide) ?_
  refine q_iadd hx hb dL_law_1728 (fun x1 ex1 => ?_)
  obtain rfl : x1 = 1 := by rw [ex1]; decide
  refine va_sld hx hb hX hbl hbA hS (i := 1) (v_in (rg_k (by decide) : rg 1 1 1) (by decide)) dL_law_1729 ?_
  refine r_Vl (As := [.int (xs (Int32.toNatClampNeg 1))]) (rest := []) X hT hS (k_X8_mean hRF (xs (Int32.toNatClampNeg 1))) mk_X8_mean gm_1224 rfl rfl (by decide) hd_X8_mean ⟨rfl, rfl⟩ ⟨Nat.le_of_ble_eq_true rfl, Nat.le_of_ble_eq_true rfl⟩ hl.1 rfl (Nat.le_of_ble_eq_true rfl) dL_law_1730 ⟨Nat.le_refl _, Nat.le_refl _⟩ (fun r2 i2 g2 H locs hq hT hS => ?_)
  obtain ⟨eh2, rfl⟩ := hq
  rw [(Prod.mk.inj eh2).1, (Prod.mk.inj eh2).2] at hT
  refine lv_aload_n hx hb dL_law_1733 rfl (lv_at hl 1 rfl) ?_
  refine lv_aload_n hx hb dL_law_1734 rfl (lv_at hl 3 rfl) ?_
  refine lv_iload_n hx hb dL_law_1735 rfl (lv_at hl 0 rfl) ?_
  refine lv_iconst (v := 1) hx hb dL_law_1736 (by decide) ?_
  refine q_iadd hx hb dL_law_1737 (fun x3 ex3 => ?_)
  obtain rfl : x3 = 1 := by rw [ex3]; decide
  refine va_sld hx hb hX hbl hbA hS (i := 1) (v_in (rg_k (by decide) : rg 1 1 1) (by decide)) dL_law_1738 ?_
  refine r_Vl (As := [.int (xs (Int32.toNatClampNeg 1))]) (rest := [.long (-2)]) X hT hS (k_X9_mean hRM (xs (Int32.toNatClampNeg 1))) mk_X9_mean gm_2048 rfl rfl (by decide) hd_X9_mean ⟨rfl, rfl⟩ ⟨Nat.le_of_ble_eq_true rfl, Nat.le_of_ble_eq_true rfl⟩ hl.1 rfl (Nat.le_of_ble_eq_true rfl) dL_law_1739 ⟨Nat.le_refl _, Nat.le_refl _⟩ (fun r4 i4 g4 H locs hq hT hS => ?_)
  obtain ⟨hR4, rfl⟩ := hq
  refine W.lcmp hx hb dL_law_1742 ?_
  refine lv_if_eq (tgt := 2197) hx hb dL_law_1743 (by decide) (fun c5 => ?_) (fun c5 => (x_ne (rgL_k (by decide) : rgL (-2) (-2) (-2)) (rgL_k (by decide) : rgL (-2) (-2) (-2)) (c_ne c5) (by decide)).elim)
  exact hE _ _ _ hS (lv_sub hl [0, 1, 2, 3] rfl)

set_option maxRecDepth 100000 in
set_option maxHeartbeats 4000000 in
theorem law_61 {p : Program} {l : Launch} {e : Env} {s : State} {m : MethodId} {below : List Frame} {meth : Method} {c : Code} {D : va_G} {cz : Nat → ClassId} {h : Nat → Nat} {i : Nat → Nat → Int32} {g : Nat → Nat → Int64} {b : Nat} {xs : Nat → Int32} {H : Heap} {locs : List Loc} {ls : Array Slot} {Q : State → Prop} (X : Cxt p s m c #[Value.ref b] cL_law 4 "UncutTaleLaw" D cz) (hRF : Rg rF i) (hRL : Rg rL i) (hRM : Rg rM i) (hRN : Rg rN i) (hX : va_X b 6 xs s s.heap) (hbl : b < s.heap.size) (hbA : ¬ hA h b) (hT : TH D h cz i g H) (hS : va_S (hA h) s.heap H locs) (hl : lv_has ls 4 [(3, .int 0), (2, .ref (h 96)), (1, .ref (h 0)), (0, .ref b)]) (hE : ∀ (H : Heap) (locs : List Loc) (ls : Array Slot), va_S (hA h) s.heap H locs → lv_has ls 4 [(3, .int 0), (2, .ref (h 96)), (1, .ref (h 0)), (0, .ref b)] → W p l e room_1 s m #[Value.ref b] below meth c H locs 600000 7302250 Q (F0 m 2197 ls [])) : W p l e room_1 s m #[Value.ref b] below meth c H locs 600000 7302250 Q (F0 m 1748 ls []) := by
  have hx := X.1
  have hb := X.2.1
  refine lv_aload_n hx hb dL_law_1748 rfl (lv_at hl 2 rfl) ?_
  refine lv_aload_n hx hb dL_law_1749 rfl (lv_at hl 3 rfl) ?_
  refine lv_iload_n hx hb dL_law_1750 rfl (lv_at hl 0 rfl) ?_
  refine lv_iconst (v := 1) hx hb dL_law_1751 (by decide) ?_
  refine q_iadd hx hb dL_law_1752 (fun x1 ex1 => ?_)
  obtain rfl : x1 = 1 := by rw [ex1]; decide
  refine va_sld hx hb hX hbl hbA hS (i := 1) (v_in (rg_k (by decide) : rg 1 1 1) (by decide)) dL_law_1753 ?_
  refine lv_aload_n hx hb dL_law_1754 rfl (lv_at hl 3 rfl) ?_
  refine lv_iload_n hx hb dL_law_1755 rfl (lv_at hl 0 rfl) ?_
  refine lv_iconst (v := 2) hx hb dL_law_1756 (by decide) ?_
  refine q_iadd hx hb dL_law_1757 (fun x2 ex2 => ?_)
  obtain rfl : x2 = 2 := by rw [ex2]; decide
  refine va_sld hx hb hX hbl hbA hS (i := 2) (v_in (rg_k (by decide) : rg 2 2 2) (by decide)) dL_law_1758 ?_
  refine r_Vi (As := [.int (xs (Int32.toNatClampNeg 1)), .int (xs (Int32.toNatClampNeg 2))]) (rest := []) X hT hS (k_X8_knife hRF (xs (Int32.toNatClampNeg 1)) (xs (Int32.toNatClampNeg 2))) mk_X8_knife gm_1250 rfl rfl (by decide) hd_X8_knife ⟨rfl, rfl⟩ ⟨Nat.le_of_ble_eq_true rfl, Nat.le_of_ble_eq_true rfl⟩ hl.1 rfl (Nat.le_of_ble_eq_true rfl) dL_law_1759 ⟨Nat.le_refl _, Nat.le_refl _⟩ (fun r3 i3 g3 H locs hq hT hS => ?_)
  obtain ⟨eh3, rfl⟩ := hq
  rw [(Prod.mk.inj eh3).1, (Prod.mk.inj eh3).2] at hT
  refine lv_aload_n hx hb dL_law_1762 rfl (lv_at hl 1 rfl) ?_
  refine lv_aload_n hx hb dL_law_1763 rfl (lv_at hl 3 rfl) ?_
  refine lv_iload_n hx hb dL_law_1764 rfl (lv_at hl 0 rfl) ?_
  refine lv_iconst (v := 1) hx hb dL_law_1765 (by decide) ?_
  refine q_iadd hx hb dL_law_1766 (fun x4 ex4 => ?_)
  obtain rfl : x4 = 1 := by rw [ex4]; decide
  refine va_sld hx hb hX hbl hbA hS (i := 1) (v_in (rg_k (by decide) : rg 1 1 1) (by decide)) dL_law_1767 ?_
  refine lv_aload_n hx hb dL_law_1768 rfl (lv_at hl 3 rfl) ?_
  refine lv_iload_n hx hb dL_law_1769 rfl (lv_at hl 0 rfl) ?_
  refine lv_iconst (v := 2) hx hb dL_law_1770 (by decide) ?_
  refine q_iadd hx hb dL_law_1771 (fun x5 ex5 => ?_)
  obtain rfl : x5 = 2 := by rw [ex5]; decide
  refine va_sld hx hb hX hbl hbA hS (i := 2) (v_in (rg_k (by decide) : rg 2 2 2) (by decide)) dL_law_1772 ?_
  refine r_Vi (As := [.int (xs (Int32.toNatClampNeg 1)), .int (xs (Int32.toNatClampNeg 2))]) (rest := [.int (-2)]) X hT hS (k_X9_knife hRM (xs (Int32.toNatClampNeg 1)) (xs (Int32.toNatClampNeg 2))) mk_X9_knife gm_2074 rfl rfl (by decide) hd_X9_knife ⟨rfl, rfl⟩ ⟨Nat.le_of_ble_eq_true rfl, Nat.le_of_ble_eq_true rfl⟩ hl.1 rfl (Nat.le_of_ble_eq_true rfl) dL_law_1773 ⟨Nat.le_refl _, Nat.le_refl _⟩ (fun r6 i6 g6 H locs hq hT hS => ?_)
  obtain ⟨hR6, rfl⟩ := hq
  refine lv_icmp_eq (tgt := 2197) hx hb dL_law_1776 (by decide) (fun c7 => ?_) (fun c7 => (x_ne (rg_k (by decide) : rg (-2) (-2) (-2)) (rg_k (by decide) : rg (-2) (-2) (-2)) (i_ne c7) (by decide)).elim)
  exact hE _ _ _ hS (lv_sub hl [0, 1, 2, 3] rfl)

set_option maxRecDepth 100000 in
set_option maxHeartbeats 4000000 in
theorem law_62 {p : Program} {l : Launch} {e : Env} {s : State} {m : MethodId} {below : List Frame} {meth : Method} {c : Code} {D : va_G} {cz : Nat → ClassId} {h : Nat → Nat} {i : Nat → Nat → Int32} {g : Nat → Nat → Int64} {b : Nat} {xs : Nat → Int32} {H : Heap} {locs : List Loc} {ls : Array Slot} {Q : State → Prop} (X : Cxt p s m c #[Value.ref b] cL_law 4 "UncutTaleLaw" D cz) (hRF : Rg rF i) (hRL : Rg rL i) (hRM : Rg rM i) (hRN : Rg rN i) (hX : va_X b 6 xs s s.heap) (hbl : b < s.heap.size) (hbA : ¬ hA h b) (hT : TH D h cz i g H) (hS : va_S (hA h) s.heap H locs) (hl : lv_has ls 4 [(3, .int 0), (2, .ref (h 96)), (1, .ref (h 0)), (0, .ref b)]) (hE : ∀ (H : Heap) (locs : List Loc) (ls : Array Slot), va_S (hA h) s.heap H locs → lv_has ls 4 [(3, .int 0), (2, .ref (h 96)), (1, .ref (h 0)), (0, .ref b)] → W p l e room_1 s m #[Value.ref b] below meth c H locs 600000 7302250 Q (F0 m 2197 ls [])) : W p l e room_1 s m #[Value.ref b] below meth c H locs 600000 7302250 Q (F0 m 1781 ls []) := by
  have hx := X.1
  have hb := X.2.1
  refine lv_aload_n hx hb dL_law_1781 rfl (lv_at hl 2 rfl) ?_
  refine lv_aload_n hx hb dL_law_1782 rfl (lv_at hl 3 rfl) ?_
  refine lv_iload_n hx hb dL_law_1783 rfl (lv_at hl 0 rfl) ?_
  refine lv_iconst (v := 1) hx hb dL_law_1784 (by decide) ?_
  refine q_iadd hx hb dL_law_1785 (fun x1 ex1 => ?_)
  obtain rfl : x1 = 1 := by rw [ex1]; decide
  refine va_sld hx hb hX hbl hbA hS (i := 1) (v_in (rg_k (by decide) : rg 1 1 1) (by decide)) dL_law_1786 ?_
  refine lv_aload_n hx hb dL_law_1787 rfl (lv_at hl 3 rfl) ?_
  refine lv_iload_n hx hb dL_law_1788 rfl (lv_at hl 0 rfl) ?_
  refine lv_iconst (v := 2) hx hb dL_law_1789 (by decide) ?_
  refine q_iadd hx hb dL_law_1790 (fun x2 ex2 => ?_)
  obtain rfl : x2 = 2 := by rw [ex2]; decide
  refine va_sld hx hb hX hbl hbA hS (i := 2) (v_in (rg_k (by decide) : rg 2 2 2) (by decide)) dL_law_1791 ?_
  refine r_Vi (As := [.int (xs (Int32.toNatClampNeg 1)), .int (xs (Int32.toNatClampNeg 2))]) (rest := []) X hT hS (k_X8_air hRF (xs (Int32.toNatClampNeg 1)) (xs (Int32.toNatClampNeg 2))) mk_X8_air gm_1262 rfl rfl (by decide) hd_X8_air ⟨rfl, rfl⟩ ⟨Nat.le_of_ble_eq_true rfl, Nat.le_of_ble_eq_true rfl⟩ hl.1 rfl (Nat.le_of_ble_eq_true rfl) dL_law_1792 ⟨Nat.le_refl _, Nat.le_refl _⟩ (fun r3 i3 g3 H locs hq hT hS => ?_)
  obtain ⟨eh3, rfl⟩ := hq
  rw [(Prod.mk.inj eh3).1, (Prod.mk.inj eh3).2] at hT
  refine lv_aload_n hx hb dL_law_1795 rfl (lv_at hl 1 rfl) ?_
  refine lv_aload_n hx hb dL_law_1796 rfl (lv_at hl 3 rfl) ?_
  refine lv_iload_n hx hb dL_law_1797 rfl (lv_at hl 0 rfl) ?_
  refine lv_iconst (v := 1) hx hb dL_law_1798 (by decide) ?_
  refine q_iadd hx hb dL_law_1799 (fun x4 ex4 => ?_)
  obtain rfl : x4 = 1 := by rw [ex4]; decide
  refine va_sld hx hb hX hbl hbA hS (i := 1) (v_in (rg_k (by decide) : rg 1 1 1) (by decide)) dL_law_1800 ?_
  refine lv_aload_n hx hb dL_law_1801 rfl (lv_at hl 3 rfl) ?_
  refine lv_iload_n hx hb dL_law_1802 rfl (lv_at hl 0 rfl) ?_
  refine lv_iconst (v := 2) hx hb dL_law_1803 (by decide) ?_
  refine q_iadd hx hb dL_law_1804 (fun x5 ex5 => ?_)
  obtain rfl : x5 = 2 := by rw [ex5]; decide
  refine va_sld hx hb hX hbl hbA hS (i := 2) (v_in (rg_k (by decide) : rg 2 2 2) (by decide)) dL_law_1805 ?_
  refine r_Vi (As := [.int (xs (Int32.toNatClampNeg 1)), .int (xs (Int32.toNatClampNeg 2))]) (rest := [.int (-2)]) X hT hS (k_X9_air hRM (xs (Int32.toNatClampNeg 1)) (xs (Int32.toNatClampNeg 2))) mk_X9_air gm_2082 rfl rfl (by decide) hd_X9_air ⟨rfl, rfl⟩ ⟨Nat.le_of_ble_eq_true rfl, Nat.le_of_ble_eq_true rfl⟩ hl.1 rfl (Nat.le_of_ble_eq_true rfl) dL_law_1806 ⟨Nat.le_refl _, Nat.le_refl _⟩ (fun r6 i6 g6 H locs hq hT hS => ?_)
  obtain ⟨hR6, rfl⟩ := hq
  refine lv_icmp_eq (tgt := 2197) hx hb dL_law_1809 (by decide) (fun c7 => ?_) (fun c7 => (x_ne (rg_k (by decide) : rg (-2) (-2) (-2)) (rg_k (by decide) : rg (-2) (-2) (-2)) (i_ne c7) (by decide)).elim)
  exact hE _ _ _ hS (lv_sub hl [0, 1, 2, 3] rfl)

set_option maxRecDepth 100000 in
set_option maxHeartbeats 4000000 in
theorem law_63 {p : Program} {l : Launch} {e : Env} {s : State} {m : MethodId} {below : List Frame} {meth : Method} {c : Code} {D : va_G} {cz : Nat → ClassId} {h : Nat → Nat} {i : Nat → Nat → Int32} {g : Nat → Nat → Int64} {b : Nat} {xs : Nat → Int32} {H : Heap} {locs : List Loc} {ls : Array Slot} {Q : State → Prop} (X : Cxt p s m c #[Value.ref b] cL_law 4 "UncutTaleLaw" D cz) (hRF : Rg rF i) (hRL : Rg rL i) (hRM : Rg rM i) (hRN : Rg rN i) (hX : va_X b 6 xs s s.heap) (hbl : b < s.heap.size) (hbA : ¬ hA h b) (hT : TH D h cz i g H) (hS : va_S (hA h) s.heap H locs) (hl : lv_has ls 4 [(3, .int 0), (2, .ref (h 96)), (1, .ref (h 0)), (0, .ref b)]) (hE : ∀ (H : Heap) (locs : List Loc) (ls : Array Slot), va_S (hA h) s.heap H locs → lv_has ls 4 [(3, .int 0), (2, .ref (h 96)), (1, .ref (h 0)), (0, .ref b)] → W p l e room_1 s m #[Value.ref b] below meth c H locs 600000 7302250 Q (F0 m 2197 ls [])) : W p l e room_1 s m #[Value.ref b] below meth c H locs 600000 7302250 Q (F0 m 1814 ls []) := by
  have hx := X.1
  have hb := X.2.1
  refine lv_aload_n hx hb dL_law_1814 rfl (lv_at hl 2 rfl) ?_
  refine r_Vi (As := []) (rest := []) X hT hS (k_X8_undo hRF) mk_X8_undo gm_1266 rfl rfl (by decide) hd_X8_undo ⟨rfl, rfl⟩ ⟨Nat.le_of_ble_eq_true rfl, Nat.le_of_ble_eq_true rfl⟩ hl.1 rfl (Nat.le_of_ble_eq_true rfl) dL_law_1815 ⟨Nat.le_refl _, Nat.le_refl _⟩ (fun r1 i1 g1 H locs hq hT hS => ?_)
  obtain ⟨eh1, rfl⟩ := hq
  rw [(Prod.mk.inj eh1).1, (Prod.mk.inj eh1).2] at hT
  refine lv_aload_n hx hb dL_law_1818 rfl (lv_at hl 1 rfl) ?_
  refine r_Vi (As := []) (rest := [.int (-2)]) X hT hS (k_X9_undo hRM) mk_X9_undo gm_2086 rfl rfl (by decide) hd_X9_undo ⟨rfl, rfl⟩ ⟨Nat.le_of_ble_eq_true rfl, Nat.le_of_ble_eq_true rfl⟩ hl.1 rfl (Nat.le_of_ble_eq_true rfl) dL_law_1819 ⟨Nat.le_refl _, Nat.le_refl _⟩ (fun r2 i2 g2 H locs hq hT hS => ?_)
  obtain ⟨hR2, rfl⟩ := hq
  refine lv_icmp_eq (tgt := 2197) hx hb dL_law_1822 (by decide) (fun c3 => ?_) (fun c3 => (x_ne (rg_k (by decide) : rg (-2) (-2) (-2)) (rg_k (by decide) : rg (-2) (-2) (-2)) (i_ne c3) (by decide)).elim)
  exact hE _ _ _ hS (lv_sub hl [0, 1, 2, 3] rfl)

set_option maxRecDepth 100000 in
set_option maxHeartbeats 4000000 in
theorem law_64 {p : Program} {l : Launch} {e : Env} {s : State} {m : MethodId} {below : List Frame} {meth : Method} {c : Code} {D : va_G} {cz : Nat → ClassId} {h : Nat → Nat} {i : Nat → Nat → Int32} {g : Nat → Nat → Int64} {b : Nat} {xs : Nat → Int32} {H : Heap} {locs : List Loc} {ls : Array Slot} {Q : State → Prop} (X : Cxt p s m c #[Value.ref b] cL_law 4 "UncutTaleLaw" D cz) (hRF : Rg rF i) (hRL : Rg rL i) (hRM : Rg rM i) (hRN : Rg rN i) (hX : va_X b 6 xs s s.heap) (hbl : b < s.heap.size) (hbA : ¬ hA h b) (hT : TH D h cz i g H) (hS : va_S (hA h) s.heap H locs) (hl : lv_has ls 4 [(3, .int 0), (2, .ref (h 96)), (1, .ref (h 0)), (0, .ref b)]) (hE : ∀ (H : Heap) (locs : List Loc) (ls : Array Slot), va_S (hA h) s.heap H locs → lv_has ls 4 [(3, .int 0), (2, .ref (h 96)), (1, .ref (h 0)), (0, .ref b)] → W p l e room_1 s m #[Value.ref b] below meth c H locs 600000 7302250 Q (F0 m 2197 ls [])) : W p l e room_1 s m #[Value.ref b] below meth c H locs 600000 7302250 Q (F0 m 1827 ls []) := by
  have hx := X.1
  have hb := X.2.1
  refine lv_aload_n hx hb dL_law_1827 rfl (lv_at hl 2 rfl) ?_
  refine r_Vi (As := []) (rest := []) X hT hS (k_X8_anew hRF) mk_X8_anew gm_1270 rfl rfl (by decide) hd_X8_anew ⟨rfl, rfl⟩ ⟨Nat.le_of_ble_eq_true rfl, Nat.le_of_ble_eq_true rfl⟩ hl.1 rfl (Nat.le_of_ble_eq_true rfl) dL_law_1828 ⟨Nat.le_refl _, Nat.le_refl _⟩ (fun r1 i1 g1 H locs hq hT hS => ?_)
  obtain ⟨eh1, rfl⟩ := hq
  rw [(Prod.mk.inj eh1).1, (Prod.mk.inj eh1).2] at hT
  refine lv_aload_n hx hb dL_law_1831 rfl (lv_at hl 1 rfl) ?_
  refine r_Vi (As := []) (rest := [.int (-2)]) X hT hS (k_X9_anew hRM) mk_X9_anew gm_2090 rfl rfl (by decide) hd_X9_anew ⟨rfl, rfl⟩ ⟨Nat.le_of_ble_eq_true rfl, Nat.le_of_ble_eq_true rfl⟩ hl.1 rfl (Nat.le_of_ble_eq_true rfl) dL_law_1832 ⟨Nat.le_refl _, Nat.le_refl _⟩ (fun r2 i2 g2 H locs hq hT hS => ?_)
  obtain ⟨hR2, rfl⟩ := hq
  refine lv_icmp_eq (tgt := 2197) hx hb dL_law_1835 (by decide) (fun c3 => ?_) (fun c3 => (x_ne (rg_k (by decide) : rg (-2) (-2) (-2)) (rg_k (by decide) : rg (-2) (-2) (-2)) (i_ne c3) (by decide)).elim)
  exact hE _ _ _ hS (lv_sub hl [0, 1, 2, 3] rfl)

set_option maxRecDepth 100000 in
set_option maxHeartbeats 4000000 in
theorem law_65 {p : Program} {l : Launch} {e : Env} {s : State} {m : MethodId} {below : List Frame} {meth : Method} {c : Code} {D : va_G} {cz : Nat → ClassId} {h : Nat → Nat} {i : Nat → Nat → Int32} {g : Nat → Nat → Int64} {b : Nat} {xs : Nat → Int32} {H : Heap} {locs : List Loc} {ls : Array Slot} {Q : State → Prop} (X : Cxt p s m c #[Value.ref b] cL_law 4 "UncutTaleLaw" D cz) (hRF : Rg rF i) (hRL : Rg rL i) (hRM : Rg rM i) (hRN : Rg rN i) (hX : va_X b 6 xs s s.heap) (hbl : b < s.heap.size) (hbA : ¬ hA h b) (hT : TH D h cz i g H) (hS : va_S (hA h) s.heap H locs) (hl : lv_has ls 4 [(3, .int 0), (2, .ref (h 96)), (1, .ref (h 0)), (0, .ref b)]) (hE : ∀ (H : Heap) (locs : List Loc) (ls : Array Slot), va_S (hA h) s.heap H locs → lv_has ls 4 [(3, .int 0), (2, .ref (h 96)), (1, .ref (h 0)), (0, .ref b)] → W p l e room_1 s m #[Value.ref b] below meth c H locs 600000 7302250 Q (F0 m 2197 ls [])) : W p l e room_1 s m #[Value.ref b] below meth c H locs 600000 7302250 Q (F0 m 1840 ls []) := by
  have hx := X.1
  have hb := X.2.1
  refine lv_aload_n hx hb dL_law_1840 rfl (lv_at hl 2 rfl) ?_
  refine lv_aload_n hx hb dL_law_1841 rfl (lv_at hl 3 rfl) ?_
  refine lv_iload_n hx hb dL_law_1842 rfl (lv_at hl 0 rfl) ?_
  refine lv_iconst (v := 1) hx hb dL_law_1843 (by decide) ?_
  refine q_iadd hx hb dL_law_1844 (fun x1 ex1 => ?_)
  obtain rfl : x1 = 1 := by rw [ex1]; decide
  refine va_sld hx hb hX hbl hbA hS (i := 1) (v_in (rg_k (by decide) : rg 1 1 1) (by decide)) dL_law_1845 ?_
  refine lv_aload_n hx hb dL_law_1846 rfl (lv_at hl 3 rfl) ?_
  refine lv_iload_n hx hb dL_law_1847 rfl (lv_at hl 0 rfl) ?_
  refine lv_iconst (v := 2) hx hb dL_law_1848 (by decide) ?_
  refine q_iadd hx hb dL_law_1849 (fun x2 ex2 => ?_)
  obtain rfl : x2 = 2 := by rw [ex2]; decide
  refine va_sld hx hb hX hbl hbA hS (i := 2) (v_in (rg_k (by decide) : rg 2 2 2) (by decide)) dL_law_1850 ?_
  refine r_Vi (As := [.int (xs (Int32.toNatClampNeg 1)), .int (xs (Int32.toNatClampNeg 2))]) (rest := []) X hT hS (k_X8_drawn hRF (xs (Int32.toNatClampNeg 1)) (xs (Int32.toNatClampNeg 2))) mk_X8_drawn gm_1229 rfl rfl (by decide) hd_X8_drawn ⟨rfl, rfl⟩ ⟨Nat.le_of_ble_eq_true rfl, Nat.le_of_ble_eq_true rfl⟩ hl.1 rfl (Nat.le_of_ble_eq_true rfl) dL_law_1851 ⟨Nat.le_refl _, Nat.le_refl _⟩ (fun r3 i3 g3 H locs hq hT hS => ?_)
  obtain ⟨eh3, rfl⟩ := hq
  rw [(Prod.mk.inj eh3).1, (Prod.mk.inj eh3).2] at hT
  refine lv_aload_n hx hb dL_law_1854 rfl (lv_at hl 1 rfl) ?_
  refine lv_aload_n hx hb dL_law_1855 rfl (lv_at hl 3 rfl) ?_
  refine lv_iload_n hx hb dL_law_1856 rfl (lv_at hl 0 rfl) ?_
  refine lv_iconst (v := 1) hx hb dL_law_1857 (by decide) ?_
  refine q_iadd hx hb dL_law_1858 (fun x4 ex4 => ?_)
  obtain rfl : x4 = 1 := by rw [ex4]; decide
  refine va_sld hx hb hX hbl hbA hS (i := 1) (v_in (rg_k (by decide) : rg 1 1 1) (by decide)) dL_law_1859 ?_
  refine lv_aload_n hx hb dL_law_1860 rfl (lv_at hl 3 rfl) ?_
  refine lv_iload_n hx hb dL_law_1861 rfl (lv_at hl 0 rfl) ?_
  refine lv_iconst (v := 2) hx hb dL_law_1862 (by decide) ?_
  refine q_iadd hx hb dL_law_1863 (fun x5 ex5 => ?_)
  obtain rfl : x5 = 2 := by rw [ex5]; decide
  refine va_sld hx hb hX hbl hbA hS (i := 2) (v_in (rg_k (by decide) : rg 2 2 2) (by decide)) dL_law_1864 ?_
  refine r_Vi (As := [.int (xs (Int32.toNatClampNeg 1)), .int (xs (Int32.toNatClampNeg 2))]) (rest := [.int (-2)]) X hT hS (k_X9_drawn hRM (xs (Int32.toNatClampNeg 1)) (xs (Int32.toNatClampNeg 2))) mk_X9_drawn gm_2053 rfl rfl (by decide) hd_X9_drawn ⟨rfl, rfl⟩ ⟨Nat.le_of_ble_eq_true rfl, Nat.le_of_ble_eq_true rfl⟩ hl.1 rfl (Nat.le_of_ble_eq_true rfl) dL_law_1865 ⟨Nat.le_refl _, Nat.le_refl _⟩ (fun r6 i6 g6 H locs hq hT hS => ?_)
  obtain ⟨hR6, rfl⟩ := hq
  refine lv_icmp_eq (tgt := 2197) hx hb dL_law_1868 (by decide) (fun c7 => ?_) (fun c7 => (x_ne (rg_k (by decide) : rg (-2) (-2) (-2)) (rg_k (by decide) : rg (-2) (-2) (-2)) (i_ne c7) (by decide)).elim)
  exact hE _ _ _ hS (lv_sub hl [0, 1, 2, 3] rfl)

set_option maxRecDepth 100000 in
set_option maxHeartbeats 4000000 in
theorem law_66 {p : Program} {l : Launch} {e : Env} {s : State} {m : MethodId} {below : List Frame} {meth : Method} {c : Code} {D : va_G} {cz : Nat → ClassId} {h : Nat → Nat} {i : Nat → Nat → Int32} {g : Nat → Nat → Int64} {b : Nat} {xs : Nat → Int32} {H : Heap} {locs : List Loc} {ls : Array Slot} {Q : State → Prop} (X : Cxt p s m c #[Value.ref b] cL_law 4 "UncutTaleLaw" D cz) (hRF : Rg rF i) (hRL : Rg rL i) (hRM : Rg rM i) (hRN : Rg rN i) (hX : va_X b 6 xs s s.heap) (hbl : b < s.heap.size) (hbA : ¬ hA h b) (hT : TH D h cz i g H) (hS : va_S (hA h) s.heap H locs) (hl : lv_has ls 4 [(3, .int 0), (2, .ref (h 96)), (1, .ref (h 0)), (0, .ref b)]) (hE : ∀ (H : Heap) (locs : List Loc) (ls : Array Slot), va_S (hA h) s.heap H locs → lv_has ls 4 [(3, .int 0), (2, .ref (h 96)), (1, .ref (h 0)), (0, .ref b)] → W p l e room_1 s m #[Value.ref b] below meth c H locs 600000 7302250 Q (F0 m 2197 ls [])) : W p l e room_1 s m #[Value.ref b] below meth c H locs 600000 7302250 Q (F0 m 1873 ls []) := by
  have hx := X.1
  have hb := X.2.1
  refine lv_aload_n hx hb dL_law_1873 rfl (lv_at hl 2 rfl) ?_
  refine lv_aload_n hx hb dL_law_1874 rfl (lv_at hl 3 rfl) ?_
  refine lv_iload_n hx hb dL_law_1875 rfl (lv_at hl 0 rfl) ?_
  refine lv_iconst (v := 1) hx hb dL_law_1876 (by decide) ?_
  refine q_iadd hx hb dL_law_1877 (fun x1 ex1 => ?_)
  obtain rfl : x1 = 1 := by rw [ex1]; decide
  refine va_sld hx hb hX hbl hbA hS (i := 1) (v_in (rg_k (by decide) : rg 1 1 1) (by decide)) dL_law_1878 ?_
  refine lv_aload_n hx hb dL_law_1879 rfl (lv_at hl 3 rfl) ?_
  refine lv_iload_n hx hb dL_law_1880 rfl (lv_at hl 0 rfl) ?_
  refine lv_iconst (v := 2) hx hb dL_law_1881 (by decide) ?_
  refine q_iadd hx hb dL_law_1882 (fun x2 ex2 => ?_)
  obtain rfl : x2 = 2 := by rw [ex2]; decide
  refine va_sld hx hb hX hbl hbA hS (i := 2) (v_in (rg_k (by decide) : rg 2 2 2) (by decide)) dL_law_1883 ?_
  refine lv_aload_n hx hb dL_law_1884 rfl (lv_at hl 3 rfl) ?_
  refine lv_iload_n hx hb dL_law_1885 rfl (lv_at hl 0 rfl) ?_
  refine lv_iconst (v := 3) hx hb dL_law_1886 (by decide) ?_
  refine q_iadd hx hb dL_law_1887 (fun x3 ex3 => ?_)
  obtain rfl : x3 = 3 := by rw [ex3]; decide
  refine va_sld hx hb hX hbl hbA hS (i := 3) (v_in (rg_k (by decide) : rg 3 3 3) (by decide)) dL_law_1888 ?_
  refine r_Vi (As := [.int (xs (Int32.toNatClampNeg 1)), .int (xs (Int32.toNatClampNeg 2)), .int (xs (Int32.toNatClampNeg 3))]) (rest := []) X hT hS (k_X8_luck hRF (xs (Int32.toNatClampNeg 1)) (xs (Int32.toNatClampNeg 2)) (xs (Int32.toNatClampNeg 3))) mk_X8_luck gm_1246 rfl rfl (by decide) hd_X8_luck ⟨rfl, rfl⟩ ⟨Nat.le_of_ble_eq_true rfl, Nat.le_of_ble_eq_true rfl⟩ hl.1 rfl (Nat.le_of_ble_eq_true rfl) dL_law_1889 ⟨Nat.le_refl _, Nat.le_refl _⟩ (fun r4 i4 g4 H locs hq hT hS => ?_)
  obtain ⟨eh4, rfl⟩ := hq
  rw [(Prod.mk.inj eh4).1, (Prod.mk.inj eh4).2] at hT
  refine lv_aload_n hx hb dL_law_1892 rfl (lv_at hl 1 rfl) ?_
  refine lv_aload_n hx hb dL_law_1893 rfl (lv_at hl 3 rfl) ?_
  refine lv_iload_n hx hb dL_law_1894 rfl (lv_at hl 0 rfl) ?_
  refine lv_iconst (v := 1) hx hb dL_law_1895 (by decide) ?_
  refine q_iadd hx hb dL_law_1896 (fun x5 ex5 => ?_)
  obtain rfl : x5 = 1 := by rw [ex5]; decide
  refine va_sld hx hb hX hbl hbA hS (i := 1) (v_in (rg_k (by decide) : rg 1 1 1) (by decide)) dL_law_1897 ?_
  refine lv_aload_n hx hb dL_law_1898 rfl (lv_at hl 3 rfl) ?_
  refine lv_iload_n hx hb dL_law_1899 rfl (lv_at hl 0 rfl) ?_
  refine lv_iconst (v := 2) hx hb dL_law_1900 (by decide) ?_
  refine q_iadd hx hb dL_law_1901 (fun x6 ex6 => ?_)
  obtain rfl : x6 = 2 := by rw [ex6]; decide
  refine va_sld hx hb hX hbl hbA hS (i := 2) (v_in (rg_k (by decide) : rg 2 2 2) (by decide)) dL_law_1902 ?_
  refine lv_aload_n hx hb dL_law_1903 rfl (lv_at hl 3 rfl) ?_
  refine lv_iload_n hx hb dL_law_1904 rfl (lv_at hl 0 rfl) ?_
  refine lv_iconst (v := 3) hx hb dL_law_1905 (by decide) ?_
  refine q_iadd hx hb dL_law_1906 (fun x7 ex7 => ?_)
  obtain rfl : x7 = 3 := by rw [ex7]; decide
  refine va_sld hx hb hX hbl hbA hS (i := 3) (v_in (rg_k (by decide) : rg 3 3 3) (by decide)) dL_law_1907 ?_
  refine r_Vi (As := [.int (xs (Int32.toNatClampNeg 1)), .int (xs (Int32.toNatClampNeg 2)), .int (xs (Int32.toNatClampNeg 3))]) (rest := [.int (-2)]) X hT hS (k_X9_luck hRM (xs (Int32.toNatClampNeg 1)) (xs (Int32.toNatClampNeg 2)) (xs (Int32.toNatClampNeg 3))) mk_X9_luck gm_2069 rfl rfl (by decide) hd_X9_luck ⟨rfl, rfl⟩ ⟨Nat.le_of_ble_eq_true rfl, Nat.le_of_ble_eq_true rfl⟩ hl.1 rfl (Nat.le_of_ble_eq_true rfl) dL_law_1908 ⟨Nat.le_refl _, Nat.le_refl _⟩ (fun r8 i8 g8 H locs hq hT hS => ?_)
  obtain ⟨hR8, rfl⟩ := hq
  refine lv_icmp_eq (tgt := 2197) hx hb dL_law_1911 (by decide) (fun c9 => ?_) (fun c9 => (x_ne (rg_k (by decide) : rg (-2) (-2) (-2)) (rg_k (by decide) : rg (-2) (-2) (-2)) (i_ne c9) (by decide)).elim)
  exact hE _ _ _ hS (lv_sub hl [0, 1, 2, 3] rfl)

set_option maxRecDepth 100000 in
set_option maxHeartbeats 4000000 in
theorem law_67 {p : Program} {l : Launch} {e : Env} {s : State} {m : MethodId} {below : List Frame} {meth : Method} {c : Code} {D : va_G} {cz : Nat → ClassId} {h : Nat → Nat} {i : Nat → Nat → Int32} {g : Nat → Nat → Int64} {b : Nat} {xs : Nat → Int32} {H : Heap} {locs : List Loc} {ls : Array Slot} {Q : State → Prop} (X : Cxt p s m c #[Value.ref b] cL_law 4 "UncutTaleLaw" D cz) (hRF : Rg rF i) (hRL : Rg rL i) (hRM : Rg rM i) (hRN : Rg rN i) (hX : va_X b 6 xs s s.heap) (hbl : b < s.heap.size) (hbA : ¬ hA h b) (hT : TH D h cz i g H) (hS : va_S (hA h) s.heap H locs) (hl : lv_has ls 4 [(3, .int 0), (2, .ref (h 96)), (1, .ref (h 0)), (0, .ref b)]) (hE : ∀ (H : Heap) (locs : List Loc) (ls : Array Slot), va_S (hA h) s.heap H locs → lv_has ls 4 [(3, .int 0), (2, .ref (h 96)), (1, .ref (h 0)), (0, .ref b)] → W p l e room_1 s m #[Value.ref b] below meth c H locs 600000 7302250 Q (F0 m 2197 ls [])) : W p l e room_1 s m #[Value.ref b] below meth c H locs 600000 7302250 Q (F0 m 1916 ls []) := by
  have hx := X.1
  have hb := X.2.1
  refine lv_aload_n hx hb dL_law_1916 rfl (lv_at hl 2 rfl) ?_
  refine lv_aload_n hx hb dL_law_1917 rfl (lv_at hl 3 rfl) ?_
  refine lv_iload_n hx hb dL_law_1918 rfl (lv_at hl 0 rfl) ?_
  refine lv_iconst (v := 1) hx hb dL_law_1919 (by decide) ?_
  refine q_iadd hx hb dL_law_1920 (fun x1 ex1 => ?_)
  obtain rfl : x1 = 1 := by rw [ex1]; decide
  refine va_sld hx hb hX hbl hbA hS (i := 1) (v_in (rg_k (by decide) : rg 1 1 1) (by decide)) dL_law_1921 ?_
  refine lv_aload_n hx hb dL_law_1922 rfl (lv_at hl 3 rfl) ?_
  refine lv_iload_n hx hb dL_law_1923 rfl (lv_at hl 0 rfl) ?_
  refine lv_iconst (v := 2) hx hb dL_law_1924 (by decide) ?_
  refine q_iadd hx hb dL_law_1925 (fun x2 ex2 => ?_)
  obtain rfl : x2 = 2 := by rw [ex2]; decide
  refine va_sld hx hb hX hbl hbA hS (i := 2) (v_in (rg_k (by decide) : rg 2 2 2) (by decide)) dL_law_1926 ?_
  refine r_Vi (As := [.int (xs (Int32.toNatClampNeg 1)), .int (xs (Int32.toNatClampNeg 2))]) (rest := []) X hT hS (k_X8_rate hRF (xs (Int32.toNatClampNeg 1)) (xs (Int32.toNatClampNeg 2))) mk_X8_rate gm_1274 rfl rfl (by decide) hd_X8_rate ⟨rfl, rfl⟩ ⟨Nat.le_of_ble_eq_true rfl, Nat.le_of_ble_eq_true rfl⟩ hl.1 rfl (Nat.le_of_ble_eq_true rfl) dL_law_1927 ⟨Nat.le_refl _, Nat.le_refl _⟩ (fun r3 i3 g3 H locs hq hT hS => ?_)
  obtain ⟨eh3, rfl⟩ := hq
  rw [(Prod.mk.inj eh3).1, (Prod.mk.inj eh3).2] at hT
  refine lv_aload_n hx hb dL_law_1930 rfl (lv_at hl 1 rfl) ?_
  refine lv_aload_n hx hb dL_law_1931 rfl (lv_at hl 3 rfl) ?_
  refine lv_iload_n hx hb dL_law_1932 rfl (lv_at hl 0 rfl) ?_
  refine lv_iconst (v := 1) hx hb dL_law_1933 (by decide) ?_
  refine q_iadd hx hb dL_law_1934 (fun x4 ex4 => ?_)
  obtain rfl : x4 = 1 := by rw [ex4]; decide
  refine va_sld hx hb hX hbl hbA hS (i := 1) (v_in (rg_k (by decide) : rg 1 1 1) (by decide)) dL_law_1935 ?_
  refine lv_aload_n hx hb dL_law_1936 rfl (lv_at hl 3 rfl) ?_
  refine lv_iload_n hx hb dL_law_1937 rfl (lv_at hl 0 rfl) ?_
  refine lv_iconst (v := 2) hx hb dL_law_1938 (by decide) ?_
  refine q_iadd hx hb dL_law_1939 (fun x5 ex5 => ?_)
  obtain rfl : x5 = 2 := by rw [ex5]; decide
  refine va_sld hx hb hX hbl hbA hS (i := 2) (v_in (rg_k (by decide) : rg 2 2 2) (by decide)) dL_law_1940 ?_
  refine r_Vi (As := [.int (xs (Int32.toNatClampNeg 1)), .int (xs (Int32.toNatClampNeg 2))]) (rest := [.int (-2)]) X hT hS (k_X9_rate hRM (xs (Int32.toNatClampNeg 1)) (xs (Int32.toNatClampNeg 2))) mk_X9_rate gm_2094 rfl rfl (by decide) hd_X9_rate ⟨rfl, rfl⟩ ⟨Nat.le_of_ble_eq_true rfl, Nat.le_of_ble_eq_true rfl⟩ hl.1 rfl (Nat.le_of_ble_eq_true rfl) dL_law_1941 ⟨Nat.le_refl _, Nat.le_refl _⟩ (fun r6 i6 g6 H locs hq hT hS => ?_)
  obtain ⟨hR6, rfl⟩ := hq
  refine lv_icmp_eq (tgt := 2197) hx hb dL_law_1944 (by decide) (fun c7 => ?_) (fun c7 => (x_ne (rg_k (by decide) : rg (-2) (-2) (-2)) (rg_k (by decide) : rg (-2) (-2) (-2)) (i_ne c7) (by decide)).elim)
  exact hE _ _ _ hS (lv_sub hl [0, 1, 2, 3] rfl)

set_option maxRecDepth 100000 in
set_option maxHeartbeats 4000000 in
theorem law_68 {p : Program} {l : Launch} {e : Env} {s : State} {m : MethodId} {below : List Frame} {meth : Method} {c : Code} {D : va_G} {cz : Nat → ClassId} {h : Nat → Nat} {i : Nat → Nat → Int32} {g : Nat → Nat → Int64} {b : Nat} {xs : Nat → Int32} {H : Heap} {locs : List Loc} {ls : Array Slot} {Q : State → Prop} (X : Cxt p s m c #[Value.ref b] cL_law 4 "UncutTaleLaw" D cz) (hRF : Rg rF i) (hRL : Rg rL i) (hRM : Rg rM i) (hRN : Rg rN i) (hX : va_X b 6 xs s s.heap) (hbl : b < s.heap.size) (hbA : ¬ hA h b) (hT : TH D h cz i g H) (hS : va_S (hA h) s.heap H locs) (hl : lv_has ls 4 [(3, .int 0), (2, .ref (h 96)), (1, .ref (h 0)), (0, .ref b)]) (hE : ∀ (H : Heap) (locs : List Loc) (ls : Array Slot), va_S (hA h) s.heap H locs → lv_has ls 4 [(3, .int 0), (2, .ref (h 96)), (1, .ref (h 0)), (0, .ref b)] → W p l e room_1 s m #[Value.ref b] below meth c H locs 600000 7302250 Q (F0 m 2197 ls [])) : W p l e room_1 s m #[Value.ref b] below meth c H locs 600000 7302250 Q (F0 m 1949 ls []) := by
  have hx := X.1
  have hb := X.2.1
  refine lv_aload_n hx hb dL_law_1949 rfl (lv_at hl 2 rfl) ?_
  refine lv_aload_n hx hb dL_law_1950 rfl (lv_at hl 3 rfl) ?_
  refine lv_iload_n hx hb dL_law_1951 rfl (lv_at hl 0 rfl) ?_
  refine lv_iconst (v := 1) hx hb dL_law_1952 (by decide) ?_
  refine q_iadd hx hb dL_law_1953 (fun x1 ex1 => ?_)
  obtain rfl : x1 = 1 := by rw [ex1]; decide
  refine va_sld hx hb hX hbl hbA hS (i := 1) (v_in (rg_k (by decide) : rg 1 1 1) (by decide)) dL_law_1954 ?_
  refine r_Vi (As := [.int (xs (Int32.toNatClampNeg 1))]) (rest := []) X hT hS (k_X8_count hRF (xs (Int32.toNatClampNeg 1))) mk_X8_count gm_711 rfl rfl (by decide) hd_X8_count ⟨rfl, rfl⟩ ⟨Nat.le_of_ble_eq_true rfl, Nat.le_of_ble_eq_true rfl⟩ hl.1 rfl (Nat.le_of_ble_eq_true rfl) dL_law_1955 ⟨Nat.le_refl _, Nat.le_refl _⟩ (fun r2 i2 g2 H locs hq hT hS => ?_)
  rcases hq with hq | hq
  ·
    obtain ⟨eh2, rfl, hf2_0⟩ := hq
    rw [(Prod.mk.inj eh2).1, (Prod.mk.inj eh2).2] at hT
    refine lv_aload_n hx hb dL_law_1958 rfl (lv_at hl 1 rfl) ?_
    refine lv_aload_n hx hb dL_law_1959 rfl (lv_at hl 3 rfl) ?_
    refine lv_iload_n hx hb dL_law_1960 rfl (lv_at hl 0 rfl) ?_
    refine lv_iconst (v := 1) hx hb dL_law_1961 (by decide) ?_
    refine q_iadd hx hb dL_law_1962 (fun x3 ex3 => ?_)
    obtain rfl : x3 = 1 := by rw [ex3]; decide
    refine va_sld hx hb hX hbl hbA hS (i := 1) (v_in (rg_k (by decide) : rg 1 1 1) (by decide)) dL_law_1963 ?_
    refine r_Vi (As := [.int (xs (Int32.toNatClampNeg 1))]) (rest := [.int 0]) X hT hS (k_X9_count hRM (xs (Int32.toNatClampNeg 1))) mk_X9_count gm_2099 rfl rfl (by decide) hd_X9_count ⟨rfl, rfl⟩ ⟨Nat.le_of_ble_eq_true rfl, Nat.le_of_ble_eq_true rfl⟩ hl.1 rfl (Nat.le_of_ble_eq_true rfl) dL_law_1964 ⟨Nat.le_refl _, Nat.le_refl _⟩ (fun r4 i4 g4 H locs hq hT hS => ?_)
    rcases hq with hq | hq
    ·
      obtain ⟨hR4, rfl, hf4_0⟩ := hq
      refine lv_icmp_eq (tgt := 2197) hx hb dL_law_1967 (by decide) (fun c5 => ?_) (fun c5 => (x_ne (rg_k (by decide) : rg 0 0 0) (rg_k (by decide) : rg 0 0 0) (i_ne c5) (by decide)).elim)
      exact hE _ _ _ hS (lv_sub hl [0, 1, 2, 3] rfl)
    ·
      obtain ⟨hR4, rfl, hf4_0⟩ := hq
      refine lv_icmp_eq (tgt := 2197) hx hb dL_law_1967 (by decide) (fun c6 => (x_eq (rg_k (by decide) : rg 0 0 0) (rg_k (by decide) : rg (-1) (-1) (-1)) (i_eq c6) (by decide)).elim) (fun c6 => ?_)
      refine lv_iconst (v := 0) hx hb dL_law_1970 (by decide) ?_
      exact (by have := hf2_0; have := hf4_0; omega : False).elim
  ·
    obtain ⟨eh2, rfl, hf2_0⟩ := hq
    rw [(Prod.mk.inj eh2).1, (Prod.mk.inj eh2).2] at hT
    refine lv_aload_n hx hb dL_law_1958 rfl (lv_at hl 1 rfl) ?_
    refine lv_aload_n hx hb dL_law_1959 rfl (lv_at hl 3 rfl) ?_
    refine lv_iload_n hx hb dL_law_1960 rfl (lv_at hl 0 rfl) ?_
    refine lv_iconst (v := 1) hx hb dL_law_1961 (by decide) ?_
    refine q_iadd hx hb dL_law_1962 (fun x7 ex7 => ?_)
    obtain rfl : x7 = 1 := by rw [ex7]; decide
    refine va_sld hx hb hX hbl hbA hS (i := 1) (v_in (rg_k (by decide) : rg 1 1 1) (by decide)) dL_law_1963 ?_
    refine r_Vi (As := [.int (xs (Int32.toNatClampNeg 1))]) (rest := [.int (-1)]) X hT hS (k_X9_count hRM (xs (Int32.toNatClampNeg 1))) mk_X9_count gm_2099 rfl rfl (by decide) hd_X9_count ⟨rfl, rfl⟩ ⟨Nat.le_of_ble_eq_true rfl, Nat.le_of_ble_eq_true rfl⟩ hl.1 rfl (Nat.le_of_ble_eq_true rfl) dL_law_1964 ⟨Nat.le_refl _, Nat.le_refl _⟩ (fun r8 i8 g8 H locs hq hT hS => ?_)
    rcases hq with hq | hq
    ·
      obtain ⟨hR8, rfl, hf8_0⟩ := hq
      refine lv_icmp_eq (tgt := 2197) hx hb dL_law_1967 (by decide) (fun c9 => (x_eq (rg_k (by decide) : rg (-1) (-1) (-1)) (rg_k (by decide) : rg 0 0 0) (i_eq c9) (by decide)).elim) (fun c9 => ?_)
      refine lv_iconst (v := 0) hx hb dL_law_1970 (by decide) ?_
      exact (by have := hf2_0; have := hf8_0; omega : False).elim
    ·
      obtain ⟨hR8, rfl, hf8_0⟩ := hq
      refine lv_icmp_eq (tgt := 2197) hx hb dL_law_1967 (by decide) (fun c10 => ?_) (fun c10 => (x_ne (rg_k (by decide) : rg (-1) (-1) (-1)) (rg_k (by decide) : rg (-1) (-1) (-1)) (i_ne c10) (by decide)).elim)
      exact hE _ _ _ hS (lv_sub hl [0, 1, 2, 3] rfl)

set_option maxRecDepth 100000 in
set_option maxHeartbeats 4000000 in
theorem law_69 {p : Program} {l : Launch} {e : Env} {s : State} {m : MethodId} {below : List Frame} {meth : Method} {c : Code} {D : va_G} {cz : Nat → ClassId} {h : Nat → Nat} {i : Nat → Nat → Int32} {g : Nat → Nat → Int64} {b : Nat} {xs : Nat → Int32} {H : Heap} {locs : List Loc} {ls : Array Slot} {Q : State → Prop} (X : Cxt p s m c #[Value.ref b] cL_law 4 "UncutTaleLaw" D cz) (hRF : Rg rF i) (hRL : Rg rL i) (hRM : Rg rM i) (hRN : Rg rN i) (hX : va_X b 6 xs s s.heap) (hbl : b < s.heap.size) (hbA : ¬ hA h b) (hT : TH D h cz i g H) (hS : va_S (hA h) s.heap H locs) (hl : lv_has ls 4 [(3, .int 0), (2, .ref (h 96)), (1, .ref (h 0)), (0, .ref b)]) (hE : ∀ (H : Heap) (locs : List Loc) (ls : Array Slot), va_S (hA h) s.heap H locs → lv_has ls 4 [(3, .int 0), (2, .ref (h 96)), (1, .ref (h 0)), (0, .ref b)] → W p l e room_1 s m #[Value.ref b] below meth c H locs 600000 7302250 Q (F0 m 2197 ls [])) : W p l e room_1 s m #[Value.ref b] below meth c H locs 600000 7302250 Q (F0 m 1972 ls []) := by
  have hx := X.1
  have hb := X.2.1
  refine lv_aload_n hx hb dL_law_1972 rfl (lv_at hl 2 rfl) ?_
  refine lv_aload_n hx hb dL_law_1973 rfl (lv_at hl 3 rfl) ?_
  refine lv_iload_n hx hb dL_law_1974 rfl (lv_at hl 0 rfl) ?_
  refine lv_iconst (v := 1) hx hb dL_law_1975 (by decide) ?_
  refine q_iadd hx hb dL_law_1976 (fun x1 ex1 => ?_)
  obtain rfl : x1 = 1 := by rw [ex1]; decide
  refine va_sld hx hb hX hbl hbA hS (i := 1) (v_in (rg_k (by decide) : rg 1 1 1) (by decide)) dL_law_1977 ?_
  refine r_Vi (As := [.int (xs (Int32.toNatClampNeg 1))]) (rest := []) X hT hS (k_X8_image hRL (xs (Int32.toNatClampNeg 1))) mk_X8_image gm_1278 rfl rfl (by decide) hd_X8_image ⟨rfl, rfl⟩ ⟨Nat.le_of_ble_eq_true rfl, Nat.le_of_ble_eq_true rfl⟩ hl.1 rfl (Nat.le_of_ble_eq_true rfl) dL_law_1978 ⟨Nat.le_refl _, Nat.le_refl _⟩ (fun r2 i2 g2 H locs hq hT hS => ?_)
  rcases hq with hq | hq
  ·
    obtain ⟨hR2, rfl, hf2_0⟩ := hq
    have h3 : rg 0 2 (xs (Int32.toNatClampNeg 1)) := ⟨by have := (rg_top (xs (Int32.toNatClampNeg 1))).1; have := hf2_0.1; omega, by have := (rg_top (xs (Int32.toNatClampNeg 1))).2; have := hf2_0.2; omega⟩
    have hRm2 : Rg rM i2 := Rg_mono hR2 mono_LM ln_hi
    have hRn2 : Rg rN i2 := Rg_mono hR2 mono_LN ln_hi
    refine lv_aload_n hx hb dL_law_1981 rfl (lv_at hl 1 rfl) ?_
    refine lv_aload_n hx hb dL_law_1982 rfl (lv_at hl 3 rfl) ?_
    refine lv_iload_n hx hb dL_law_1983 rfl (lv_at hl 0 rfl) ?_
    refine lv_iconst (v := 1) hx hb dL_law_1984 (by decide) ?_
    refine q_iadd hx hb dL_law_1985 (fun x4 ex4 => ?_)
    obtain rfl : x4 = 1 := by rw [ex4]; decide
    refine va_sld hx hb hX hbl hbA hS (i := 1) (v_in (rg_k (by decide) : rg 1 1 1) (by decide)) dL_law_1986 ?_
    refine r_Vi (As := [.int (xs (Int32.toNatClampNeg 1))]) (rest := [.int 0]) X hT hS (k_X9_image hRn2 (xs (Int32.toNatClampNeg 1))) mk_X9_image gm_2104 rfl rfl (by decide) hd_X9_image ⟨rfl, rfl⟩ ⟨Nat.le_of_ble_eq_true rfl, Nat.le_of_ble_eq_true rfl⟩ hl.1 rfl (Nat.le_of_ble_eq_true rfl) dL_law_1987 ⟨Nat.le_refl _, Nat.le_refl _⟩ (fun r5 i5 g5 H locs hq hT hS => ?_)
    rcases hq with hq | hq
    ·
      obtain ⟨hR5, rfl, hf5_0⟩ := hq
      refine lv_icmp_eq (tgt := 2197) hx hb dL_law_1990 (by decide) (fun c6 => ?_) (fun c6 => (x_ne (rg_k (by decide) : rg 0 0 0) (rg_k (by decide) : rg 0 0 0) (i_ne c6) (by decide)).elim)
      exact hE _ _ _ hS (lv_sub hl [0, 1, 2, 3] rfl)
    ·
      obtain ⟨hR5, rfl, hf5_0⟩ := hq
      refine lv_icmp_eq (tgt := 2197) hx hb dL_law_1990 (by decide) (fun c7 => (x_eq (rg_k (by decide) : rg 0 0 0) (rg_k (by decide) : rg (-2) (-2) (-2)) (i_eq c7) (by decide)).elim) (fun c7 => ?_)
      refine lv_iconst (v := 0) hx hb dL_law_1993 (by decide) ?_
      exact (by have := hf2_0.1; have := hf2_0.2; have := hf5_0; omega : False).elim
  ·
    obtain ⟨hR2, rfl, hf2_0⟩ := hq
    have hRm2 : Rg rM i2 := Rg_mono hR2 mono_LM ln_hi
    have hRn2 : Rg rN i2 := Rg_mono hR2 mono_LN ln_hi
    refine lv_aload_n hx hb dL_law_1981 rfl (lv_at hl 1 rfl) ?_
    refine lv_aload_n hx hb dL_law_1982 rfl (lv_at hl 3 rfl) ?_
    refine lv_iload_n hx hb dL_law_1983 rfl (lv_at hl 0 rfl) ?_
    refine lv_iconst (v := 1) hx hb dL_law_1984 (by decide) ?_
    refine q_iadd hx hb dL_law_1985 (fun x8 ex8 => ?_)
    obtain rfl : x8 = 1 := by rw [ex8]; decide
    refine va_sld hx hb hX hbl hbA hS (i := 1) (v_in (rg_k (by decide) : rg 1 1 1) (by decide)) dL_law_1986 ?_
    refine r_Vi (As := [.int (xs (Int32.toNatClampNeg 1))]) (rest := [.int (-2)]) X hT hS (k_X9_image hRn2 (xs (Int32.toNatClampNeg 1))) mk_X9_image gm_2104 rfl rfl (by decide) hd_X9_image ⟨rfl, rfl⟩ ⟨Nat.le_of_ble_eq_true rfl, Nat.le_of_ble_eq_true rfl⟩ hl.1 rfl (Nat.le_of_ble_eq_true rfl) dL_law_1987 ⟨Nat.le_refl _, Nat.le_refl _⟩ (fun r9 i9 g9 H locs hq hT hS => ?_)
    rcases hq with hq | hq
    ·
      obtain ⟨hR9, rfl, hf9_0⟩ := hq
      have h10 : rg 0 2 (xs (Int32.toNatClampNeg 1)) := ⟨by have := (rg_top (xs (Int32.toNatClampNeg 1))).1; have := hf9_0.1; omega, by have := (rg_top (xs (Int32.toNatClampNeg 1))).2; have := hf9_0.2; omega⟩
      refine lv_icmp_eq (tgt := 2197) hx hb dL_law_1990 (by decide) (fun c11 => (x_eq (rg_k (by decide) : rg (-2) (-2) (-2)) (rg_k (by decide) : rg 0 0 0) (i_eq c11) (by decide)).elim) (fun c11 => ?_)
      refine lv_iconst (v := 0) hx hb dL_law_1993 (by decide) ?_
      exact (by have := hf2_0; have := hf9_0.1; have := hf9_0.2; omega : False).elim
    ·
      obtain ⟨hR9, rfl, hf9_0⟩ := hq
      refine lv_icmp_eq (tgt := 2197) hx hb dL_law_1990 (by decide) (fun c12 => ?_) (fun c12 => (x_ne (rg_k (by decide) : rg (-2) (-2) (-2)) (rg_k (by decide) : rg (-2) (-2) (-2)) (i_ne c12) (by decide)).elim)
      exact hE _ _ _ hS (lv_sub hl [0, 1, 2, 3] rfl)

set_option maxRecDepth 100000 in
set_option maxHeartbeats 4000000 in
theorem law_70 {p : Program} {l : Launch} {e : Env} {s : State} {m : MethodId} {below : List Frame} {meth : Method} {c : Code} {D : va_G} {cz : Nat → ClassId} {h : Nat → Nat} {i : Nat → Nat → Int32} {g : Nat → Nat → Int64} {b : Nat} {xs : Nat → Int32} {H : Heap} {locs : List Loc} {ls : Array Slot} {Q : State → Prop} (X : Cxt p s m c #[Value.ref b] cL_law 4 "UncutTaleLaw" D cz) (hRF : Rg rF i) (hRL : Rg rL i) (hRM : Rg rM i) (hRN : Rg rN i) (hX : va_X b 6 xs s s.heap) (hbl : b < s.heap.size) (hbA : ¬ hA h b) (hT : TH D h cz i g H) (hS : va_S (hA h) s.heap H locs) (hl : lv_has ls 4 [(3, .int 0), (2, .ref (h 96)), (1, .ref (h 0)), (0, .ref b)]) (hE : ∀ (H : Heap) (locs : List Loc) (ls : Array Slot), va_S (hA h) s.heap H locs → lv_has ls 4 [(3, .int 0), (2, .ref (h 96)), (1, .ref (h 0)), (0, .ref b)] → W p l e room_1 s m #[Value.ref b] below meth c H locs 600000 7302250 Q (F0 m 2197 ls [])) : W p l e room_1 s m #[Value.ref b] below meth c H locs 600000 7302250 Q (F0 m 1995 ls []) := by
  have hx := X.1
  have hb := X.2.1
  refine lv_aload_n hx hb dL_law_1995 rfl (lv_at hl 2 rfl) ?_
  refine lv_aload_n hx hb dL_law_1996 rfl (lv_at hl 3 rfl) ?_
  refine lv_iload_n hx hb dL_law_1997 rfl (lv_at hl 0 rfl) ?_
  refine lv_iconst (v := 1) hx hb dL_law_1998 (by decide) ?_
  refine q_iadd hx hb dL_law_1999 (fun x1 ex1 => ?_)
  obtain rfl : x1 = 1 := by rw [ex1]; decide
  refine va_sld hx hb hX hbl hbA hS (i := 1) (v_in (rg_k (by decide) : rg 1 1 1) (by decide)) dL_law_2000 ?_
  refine r_Vi (As := [.int (xs (Int32.toNatClampNeg 1))]) (rest := []) X hT hS (k_X8_back hRF (xs (Int32.toNatClampNeg 1))) mk_X8_back gm_1282 rfl rfl (by decide) hd_X8_back ⟨rfl, rfl⟩ ⟨Nat.le_of_ble_eq_true rfl, Nat.le_of_ble_eq_true rfl⟩ hl.1 rfl (Nat.le_of_ble_eq_true rfl) dL_law_2001 ⟨Nat.le_refl _, Nat.le_refl _⟩ (fun r2 i2 g2 H locs hq hT hS => ?_)
  rcases hq with hq | hq
  ·
    obtain ⟨eh2, rfl, hf2_0⟩ := hq
    rw [(Prod.mk.inj eh2).1, (Prod.mk.inj eh2).2] at hT
    have h3 : rg 0 2 (xs (Int32.toNatClampNeg 1)) := ⟨by have := (rg_top (xs (Int32.toNatClampNeg 1))).1; have := hf2_0.1; omega, by have := (rg_top (xs (Int32.toNatClampNeg 1))).2; have := hf2_0.2; omega⟩
    refine lv_aload_n hx hb dL_law_2004 rfl (lv_at hl 1 rfl) ?_
    refine lv_aload_n hx hb dL_law_2005 rfl (lv_at hl 3 rfl) ?_
    refine lv_iload_n hx hb dL_law_2006 rfl (lv_at hl 0 rfl) ?_
    refine lv_iconst (v := 1) hx hb dL_law_2007 (by decide) ?_
    refine q_iadd hx hb dL_law_2008 (fun x4 ex4 => ?_)
    obtain rfl : x4 = 1 := by rw [ex4]; decide
    refine va_sld hx hb hX hbl hbA hS (i := 1) (v_in (rg_k (by decide) : rg 1 1 1) (by decide)) dL_law_2009 ?_
    refine r_Vi (As := [.int (xs (Int32.toNatClampNeg 1))]) (rest := [.int (-6)]) X hT hS (k_X9_back hRM (xs (Int32.toNatClampNeg 1))) mk_X9_back gm_2108 rfl rfl (by decide) hd_X9_back ⟨rfl, rfl⟩ ⟨Nat.le_of_ble_eq_true rfl, Nat.le_of_ble_eq_true rfl⟩ hl.1 rfl (Nat.le_of_ble_eq_true rfl) dL_law_2010 ⟨Nat.le_refl _, Nat.le_refl _⟩ (fun r5 i5 g5 H locs hq hT hS => ?_)
    rcases hq with hq | hq
    ·
      obtain ⟨hR5, rfl, hf5_0⟩ := hq
      refine lv_icmp_eq (tgt := 2197) hx hb dL_law_2013 (by decide) (fun c6 => ?_) (fun c6 => (x_ne (rg_k (by decide) : rg (-6) (-6) (-6)) (rg_k (by decide) : rg (-6) (-6) (-6)) (i_ne c6) (by decide)).elim)
      exact hE _ _ _ hS (lv_sub hl [0, 1, 2, 3] rfl)
    ·
      obtain ⟨hR5, rfl, hf5_0⟩ := hq
      refine lv_icmp_eq (tgt := 2197) hx hb dL_law_2013 (by decide) (fun c7 => (x_eq (rg_k (by decide) : rg (-6) (-6) (-6)) (rg_k (by decide) : rg (-2) (-2) (-2)) (i_eq c7) (by decide)).elim) (fun c7 => ?_)
      refine lv_iconst (v := 0) hx hb dL_law_2016 (by decide) ?_
      exact (by have := hf2_0.1; have := hf2_0.2; have := hf5_0; omega : False).elim
  ·
    obtain ⟨eh2, rfl, hf2_0⟩ := hq
    rw [(Prod.mk.inj eh2).1, (Prod.mk.inj eh2).2] at hT
    refine lv_aload_n hx hb dL_law_2004 rfl (lv_at hl 1 rfl) ?_
    refine lv_aload_n hx hb dL_law_2005 rfl (lv_at hl 3 rfl) ?_
    refine lv_iload_n hx hb dL_law_2006 rfl (lv_at hl 0 rfl) ?_
    refine lv_iconst (v := 1) hx hb dL_law_2007 (by decide) ?_
    refine q_iadd hx hb dL_law_2008 (fun x8 ex8 => ?_)
    obtain rfl : x8 = 1 := by rw [ex8]; decide
    refine va_sld hx hb hX hbl hbA hS (i := 1) (v_in (rg_k (by decide) : rg 1 1 1) (by decide)) dL_law_2009 ?_
    refine r_Vi (As := [.int (xs (Int32.toNatClampNeg 1))]) (rest := [.int (-2)]) X hT hS (k_X9_back hRM (xs (Int32.toNatClampNeg 1))) mk_X9_back gm_2108 rfl rfl (by decide) hd_X9_back ⟨rfl, rfl⟩ ⟨Nat.le_of_ble_eq_true rfl, Nat.le_of_ble_eq_true rfl⟩ hl.1 rfl (Nat.le_of_ble_eq_true rfl) dL_law_2010 ⟨Nat.le_refl _, Nat.le_refl _⟩ (fun r9 i9 g9 H locs hq hT hS => ?_)
    rcases hq with hq | hq
    ·
      obtain ⟨hR9, rfl, hf9_0⟩ := hq
      have h10 : rg 0 2 (xs (Int32.toNatClampNeg 1)) := ⟨by have := (rg_top (xs (Int32.toNatClampNeg 1))).1; have := hf9_0.1; omega, by have := (rg_top (xs (Int32.toNatClampNeg 1))).2; have := hf9_0.2; omega⟩
      refine lv_icmp_eq (tgt := 2197) hx hb dL_law_2013 (by decide) (fun c11 => (x_eq (rg_k (by decide) : rg (-2) (-2) (-2)) (rg_k (by decide) : rg (-6) (-6) (-6)) (i_eq c11) (by decide)).elim) (fun c11 => ?_)
      refine lv_iconst (v := 0) hx hb dL_law_2016 (by decide) ?_
      exact (by have := hf2_0; have := hf9_0.1; have := hf9_0.2; omega : False).elim
    ·
      obtain ⟨hR9, rfl, hf9_0⟩ := hq
      refine lv_icmp_eq (tgt := 2197) hx hb dL_law_2013 (by decide) (fun c12 => ?_) (fun c12 => (x_ne (rg_k (by decide) : rg (-2) (-2) (-2)) (rg_k (by decide) : rg (-2) (-2) (-2)) (i_ne c12) (by decide)).elim)
      exact hE _ _ _ hS (lv_sub hl [0, 1, 2, 3] rfl)

set_option maxRecDepth 100000 in
set_option maxHeartbeats 4000000 in
theorem law_71 {p : Program} {l : Launch} {e : Env} {s : State} {m : MethodId} {below : List Frame} {meth : Method} {c : Code} {D : va_G} {cz : Nat → ClassId} {h : Nat → Nat} {i : Nat → Nat → Int32} {g : Nat → Nat → Int64} {b : Nat} {xs : Nat → Int32} {H : Heap} {locs : List Loc} {ls : Array Slot} {Q : State → Prop} (X : Cxt p s m c #[Value.ref b] cL_law 4 "UncutTaleLaw" D cz) (hRF : Rg rF i) (hRL : Rg rL i) (hRM : Rg rM i) (hRN : Rg rN i) (hX : va_X b 6 xs s s.heap) (hbl : b < s.heap.size) (hbA : ¬ hA h b) (hT : TH D h cz i g H) (hS : va_S (hA h) s.heap H locs) (hl : lv_has ls 4 [(3, .int 0), (2, .ref (h 96)), (1, .ref (h 0)), (0, .ref b)]) (hE : ∀ (H : Heap) (locs : List Loc) (ls : Array Slot), va_S (hA h) s.heap H locs → lv_has ls 4 [(3, .int 0), (2, .ref (h 96)), (1, .ref (h 0)), (0, .ref b)] → W p l e room_1 s m #[Value.ref b] below meth c H locs 600000 7302250 Q (F0 m 2197 ls [])) : W p l e room_1 s m #[Value.ref b] below meth c H locs 600000 7302250 Q (F0 m 2018 ls []) := by
  have hx := X.1
  have hb := X.2.1
  refine lv_aload_n hx hb dL_law_2018 rfl (lv_at hl 2 rfl) ?_
  refine lv_aload_n hx hb dL_law_2019 rfl (lv_at hl 3 rfl) ?_
  refine lv_iload_n hx hb dL_law_2020 rfl (lv_at hl 0 rfl) ?_
  refine lv_iconst (v := 1) hx hb dL_law_2021 (by decide) ?_
  refine q_iadd hx hb dL_law_2022 (fun x1 ex1 => ?_)
  obtain rfl : x1 = 1 := by rw [ex1]; decide
  refine va_sld hx hb hX hbl hbA hS (i := 1) (v_in (rg_k (by decide) : rg 1 1 1) (by decide)) dL_law_2023 ?_
  refine lv_aload_n hx hb dL_law_2024 rfl (lv_at hl 3 rfl) ?_
  refine lv_iload_n hx hb dL_law_2025 rfl (lv_at hl 0 rfl) ?_
  refine lv_iconst (v := 2) hx hb dL_law_2026 (by decide) ?_
  refine q_iadd hx hb dL_law_2027 (fun x2 ex2 => ?_)
  obtain rfl : x2 = 2 := by rw [ex2]; decide
  refine va_sld hx hb hX hbl hbA hS (i := 2) (v_in (rg_k (by decide) : rg 2 2 2) (by decide)) dL_law_2028 ?_
  refine lv_aload_n hx hb dL_law_2029 rfl (lv_at hl 3 rfl) ?_
  refine lv_iload_n hx hb dL_law_2030 rfl (lv_at hl 0 rfl) ?_
  refine lv_iconst (v := 3) hx hb dL_law_2031 (by decide) ?_
  refine q_iadd hx hb dL_law_2032 (fun x3 ex3 => ?_)
  obtain rfl : x3 = 3 := by rw [ex3]; decide
  refine va_sld hx hb hX hbl hbA hS (i := 3) (v_in (rg_k (by decide) : rg 3 3 3) (by decide)) dL_law_2033 ?_
  refine r_Vi (As := [.int (xs (Int32.toNatClampNeg 1)), .int (xs (Int32.toNatClampNeg 2)), .int (xs (Int32.toNatClampNeg 3))]) (rest := []) X hT hS (k_X8_row hRL (xs (Int32.toNatClampNeg 1)) (xs (Int32.toNatClampNeg 2)) (xs (Int32.toNatClampNeg 3))) mk_X8_row gm_1286 rfl rfl (by decide) hd_X8_row ⟨rfl, rfl⟩ ⟨Nat.le_of_ble_eq_true rfl, Nat.le_of_ble_eq_true rfl⟩ hl.1 rfl (Nat.le_of_ble_eq_true rfl) dL_law_2034 ⟨Nat.le_refl _, Nat.le_refl _⟩ (fun r4 i4 g4 H locs hq hT hS => ?_)
  rcases hq with hq | hq | hq
  ·
    obtain ⟨hR4, rfl, hf4_0⟩ := hq
    have hRm4 : Rg rM i4 := Rg_mono hR4 mono_LM ln_hi
    have hRn4 : Rg rN i4 := Rg_mono hR4 mono_LN ln_hi
    refine lv_aload_n hx hb dL_law_2037 rfl (lv_at hl 1 rfl) ?_
    refine lv_aload_n hx hb dL_law_2038 rfl (lv_at hl 3 rfl) ?_
    refine lv_iload_n hx hb dL_law_2039 rfl (lv_at hl 0 rfl) ?_
    refine lv_iconst (v := 1) hx hb dL_law_2040 (by decide) ?_
    refine q_iadd hx hb dL_law_2041 (fun x5 ex5 => ?_)
    obtain rfl : x5 = 1 := by rw [ex5]; decide
    refine va_sld hx hb hX hbl hbA hS (i := 1) (v_in (rg_k (by decide) : rg 1 1 1) (by decide)) dL_law_2042 ?_
    refine lv_aload_n hx hb dL_law_2043 rfl (lv_at hl 3 rfl) ?_
    refine lv_iload_n hx hb dL_law_2044 rfl (lv_at hl 0 rfl) ?_
    refine lv_iconst (v := 2) hx hb dL_law_2045 (by decide) ?_
    refine q_iadd hx hb dL_law_2046 (fun x6 ex6 => ?_)
    obtain rfl : x6 = 2 := by rw [ex6]; decide
    refine va_sld hx hb hX hbl hbA hS (i := 2) (v_in (rg_k (by decide) : rg 2 2 2) (by decide)) dL_law_2047 ?_
    refine lv_aload_n hx hb dL_law_2048 rfl (lv_at hl 3 rfl) ?_
    refine lv_iload_n hx hb dL_law_2049 rfl (lv_at hl 0 rfl) ?_
    refine lv_iconst (v := 3) hx hb dL_law_2050 (by decide) ?_
    refine q_iadd hx hb dL_law_2051 (fun x7 ex7 => ?_)
    obtain rfl : x7 = 3 := by rw [ex7]; decide
    refine va_sld hx hb hX hbl hbA hS (i := 3) (v_in (rg_k (by decide) : rg 3 3 3) (by decide)) dL_law_2052 ?_
    refine r_Vi (As := [.int (xs (Int32.toNatClampNeg 1)), .int (xs (Int32.toNatClampNeg 2)), .int (xs (Int32.toNatClampNeg 3))]) (rest := [.int 0]) X hT hS (k_X9_row hRn4 (xs (Int32.toNatClampNeg 1)) (xs (Int32.toNatClampNeg 2)) (xs (Int32.toNatClampNeg 3))) mk_X9_row gm_1488 rfl rfl (by decide) hd_X9_row ⟨rfl, rfl⟩ ⟨Nat.le_of_ble_eq_true rfl, Nat.le_of_ble_eq_true rfl⟩ hl.1 rfl (Nat.le_of_ble_eq_true rfl) dL_law_2053 ⟨Nat.le_refl _, Nat.le_refl _⟩ (fun r8 i8 g8 H locs hq hT hS => ?_)
    rcases hq with hq | hq | hq
    ·
      obtain ⟨hR8, rfl, hf8_0⟩ := hq
      refine lv_icmp_eq (tgt := 2197) hx hb dL_law_2056 (by decide) (fun c9 => ?_) (fun c9 => (x_ne (rg_k (by decide) : rg 0 0 0) (rg_k (by decide) : rg 0 0 0) (i_ne c9) (by decide)).elim)
      exact hE _ _ _ hS (lv_sub hl [0, 1, 2, 3] rfl)
    ·
      obtain ⟨hR8, rfl, hf8_0⟩ := hq
      refine lv_icmp_eq (tgt := 2197) hx hb dL_law_2056 (by decide) (fun c10 => (x_eq (rg_k (by decide) : rg 0 0 0) (rg_k (by decide) : rg (-3) (-3) (-3)) (i_eq c10) (by decide)).elim) (fun c10 => ?_)
      refine lv_iconst (v := 0) hx hb dL_law_2059 (by decide) ?_
      exact (by have := hf4_0; have := hf8_0; omega : False).elim
    ·
      obtain ⟨hR8, rfl, hf8_0⟩ := hq
      refine lv_icmp_eq (tgt := 2197) hx hb dL_law_2056 (by decide) (fun c11 => (x_eq (rg_k (by decide) : rg 0 0 0) (rg_k (by decide) : rg (-2) (-2) (-2)) (i_eq c11) (by decide)).elim) (fun c11 => ?_)
      refine lv_iconst (v := 0) hx hb dL_law_2059 (by decide) ?_
      exact (by have := hf4_0; have := hf8_0; omega : False).elim
  ·
    obtain ⟨hR4, rfl, hf4_0⟩ := hq
    have hRm4 : Rg rM i4 := Rg_mono hR4 mono_LM ln_hi
    have hRn4 : Rg rN i4 := Rg_mono hR4 mono_LN ln_hi
    refine lv_aload_n hx hb dL_law_2037 rfl (lv_at hl 1 rfl) ?_
    refine lv_aload_n hx hb dL_law_2038 rfl (lv_at hl 3 rfl) ?_
    refine lv_iload_n hx hb dL_law_2039 rfl (lv_at hl 0 rfl) ?_
    refine lv_iconst (v := 1) hx hb dL_law_2040 (by decide) ?_
    refine q_iadd hx hb dL_law_2041 (fun x12 ex12 => ?_)
    obtain rfl : x12 = 1 := by rw [ex12]; decide
    refine va_sld hx hb hX hbl hbA hS (i := 1) (v_in (rg_k (by decide) : rg 1 1 1) (by decide)) dL_law_2042 ?_
    refine lv_aload_n hx hb dL_law_2043 rfl (lv_at hl 3 rfl) ?_
    refine lv_iload_n hx hb dL_law_2044 rfl (lv_at hl 0 rfl) ?_
    refine lv_iconst (v := 2) hx hb dL_law_2045 (by decide) ?_
    refine q_iadd hx hb dL_law_2046 (fun x13 ex13 => ?_)
    obtain rfl : x13 = 2 := by rw [ex13]; decide
    refine va_sld hx hb hX hbl hbA hS (i := 2) (v_in (rg_k (by decide) : rg 2 2 2) (by decide)) dL_law_2047 ?_
    refine lv_aload_n hx hb dL_law_2048 rfl (lv_at hl 3 rfl) ?_
    refine lv_iload_n hx hb dL_law_2049 rfl (lv_at hl 0 rfl) ?_
    refine lv_iconst (v := 3) hx hb dL_law_2050 (by decide) ?_
    refine q_iadd hx hb dL_law_2051 (fun x14 ex14 => ?_)
    obtain rfl : x14 = 3 := by rw [ex14]; decide
    refine va_sld hx hb hX hbl hbA hS (i := 3) (v_in (rg_k (by decide) : rg 3 3 3) (by decide)) dL_law_2052 ?_
    refine r_Vi (As := [.int (xs (Int32.toNatClampNeg 1)), .int (xs (Int32.toNatClampNeg 2)), .int (xs (Int32.toNatClampNeg 3))]) (rest := [.int (-3)]) X hT hS (k_X9_row hRn4 (xs (Int32.toNatClampNeg 1)) (xs (Int32.toNatClampNeg 2)) (xs (Int32.toNatClampNeg 3))) mk_X9_row gm_1488 rfl rfl (by decide) hd_X9_row ⟨rfl, rfl⟩ ⟨Nat.le_of_ble_eq_true rfl, Nat.le_of_ble_eq_true rfl⟩ hl.1 rfl (Nat.le_of_ble_eq_true rfl) dL_law_2053 ⟨Nat.le_refl _, Nat.le_refl _⟩ (fun r15 i15 g15 H locs hq hT hS => ?_)
    rcases hq with hq | hq | hq
    ·
      obtain ⟨hR15, rfl, hf15_0⟩ := hq
      refine lv_icmp_eq (tgt := 2197) hx hb dL_law_2056 (by decide) (fun c16 => (x_eq (rg_k (by decide) : rg (-3) (-3) (-3)) (rg_k (by decide) : rg 0 0 0) (i_eq c16) (by decide)).elim) (fun c16 => ?_)
      refine lv_iconst (v := 0) hx hb dL_law_2059 (by decide) ?_
      exact (by have := hf4_0; have := hf15_0; omega : False).elim
    ·
      obtain ⟨hR15, rfl, hf15_0⟩ := hq
      refine lv_icmp_eq (tgt := 2197) hx hb dL_law_2056 (by decide) (fun c17 => ?_) (fun c17 => (x_ne (rg_k (by decide) : rg (-3) (-3) (-3)) (rg_k (by decide) : rg (-3) (-3) (-3)) (i_ne c17) (by decide)).elim)
      exact hE _ _ _ hS (lv_sub hl [0, 1, 2, 3] rfl)
    ·
      obtain ⟨hR15, rfl, hf15_0⟩ := hq
      refine lv_icmp_eq (tgt := 2197) hx hb dL_law_2056 (by decide) (fun c18 => (x_eq (rg_k (by decide) : rg (-3) (-3) (-3)) (rg_k (by decide) : rg (-2) (-2) (-2)) (i_eq c18) (by decide)).elim) (fun c18 => ?_)
      refine lv_iconst (v := 0) hx hb dL_law_2059 (by decide) ?_
      exact (by have := hf4_0; have := hf15_0; omega : False).elim
  ·
    obtain ⟨hR4, rfl, hf4_0⟩ := hq
    have hRm4 : Rg rM i4 := Rg_mono hR4 mono_LM ln_hi
    have hRn4 : Rg rN i4 := Rg_mono hR4 mono_LN ln_hi
    refine lv_aload_n hx hb dL_law_2037 rfl (lv_at hl 1 rfl) ?_
    refine lv_aload_n hx hb dL_law_2038 rfl (lv_at hl 3 rfl) ?_
    refine lv_iload_n hx hb dL_law_2039 rfl (lv_at hl 0 rfl) ?_
    refine lv_iconst (v := 1) hx hb dL_law_2040 (by decide) ?_
    refine q_iadd hx hb dL_law_2041 (fun x19 ex19 => ?_)
    obtain rfl : x19 = 1 := by rw [ex19]; decide
    refine va_sld hx hb hX hbl hbA hS (i := 1) (v_in (rg_k (by decide) : rg 1 1 1) (by decide)) dL_law_2042 ?_
    refine lv_aload_n hx hb dL_law_2043 rfl (lv_at hl 3 rfl) ?_
    refine lv_iload_n hx hb dL_law_2044 rfl (lv_at hl 0 rfl) ?_
    refine lv_iconst (v := 2) hx hb dL_law_2045 (by decide) ?_
    refine q_iadd hx hb dL_law_2046 (fun x20 ex20 => ?_)
    obtain rfl : x20 = 2 := by rw [ex20]; decide
    refine va_sld hx hb hX hbl hbA hS (i := 2) (v_in (rg_k (by decide) : rg 2 2 2) (by decide)) dL_law_2047 ?_
    refine lv_aload_n hx hb dL_law_2048 rfl (lv_at hl 3 rfl) ?_
    refine lv_iload_n hx hb dL_law_2049 rfl (lv_at hl 0 rfl) ?_
    refine lv_iconst (v := 3) hx hb dL_law_2050 (by decide) ?_
    refine q_iadd hx hb dL_law_2051 (fun x21 ex21 => ?_)
    obtain rfl : x21 = 3 := by rw [ex21]; decide
    refine va_sld hx hb hX hbl hbA hS (i := 3) (v_in (rg_k (by decide) : rg 3 3 3) (by decide)) dL_law_2052 ?_
    refine r_Vi (As := [.int (xs (Int32.toNatClampNeg 1)), .int (xs (Int32.toNatClampNeg 2)), .int (xs (Int32.toNatClampNeg 3))]) (rest := [.int (-2)]) X hT hS (k_X9_row hRn4 (xs (Int32.toNatClampNeg 1)) (xs (Int32.toNatClampNeg 2)) (xs (Int32.toNatClampNeg 3))) mk_X9_row gm_1488 rfl rfl (by decide) hd_X9_row ⟨rfl, rfl⟩ ⟨Nat.le_of_ble_eq_true rfl, Nat.le_of_ble_eq_true rfl⟩ hl.1 rfl (Nat.le_of_ble_eq_true rfl) dL_law_2053 ⟨Nat.le_refl _, Nat.le_refl _⟩ (fun r22 i22 g22 H locs hq hT hS => ?_)
    rcases hq with hq | hq | hq
    ·
      obtain ⟨hR22, rfl, hf22_0⟩ := hq
      refine lv_icmp_eq (tgt := 2197) hx hb dL_law_2056 (by decide) (fun c23 => (x_eq (rg_k (by decide) : rg (-2) (-2) (-2)) (rg_k (by decide) : rg 0 0 0) (i_eq c23) (by decide)).elim) (fun c23 => ?_)
      refine lv_iconst (v := 0) hx hb dL_law_2059 (by decide) ?_
      exact (by have := hf4_0; have := hf22_0; omega : False).elim
    ·
      obtain ⟨hR22, rfl, hf22_0⟩ := hq
      refine lv_icmp_eq (tgt := 2197) hx hb dL_law_2056 (by decide) (fun c24 => (x_eq (rg_k (by decide) : rg (-2) (-2) (-2)) (rg_k (by decide) : rg (-3) (-3) (-3)) (i_eq c24) (by decide)).elim) (fun c24 => ?_)
      refine lv_iconst (v := 0) hx hb dL_law_2059 (by decide) ?_
      exact (by have := hf4_0; have := hf22_0; omega : False).elim
    ·
      obtain ⟨hR22, rfl, hf22_0⟩ := hq
      refine lv_icmp_eq (tgt := 2197) hx hb dL_law_2056 (by decide) (fun c25 => ?_) (fun c25 => (x_ne (rg_k (by decide) : rg (-2) (-2) (-2)) (rg_k (by decide) : rg (-2) (-2) (-2)) (i_ne c25) (by decide)).elim)
      exact hE _ _ _ hS (lv_sub hl [0, 1, 2, 3] rfl)

set_option maxRecDepth 100000 in
set_option maxHeartbeats 4000000 in
theorem law_72 {p : Program} {l : Launch} {e : Env} {s : State} {m : MethodId} {below : List Frame} {meth : Method} {c : Code} {D : va_G} {cz : Nat → ClassId} {h : Nat → Nat} {i : Nat → Nat → Int32} {g : Nat → Nat → Int64} {b : Nat} {xs : Nat → Int32} {H : Heap} {locs : List Loc} {ls : Array Slot} {Q : State → Prop} (X : Cxt p s m c #[Value.ref b] cL_law 4 "UncutTaleLaw" D cz) (hRF : Rg rF i) (hRL : Rg rL i) (hRM : Rg rM i) (hRN : Rg rN i) (hX : va_X b 6 xs s s.heap) (hbl : b < s.heap.size) (hbA : ¬ hA h b) (hT : TH D h cz i g H) (hS : va_S (hA h) s.heap H locs) (hl : lv_has ls 4 [(3, .int 0), (2, .ref (h 96)), (1, .ref (h 0)), (0, .ref b)]) (hE : ∀ (H : Heap) (locs : List Loc) (ls : Array Slot), va_S (hA h) s.heap H locs → lv_has ls 4 [(3, .int 0), (2, .ref (h 96)), (1, .ref (h 0)), (0, .ref b)] → W p l e room_1 s m #[Value.ref b] below meth c H locs 600000 7302250 Q (F0 m 2197 ls [])) : W p l e room_1 s m #[Value.ref b] below meth c H locs 600000 7302250 Q (F0 m 2061 ls []) := by
  have hx := X.1
  have hb := X.2.1
  refine lv_aload_n hx hb dL_law_2061 rfl (lv_at hl 2 rfl) ?_
  refine lv_aload_n hx hb dL_law_2062 rfl (lv_at hl 3 rfl) ?_
  refine lv_iload_n hx hb dL_law_2063 rfl (lv_at hl 0 rfl) ?_
  refine lv_iconst (v := 1) hx hb dL_law_2064 (by decide) ?_
  refine q_iadd hx hb dL_law_2065 (fun x1 ex1 => ?_)
  obtain rfl : x1 = 1 := by rw [ex1]; decide
  refine va_sld hx hb hX hbl hbA hS (i := 1) (v_in (rg_k (by decide) : rg 1 1 1) (by decide)) dL_law_2066 ?_
  refine lv_aload_n hx hb dL_law_2067 rfl (lv_at hl 3 rfl) ?_
  refine lv_iload_n hx hb dL_law_2068 rfl (lv_at hl 0 rfl) ?_
  refine lv_iconst (v := 2) hx hb dL_law_2069 (by decide) ?_
  refine q_iadd hx hb dL_law_2070 (fun x2 ex2 => ?_)
  obtain rfl : x2 = 2 := by rw [ex2]; decide
  refine va_sld hx hb hX hbl hbA hS (i := 2) (v_in (rg_k (by decide) : rg 2 2 2) (by decide)) dL_law_2071 ?_
  refine lv_aload_n hx hb dL_law_2072 rfl (lv_at hl 3 rfl) ?_
  refine lv_iload_n hx hb dL_law_2073 rfl (lv_at hl 0 rfl) ?_
  refine lv_iconst (v := 3) hx hb dL_law_2074 (by decide) ?_
  refine q_iadd hx hb dL_law_2075 (fun x3 ex3 => ?_)
  obtain rfl : x3 = 3 := by rw [ex3]; decide
  refine va_sld hx hb hX hbl hbA hS (i := 3) (v_in (rg_k (by decide) : rg 3 3 3) (by decide)) dL_law_2076 ?_
  refine q_i2l hx hb dL_law_2077 (fun y4 ey4 => ?_)
  obtain ⟨hy4, ay4⟩ := rg_i2l ey4 (rg_top (xs (Int32.toNatClampNeg 3)))
  refine lv_bipush (v := 32) hx hb dL_law_2078 (by decide) ?_
  refine q_lshl hx hb dL_law_2080 (fun y5 ey5 => ?_)
  refine lv_aload_n hx hb dL_law_2081 rfl (lv_at hl 3 rfl) ?_
  refine lv_iload_n hx hb dL_law_2082 rfl (lv_at hl 0 rfl) ?_
  refine lv_iconst (v := 4) hx hb dL_law_2083 (by decide) ?_
  refine q_iadd hx hb dL_law_2084 (fun x6 ex6 => ?_)
  obtain rfl : x6 = 4 := by rw [ex6]; decide
  refine va_sld hx hb hX hbl hbA hS (i := 4) (v_in (rg_k (by decide) : rg 4 4 4) (by decide)) dL_law_2085 ?_
  refine q_i2l hx hb dL_law_2086 (fun y7 ey7 => ?_)
  obtain ⟨hy7, ay7⟩ := rg_i2l ey7 (rg_top (xs (Int32.toNatClampNeg 4)))
  refine lv_ldc2 (v := 4294967295) hx hb X.2.2.2.1 (X.2.2.2.2.1 _ gm_2112) dL_law_2087 ?_
  refine q_land hx hb dL_law_2090 (fun y8 ey8 => ?_)
  refine q_lor hx hb dL_law_2091 (fun y9 ey9 => ?_)
  refine r_Vi (As := [.int (xs (Int32.toNatClampNeg 1)), .int (xs (Int32.toNatClampNeg 2)), .long y9]) (rest := []) X hT hS (k_X8_write hRF (xs (Int32.toNatClampNeg 1)) (xs (Int32.toNatClampNeg 2)) y9) mk_X8_write gm_1300 rfl rfl (by decide) hd_X8_write ⟨rfl, rfl⟩ ⟨Nat.le_of_ble_eq_true rfl, Nat.le_of_ble_eq_true rfl⟩ hl.1 rfl (Nat.le_of_ble_eq_true rfl) dL_law_2092 ⟨Nat.le_refl _, Nat.le_refl _⟩ (fun r10 i10 g10 H locs hq hT hS => ?_)
  rcases hq with hq | hq
  ·
    obtain ⟨eh10, rfl, hf10_0⟩ := hq
    rw [(Prod.mk.inj eh10).1, (Prod.mk.inj eh10).2] at hT
    have h11 : rg 0 3 (xs (Int32.toNatClampNeg 1)) := ⟨by have := (rg_top (xs (Int32.toNatClampNeg 1))).1; have := hf10_0.1; omega, by have := (rg_top (xs (Int32.toNatClampNeg 1))).2; have := hf10_0.2; omega⟩
    refine lv_aload_n hx hb dL_law_2095 rfl (lv_at hl 1 rfl) ?_
    refine lv_aload_n hx hb dL_law_2096 rfl (lv_at hl 3 rfl) ?_
    refine lv_iload_n hx hb dL_law_2097 rfl (lv_at hl 0 rfl) ?_
    refine lv_iconst (v := 1) hx hb dL_law_2098 (by decide) ?_
    refine q_iadd hx hb dL_law_2099 (fun x12 ex12 => ?_)
    obtain rfl : x12 = 1 := by rw [ex12]; decide
    refine va_sld hx hb hX hbl hbA hS (i := 1) (v_in (rg_k (by decide) : rg 1 1 1) (by decide)) dL_law_2100 ?_
    refine lv_aload_n hx hb dL_law_2101 rfl (lv_at hl 3 rfl) ?_
    refine lv_iload_n hx hb dL_law_2102 rfl (lv_at hl 0 rfl) ?_
    refine lv_iconst (v := 2) hx hb dL_law_2103 (by decide) ?_
    refine q_iadd hx hb dL_law_2104 (fun x13 ex13 => ?_)
    obtain rfl : x13 = 2 := by rw [ex13]; decide
    refine va_sld hx hb hX hbl hbA hS (i := 2) (v_in (rg_k (by decide) : rg 2 2 2) (by decide)) dL_law_2105 ?_
    refine lv_aload_n hx hb dL_law_2106 rfl (lv_at hl 3 rfl) ?_
    refine lv_iload_n hx hb dL_law_2107 rfl (lv_at hl 0 rfl) ?_
    refine lv_iconst (v := 3) hx hb dL_law_2108 (by decide) ?_
    refine q_iadd hx hb dL_law_2109 (fun x14 ex14 => ?_)
    obtain rfl : x14 = 3 := by rw [ex14]; decide
    refine va_sld hx hb hX hbl hbA hS (i := 3) (v_in (rg_k (by decide) : rg 3 3 3) (by decide)) dL_law_2110 ?_
    refine q_i2l hx hb dL_law_2111 (fun y15 ey15 => ?_)
    obtain ⟨hy15, ay15⟩ := rg_i2l ey15 (rg_top (xs (Int32.toNatClampNeg 3)))
    refine lv_bipush (v := 32) hx hb dL_law_2112 (by decide) ?_
    refine q_lshl hx hb dL_law_2114 (fun y16 ey16 => ?_)
    refine lv_aload_n hx hb dL_law_2115 rfl (lv_at hl 3 rfl) ?_
    refine lv_iload_n hx hb dL_law_2116 rfl (lv_at hl 0 rfl) ?_
    refine lv_iconst (v := 4) hx hb dL_law_2117 (by decide) ?_
    refine q_iadd hx hb dL_law_2118 (fun x17 ex17 => ?_)
    obtain rfl : x17 = 4 := by rw [ex17]; decide
    refine va_sld hx hb hX hbl hbA hS (i := 4) (v_in (rg_k (by decide) : rg 4 4 4) (by decide)) dL_law_2119 ?_
    refine q_i2l hx hb dL_law_2120 (fun y18 ey18 => ?_)
    obtain ⟨hy18, ay18⟩ := rg_i2l ey18 (rg_top (xs (Int32.toNatClampNeg 4)))
    refine lv_ldc2 (v := 4294967295) hx hb X.2.2.2.1 (X.2.2.2.2.1 _ gm_2112) dL_law_2121 ?_
    refine q_land hx hb dL_law_2124 (fun y19 ey19 => ?_)
    refine q_lor hx hb dL_law_2125 (fun y20 ey20 => ?_)
    refine r_Vi (As := [.int (xs (Int32.toNatClampNeg 1)), .int (xs (Int32.toNatClampNeg 2)), .long y20]) (rest := [.int (-6)]) X hT hS (k_X9_write hRM (xs (Int32.toNatClampNeg 1)) (xs (Int32.toNatClampNeg 2)) y20) mk_X9_write gm_1499 rfl rfl (by decide) hd_X9_write ⟨rfl, rfl⟩ ⟨Nat.le_of_ble_eq_true rfl, Nat.le_of_ble_eq_true rfl⟩ hl.1 rfl (Nat.le_of_ble_eq_true rfl) dL_law_2126 ⟨Nat.le_refl _, Nat.le_refl _⟩ (fun r21 i21 g21 H locs hq hT hS => ?_)
    rcases hq with hq | hq
    ·
      obtain ⟨hR21, rfl, hf21_0⟩ := hq
      refine lv_icmp_eq (tgt := 2197) hx hb dL_law_2129 (by decide) (fun c22 => ?_) (fun c22 => (x_ne (rg_k (by decide) : rg (-6) (-6) (-6)) (rg_k (by decide) : rg (-6) (-6) (-6)) (i_ne c22) (by decide)).elim)
      exact hE _ _ _ hS (lv_sub hl [0, 1, 2, 3] rfl)
    ·
      obtain ⟨hR21, rfl, hf21_0⟩ := hq
      refine lv_icmp_eq (tgt := 2197) hx hb dL_law_2129 (by decide) (fun c23 => (x_eq (rg_k (by decide) : rg (-6) (-6) (-6)) (rg_k (by decide) : rg (-2) (-2) (-2)) (i_eq c23) (by decide)).elim) (fun c23 => ?_)
      refine lv_iconst (v := 0) hx hb dL_law_2132 (by decide) ?_
      exact (by have := hf10_0.1; have := hf10_0.2; have := hf21_0; omega : False).elim
  ·
    obtain ⟨eh10, rfl, hf10_0⟩ := hq
    rw [(Prod.mk.inj eh10).1, (Prod.mk.inj eh10).2] at hT
    refine lv_aload_n hx hb dL_law_2095 rfl (lv_at hl 1 rfl) ?_
    refine lv_aload_n hx hb dL_law_2096 rfl (lv_at hl 3 rfl) ?_
    refine lv_iload_n hx hb dL_law_2097 rfl (lv_at hl 0 rfl) ?_
    refine lv_iconst (v := 1) hx hb dL_law_2098 (by decide) ?_
    refine q_iadd hx hb dL_law_2099 (fun x24 ex24 => ?_)
    obtain rfl : x24 = 1 := by rw [ex24]; decide
    refine va_sld hx hb hX hbl hbA hS (i := 1) (v_in (rg_k (by decide) : rg 1 1 1) (by decide)) dL_law_2100 ?_
    refine lv_aload_n hx hb dL_law_2101 rfl (lv_at hl 3 rfl) ?_
    refine lv_iload_n hx hb dL_law_2102 rfl (lv_at hl 0 rfl) ?_
    refine lv_iconst (v := 2) hx hb dL_law_2103 (by decide) ?_
    refine q_iadd hx hb dL_law_2104 (fun x25 ex25 => ?_)
    obtain rfl : x25 = 2 := by rw [ex25]; decide
    refine va_sld hx hb hX hbl hbA hS (i := 2) (v_in (rg_k (by decide) : rg 2 2 2) (by decide)) dL_law_2105 ?_
    refine lv_aload_n hx hb dL_law_2106 rfl (lv_at hl 3 rfl) ?_
    refine lv_iload_n hx hb dL_law_2107 rfl (lv_at hl 0 rfl) ?_
    refine lv_iconst (v := 3) hx hb dL_law_2108 (by decide) ?_
    refine q_iadd hx hb dL_law_2109 (fun x26 ex26 => ?_)
    obtain rfl : x26 = 3 := by rw [ex26]; decide
    refine va_sld hx hb hX hbl hbA hS (i := 3) (v_in (rg_k (by decide) : rg 3 3 3) (by decide)) dL_law_2110 ?_
    refine q_i2l hx hb dL_law_2111 (fun y27 ey27 => ?_)
    obtain ⟨hy27, ay27⟩ := rg_i2l ey27 (rg_top (xs (Int32.toNatClampNeg 3)))
    refine lv_bipush (v := 32) hx hb dL_law_2112 (by decide) ?_
    refine q_lshl hx hb dL_law_2114 (fun y28 ey28 => ?_)
    refine lv_aload_n hx hb dL_law_2115 rfl (lv_at hl 3 rfl) ?_
    refine lv_iload_n hx hb dL_law_2116 rfl (lv_at hl 0 rfl) ?_
    refine lv_iconst (v := 4) hx hb dL_law_2117 (by decide) ?_
    refine q_iadd hx hb dL_law_2118 (fun x29 ex29 => ?_)
    obtain rfl : x29 = 4 := by rw [ex29]; decide
    refine va_sld hx hb hX hbl hbA hS (i := 4) (v_in (rg_k (by decide) : rg 4 4 4) (by decide)) dL_law_2119 ?_
    refine q_i2l hx hb dL_law_2120 (fun y30 ey30 => ?_)
    obtain ⟨hy30, ay30⟩ := rg_i2l ey30 (rg_top (xs (Int32.toNatClampNeg 4)))
    refine lv_ldc2 (v := 4294967295) hx hb X.2.2.2.1 (X.2.2.2.2.1 _ gm_2112) dL_law_2121 ?_
    refine q_land hx hb dL_law_2124 (fun y31 ey31 => ?_)
    refine q_lor hx hb dL_law_2125 (fun y32 ey32 => ?_)
    refine r_Vi (As := [.int (xs (Int32.toNatClampNeg 1)), .int (xs (Int32.toNatClampNeg 2)), .long y32]) (rest := [.int (-2)]) X hT hS (k_X9_write hRM (xs (Int32.toNatClampNeg 1)) (xs (Int32.toNatClampNeg 2)) y32) mk_X9_write gm_1499 rfl rfl (by decide) hd_X9_write ⟨rfl, rfl⟩ ⟨Nat.le_of_ble_eq_true rfl, Nat.le_of_ble_eq_true rfl⟩ hl.1 rfl (Nat.le_of_ble_eq_true rfl) dL_law_2126 ⟨Nat.le_refl _, Nat.le_refl _⟩ (fun r33 i33 g33 H locs hq hT hS => ?_)
    rcases hq with hq | hq
    ·
      obtain ⟨hR33, rfl, hf33_0⟩ := hq
      have h34 : rg 0 3 (xs (Int32.toNatClampNeg 1)) := ⟨by have := (rg_top (xs (Int32.toNatClampNeg 1))).1; have := hf33_0.1; omega, by have := (rg_top (xs (Int32.toNatClampNeg 1))).2; have := hf33_0.2; omega⟩
      refine lv_icmp_eq (tgt := 2197) hx hb dL_law_2129 (by decide) (fun c35 => (x_eq (rg_k (by decide) : rg (-2) (-2) (-2)) (rg_k (by decide) : rg (-6) (-6) (-6)) (i_eq c35) (by decide)).elim) (fun c35 => ?_)
      refine lv_iconst (v := 0) hx hb dL_law_2132 (by decide) ?_
      exact (by have := hf10_0; have := hf33_0.1; have := hf33_0.2; omega : False).elim
    ·
      obtain ⟨hR33, rfl, hf33_0⟩ := hq
      refine lv_icmp_eq (tgt := 2197) hx hb dL_law_2129 (by decide) (fun c36 => ?_) (fun c36 => (x_ne (rg_k (by decide) : rg (-2) (-2) (-2)) (rg_k (by decide) : rg (-2) (-2) (-2)) (i_ne c36) (by decide)).elim)
      exact hE _ _ _ hS (lv_sub hl [0, 1, 2, 3] rfl)

set_option maxRecDepth 100000 in
set_option maxHeartbeats 4000000 in
theorem law_73 {p : Program} {l : Launch} {e : Env} {s : State} {m : MethodId} {below : List Frame} {meth : Method} {c : Code} {D : va_G} {cz : Nat → ClassId} {h : Nat → Nat} {i : Nat → Nat → Int32} {g : Nat → Nat → Int64} {b : Nat} {xs : Nat → Int32} {H : Heap} {locs : List Loc} {ls : Array Slot} {Q : State → Prop} (X : Cxt p s m c #[Value.ref b] cL_law 4 "UncutTaleLaw" D cz) (hRF : Rg rF i) (hRL : Rg rL i) (hRM : Rg rM i) (hRN : Rg rN i) (hX : va_X b 6 xs s s.heap) (hbl : b < s.heap.size) (hbA : ¬ hA h b) (hT : TH D h cz i g H) (hS : va_S (hA h) s.heap H locs) (hl : lv_has ls 4 [(3, .int 0), (2, .ref (h 96)), (1, .ref (h 0)), (0, .ref b)]) (hE : ∀ (H : Heap) (locs : List Loc) (ls : Array Slot), va_S (hA h) s.heap H locs → lv_has ls 4 [(3, .int 0), (2, .ref (h 96)), (1, .ref (h 0)), (0, .ref b)] → W p l e room_1 s m #[Value.ref b] below meth c H locs 600000 7302250 Q (F0 m 2197 ls [])) : W p l e room_1 s m #[Value.ref b] below meth c H locs 600000 7302250 Q (F0 m 2134 ls []) := by
  have hx := X.1
  have hb := X.2.1
  refine lv_aload_n hx hb dL_law_2134 rfl (lv_at hl 2 rfl) ?_
  refine lv_aload_n hx hb dL_law_2135 rfl (lv_at hl 3 rfl) ?_
  refine lv_iload_n hx hb dL_law_2136 rfl (lv_at hl 0 rfl) ?_
  refine lv_iconst (v := 1) hx hb dL_law_2137 (by decide) ?_
  refine q_iadd hx hb dL_law_2138 (fun x1 ex1 => ?_)
  obtain rfl : x1 = 1 := by rw [ex1]; decide
  refine va_sld hx hb hX hbl hbA hS (i := 1) (v_in (rg_k (by decide) : rg 1 1 1) (by decide)) dL_law_2139 ?_
  refine lv_aload_n hx hb dL_law_2140 rfl (lv_at hl 3 rfl) ?_
  refine lv_iload_n hx hb dL_law_2141 rfl (lv_at hl 0 rfl) ?_
  refine lv_iconst (v := 2) hx hb dL_law_2142 (by decide) ?_
  refine q_iadd hx hb dL_law_2143 (fun x2 ex2 => ?_)
  obtain rfl : x2 = 2 := by rw [ex2]; decide
  refine va_sld hx hb hX hbl hbA hS (i := 2) (v_in (rg_k (by decide) : rg 2 2 2) (by decide)) dL_law_2144 ?_
  refine lv_aload_n hx hb dL_law_2145 rfl (lv_at hl 3 rfl) ?_
  refine lv_iload_n hx hb dL_law_2146 rfl (lv_at hl 0 rfl) ?_
  refine lv_iconst (v := 3) hx hb dL_law_2147 (by decide) ?_
  refine q_iadd hx hb dL_law_2148 (fun x3 ex3 => ?_)
  obtain rfl : x3 = 3 := by rw [ex3]; decide
  refine va_sld hx hb hX hbl hbA hS (i := 3) (v_in (rg_k (by decide) : rg 3 3 3) (by decide)) dL_law_2149 ?_
  refine lv_aload_n hx hb dL_law_2150 rfl (lv_at hl 3 rfl) ?_
  refine lv_iload_n hx hb dL_law_2151 rfl (lv_at hl 0 rfl) ?_
  refine lv_iconst (v := 4) hx hb dL_law_2152 (by decide) ?_
  refine q_iadd hx hb dL_law_2153 (fun x4 ex4 => ?_)
  obtain rfl : x4 = 4 := by rw [ex4]; decide
  refine va_sld hx hb hX hbl hbA hS (i := 4) (v_in (rg_k (by decide) : rg 4 4 4) (by decide)) dL_law_2154 ?_
  refine lv_aload_n hx hb dL_law_2155 rfl (lv_at hl 3 rfl) ?_
  refine lv_iload_n hx hb dL_law_2156 rfl (lv_at hl 0 rfl) ?_
  refine lv_iconst (v := 5) hx hb dL_law_2157 (by decide) ?_
  refine q_iadd hx hb dL_law_2158 (fun x5 ex5 => ?_)
  obtain rfl : x5 = 5 := by rw [ex5]; decide
  refine va_sld hx hb hX hbl hbA hS (i := 5) (v_in (rg_k (by decide) : rg 5 5 5) (by decide)) dL_law_2159 ?_
  refine r_Vi (As := [.int (xs (Int32.toNatClampNeg 1)), .int (xs (Int32.toNatClampNeg 2)), .int (xs (Int32.toNatClampNeg 3)), .int (xs (Int32.toNatClampNeg 4)), .int (xs (Int32.toNatClampNeg 5))]) (rest := []) X hT hS (k_X8_paste hRF (xs (Int32.toNatClampNeg 1)) (xs (Int32.toNatClampNeg 2)) (xs (Int32.toNatClampNeg 3)) (xs (Int32.toNatClampNeg 4)) (xs (Int32.toNatClampNeg 5))) mk_X8_paste gm_1315 rfl rfl (by decide) hd_X8_paste ⟨rfl, rfl⟩ ⟨Nat.le_of_ble_eq_true rfl, Nat.le_of_ble_eq_true rfl⟩ hl.1 rfl (Nat.le_of_ble_eq_true rfl) dL_law_2160 ⟨Nat.le_refl _, Nat.le_refl _⟩ (fun r6 i6 g6 H locs hq hT hS => ?_)
  rcases hq with hq | hq
  ·
    obtain ⟨eh6, rfl, hf6_0⟩ := hq
    rw [(Prod.mk.inj eh6).1, (Prod.mk.inj eh6).2] at hT
    refine lv_aload_n hx hb dL_law_2163 rfl (lv_at hl 1 rfl) ?_
    refine lv_aload_n hx hb dL_law_2164 rfl (lv_at hl 3 rfl) ?_
    refine lv_iload_n hx hb dL_law_2165 rfl (lv_at hl 0 rfl) ?_
    refine lv_iconst (v := 1) hx hb dL_law_2166 (by decide) ?_
    refine q_iadd hx hb dL_law_2167 (fun x7 ex7 => ?_)
    obtain rfl : x7 = 1 := by rw [ex7]; decide
    refine va_sld hx hb hX hbl hbA hS (i := 1) (v_in (rg_k (by decide) : rg 1 1 1) (by decide)) dL_law_2168 ?_
    refine lv_aload_n hx hb dL_law_2169 rfl (lv_at hl 3 rfl) ?_
    refine lv_iload_n hx hb dL_law_2170 rfl (lv_at hl 0 rfl) ?_
    refine lv_iconst (v := 2) hx hb dL_law_2171 (by decide) ?_
    refine q_iadd hx hb dL_law_2172 (fun x8 ex8 => ?_)
    obtain rfl : x8 = 2 := by rw [ex8]; decide
    refine va_sld hx hb hX hbl hbA hS (i := 2) (v_in (rg_k (by decide) : rg 2 2 2) (by decide)) dL_law_2173 ?_
    refine lv_aload_n hx hb dL_law_2174 rfl (lv_at hl 3 rfl) ?_
    refine lv_iload_n hx hb dL_law_2175 rfl (lv_at hl 0 rfl) ?_
    refine lv_iconst (v := 3) hx hb dL_law_2176 (by decide) ?_
    refine q_iadd hx hb dL_law_2177 (fun x9 ex9 => ?_)
    obtain rfl : x9 = 3 := by rw [ex9]; decide
    refine va_sld hx hb hX hbl hbA hS (i := 3) (v_in (rg_k (by decide) : rg 3 3 3) (by decide)) dL_law_2178 ?_
    refine lv_aload_n hx hb dL_law_2179 rfl (lv_at hl 3 rfl) ?_
    refine lv_iload_n hx hb dL_law_2180 rfl (lv_at hl 0 rfl) ?_
    refine lv_iconst (v := 4) hx hb dL_law_2181 (by decide) ?_
    refine q_iadd hx hb dL_law_2182 (fun x10 ex10 => ?_)
    obtain rfl : x10 = 4 := by rw [ex10]; decide
    refine va_sld hx hb hX hbl hbA hS (i := 4) (v_in (rg_k (by decide) : rg 4 4 4) (by decide)) dL_law_2183 ?_
    refine lv_aload_n hx hb dL_law_2184 rfl (lv_at hl 3 rfl) ?_
    refine lv_iload_n hx hb dL_law_2185 rfl (lv_at hl 0 rfl) ?_
    refine lv_iconst (v := 5) hx hb dL_law_2186 (by decide) ?_
    refine q_iadd hx hb dL_law_2187 (fun x11 ex11 => ?_)
    obtain rfl : x11 = 5 := by rw [ex11]; decide
    refine va_sld hx hb hX hbl hbA hS (i := 5) (v_in (rg_k (by decide) : rg 5 5 5) (by decide)) dL_law_2188 ?_
    refine r_Vi (As := [.int (xs (Int32.toNatClampNeg 1)), .int (xs (Int32.toNatClampNeg 2)), .int (xs (Int32.toNatClampNeg 3)), .int (xs (Int32.toNatClampNeg 4)), .int (xs (Int32.toNatClampNeg 5))]) (rest := [.int (-6)]) X hT hS (k_X9_paste hRM (xs (Int32.toNatClampNeg 1)) (xs (Int32.toNatClampNeg 2)) (xs (Int32.toNatClampNeg 3)) (xs (Int32.toNatClampNeg 4)) (xs (Int32.toNatClampNeg 5))) mk_X9_paste gm_1506 rfl rfl (by decide) hd_X9_paste ⟨rfl, rfl⟩ ⟨Nat.le_of_ble_eq_true rfl, Nat.le_of_ble_eq_true rfl⟩ hl.1 rfl (Nat.le_of_ble_eq_true rfl) dL_law_2189 ⟨Nat.le_refl _, Nat.le_refl _⟩ (fun r12 i12 g12 H locs hq hT hS => ?_)
    rcases hq with hq | hq
    ·
      obtain ⟨hR12, rfl, hf12_0⟩ := hq
      refine lv_icmp_eq (tgt := 2197) hx hb dL_law_2192 (by decide) (fun c13 => ?_) (fun c13 => (x_ne (rg_k (by decide) : rg (-6) (-6) (-6)) (rg_k (by decide) : rg (-6) (-6) (-6)) (i_ne c13) (by decide)).elim)
      exact hE _ _ _ hS (lv_sub hl [0, 1, 2, 3] rfl)
    ·
      obtain ⟨hR12, rfl, hf12_0⟩ := hq
      refine lv_icmp_eq (tgt := 2197) hx hb dL_law_2192 (by decide) (fun c14 => (x_eq (rg_k (by decide) : rg (-6) (-6) (-6)) (rg_k (by decide) : rg (-2) (-2) (-2)) (i_eq c14) (by decide)).elim) (fun c14 => ?_)
      refine lv_iconst (v := 0) hx hb dL_law_2195 (by decide) ?_
      exact (by have := hf6_0; have := hf12_0; omega : False).elim
  ·
    obtain ⟨eh6, rfl, hf6_0⟩ := hq
    rw [(Prod.mk.inj eh6).1, (Prod.mk.inj eh6).2] at hT
    refine lv_aload_n hx hb dL_law_2163 rfl (lv_at hl 1 rfl) ?_
    refine lv_aload_n hx hb dL_law_2164 rfl (lv_at hl 3 rfl) ?_
    refine lv_iload_n hx hb dL_law_2165 rfl (lv_at hl 0 rfl) ?_
    refine lv_iconst (v := 1) hx hb dL_law_2166 (by decide) ?_
    refine q_iadd hx hb dL_law_2167 (fun x15 ex15 => ?_)
    obtain rfl : x15 = 1 := by rw [ex15]; decide
    refine va_sld hx hb hX hbl hbA hS (i := 1) (v_in (rg_k (by decide) : rg 1 1 1) (by decide)) dL_law_2168 ?_
    refine lv_aload_n hx hb dL_law_2169 rfl (lv_at hl 3 rfl) ?_
    refine lv_iload_n hx hb dL_law_2170 rfl (lv_at hl 0 rfl) ?_
    refine lv_iconst (v := 2) hx hb dL_law_2171 (by decide) ?_
    refine q_iadd hx hb dL_law_2172 (fun x16 ex16 => ?_)
    obtain rfl : x16 = 2 := by rw [ex16]; decide
    refine va_sld hx hb hX hbl hbA hS (i := 2) (v_in (rg_k (by decide) : rg 2 2 2) (by decide)) dL_law_2173 ?_
    refine lv_aload_n hx hb dL_law_2174 rfl (lv_at hl 3 rfl) ?_
    refine lv_iload_n hx hb dL_law_2175 rfl (lv_at hl 0 rfl) ?_
    refine lv_iconst (v := 3) hx hb dL_law_2176 (by decide) ?_
    refine q_iadd hx hb dL_law_2177 (fun x17 ex17 => ?_)
    obtain rfl : x17 = 3 := by rw [ex17]; decide
    refine va_sld hx hb hX hbl hbA hS (i := 3) (v_in (rg_k (by decide) : rg 3 3 3) (by decide)) dL_law_2178 ?_
    refine lv_aload_n hx hb dL_law_2179 rfl (lv_at hl 3 rfl) ?_
    refine lv_iload_n hx hb dL_law_2180 rfl (lv_at hl 0 rfl) ?_
    refine lv_iconst (v := 4) hx hb dL_law_2181 (by decide) ?_
    refine q_iadd hx hb dL_law_2182 (fun x18 ex18 => ?_)
    obtain rfl : x18 = 4 := by rw [ex18]; decide
    refine va_sld hx hb hX hbl hbA hS (i := 4) (v_in (rg_k (by decide) : rg 4 4 4) (by decide)) dL_law_2183 ?_
    refine lv_aload_n hx hb dL_law_2184 rfl (lv_at hl 3 rfl) ?_
    refine lv_iload_n hx hb dL_law_2185 rfl (lv_at hl 0 rfl) ?_
    refine lv_iconst (v := 5) hx hb dL_law_2186 (by decide) ?_
    refine q_iadd hx hb dL_law_2187 (fun x19 ex19 => ?_)
    obtain rfl : x19 = 5 := by rw [ex19]; decide
    refine va_sld hx hb hX hbl hbA hS (i := 5) (v_in (rg_k (by decide) : rg 5 5 5) (by decide)) dL_law_2188 ?_
    refine r_Vi (As := [.int (xs (Int32.toNatClampNeg 1)), .int (xs (Int32.toNatClampNeg 2)), .int (xs (Int32.toNatClampNeg 3)), .int (xs (Int32.toNatClampNeg 4)), .int (xs (Int32.toNatClampNeg 5))]) (rest := [.int (-2)]) X hT hS (k_X9_paste hRM (xs (Int32.toNatClampNeg 1)) (xs (Int32.toNatClampNeg 2)) (xs (Int32.toNatClampNeg 3)) (xs (Int32.toNatClampNeg 4)) (xs (Int32.toNatClampNeg 5))) mk_X9_paste gm_1506 rfl rfl (by decide) hd_X9_paste ⟨rfl, rfl⟩ ⟨Nat.le_of_ble_eq_true rfl, Nat.le_of_ble_eq_true rfl⟩ hl.1 rfl (Nat.le_of_ble_eq_true rfl) dL_law_2189 ⟨Nat.le_refl _, Nat.le_refl _⟩ (fun r20 i20 g20 H locs hq hT hS => ?_)
    rcases hq with hq | hq
    ·
      obtain ⟨hR20, rfl, hf20_0⟩ := hq
      refine lv_icmp_eq (tgt := 2197) hx hb dL_law_2192 (by decide) (fun c21 => (x_eq (rg_k (by decide) : rg (-2) (-2) (-2)) (rg_k (by decide) : rg (-6) (-6) (-6)) (i_eq c21) (by decide)).elim) (fun c21 => ?_)
      refine lv_iconst (v := 0) hx hb dL_law_2195 (by decide) ?_
      exact (by have := hf6_0; have := hf20_0; omega : False).elim
    ·
      obtain ⟨hR20, rfl, hf20_0⟩ := hq
      refine lv_icmp_eq (tgt := 2197) hx hb dL_law_2192 (by decide) (fun c22 => ?_) (fun c22 => (x_ne (rg_k (by decide) : rg (-2) (-2) (-2)) (rg_k (by decide) : rg (-2) (-2) (-2)) (i_ne c22) (by decide)).elim)
      exact hE _ _ _ hS (lv_sub hl [0, 1, 2, 3] rfl)
