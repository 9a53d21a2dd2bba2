set_option maxRecDepth 100000 in
set_option maxHeartbeats 4000000 in
theorem law_50 {p : Program} {l : Launch} {e : Env} {s : State} {m : MethodId} {below : List Frame} {meth : Method} {c : Code} {D : va_G} {cz : Nat → ClassId} {h : Nat → Nat} {z : EZ} {i : Nat → Nat → Int32} {g : Nat → Nat → Int64} {b L : Nat} {xs : Nat → Int32} {H : Heap} {locs : List Loc} {ls : Array Slot} {Q : State → Prop} {x3 : Int32} (X : Cxt p s m c #[Value.ref b] cL_law 4 "UncutTaleLaw" D cz) (Y : EV h z s s.heap) (hR : Rg rA i) (hX : va_X b L xs s s.heap) (hbl : b < s.heap.size) (hbA : ¬ hA h b) (hT : TH D h cz i g H) (hS : va_S (hA h) s.heap H locs) (hx3 : rg 0 3066 x3) (hL3 : x3.toInt + 6 ≤ (L : Int)) (hl : lv_has ls 4 [(3, .int x3), (2, .ref (h 96)), (1, .ref (h 0)), (0, .ref b)]) (hrel : rel74 i) (hE : ∀ (i : Nat → Nat → Int32) (g : Nat → Nat → Int64) (H : Heap) (locs : List Loc) (ls : Array Slot), Rg rA i → rel74 i → TH D h cz i g H → va_S (hA h) s.heap H locs → lv_has ls 4 [(3, .int x3), (2, .ref (h 96)), (1, .ref (h 0)), (0, .ref b)] → W p l e room_1 s m #[Value.ref b] below meth c H locs 600000 7302250 Q (F0 m 2196 ls [])) : W p l e room_1 s m #[Value.ref b] below meth c H locs 600000 7302250 Q (F0 m 1494 ls []) := by
  have hx := X.1
  have hb := X.2.1
  refine lv_aload_n hx hb dL_law_1494 rfl (lv_at hl 2 rfl) ?_
  refine lv_aload_n hx hb dL_law_1495 rfl (lv_at hl 3 rfl) ?_
  refine lv_iload_n hx hb dL_law_1496 rfl (lv_at hl 0 rfl) ?_
  refine lv_iconst (v := 1) hx hb dL_law_1497 (by decide) ?_
  refine lv_iadd hx hb dL_law_1498 ?_
  refine va_sld hx hb hX hbl hbA hS (i := (x3 + 1)) (sl_in 1 hx3 hL3 (by decide)) dL_law_1499 ?_
  refine e_Vi (As := [.int (xs (Int32.toNatClampNeg (x3 + 1)))]) (rest := []) X Y hT hS (m_X8_by hR (xs (Int32.toNatClampNeg (x3 + 1)))) mk_X8_by gm_1136 rfl rfl (by decide) hd_X8_by ⟨rfl, rfl⟩ ⟨Nat.le_of_ble_eq_true rfl, Nat.le_of_ble_eq_true rfl⟩ hl.1 rfl (Nat.le_of_ble_eq_true rfl) dL_law_1500 ⟨Nat.le_refl _, Nat.le_refl _⟩ (fun r1 i1 g1 H locs hq hT hS => ?_)
  obtain ⟨hR1, hf1⟩ := hq
  have hrel1_ : rel74 i1 := rel74_f hrel hf1 (by decide) (by decide) (by decide) (by decide)
  refine lv_pop hx hb dL_law_1503 rfl ?_
  refine lv_aload_n hx hb dL_law_1504 rfl (lv_at hl 1 rfl) ?_
  refine lv_aload_n hx hb dL_law_1505 rfl (lv_at hl 3 rfl) ?_
  refine lv_iload_n hx hb dL_law_1506 rfl (lv_at hl 0 rfl) ?_
  refine lv_iconst (v := 1) hx hb dL_law_1507 (by decide) ?_
  refine lv_iadd hx hb dL_law_1508 ?_
  refine va_sld hx hb hX hbl hbA hS (i := (x3 + 1)) (sl_in 1 hx3 hL3 (by decide)) dL_law_1509 ?_
  refine e_Vi (As := [.int (xs (Int32.toNatClampNeg (x3 + 1)))]) (rest := []) X Y hT hS (m_X9_by hR1 (xs (Int32.toNatClampNeg (x3 + 1)))) mk_X9_by gm_1984 rfl rfl (by decide) hd_X9_by ⟨rfl, rfl⟩ ⟨Nat.le_of_ble_eq_true rfl, Nat.le_of_ble_eq_true rfl⟩ hl.1 rfl (Nat.le_of_ble_eq_true rfl) dL_law_1510 ⟨Nat.le_refl _, Nat.le_refl _⟩ (fun r2 i2 g2 H locs hq hT hS => ?_)
  obtain ⟨hR2, hf2⟩ := hq
  have hrel2_ : rel74 i2 := rel74_f hrel1_ hf2 (by decide) (by decide) (by decide) (by decide)
  refine lv_pop hx hb dL_law_1513 rfl ?_
  refine lv_goto (tgt := 2196) hx hb dL_law_1514 (by decide) ?_
  exact hE _ _ _ _ _ hR2 hrel2_ hT hS (lv_sub hl [0, 1, 2, 3] rfl)

set_option maxRecDepth 100000 in
set_option maxHeartbeats 4000000 in
theorem law_51 {p : Program} {l : Launch} {e : Env} {s : State} {m : MethodId} {below : List Frame} {meth : Method} {c : Code} {D : va_G} {cz : Nat → ClassId} {h : Nat → Nat} {z : EZ} {i : Nat → Nat → Int32} {g : Nat → Nat → Int64} {b L : Nat} {xs : Nat → Int32} {H : Heap} {locs : List Loc} {ls : Array Slot} {Q : State → Prop} {x3 : Int32} (X : Cxt p s m c #[Value.ref b] cL_law 4 "UncutTaleLaw" D cz) (Y : EV h z s s.heap) (hR : Rg rA i) (hX : va_X b L xs s s.heap) (hbl : b < s.heap.size) (hbA : ¬ hA h b) (hT : TH D h cz i g H) (hS : va_S (hA h) s.heap H locs) (hx3 : rg 0 3066 x3) (hL3 : x3.toInt + 6 ≤ (L : Int)) (hl : lv_has ls 4 [(3, .int x3), (2, .ref (h 96)), (1, .ref (h 0)), (0, .ref b)]) (hrel : rel74 i) (hE : ∀ (i : Nat → Nat → Int32) (g : Nat → Nat → Int64) (H : Heap) (locs : List Loc) (ls : Array Slot), Rg rA i → rel74 i → TH D h cz i g H → va_S (hA h) s.heap H locs → lv_has ls 4 [(3, .int x3), (2, .ref (h 96)), (1, .ref (h 0)), (0, .ref b)] → W p l e room_1 s m #[Value.ref b] below meth c H locs 600000 7302250 Q (F0 m 2196 ls [])) : W p l e room_1 s m #[Value.ref b] below meth c H locs 600000 7302250 Q (F0 m 1517 ls []) := by
  have hx := X.1
  have hb := X.2.1
  refine lv_aload_n hx hb dL_law_1517 rfl (lv_at hl 2 rfl) ?_
  refine e_Vi (As := []) (rest := []) X Y hT hS (m_X8_law hR) mk_X8_law gm_1144 rfl rfl (by decide) hd_X8_law ⟨rfl, rfl⟩ ⟨Nat.le_of_ble_eq_true rfl, Nat.le_of_ble_eq_true rfl⟩ hl.1 rfl (Nat.le_of_ble_eq_true rfl) dL_law_1518 ⟨Nat.le_refl _, Nat.le_refl _⟩ (fun r1 i1 g1 H locs hq hT hS => ?_)
  obtain ⟨hR1, hf1, hr1⟩ := hq
  have hrel1_ : rel74 i1 := rel74_f hrel hf1 (by decide) (by decide) (by decide) (by decide)
  refine lv_pop hx hb dL_law_1521 rfl ?_
  refine lv_aload_n hx hb dL_law_1522 rfl (lv_at hl 1 rfl) ?_
  refine e_Vi (As := []) (rest := []) X Y hT hS (m_X9_law hR1) mk_X9_law gm_1988 rfl rfl (by decide) hd_X9_law ⟨rfl, rfl⟩ ⟨Nat.le_of_ble_eq_true rfl, Nat.le_of_ble_eq_true rfl⟩ hl.1 rfl (Nat.le_of_ble_eq_true rfl) dL_law_1523 ⟨Nat.le_refl _, Nat.le_refl _⟩ (fun r2 i2 g2 H locs hq hT hS => ?_)
  obtain ⟨hR2, hf2, hr2⟩ := hq
  have hrel2_ : rel74 i2 := rel74_f hrel1_ hf2 (by decide) (by decide) (by decide) (by decide)
  refine lv_pop hx hb dL_law_1526 rfl ?_
  refine lv_goto (tgt := 2196) hx hb dL_law_1527 (by decide) ?_
  exact hE _ _ _ _ _ hR2 hrel2_ hT hS (lv_sub hl [0, 1, 2, 3] rfl)

set_option maxRecDepth 100000 in
set_option maxHeartbeats 4000000 in
theorem law_52 {p : Program} {l : Launch} {e : Env} {s : State} {m : MethodId} {below : List Frame} {meth : Method} {c : Code} {D : va_G} {cz : Nat → ClassId} {h : Nat → Nat} {z : EZ} {i : Nat → Nat → Int32} {g : Nat → Nat → Int64} {b L : Nat} {xs : Nat → Int32} {H : Heap} {locs : List Loc} {ls : Array Slot} {Q : State → Prop} {x3 : Int32} (X : Cxt p s m c #[Value.ref b] cL_law 4 "UncutTaleLaw" D cz) (Y : EV h z s s.heap) (hR : Rg rA i) (hX : va_X b L xs s s.heap) (hbl : b < s.heap.size) (hbA : ¬ hA h b) (hT : TH D h cz i g H) (hS : va_S (hA h) s.heap H locs) (hx3 : rg 0 3066 x3) (hL3 : x3.toInt + 6 ≤ (L : Int)) (hl : lv_has ls 4 [(3, .int x3), (2, .ref (h 96)), (1, .ref (h 0)), (0, .ref b)]) (hrel : rel74 i) (hE : ∀ (i : Nat → Nat → Int32) (g : Nat → Nat → Int64) (H : Heap) (locs : List Loc) (ls : Array Slot), Rg rA i → rel74 i → TH D h cz i g H → va_S (hA h) s.heap H locs → lv_has ls 4 [(3, .int x3), (2, .ref (h 96)), (1, .ref (h 0)), (0, .ref b)] → W p l e room_1 s m #[Value.ref b] below meth c H locs 600000 7302250 Q (F0 m 2196 ls [])) : W p l e room_1 s m #[Value.ref b] below meth c H locs 600000 7302250 Q (F0 m 1530 ls []) := by
  have hx := X.1
  have hb := X.2.1
  refine lv_aload_n hx hb dL_law_1530 rfl (lv_at hl 2 rfl) ?_
  refine e_Vi (As := []) (rest := []) X Y hT hS (m_X8_blunt hR) mk_X8_blunt gm_1148 rfl rfl (by decide) hd_X8_blunt ⟨rfl, rfl⟩ ⟨Nat.le_of_ble_eq_true rfl, Nat.le_of_ble_eq_true rfl⟩ hl.1 rfl (Nat.le_of_ble_eq_true rfl) dL_law_1531 ⟨Nat.le_refl _, Nat.le_refl _⟩ (fun r1 i1 g1 H locs hq hT hS => ?_)
  obtain ⟨hR1, hf1, hr1⟩ := hq
  have hrel1_ : rel74 i1 := rel74_f hrel hf1 (by decide) (by decide) (by decide) (by decide)
  refine lv_pop hx hb dL_law_1534 rfl ?_
  refine lv_aload_n hx hb dL_law_1535 rfl (lv_at hl 1 rfl) ?_
  refine e_Vi (As := []) (rest := []) X Y hT hS (m_X9_blunt hR1) mk_X9_blunt gm_1992 rfl rfl (by decide) hd_X9_blunt ⟨rfl, rfl⟩ ⟨Nat.le_of_ble_eq_true rfl, Nat.le_of_ble_eq_true rfl⟩ hl.1 rfl (Nat.le_of_ble_eq_true rfl) dL_law_1536 ⟨Nat.le_refl _, Nat.le_refl _⟩ (fun r2 i2 g2 H locs hq hT hS => ?_)
  obtain ⟨hR2, hf2, hr2⟩ := hq
  have hrel2_ : rel74 i2 := rel74_f hrel1_ hf2 (by decide) (by decide) (by decide) (by decide)
  refine lv_pop hx hb dL_law_1539 rfl ?_
  refine lv_goto (tgt := 2196) hx hb dL_law_1540 (by decide) ?_
  exact hE _ _ _ _ _ hR2 hrel2_ hT hS (lv_sub hl [0, 1, 2, 3] rfl)

set_option maxRecDepth 100000 in
set_option maxHeartbeats 4000000 in
theorem law_53 {p : Program} {l : Launch} {e : Env} {s : State} {m : MethodId} {below : List Frame} {meth : Method} {c : Code} {D : va_G} {cz : Nat → ClassId} {h : Nat → Nat} {z : EZ} {i : Nat → Nat → Int32} {g : Nat → Nat → Int64} {b L : Nat} {xs : Nat → Int32} {H : Heap} {locs : List Loc} {ls : Array Slot} {Q : State → Prop} {x3 : Int32} (X : Cxt p s m c #[Value.ref b] cL_law 4 "UncutTaleLaw" D cz) (Y : EV h z s s.heap) (hR : Rg rA i) (hX : va_X b L xs s s.heap) (hbl : b < s.heap.size) (hbA : ¬ hA h b) (hT : TH D h cz i g H) (hS : va_S (hA h) s.heap H locs) (hx3 : rg 0 3066 x3) (hL3 : x3.toInt + 6 ≤ (L : Int)) (hl : lv_has ls 4 [(3, .int x3), (2, .ref (h 96)), (1, .ref (h 0)), (0, .ref b)]) (hrel : rel74 i) (hE : ∀ (i : Nat → Nat → Int32) (g : Nat → Nat → Int64) (H : Heap) (locs : List Loc) (ls : Array Slot), Rg rA i → rel74 i → TH D h cz i g H → va_S (hA h) s.heap H locs → lv_has ls 4 [(3, .int x3), (2, .ref (h 96)), (1, .ref (h 0)), (0, .ref b)] → W p l e room_1 s m #[Value.ref b] below meth c H locs 600000 7302250 Q (F0 m 2196 ls [])) : W p l e room_1 s m #[Value.ref b] below meth c H locs 600000 7302250 Q (F0 m 1543 ls []) := by
  have hx := X.1
  have hb := X.2.1
  refine lv_aload_n hx hb dL_law_1543 rfl (lv_at hl 2 rfl) ?_
  refine e_Vi (As := []) (rest := []) X Y hT hS (m_X8_slit hR) mk_X8_slit gm_1152 rfl rfl (by decide) hd_X8_slit ⟨rfl, rfl⟩ ⟨Nat.le_of_ble_eq_true rfl, Nat.le_of_ble_eq_true rfl⟩ hl.1 rfl (Nat.le_of_ble_eq_true rfl) dL_law_1544 ⟨Nat.le_refl _, Nat.le_refl _⟩ (fun r1 i1 g1 H locs hq hT hS => ?_)
  obtain ⟨hR1, hf1, hr1⟩ := hq
  have hrel1_ : rel74 i1 := rel74_f hrel hf1 (by decide) (by decide) (by decide) (by decide)
  refine lv_pop hx hb dL_law_1547 rfl ?_
  refine lv_aload_n hx hb dL_law_1548 rfl (lv_at hl 1 rfl) ?_
  refine e_Vi (As := []) (rest := []) X Y hT hS (m_X9_slit hR1) mk_X9_slit gm_1996 rfl rfl (by decide) hd_X9_slit ⟨rfl, rfl⟩ ⟨Nat.le_of_ble_eq_true rfl, Nat.le_of_ble_eq_true rfl⟩ hl.1 rfl (Nat.le_of_ble_eq_true rfl) dL_law_1549 ⟨Nat.le_refl _, Nat.le_refl _⟩ (fun r2 i2 g2 H locs hq hT hS => ?_)
  obtain ⟨hR2, hf2, hr2⟩ := hq
  have hrel2_ : rel74 i2 := rel74_f hrel1_ hf2 (by decide) (by decide) (by decide) (by decide)
  refine lv_pop hx hb dL_law_1552 rfl ?_
  refine lv_goto (tgt := 2196) hx hb dL_law_1553 (by decide) ?_
  exact hE _ _ _ _ _ hR2 hrel2_ hT hS (lv_sub hl [0, 1, 2, 3] rfl)

set_option maxRecDepth 100000 in
set_option maxHeartbeats 4000000 in
theorem law_54 {p : Program} {l : Launch} {e : Env} {s : State} {m : MethodId} {below : List Frame} {meth : Method} {c : Code} {D : va_G} {cz : Nat → ClassId} {h : Nat → Nat} {z : EZ} {i : Nat → Nat → Int32} {g : Nat → Nat → Int64} {b L : Nat} {xs : Nat → Int32} {H : Heap} {locs : List Loc} {ls : Array Slot} {Q : State → Prop} {x3 : Int32} (X : Cxt p s m c #[Value.ref b] cL_law 4 "UncutTaleLaw" D cz) (Y : EV h z s s.heap) (hR : Rg rA i) (hX : va_X b L xs s s.heap) (hbl : b < s.heap.size) (hbA : ¬ hA h b) (hT : TH D h cz i g H) (hS : va_S (hA h) s.heap H locs) (hx3 : rg 0 3066 x3) (hL3 : x3.toInt + 6 ≤ (L : Int)) (hl : lv_has ls 4 [(3, .int x3), (2, .ref (h 96)), (1, .ref (h 0)), (0, .ref b)]) (hrel : rel74 i) (hE : ∀ (i : Nat → Nat → Int32) (g : Nat → Nat → Int64) (H : Heap) (locs : List Loc) (ls : Array Slot), Rg rA i → rel74 i → TH D h cz i g H → va_S (hA h) s.heap H locs → lv_has ls 4 [(3, .int x3), (2, .ref (h 96)), (1, .ref (h 0)), (0, .ref b)] → W p l e room_1 s m #[Value.ref b] below meth c H locs 600000 7302250 Q (F0 m 2196 ls [])) : W p l e room_1 s m #[Value.ref b] below meth c H locs 600000 7302250 Q (F0 m 1556 ls []) := by
  have hx := X.1
  have hb := X.2.1
  refine lv_aload_n hx hb dL_law_1556 rfl (lv_at hl 2 rfl) ?_
  refine e_Vi (As := []) (rest := []) X Y hT hS (m_X8_uncle hR) mk_X8_uncle gm_1156 rfl rfl (by decide) hd_X8_uncle ⟨rfl, rfl⟩ ⟨Nat.le_of_ble_eq_true rfl, Nat.le_of_ble_eq_true rfl⟩ hl.1 rfl (Nat.le_of_ble_eq_true rfl) dL_law_1557 ⟨Nat.le_refl _, Nat.le_refl _⟩ (fun r1 i1 g1 H locs hq hT hS => ?_)
  obtain ⟨hR1, hf1⟩ := hq
  have hrel1_ : rel74 i1 := rel74_f hrel hf1 (by decide) (by decide) (by decide) (by decide)
  refine lv_pop hx hb dL_law_1560 rfl ?_
  refine lv_aload_n hx hb dL_law_1561 rfl (lv_at hl 1 rfl) ?_
  refine e_Vi (As := []) (rest := []) X Y hT hS (m_X9_uncle hR1) mk_X9_uncle gm_2000 rfl rfl (by decide) hd_X9_uncle ⟨rfl, rfl⟩ ⟨Nat.le_of_ble_eq_true rfl, Nat.le_of_ble_eq_true rfl⟩ hl.1 rfl (Nat.le_of_ble_eq_true rfl) dL_law_1562 ⟨Nat.le_refl _, Nat.le_refl _⟩ (fun r2 i2 g2 H locs hq hT hS => ?_)
  obtain ⟨hR2, hf2⟩ := hq
  have hrel2_ : rel74 i2 := rel74_f hrel1_ hf2 (by decide) (by decide) (by decide) (by decide)
  refine lv_pop hx hb dL_law_1565 rfl ?_
  refine lv_goto (tgt := 2196) hx hb dL_law_1566 (by decide) ?_
  exact hE _ _ _ _ _ hR2 hrel2_ hT hS (lv_sub hl [0, 1, 2, 3] rfl)

set_option maxRecDepth 100000 in
set_option maxHeartbeats 4000000 in
theorem law_55 {p : Program} {l : Launch} {e : Env} {s : State} {m : MethodId} {below : List Frame} {meth : Method} {c : Code} {D : va_G} {cz : Nat → ClassId} {h : Nat → Nat} {z : EZ} {i : Nat → Nat → Int32} {g : Nat → Nat → Int64} {b L : Nat} {xs : Nat → Int32} {H : Heap} {locs : List Loc} {ls : Array Slot} {Q : State → Prop} {x3 : Int32} (X : Cxt p s m c #[Value.ref b] cL_law 4 "UncutTaleLaw" D cz) (Y : EV h z s s.heap) (hR : Rg rA i) (hX : va_X b L xs s s.heap) (hbl : b < s.heap.size) (hbA : ¬ hA h b) (hT : TH D h cz i g H) (hS : va_S (hA h) s.heap H locs) (hx3 : rg 0 3066 x3) (hL3 : x3.toInt + 6 ≤ (L : Int)) (hl : lv_has ls 4 [(3, .int x3), (2, .ref (h 96)), (1, .ref (h 0)), (0, .ref b)]) (hrel : rel74 i) (hE : ∀ (i : Nat → Nat → Int32) (g : Nat → Nat → Int64) (H : Heap) (locs : List Loc) (ls : Array Slot), Rg rA i → rel74 i → TH D h cz i g H → va_S (hA h) s.heap H locs → lv_has ls 4 [(3, .int x3), (2, .ref (h 96)), (1, .ref (h 0)), (0, .ref b)] → W p l e room_1 s m #[Value.ref b] below meth c H locs 600000 7302250 Q (F0 m 2196 ls [])) : W p l e room_1 s m #[Value.ref b] below meth c H locs 600000 7302250 Q (F0 m 1569 ls []) := by
  have hx := X.1
  have hb := X.2.1
  refine lv_aload_n hx hb dL_law_1569 rfl (lv_at hl 2 rfl) ?_
  refine e_Vi (As := []) (rest := []) X Y hT hS (m_X8_opens hR) mk_X8_opens gm_1168 rfl rfl (by decide) hd_X8_opens ⟨rfl, rfl⟩ ⟨Nat.le_of_ble_eq_true rfl, Nat.le_of_ble_eq_true rfl⟩ hl.1 rfl (Nat.le_of_ble_eq_true rfl) dL_law_1570 ⟨Nat.le_refl _, Nat.le_refl _⟩ (fun r1 i1 g1 H locs hq hT hS => ?_)
  obtain ⟨hR1, hf1, hr1⟩ := hq
  have hrel1_ : rel74 i1 := rel74_f hrel hf1 (by decide) (by decide) (by decide) (by decide)
  refine lv_pop hx hb dL_law_1573 rfl ?_
  refine lv_aload_n hx hb dL_law_1574 rfl (lv_at hl 1 rfl) ?_
  refine e_Vi (As := []) (rest := []) X Y hT hS (m_X9_opens hR1) mk_X9_opens gm_2012 rfl rfl (by decide) hd_X9_opens ⟨rfl, rfl⟩ ⟨Nat.le_of_ble_eq_true rfl, Nat.le_of_ble_eq_true rfl⟩ hl.1 rfl (Nat.le_of_ble_eq_true rfl) dL_law_1575 ⟨Nat.le_refl _, Nat.le_refl _⟩ (fun r2 i2 g2 H locs hq hT hS => ?_)
  obtain ⟨hR2, hf2⟩ := hq
  have hrel2_ : rel74 i2 := rel74_f hrel1_ hf2 (by decide) (by decide) (by decide) (by decide)
  refine lv_pop hx hb dL_law_1578 rfl ?_
  refine lv_goto (tgt := 2196) hx hb dL_law_1579 (by decide) ?_
  exact hE _ _ _ _ _ hR2 hrel2_ hT hS (lv_sub hl [0, 1, 2, 3] rfl)

set_option maxRecDepth 100000 in
set_option maxHeartbeats 4000000 in
theorem law_56 {p : Program} {l : Launch} {e : Env} {s : State} {m : MethodId} {below : List Frame} {meth : Method} {c : Code} {D : va_G} {cz : Nat → ClassId} {h : Nat → Nat} {z : EZ} {i : Nat → Nat → Int32} {g : Nat → Nat → Int64} {b L : Nat} {xs : Nat → Int32} {H : Heap} {locs : List Loc} {ls : Array Slot} {Q : State → Prop} {x3 : Int32} (X : Cxt p s m c #[Value.ref b] cL_law 4 "UncutTaleLaw" D cz) (Y : EV h z s s.heap) (hR : Rg rA i) (hX : va_X b L xs s s.heap) (hbl : b < s.heap.size) (hbA : ¬ hA h b) (hT : TH D h cz i g H) (hS : va_S (hA h) s.heap H locs) (hx3 : rg 0 3066 x3) (hL3 : x3.toInt + 6 ≤ (L : Int)) (hl : lv_has ls 4 [(3, .int x3), (2, .ref (h 96)), (1, .ref (h 0)), (0, .ref b)]) (hrel : rel74 i) (hE : ∀ (i : Nat → Nat → Int32) (g : Nat → Nat → Int64) (H : Heap) (locs : List Loc) (ls : Array Slot), Rg rA i → rel74 i → TH D h cz i g H → va_S (hA h) s.heap H locs → lv_has ls 4 [(3, .int x3), (2, .ref (h 96)), (1, .ref (h 0)), (0, .ref b)] → W p l e room_1 s m #[Value.ref b] below meth c H locs 600000 7302250 Q (F0 m 2196 ls [])) : W p l e room_1 s m #[Value.ref b] below meth c H locs 600000 7302250 Q (F0 m 1582 ls []) := by
  have hx := X.1
  have hb := X.2.1
  refine lv_aload_n hx hb dL_law_1582 rfl (lv_at hl 2 rfl) ?_
  refine lv_aload_n hx hb dL_law_1583 rfl (lv_at hl 3 rfl) ?_
  refine lv_iload_n hx hb dL_law_1584 rfl (lv_at hl 0 rfl) ?_
  refine lv_iconst (v := 1) hx hb dL_law_1585 (by decide) ?_
  refine lv_iadd hx hb dL_law_1586 ?_
  refine va_sld hx hb hX hbl hbA hS (i := (x3 + 1)) (sl_in 1 hx3 hL3 (by decide)) dL_law_1587 ?_
  refine e_Vi (As := [.int (xs (Int32.toNatClampNeg (x3 + 1)))]) (rest := []) X Y hT hS (m_X8_replies hR (xs (Int32.toNatClampNeg (x3 + 1)))) mk_X8_replies gm_1172 rfl rfl (by decide) hd_X8_replies ⟨rfl, rfl⟩ ⟨Nat.le_of_ble_eq_true rfl, Nat.le_of_ble_eq_true rfl⟩ hl.1 rfl (Nat.le_of_ble_eq_true rfl) dL_law_1588 ⟨Nat.le_refl _, Nat.le_refl _⟩ (fun r1 i1 g1 H locs hq hT hS => ?_)
  obtain ⟨hR1, hf1, hr1⟩ := hq
  have hrel1_ : rel74 i1 := rel74_f hrel hf1 (by decide) (by decide) (by decide) (by decide)
  refine lv_pop hx hb dL_law_1591 rfl ?_
  refine lv_aload_n hx hb dL_law_1592 rfl (lv_at hl 1 rfl) ?_
  refine lv_aload_n hx hb dL_law_1593 rfl (lv_at hl 3 rfl) ?_
  refine lv_iload_n hx hb dL_law_1594 rfl (lv_at hl 0 rfl) ?_
  refine lv_iconst (v := 1) hx hb dL_law_1595 (by decide) ?_
  refine lv_iadd hx hb dL_law_1596 ?_
  refine va_sld hx hb hX hbl hbA hS (i := (x3 + 1)) (sl_in 1 hx3 hL3 (by decide)) dL_law_1597 ?_
  refine e_Vi (As := [.int (xs (Int32.toNatClampNeg (x3 + 1)))]) (rest := []) X Y hT hS (m_X9_replies hR1 (xs (Int32.toNatClampNeg (x3 + 1)))) mk_X9_replies gm_2016 rfl rfl (by decide) hd_X9_replies ⟨rfl, rfl⟩ ⟨Nat.le_of_ble_eq_true rfl, Nat.le_of_ble_eq_true rfl⟩ hl.1 rfl (Nat.le_of_ble_eq_true rfl) dL_law_1598 ⟨Nat.le_refl _, Nat.le_refl _⟩ (fun r2 i2 g2 H locs hq hT hS => ?_)
  obtain ⟨hR2, hf2⟩ := hq
  have hrel2_ : rel74 i2 := rel74_f hrel1_ hf2 (by decide) (by decide) (by decide) (by decide)
  refine lv_pop hx hb dL_law_1601 rfl ?_
  refine lv_goto (tgt := 2196) hx hb dL_law_1602 (by decide) ?_
  exact hE _ _ _ _ _ hR2 hrel2_ hT hS (lv_sub hl [0, 1, 2, 3] rfl)

set_option maxRecDepth 100000 in
set_option maxHeartbeats 4000000 in
theorem law_57 {p : Program} {l : Launch} {e : Env} {s : State} {m : MethodId} {below : List Frame} {meth : Method} {c : Code} {D : va_G} {cz : Nat → ClassId} {h : Nat → Nat} {z : EZ} {i : Nat → Nat → Int32} {g : Nat → Nat → Int64} {b L : Nat} {xs : Nat → Int32} {H : Heap} {locs : List Loc} {ls : Array Slot} {Q : State → Prop} {x3 : Int32} (X : Cxt p s m c #[Value.ref b] cL_law 4 "UncutTaleLaw" D cz) (Y : EV h z s s.heap) (hR : Rg rA i) (hX : va_X b L xs s s.heap) (hbl : b < s.heap.size) (hbA : ¬ hA h b) (hT : TH D h cz i g H) (hS : va_S (hA h) s.heap H locs) (hx3 : rg 0 3066 x3) (hL3 : x3.toInt + 6 ≤ (L : Int)) (hl : lv_has ls 4 [(3, .int x3), (2, .ref (h 96)), (1, .ref (h 0)), (0, .ref b)]) (hrel : rel74 i) (hE : ∀ (i : Nat → Nat → Int32) (g : Nat → Nat → Int64) (H : Heap) (locs : List Loc) (ls : Array Slot), Rg rA i → rel74 i → TH D h cz i g H → va_S (hA h) s.heap H locs → lv_has ls 4 [(3, .int x3), (2, .ref (h 96)), (1, .ref (h 0)), (0, .ref b)] → W p l e room_1 s m #[Value.ref b] below meth c H locs 600000 7302250 Q (F0 m 2196 ls [])) : W p l e room_1 s m #[Value.ref b] below meth c H locs 600000 7302250 Q (F0 m 1605 ls []) := by
  have hx := X.1
  have hb := X.2.1
  refine lv_aload_n hx hb dL_law_1605 rfl (lv_at hl 2 rfl) ?_
  refine lv_aload_n hx hb dL_law_1606 rfl (lv_at hl 3 rfl) ?_
  refine lv_iload_n hx hb dL_law_1607 rfl (lv_at hl 0 rfl) ?_
  refine lv_iconst (v := 1) hx hb dL_law_1608 (by decide) ?_
  refine lv_iadd hx hb dL_law_1609 ?_
  refine va_sld hx hb hX hbl hbA hS (i := (x3 + 1)) (sl_in 1 hx3 hL3 (by decide)) dL_law_1610 ?_
  refine lv_aload_n hx hb dL_law_1611 rfl (lv_at hl 3 rfl) ?_
  refine lv_iload_n hx hb dL_law_1612 rfl (lv_at hl 0 rfl) ?_
  refine lv_iconst (v := 2) hx hb dL_law_1613 (by decide) ?_
  refine lv_iadd hx hb dL_law_1614 ?_
  refine va_sld hx hb hX hbl hbA hS (i := (x3 + 2)) (sl_in 2 hx3 hL3 (by decide)) dL_law_1615 ?_
  refine e_Vi (As := [.int (xs (Int32.toNatClampNeg (x3 + 1))), .int (xs (Int32.toNatClampNeg (x3 + 2)))]) (rest := []) X Y hT hS (m_X8_rests hR (xs (Int32.toNatClampNeg (x3 + 1))) (xs (Int32.toNatClampNeg (x3 + 2)))) mk_X8_rests gm_1176 rfl rfl (by decide) hd_X8_rests ⟨rfl, rfl⟩ ⟨Nat.le_of_ble_eq_true rfl, Nat.le_of_ble_eq_true rfl⟩ hl.1 rfl (Nat.le_of_ble_eq_true rfl) dL_law_1616 ⟨Nat.le_refl _, Nat.le_refl _⟩ (fun r1 i1 g1 H locs hq hT hS => ?_)
  obtain ⟨hR1, hf1, hr1⟩ := hq
  have hrel1_ : rel74 i1 := rel74_f hrel hf1 (by decide) (by decide) (by decide) (by decide)
  refine lv_pop hx hb dL_law_1619 rfl ?_
  refine lv_aload_n hx hb dL_law_1620 rfl (lv_at hl 1 rfl) ?_
  refine lv_aload_n hx hb dL_law_1621 rfl (lv_at hl 3 rfl) ?_
  refine lv_iload_n hx hb dL_law_1622 rfl (lv_at hl 0 rfl) ?_
  refine lv_iconst (v := 1) hx hb dL_law_1623 (by decide) ?_
  refine lv_iadd hx hb dL_law_1624 ?_
  refine va_sld hx hb hX hbl hbA hS (i := (x3 + 1)) (sl_in 1 hx3 hL3 (by decide)) dL_law_1625 ?_
  refine lv_aload_n hx hb dL_law_1626 rfl (lv_at hl 3 rfl) ?_
  refine lv_iload_n hx hb dL_law_1627 rfl (lv_at hl 0 rfl) ?_
  refine lv_iconst (v := 2) hx hb dL_law_1628 (by decide) ?_
  refine lv_iadd hx hb dL_law_1629 ?_
  refine va_sld hx hb hX hbl hbA hS (i := (x3 + 2)) (sl_in 2 hx3 hL3 (by decide)) dL_law_1630 ?_
  refine e_Vi (As := [.int (xs (Int32.toNatClampNeg (x3 + 1))), .int (xs (Int32.toNatClampNeg (x3 + 2)))]) (rest := []) X Y hT hS (m_X9_rests hR1 (xs (Int32.toNatClampNeg (x3 + 1))) (xs (Int32.toNatClampNeg (x3 + 2)))) mk_X9_rests gm_2020 rfl rfl (by decide) hd_X9_rests ⟨rfl, rfl⟩ ⟨Nat.le_of_ble_eq_true rfl, Nat.le_of_ble_eq_true rfl⟩ hl.1 rfl (Nat.le_of_ble_eq_true rfl) dL_law_1631 ⟨Nat.le_refl _, Nat.le_refl _⟩ (fun r2 i2 g2 H locs hq hT hS => ?_)
  obtain ⟨hR2, hf2, hr2⟩ := hq
  have hrel2_ : rel74 i2 := rel74_f hrel1_ hf2 (by decide) (by decide) (by decide) (by decide)
  refine lv_pop hx hb dL_law_1634 rfl ?_
  refine lv_goto (tgt := 2196) hx hb dL_law_1635 (by decide) ?_
  exact hE _ _ _ _ _ hR2 hrel2_ hT hS (lv_sub hl [0, 1, 2, 3] rfl)

set_option maxRecDepth 100000 in
set_option maxHeartbeats 4000000 in
theorem law_58 {p : Program} {l : Launch} {e : Env} {s : State} {m : MethodId} {below : List Frame} {meth : Method} {c : Code} {D : va_G} {cz : Nat → ClassId} {h : Nat → Nat} {z : EZ} {i : Nat → Nat → Int32} {g : Nat → Nat → Int64} {b L : Nat} {xs : Nat → Int32} {H : Heap} {locs : List Loc} {ls : Array Slot} {Q : State → Prop} {x3 : Int32} (X : Cxt p s m c #[Value.ref b] cL_law 4 "UncutTaleLaw" D cz) (Y : EV h z s s.heap) (hR : Rg rA i) (hX : va_X b L xs s s.heap) (hbl : b < s.heap.size) (hbA : ¬ hA h b) (hT : TH D h cz i g H) (hS : va_S (hA h) s.heap H locs) (hx3 : rg 0 3066 x3) (hL3 : x3.toInt + 6 ≤ (L : Int)) (hl : lv_has ls 4 [(3, .int x3), (2, .ref (h 96)), (1, .ref (h 0)), (0, .ref b)]) (hrel : rel74 i) (hE : ∀ (i : Nat → Nat → Int32) (g : Nat → Nat → Int64) (H : Heap) (locs : List Loc) (ls : Array Slot), Rg rA i → rel74 i → TH D h cz i g H → va_S (hA h) s.heap H locs → lv_has ls 4 [(3, .int x3), (2, .ref (h 96)), (1, .ref (h 0)), (0, .ref b)] → W p l e room_1 s m #[Value.ref b] below meth c H locs 600000 7302250 Q (F0 m 2196 ls [])) : W p l e room_1 s m #[Value.ref b] below meth c H locs 600000 7302250 Q (F0 m 1638 ls []) := by
  have hx := X.1
  have hb := X.2.1
  refine lv_aload_n hx hb dL_law_1638 rfl (lv_at hl 2 rfl) ?_
  refine lv_aload_n hx hb dL_law_1639 rfl (lv_at hl 3 rfl) ?_
  refine lv_iload_n hx hb dL_law_1640 rfl (lv_at hl 0 rfl) ?_
  refine lv_iconst (v := 1) hx hb dL_law_1641 (by decide) ?_
  refine lv_iadd hx hb dL_law_1642 ?_
  refine va_sld hx hb hX hbl hbA hS (i := (x3 + 1)) (sl_in 1 hx3 hL3 (by decide)) dL_law_1643 ?_
  refine lv_aload_n hx hb dL_law_1644 rfl (lv_at hl 3 rfl) ?_
  refine lv_iload_n hx hb dL_law_1645 rfl (lv_at hl 0 rfl) ?_
  refine lv_iconst (v := 2) hx hb dL_law_1646 (by decide) ?_
  refine lv_iadd hx hb dL_law_1647 ?_
  refine va_sld hx hb hX hbl hbA hS (i := (x3 + 2)) (sl_in 2 hx3 hL3 (by decide)) dL_law_1648 ?_
  refine lv_aload_n hx hb dL_law_1649 rfl (lv_at hl 3 rfl) ?_
  refine lv_iload_n hx hb dL_law_1650 rfl (lv_at hl 0 rfl) ?_
  refine lv_iconst (v := 3) hx hb dL_law_1651 (by decide) ?_
  refine lv_iadd hx hb dL_law_1652 ?_
  refine va_sld hx hb hX hbl hbA hS (i := (x3 + 3)) (sl_in 3 hx3 hL3 (by decide)) dL_law_1653 ?_
  refine lv_aload_n hx hb dL_law_1654 rfl (lv_at hl 3 rfl) ?_
  refine lv_iload_n hx hb dL_law_1655 rfl (lv_at hl 0 rfl) ?_
  refine lv_iconst (v := 4) hx hb dL_law_1656 (by decide) ?_
  refine lv_iadd hx hb dL_law_1657 ?_
  refine va_sld hx hb hX hbl hbA hS (i := (x3 + 4)) (sl_in 4 hx3 hL3 (by decide)) dL_law_1658 ?_
  refine e_Vi (As := [.int (xs (Int32.toNatClampNeg (x3 + 1))), .int (xs (Int32.toNatClampNeg (x3 + 2))), .int (xs (Int32.toNatClampNeg (x3 + 3))), .int (xs (Int32.toNatClampNeg (x3 + 4)))]) (rest := []) X Y hT hS (m_X8_gets hR (xs (Int32.toNatClampNeg (x3 + 1))) (xs (Int32.toNatClampNeg (x3 + 2))) (xs (Int32.toNatClampNeg (x3 + 3))) (xs (Int32.toNatClampNeg (x3 + 4)))) mk_X8_gets gm_1188 rfl rfl (by decide) hd_X8_gets ⟨rfl, rfl⟩ ⟨Nat.le_of_ble_eq_true rfl, Nat.le_of_ble_eq_true rfl⟩ hl.1 rfl (Nat.le_of_ble_eq_true rfl) dL_law_1659 ⟨Nat.le_refl _, Nat.le_refl _⟩ (fun r1 i1 g1 H locs hq hT hS => ?_)
  obtain ⟨hR1, hf1⟩ := hq
  have hrel1_ : rel74 i1 := rel74_f hrel hf1 (by decide) (by decide) (by decide) (by decide)
  refine lv_pop hx hb dL_law_1662 rfl ?_
  refine lv_aload_n hx hb dL_law_1663 rfl (lv_at hl 1 rfl) ?_
  refine lv_aload_n hx hb dL_law_1664 rfl (lv_at hl 3 rfl) ?_
  refine lv_iload_n hx hb dL_law_1665 rfl (lv_at hl 0 rfl) ?_
  refine lv_iconst (v := 1) hx hb dL_law_1666 (by decide) ?_
  refine lv_iadd hx hb dL_law_1667 ?_
  refine va_sld hx hb hX hbl hbA hS (i := (x3 + 1)) (sl_in 1 hx3 hL3 (by decide)) dL_law_1668 ?_
  refine lv_aload_n hx hb dL_law_1669 rfl (lv_at hl 3 rfl) ?_
  refine lv_iload_n hx hb dL_law_1670 rfl (lv_at hl 0 rfl) ?_
  refine lv_iconst (v := 2) hx hb dL_law_1671 (by decide) ?_
  refine lv_iadd hx hb dL_law_1672 ?_
  refine va_sld hx hb hX hbl hbA hS (i := (x3 + 2)) (sl_in 2 hx3 hL3 (by decide)) dL_law_1673 ?_
  refine lv_aload_n hx hb dL_law_1674 rfl (lv_at hl 3 rfl) ?_
  refine lv_iload_n hx hb dL_law_1675 rfl (lv_at hl 0 rfl) ?_
  refine lv_iconst (v := 3) hx hb dL_law_1676 (by decide) ?_
  refine lv_iadd hx hb dL_law_1677 ?_
  refine va_sld hx hb hX hbl hbA hS (i := (x3 + 3)) (sl_in 3 hx3 hL3 (by decide)) dL_law_1678 ?_
  refine lv_aload_n hx hb dL_law_1679 rfl (lv_at hl 3 rfl) ?_
  refine lv_iload_n hx hb dL_law_1680 rfl (lv_at hl 0 rfl) ?_
  refine lv_iconst (v := 4) hx hb dL_law_1681 (by decide) ?_
  refine lv_iadd hx hb dL_law_1682 ?_
  refine va_sld hx hb hX hbl hbA hS (i := (x3 + 4)) (sl_in 4 hx3 hL3 (by decide)) dL_law_1683 ?_
  refine e_Vi (As := [.int (xs (Int32.toNatClampNeg (x3 + 1))), .int (xs (Int32.toNatClampNeg (x3 + 2))), .int (xs (Int32.toNatClampNeg (x3 + 3))), .int (xs (Int32.toNatClampNeg (x3 + 4)))]) (rest := []) X Y hT hS (m_X9_gets hR1 (xs (Int32.toNatClampNeg (x3 + 1))) (xs (Int32.toNatClampNeg (x3 + 2))) (xs (Int32.toNatClampNeg (x3 + 3))) (xs (Int32.toNatClampNeg (x3 + 4)))) mk_X9_gets gm_2032 rfl rfl (by decide) hd_X9_gets ⟨rfl, rfl⟩ ⟨Nat.le_of_ble_eq_true rfl, Nat.le_of_ble_eq_true rfl⟩ hl.1 rfl (Nat.le_of_ble_eq_true rfl) dL_law_1684 ⟨Nat.le_refl _, Nat.le_refl _⟩ (fun r2 i2 g2 H locs hq hT hS => ?_)
  obtain ⟨hR2, hf2⟩ := hq
  have hrel2_ : rel74 i2 := rel74_f hrel1_ hf2 (by decide) (by decide) (by decide) (by decide)
  refine lv_pop hx hb dL_law_1687 rfl ?_
  refine lv_goto (tgt := 2196) hx hb dL_law_1688 (by decide) ?_
  exact hE _ _ _ _ _ hR2 hrel2_ hT hS (lv_sub hl [0, 1, 2, 3] rfl)

set_option maxRecDepth 100000 in
set_option maxHeartbeats 4000000 in
theorem law_59 {p : Program} {l : Launch} {e : Env} {s : State} {m : MethodId} {below : List Frame} {meth : Method} {c : Code} {D : va_G} {cz : Nat → ClassId} {h : Nat → Nat} {z : EZ} {i : Nat → Nat → Int32} {g : Nat → Nat → Int64} {b L : Nat} {xs : Nat → Int32} {H : Heap} {locs : List Loc} {ls : Array Slot} {Q : State → Prop} {x3 : Int32} (X : Cxt p s m c #[Value.ref b] cL_law 4 "UncutTaleLaw" D cz) (Y : EV h z s s.heap) (hR : Rg rA i) (hX : va_X b L xs s s.heap) (hbl : b < s.heap.size) (hbA : ¬ hA h b) (hT : TH D h cz i g H) (hS : va_S (hA h) s.heap H locs) (hx3 : rg 0 3066 x3) (hL3 : x3.toInt + 6 ≤ (L : Int)) (hl : lv_has ls 4 [(3, .int x3), (2, .ref (h 96)), (1, .ref (h 0)), (0, .ref b)]) (hrel : rel74 i) (hE : ∀ (i : Nat → Nat → Int32) (g : Nat → Nat → Int64) (H : Heap) (locs : List Loc) (ls : Array Slot), Rg rA i → rel74 i → TH D h cz i g H → va_S (hA h) s.heap H locs → lv_has ls 4 [(3, .int x3), (2, .ref (h 96)), (1, .ref (h 0)), (0, .ref b)] → W p l e room_1 s m #[Value.ref b] below meth c H locs 600000 7302250 Q (F0 m 2196 ls [])) : W p l e room_1 s m #[Value.ref b] below meth c H locs 600000 7302250 Q (F0 m 1691 ls []) := by
  have hx := X.1
  have hb := X.2.1
  refine lv_aload_n hx hb dL_law_1691 rfl (lv_at hl 2 rfl) ?_
  refine lv_aload_n hx hb dL_law_1692 rfl (lv_at hl 3 rfl) ?_
  refine lv_iload_n hx hb dL_law_1693 rfl (lv_at hl 0 rfl) ?_
  refine lv_iconst (v := 1) hx hb dL_law_1694 (by decide) ?_
  refine lv_iadd hx hb dL_law_1695 ?_
  refine va_sld hx hb hX hbl hbA hS (i := (x3 + 1)) (sl_in 1 hx3 hL3 (by decide)) dL_law_1696 ?_
  refine lv_aload_n hx hb dL_law_1697 rfl (lv_at hl 3 rfl) ?_
  refine lv_iload_n hx hb dL_law_1698 rfl (lv_at hl 0 rfl) ?_
  refine lv_iconst (v := 2) hx hb dL_law_1699 (by decide) ?_
  refine lv_iadd hx hb dL_law_1700 ?_
  refine va_sld hx hb hX hbl hbA hS (i := (x3 + 2)) (sl_in 2 hx3 hL3 (by decide)) dL_law_1701 ?_
  refine e_Vi (As := [.int (xs (Int32.toNatClampNeg (x3 + 1))), .int (xs (Int32.toNatClampNeg (x3 + 2)))]) (rest := []) X Y hT hS (m_X8_chance hR (xs (Int32.toNatClampNeg (x3 + 1))) (xs (Int32.toNatClampNeg (x3 + 2)))) mk_X8_chance gm_1195 rfl rfl (by decide) hd_X8_chance ⟨rfl, rfl⟩ ⟨Nat.le_of_ble_eq_true rfl, Nat.le_of_ble_eq_true rfl⟩ hl.1 rfl (Nat.le_of_ble_eq_true rfl) dL_law_1702 ⟨Nat.le_refl _, Nat.le_refl _⟩ (fun r1 i1 g1 H locs hq hT hS => ?_)
  obtain ⟨hR1, hf1⟩ := hq
  have hrel1_ : rel74 i1 := rel74_f hrel hf1 (by decide) (by decide) (by decide) (by decide)
  refine lv_pop hx hb dL_law_1705 rfl ?_
  refine lv_aload_n hx hb dL_law_1706 rfl (lv_at hl 1 rfl) ?_
  refine lv_aload_n hx hb dL_law_1707 rfl (lv_at hl 3 rfl) ?_
  refine lv_iload_n hx hb dL_law_1708 rfl (lv_at hl 0 rfl) ?_
  refine lv_iconst (v := 1) hx hb dL_law_1709 (by decide) ?_
  refine lv_iadd hx hb dL_law_1710 ?_
  refine va_sld hx hb hX hbl hbA hS (i := (x3 + 1)) (sl_in 1 hx3 hL3 (by decide)) dL_law_1711 ?_
  refine lv_aload_n hx hb dL_law_1712 rfl (lv_at hl 3 rfl) ?_
  refine lv_iload_n hx hb dL_law_1713 rfl (lv_at hl 0 rfl) ?_
  refine lv_iconst (v := 2) hx hb dL_law_1714 (by decide) ?_
  refine lv_iadd hx hb dL_law_1715 ?_
  refine va_sld hx hb hX hbl hbA hS (i := (x3 + 2)) (sl_in 2 hx3 hL3 (by decide)) dL_law_1716 ?_
  refine e_Vi (As := [.int (xs (Int32.toNatClampNeg (x3 + 1))), .int (xs (Int32.toNatClampNeg (x3 + 2)))]) (rest := []) X Y hT hS (m_X9_chance hR1 (xs (Int32.toNatClampNeg (x3 + 1))) (xs (Int32.toNatClampNeg (x3 + 2)))) mk_X9_chance gm_2036 rfl rfl (by decide) hd_X9_chance ⟨rfl, rfl⟩ ⟨Nat.le_of_ble_eq_true rfl, Nat.le_of_ble_eq_true rfl⟩ hl.1 rfl (Nat.le_of_ble_eq_true rfl) dL_law_1717 ⟨Nat.le_refl _, Nat.le_refl _⟩ (fun r2 i2 g2 H locs hq hT hS => ?_)
  obtain ⟨hR2, hf2⟩ := hq
  have hrel2_ : rel74 i2 := rel74_f hrel1_ hf2 (by decide) (by decide) (by decide) (by decide)
  refine lv_pop hx hb dL_law_1720 rfl ?_
  refine lv_goto (tgt := 2196) hx hb dL_law_1721 (by decide) ?_
  exact hE _ _ _ _ _ hR2 hrel2_ hT hS (lv_sub hl [0, 1, 2, 3] rfl)

set_option maxRecDepth 100000 in
set_option maxHeartbeats 4000000 in
theorem law_60 {p : Program} {l : Launch} {e : Env} {s : State} {m : MethodId} {below : List Frame} {meth : Method} {c : Code} {D : va_G} {cz : Nat → ClassId} {h : Nat → Nat} {z : EZ} {i : Nat → Nat → Int32} {g : Nat → Nat → Int64} {b L : Nat} {xs : Nat → Int32} {H : Heap} {locs : List Loc} {ls : Array Slot} {Q : State → Prop} {x3 : Int32} (X : Cxt p s m c #[Value.ref b] cL_law 4 "UncutTaleLaw" D cz) (Y : EV h z s s.heap) (hR : Rg rA i) (hX : va_X b L xs s s.heap) (hbl : b < s.heap.size) (hbA : ¬ hA h b) (hT : TH D h cz i g H) (hS : va_S (hA h) s.heap H locs) (hx3 : rg 0 3066 x3) (hL3 : x3.toInt + 6 ≤ (L : Int)) (hl : lv_has ls 4 [(3, .int x3), (2, .ref (h 96)), (1, .ref (h 0)), (0, .ref b)]) (hrel : rel74 i) (hE : ∀ (i : Nat → Nat → Int32) (g : Nat → Nat → Int64) (H : Heap) (locs : List Loc) (ls : Array Slot), Rg rA i → rel74 i → TH D h cz i g H → va_S (hA h) s.heap H locs → lv_has ls 4 [(3, .int x3), (2, .ref (h 96)), (1, .ref (h 0)), (0, .ref b)] → W p l e room_1 s m #[Value.ref b] below meth c H locs 600000 7302250 Q (F0 m 2196 ls [])) : W p l e room_1 s m #[Value.ref b] below meth c H locs 600000 7302250 Q (F0 m 1724 ls []) := by
  have hx := X.1
  have hb := X.2.1
  refine lv_aload_n hx hb dL_law_1724 rfl (lv_at hl 2 rfl) ?_
  refine lv_aload_n hx hb dL_law_1725 rfl (lv_at hl 3 rfl) ?_
  refine lv_iload_n hx hb dL_law_1726 rfl (lv_at hl 0 rfl) ?_
  refine lv_iconst (v := 1) hx hb dL_law_1727 (by decide) ?_
  refine lv_iadd hx hb dL_law_1728 ?_
  refine va_sld hx hb hX hbl hbA hS (i := (x3 + 1)) (sl_in 1 hx3 hL3 (by decide)) dL_law_1729 ?_
  refine e_Vl (As := [.int (xs (Int32.toNatClampNeg (x3 + 1)))]) (rest := []) X Y hT hS (m_X8_mean hR (xs (Int32.toNatClampNeg (x3 + 1)))) mk_X8_mean gm_1224 rfl rfl (by decide) hd_X8_mean ⟨rfl, rfl⟩ ⟨Nat.le_of_ble_eq_true rfl, Nat.le_of_ble_eq_true rfl⟩ hl.1 rfl (Nat.le_of_ble_eq_true rfl) dL_law_1730 ⟨Nat.le_refl _, Nat.le_refl _⟩ (fun r1 i1 g1 H locs hq hT hS => ?_)
  obtain ⟨hR1, hf1⟩ := hq
  have hrel1_ : rel74 i1 := rel74_f hrel hf1 (by decide) (by decide) (by decide) (by decide)
  refine lv_pop2_2 hx hb dL_law_1733 rfl ?_
  refine lv_aload_n hx hb dL_law_1734 rfl (lv_at hl 1 rfl) ?_
  refine lv_aload_n hx hb dL_law_1735 rfl (lv_at hl 3 rfl) ?_
  refine lv_iload_n hx hb dL_law_1736 rfl (lv_at hl 0 rfl) ?_
  refine lv_iconst (v := 1) hx hb dL_law_1737 (by decide) ?_
  refine lv_iadd hx hb dL_law_1738 ?_
  refine va_sld hx hb hX hbl hbA hS (i := (x3 + 1)) (sl_in 1 hx3 hL3 (by decide)) dL_law_1739 ?_
  refine e_Vl (As := [.int (xs (Int32.toNatClampNeg (x3 + 1)))]) (rest := []) X Y hT hS (m_X9_mean hR1 (xs (Int32.toNatClampNeg (x3 + 1)))) mk_X9_mean gm_2048 rfl rfl (by decide) hd_X9_mean ⟨rfl, rfl⟩ ⟨Nat.le_of_ble_eq_true rfl, Nat.le_of_ble_eq_true rfl⟩ hl.1 rfl (Nat.le_of_ble_eq_true rfl) dL_law_1740 ⟨Nat.le_refl _, Nat.le_refl _⟩ (fun r2 i2 g2 H locs hq hT hS => ?_)
  obtain ⟨hR2, hf2⟩ := hq
  have hrel2_ : rel74 i2 := rel74_f hrel1_ hf2 (by decide) (by decide) (by decide) (by decide)
  refine lv_pop2_2 hx hb dL_law_1743 rfl ?_
  refine lv_goto (tgt := 2196) hx hb dL_law_1744 (by decide) ?_
  exact hE _ _ _ _ _ hR2 hrel2_ hT hS (lv_sub hl [0, 1, 2, 3] rfl)

set_option maxRecDepth 100000 in
set_option maxHeartbeats 4000000 in
theorem law_61 {p : Program} {l : Launch} {e : Env} {s : State} {m : MethodId} {below : List Frame} {meth : Method} {c : Code} {D : va_G} {cz : Nat → ClassId} {h : Nat → Nat} {z : EZ} {i : Nat → Nat → Int32} {g : Nat → Nat → Int64} {b L : Nat} {xs : Nat → Int32} {H : Heap} {locs : List Loc} {ls : Array Slot} {Q : State → Prop} {x3 : Int32} (X : Cxt p s m c #[Value.ref b] cL_law 4 "UncutTaleLaw" D cz) (Y : EV h z s s.heap) (hR : Rg rA i) (hX : va_X b L xs s s.heap) (hbl : b < s.heap.size) (hbA : ¬ hA h b) (hT : TH D h cz i g H) (hS : va_S (hA h) s.heap H locs) (hx3 : rg 0 3066 x3) (hL3 : x3.toInt + 6 ≤ (L : Int)) (hl : lv_has ls 4 [(3, .int x3), (2, .ref (h 96)), (1, .ref (h 0)), (0, .ref b)]) (hrel : rel74 i) (hE : ∀ (i : Nat → Nat → Int32) (g : Nat → Nat → Int64) (H : Heap) (locs : List Loc) (ls : Array Slot), Rg rA i → rel74 i → TH D h cz i g H → va_S (hA h) s.heap H locs → lv_has ls 4 [(3, .int x3), (2, .ref (h 96)), (1, .ref (h 0)), (0, .ref b)] → W p l e room_1 s m #[Value.ref b] below meth c H locs 600000 7302250 Q (F0 m 2196 ls [])) : W p l e room_1 s m #[Value.ref b] below meth c H locs 600000 7302250 Q (F0 m 1747 ls []) := by
  have hx := X.1
  have hb := X.2.1
  refine lv_aload_n hx hb dL_law_1747 rfl (lv_at hl 2 rfl) ?_
  refine lv_aload_n hx hb dL_law_1748 rfl (lv_at hl 3 rfl) ?_
  refine lv_iload_n hx hb dL_law_1749 rfl (lv_at hl 0 rfl) ?_
  refine lv_iconst (v := 1) hx hb dL_law_1750 (by decide) ?_
  refine lv_iadd hx hb dL_law_1751 ?_
  refine va_sld hx hb hX hbl hbA hS (i := (x3 + 1)) (sl_in 1 hx3 hL3 (by decide)) dL_law_1752 ?_
  refine lv_aload_n hx hb dL_law_1753 rfl (lv_at hl 3 rfl) ?_
  refine lv_iload_n hx hb dL_law_1754 rfl (lv_at hl 0 rfl) ?_
  refine lv_iconst (v := 2) hx hb dL_law_1755 (by decide) ?_
  refine lv_iadd hx hb dL_law_1756 ?_
  refine va_sld hx hb hX hbl hbA hS (i := (x3 + 2)) (sl_in 2 hx3 hL3 (by decide)) dL_law_1757 ?_
  refine e_Vi (As := [.int (xs (Int32.toNatClampNeg (x3 + 1))), .int (xs (Int32.toNatClampNeg (x3 + 2)))]) (rest := []) X Y hT hS (m_X8_knife hR (xs (Int32.toNatClampNeg (x3 + 1))) (xs (Int32.toNatClampNeg (x3 + 2)))) mk_X8_knife gm_1250 rfl rfl (by decide) hd_X8_knife ⟨rfl, rfl⟩ ⟨Nat.le_of_ble_eq_true rfl, Nat.le_of_ble_eq_true rfl⟩ hl.1 rfl (Nat.le_of_ble_eq_true rfl) dL_law_1758 ⟨Nat.le_refl _, Nat.le_refl _⟩ (fun r1 i1 g1 H locs hq hT hS => ?_)
  obtain ⟨hR1, hf1⟩ := hq
  have hrel1_ : rel74 i1 := rel74_f hrel hf1 (by decide) (by decide) (by decide) (by decide)
  refine lv_pop hx hb dL_law_1761 rfl ?_
  refine lv_aload_n hx hb dL_law_1762 rfl (lv_at hl 1 rfl) ?_
  refine lv_aload_n hx hb dL_law_1763 rfl (lv_at hl 3 rfl) ?_
  refine lv_iload_n hx hb dL_law_1764 rfl (lv_at hl 0 rfl) ?_
  refine lv_iconst (v := 1) hx hb dL_law_1765 (by decide) ?_
  refine lv_iadd hx hb dL_law_1766 ?_
  refine va_sld hx hb hX hbl hbA hS (i := (x3 + 1)) (sl_in 1 hx3 hL3 (by decide)) dL_law_1767 ?_
  refine lv_aload_n hx hb dL_law_1768 rfl (lv_at hl 3 rfl) ?_
  refine lv_iload_n hx hb dL_law_1769 rfl (lv_at hl 0 rfl) ?_
  refine lv_iconst (v := 2) hx hb dL_law_1770 (by decide) ?_
  refine lv_iadd hx hb dL_law_1771 ?_
  refine va_sld hx hb hX hbl hbA hS (i := (x3 + 2)) (sl_in 2 hx3 hL3 (by decide)) dL_law_1772 ?_
  refine e_Vi (As := [.int (xs (Int32.toNatClampNeg (x3 + 1))), .int (xs (Int32.toNatClampNeg (x3 + 2)))]) (rest := []) X Y hT hS (m_X9_knife hR1 (xs (Int32.toNatClampNeg (x3 + 1))) (xs (Int32.toNatClampNeg (x3 + 2)))) mk_X9_knife gm_2074 rfl rfl (by decide) hd_X9_knife ⟨rfl, rfl⟩ ⟨Nat.le_of_ble_eq_true rfl, Nat.le_of_ble_eq_true rfl⟩ hl.1 rfl (Nat.le_of_ble_eq_true rfl) dL_law_1773 ⟨Nat.le_refl _, Nat.le_refl _⟩ (fun r2 i2 g2 H locs hq hT hS => ?_)
  obtain ⟨hR2, hf2⟩ := hq
  have hrel2_ : rel74 i2 := rel74_f hrel1_ hf2 (by decide) (by decide) (by decide) (by decide)
  refine lv_pop hx hb dL_law_1776 rfl ?_
  refine lv_goto (tgt := 2196) hx hb dL_law_1777 (by decide) ?_
  exact hE _ _ _ _ _ hR2 hrel2_ hT hS (lv_sub hl [0, 1, 2, 3] rfl)

set_option maxRecDepth 100000 in
set_option maxHeartbeats 4000000 in
theorem law_62 {p : Program} {l : Launch} {e : Env} {s : State} {m : MethodId} {below : List Frame} {meth : Method} {c : Code} {D : va_G} {cz : Nat → ClassId} {h : Nat → Nat} {z : EZ} {i : Nat → Nat → Int32} {g : Nat → Nat → Int64} {b L : Nat} {xs : Nat → Int32} {H : Heap} {locs : List Loc} {ls : Array Slot} {Q : State → Prop} {x3 : Int32} (X : Cxt p s m c #[Value.ref b] cL_law 4 "UncutTaleLaw" D cz) (Y : EV h z s s.heap) (hR : Rg rA i) (hX : va_X b L xs s s.heap) (hbl : b < s.heap.size) (hbA : ¬ hA h b) (hT : TH D h cz i g H) (hS : va_S (hA h) s.heap H locs) (hx3 : rg 0 3066 x3) (hL3 : x3.toInt + 6 ≤ (L : Int)) (hl : lv_has ls 4 [(3, .int x3), (2, .ref (h 96)), (1, .ref (h 0)), (0, .ref b)]) (hrel : rel74 i) (hE : ∀ (i : Nat → Nat → Int32) (g : Nat → Nat → Int64) (H : Heap) (locs : List Loc) (ls : Array Slot), Rg rA i → rel74 i → TH D h cz i g H → va_S (hA h) s.heap H locs → lv_has ls 4 [(3, .int x3), (2, .ref (h 96)), (1, .ref (h 0)), (0, .ref b)] → W p l e room_1 s m #[Value.ref b] below meth c H locs 600000 7302250 Q (F0 m 2196 ls [])) : W p l e room_1 s m #[Value.ref b] below meth c H locs 600000 7302250 Q (F0 m 1780 ls []) := by
  have hx := X.1
  have hb := X.2.1
  refine lv_aload_n hx hb dL_law_1780 rfl (lv_at hl 2 rfl) ?_
  refine lv_aload_n hx hb dL_law_1781 rfl (lv_at hl 3 rfl) ?_
  refine lv_iload_n hx hb dL_law_1782 rfl (lv_at hl 0 rfl) ?_
  refine lv_iconst (v := 1) hx hb dL_law_1783 (by decide) ?_
  refine lv_iadd hx hb dL_law_1784 ?_
  refine va_sld hx hb hX hbl hbA hS (i := (x3 + 1)) (sl_in 1 hx3 hL3 (by decide)) dL_law_1785 ?_
  refine lv_aload_n hx hb dL_law_1786 rfl (lv_at hl 3 rfl) ?_
  refine lv_iload_n hx hb dL_law_1787 rfl (lv_at hl 0 rfl) ?_
  refine lv_iconst (v := 2) hx hb dL_law_1788 (by decide) ?_
  refine lv_iadd hx hb dL_law_1789 ?_
  refine va_sld hx hb hX hbl hbA hS (i := (x3 + 2)) (sl_in 2 hx3 hL3 (by decide)) dL_law_1790 ?_
  refine e_Vi (As := [.int (xs (Int32.toNatClampNeg (x3 + 1))), .int (xs (Int32.toNatClampNeg (x3 + 2)))]) (rest := []) X Y hT hS (m_X8_air hR (xs (Int32.toNatClampNeg (x3 + 1))) (xs (Int32.toNatClampNeg (x3 + 2)))) mk_X8_air gm_1262 rfl rfl (by decide) hd_X8_air ⟨rfl, rfl⟩ ⟨Nat.le_of_ble_eq_true rfl, Nat.le_of_ble_eq_true rfl⟩ hl.1 rfl (Nat.le_of_ble_eq_true rfl) dL_law_1791 ⟨Nat.le_refl _, Nat.le_refl _⟩ (fun r1 i1 g1 H locs hq hT hS => ?_)
  obtain ⟨hR1, hf1, hr1⟩ := hq
  have hrel1_ : rel74 i1 := rel74_f hrel hf1 (by decide) (by decide) (by decide) (by decide)
  refine lv_pop hx hb dL_law_1794 rfl ?_
  refine lv_aload_n hx hb dL_law_1795 rfl (lv_at hl 1 rfl) ?_
  refine lv_aload_n hx hb dL_law_1796 rfl (lv_at hl 3 rfl) ?_
  refine lv_iload_n hx hb dL_law_1797 rfl (lv_at hl 0 rfl) ?_
  refine lv_iconst (v := 1) hx hb dL_law_1798 (by decide) ?_
  refine lv_iadd hx hb dL_law_1799 ?_
  refine va_sld hx hb hX hbl hbA hS (i := (x3 + 1)) (sl_in 1 hx3 hL3 (by decide)) dL_law_1800 ?_
  refine lv_aload_n hx hb dL_law_1801 rfl (lv_at hl 3 rfl) ?_
  refine lv_iload_n hx hb dL_law_1802 rfl (lv_at hl 0 rfl) ?_
  refine lv_iconst (v := 2) hx hb dL_law_1803 (by decide) ?_
  refine lv_iadd hx hb dL_law_1804 ?_
  refine va_sld hx hb hX hbl hbA hS (i := (x3 + 2)) (sl_in 2 hx3 hL3 (by decide)) dL_law_1805 ?_
  refine e_Vi (As := [.int (xs (Int32.toNatClampNeg (x3 + 1))), .int (xs (Int32.toNatClampNeg (x3 + 2)))]) (rest := []) X Y hT hS (m_X9_air hR1 (xs (Int32.toNatClampNeg (x3 + 1))) (xs (Int32.toNatClampNeg (x3 + 2)))) mk_X9_air gm_2082 rfl rfl (by decide) hd_X9_air ⟨rfl, rfl⟩ ⟨Nat.le_of_ble_eq_true rfl, Nat.le_of_ble_eq_true rfl⟩ hl.1 rfl (Nat.le_of_ble_eq_true rfl) dL_law_1806 ⟨Nat.le_refl _, Nat.le_refl _⟩ (fun r2 i2 g2 H locs hq hT hS => ?_)
  obtain ⟨hR2, hf2, hr2⟩ := hq
  have hrel2_ : rel74 i2 := rel74_f hrel1_ hf2 (by decide) (by decide) (by decide) (by decide)
  refine lv_pop hx hb dL_law_1809 rfl ?_
  refine lv_goto (tgt := 2196) hx hb dL_law_1810 (by decide) ?_
  exact hE _ _ _ _ _ hR2 hrel2_ hT hS (lv_sub hl [0, 1, 2, 3] rfl)

set_option maxRecDepth 100000 in
set_option maxHeartbeats 4000000 in
theorem law_63 {p : Program} {l : Launch} {e : Env} {s : State} {m : MethodId} {below : List Frame} {meth : Method} {c : Code} {D : va_G} {cz : Nat → ClassId} {h : Nat → Nat} {z : EZ} {i : Nat → Nat → Int32} {g : Nat → Nat → Int64} {b L : Nat} {xs : Nat → Int32} {H : Heap} {locs : List Loc} {ls : Array Slot} {Q : State → Prop} {x3 : Int32} (X : Cxt p s m c #[Value.ref b] cL_law 4 "UncutTaleLaw" D cz) (Y : EV h z s s.heap) (hR : Rg rA i) (hX : va_X b L xs s s.heap) (hbl : b < s.heap.size) (hbA : ¬ hA h b) (hT : TH D h cz i g H) (hS : va_S (hA h) s.heap H locs) (hx3 : rg 0 3066 x3) (hL3 : x3.toInt + 6 ≤ (L : Int)) (hl : lv_has ls 4 [(3, .int x3), (2, .ref (h 96)), (1, .ref (h 0)), (0, .ref b)]) (hrel : rel74 i) (hE : ∀ (i : Nat → Nat → Int32) (g : Nat → Nat → Int64) (H : Heap) (locs : List Loc) (ls : Array Slot), Rg rA i → rel74 i → TH D h cz i g H → va_S (hA h) s.heap H locs → lv_has ls 4 [(3, .int x3), (2, .ref (h 96)), (1, .ref (h 0)), (0, .ref b)] → W p l e room_1 s m #[Value.ref b] below meth c H locs 600000 7302250 Q (F0 m 2196 ls [])) : W p l e room_1 s m #[Value.ref b] below meth c H locs 600000 7302250 Q (F0 m 1813 ls []) := by
  have hx := X.1
  have hb := X.2.1
  refine lv_aload_n hx hb dL_law_1813 rfl (lv_at hl 2 rfl) ?_
  refine e_Vi (As := []) (rest := []) X Y hT hS (m_X8_undo hR) mk_X8_undo gm_1266 rfl rfl (by decide) hd_X8_undo ⟨rfl, rfl⟩ ⟨Nat.le_of_ble_eq_true rfl, Nat.le_of_ble_eq_true rfl⟩ hl.1 rfl (Nat.le_of_ble_eq_true rfl) dL_law_1814 ⟨Nat.le_refl _, Nat.le_refl _⟩ (fun r1 i1 g1 H locs hq hT hS => ?_)
  obtain ⟨hR1, hf1, hr1⟩ := hq
  have hrel1_ : rel74 i1 := rel74_f hrel hf1 (by decide) (by decide) (by decide) (by decide)
  refine lv_pop hx hb dL_law_1817 rfl ?_
  refine lv_aload_n hx hb dL_law_1818 rfl (lv_at hl 1 rfl) ?_
  refine e_Vi (As := []) (rest := []) X Y hT hS (m_X9_undo hR1) mk_X9_undo gm_2086 rfl rfl (by decide) hd_X9_undo ⟨rfl, rfl⟩ ⟨Nat.le_of_ble_eq_true rfl, Nat.le_of_ble_eq_true rfl⟩ hl.1 rfl (Nat.le_of_ble_eq_true rfl) dL_law_1819 ⟨Nat.le_refl _, Nat.le_refl _⟩ (fun r2 i2 g2 H locs hq hT hS => ?_)
  obtain ⟨hR2, hf2, hr2⟩ := hq
  have hrel2_ : rel74 i2 := rel74_f hrel1_ hf2 (by decide) (by decide) (by decide) (by decide)
  refine lv_pop hx hb dL_law_1822 rfl ?_
  refine lv_goto (tgt := 2196) hx hb dL_law_1823 (by decide) ?_
  exact hE _ _ _ _ _ hR2 hrel2_ hT hS (lv_sub hl [0, 1, 2, 3] rfl)

set_option maxRecDepth 100000 in
set_option maxHeartbeats 4000000 in
theorem law_64 {p : Program} {l : Launch} {e : Env} {s : State} {m : MethodId} {below : List Frame} {meth : Method} {c : Code} {D : va_G} {cz : Nat → ClassId} {h : Nat → Nat} {z : EZ} {i : Nat → Nat → Int32} {g : Nat → Nat → Int64} {b L : Nat} {xs : Nat → Int32} {H : Heap} {locs : List Loc} {ls : Array Slot} {Q : State → Prop} {x3 : Int32} (X : Cxt p s m c #[Value.ref b] cL_law 4 "UncutTaleLaw" D cz) (Y : EV h z s s.heap) (hR : Rg rA i) (hX : va_X b L xs s s.heap) (hbl : b < s.heap.size) (hbA : ¬ hA h b) (hT : TH D h cz i g H) (hS : va_S (hA h) s.heap H locs) (hx3 : rg 0 3066 x3) (hL3 : x3.toInt + 6 ≤ (L : Int)) (hl : lv_has ls 4 [(3, .int x3), (2, .ref (h 96)), (1, .ref (h 0)), (0, .ref b)]) (hrel : rel74 i) (hE : ∀ (i : Nat → Nat → Int32) (g : Nat → Nat → Int64) (H : Heap) (locs : List Loc) (ls : Array Slot), Rg rA i → rel74 i → TH D h cz i g H → va_S (hA h) s.heap H locs → lv_has ls 4 [(3, .int x3), (2, .ref (h 96)), (1, .ref (h 0)), (0, .ref b)] → W p l e room_1 s m #[Value.ref b] below meth c H locs 600000 7302250 Q (F0 m 2196 ls [])) : W p l e room_1 s m #[Value.ref b] below meth c H locs 600000 7302250 Q (F0 m 1826 ls []) := by
  have hx := X.1
  have hb := X.2.1
  refine lv_aload_n hx hb dL_law_1826 rfl (lv_at hl 2 rfl) ?_
  refine e_Vi (As := []) (rest := []) X Y hT hS (m_X8_anew hR) mk_X8_anew gm_1270 rfl rfl (by decide) hd_X8_anew ⟨rfl, rfl⟩ ⟨Nat.le_of_ble_eq_true rfl, Nat.le_of_ble_eq_true rfl⟩ hl.1 rfl (Nat.le_of_ble_eq_true rfl) dL_law_1827 ⟨Nat.le_refl _, Nat.le_refl _⟩ (fun r1 i1 g1 H locs hq hT hS => ?_)
  obtain ⟨hR1, hf1, hr1⟩ := hq
  have hrel1_ : rel74 i1 := rel74_f hrel hf1 (by decide) (by decide) (by decide) (by decide)
  refine lv_pop hx hb dL_law_1830 rfl ?_
  refine lv_aload_n hx hb dL_law_1831 rfl (lv_at hl 1 rfl) ?_
  refine e_Vi (As := []) (rest := []) X Y hT hS (m_X9_anew hR1) mk_X9_anew gm_2090 rfl rfl (by decide) hd_X9_anew ⟨rfl, rfl⟩ ⟨Nat.le_of_ble_eq_true rfl, Nat.le_of_ble_eq_true rfl⟩ hl.1 rfl (Nat.le_of_ble_eq_true rfl) dL_law_1832 ⟨Nat.le_refl _, Nat.le_refl _⟩ (fun r2 i2 g2 H locs hq hT hS => ?_)
  obtain ⟨hR2, hf2, hr2⟩ := hq
  have hrel2_ : rel74 i2 := rel74_f hrel1_ hf2 (by decide) (by decide) (by decide) (by decide)
  refine lv_pop hx hb dL_law_1835 rfl ?_
  refine lv_goto (tgt := 2196) hx hb dL_law_1836 (by decide) ?_
  exact hE _ _ _ _ _ hR2 hrel2_ hT hS (lv_sub hl [0, 1, 2, 3] rfl)

set_option maxRecDepth 100000 in
set_option maxHeartbeats 4000000 in
theorem law_65 {p : Program} {l : Launch} {e : Env} {s : State} {m : MethodId} {below : List Frame} {meth : Method} {c : Code} {D : va_G} {cz : Nat → ClassId} {h : Nat → Nat} {z : EZ} {i : Nat → Nat → Int32} {g : Nat → Nat → Int64} {b L : Nat} {xs : Nat → Int32} {H : Heap} {locs : List Loc} {ls : Array Slot} {Q : State → Prop} {x3 : Int32} (X : Cxt p s m c #[Value.ref b] cL_law 4 "UncutTaleLaw" D cz) (Y : EV h z s s.heap) (hR : Rg rA i) (hX : va_X b L xs s s.heap) (hbl : b < s.heap.size) (hbA : ¬ hA h b) (hT : TH D h cz i g H) (hS : va_S (hA h) s.heap H locs) (hx3 : rg 0 3066 x3) (hL3 : x3.toInt + 6 ≤ (L : Int)) (hl : lv_has ls 4 [(3, .int x3), (2, .ref (h 96)), (1, .ref (h 0)), (0, .ref b)]) (hrel : rel74 i) (hE : ∀ (i : Nat → Nat → Int32) (g : Nat → Nat → Int64) (H : Heap) (locs : List Loc) (ls : Array Slot), Rg rA i → rel74 i → TH D h cz i g H → va_S (hA h) s.heap H locs → lv_has ls 4 [(3, .int x3), (2, .ref (h 96)), (1, .ref (h 0)), (0, .ref b)] → W p l e room_1 s m #[Value.ref b] below meth c H locs 600000 7302250 Q (F0 m 2196 ls [])) : W p l e room_1 s m #[Value.ref b] below meth c H locs 600000 7302250 Q (F0 m 1839 ls []) := by
  have hx := X.1
  have hb := X.2.1
  refine lv_aload_n hx hb dL_law_1839 rfl (lv_at hl 2 rfl) ?_
  refine lv_aload_n hx hb dL_law_1840 rfl (lv_at hl 3 rfl) ?_
  refine lv_iload_n hx hb dL_law_1841 rfl (lv_at hl 0 rfl) ?_
  refine lv_iconst (v := 1) hx hb dL_law_1842 (by decide) ?_
  refine lv_iadd hx hb dL_law_1843 ?_
  refine va_sld hx hb hX hbl hbA hS (i := (x3 + 1)) (sl_in 1 hx3 hL3 (by decide)) dL_law_1844 ?_
  refine lv_aload_n hx hb dL_law_1845 rfl (lv_at hl 3 rfl) ?_
  refine lv_iload_n hx hb dL_law_1846 rfl (lv_at hl 0 rfl) ?_
  refine lv_iconst (v := 2) hx hb dL_law_1847 (by decide) ?_
  refine lv_iadd hx hb dL_law_1848 ?_
  refine va_sld hx hb hX hbl hbA hS (i := (x3 + 2)) (sl_in 2 hx3 hL3 (by decide)) dL_law_1849 ?_
  refine e_Vi (As := [.int (xs (Int32.toNatClampNeg (x3 + 1))), .int (xs (Int32.toNatClampNeg (x3 + 2)))]) (rest := []) X Y hT hS (m_X8_drawn hR (xs (Int32.toNatClampNeg (x3 + 1))) (xs (Int32.toNatClampNeg (x3 + 2)))) mk_X8_drawn gm_1229 rfl rfl (by decide) hd_X8_drawn ⟨rfl, rfl⟩ ⟨Nat.le_of_ble_eq_true rfl, Nat.le_of_ble_eq_true rfl⟩ hl.1 rfl (Nat.le_of_ble_eq_true rfl) dL_law_1850 ⟨Nat.le_refl _, Nat.le_refl _⟩ (fun r1 i1 g1 H locs hq hT hS => ?_)
  obtain ⟨hR1, hf1⟩ := hq
  have hrel1_ : rel74 i1 := rel74_f hrel hf1 (by decide) (by decide) (by decide) (by decide)
  refine lv_pop hx hb dL_law_1853 rfl ?_
  refine lv_aload_n hx hb dL_law_1854 rfl (lv_at hl 1 rfl) ?_
  refine lv_aload_n hx hb dL_law_1855 rfl (lv_at hl 3 rfl) ?_
  refine lv_iload_n hx hb dL_law_1856 rfl (lv_at hl 0 rfl) ?_
  refine lv_iconst (v := 1) hx hb dL_law_1857 (by decide) ?_
  refine lv_iadd hx hb dL_law_1858 ?_
  refine va_sld hx hb hX hbl hbA hS (i := (x3 + 1)) (sl_in 1 hx3 hL3 (by decide)) dL_law_1859 ?_
  refine lv_aload_n hx hb dL_law_1860 rfl (lv_at hl 3 rfl) ?_
  refine lv_iload_n hx hb dL_law_1861 rfl (lv_at hl 0 rfl) ?_
  refine lv_iconst (v := 2) hx hb dL_law_1862 (by decide) ?_
  refine lv_iadd hx hb dL_law_1863 ?_
  refine va_sld hx hb hX hbl hbA hS (i := (x3 + 2)) (sl_in 2 hx3 hL3 (by decide)) dL_law_1864 ?_
  refine e_Vi (As := [.int (xs (Int32.toNatClampNeg (x3 + 1))), .int (xs (Int32.toNatClampNeg (x3 + 2)))]) (rest := []) X Y hT hS (m_X9_drawn hR1 (xs (Int32.toNatClampNeg (x3 + 1))) (xs (Int32.toNatClampNeg (x3 + 2)))) mk_X9_drawn gm_2053 rfl rfl (by decide) hd_X9_drawn ⟨rfl, rfl⟩ ⟨Nat.le_of_ble_eq_true rfl, Nat.le_of_ble_eq_true rfl⟩ hl.1 rfl (Nat.le_of_ble_eq_true rfl) dL_law_1865 ⟨Nat.le_refl _, Nat.le_refl _⟩ (fun r2 i2 g2 H locs hq hT hS => ?_)
  obtain ⟨hR2, hf2⟩ := hq
  have hrel2_ : rel74 i2 := rel74_f hrel1_ hf2 (by decide) (by decide) (by decide) (by decide)
  refine lv_pop hx hb dL_law_1868 rfl ?_
  refine lv_goto (tgt := 2196) hx hb dL_law_1869 (by decide) ?_
  exact hE _ _ _ _ _ hR2 hrel2_ hT hS (lv_sub hl [0, 1, 2, 3] rfl)

set_option maxRecDepth 100000 in
set_option maxHeartbeats 4000000 in
theorem law_66 {p : Program} {l : Launch} {e : Env} {s : State} {m : MethodId} {below : List Frame} {meth : Method} {c : Code} {D : va_G} {cz : Nat → ClassId} {h : Nat → Nat} {z : EZ} {i : Nat → Nat → Int32} {g : Nat → Nat → Int64} {b L : Nat} {xs : Nat → Int32} {H : Heap} {locs : List Loc} {ls : Array Slot} {Q : State → Prop} {x3 : Int32} (X : Cxt p s m c #[Value.ref b] cL_law 4 "UncutTaleLaw" D cz) (Y : EV h z s s.heap) (hR : Rg rA i) (hX : va_X b L xs s s.heap) (hbl : b < s.heap.size) (hbA : ¬ hA h b) (hT : TH D h cz i g H) (hS : va_S (hA h) s.heap H locs) (hx3 : rg 0 3066 x3) (hL3 : x3.toInt + 6 ≤ (L : Int)) (hl : lv_has ls 4 [(3, .int x3), (2, .ref (h 96)), (1, .ref (h 0)), (0, .ref b)]) (hrel : rel74 i) (hE : ∀ (i : Nat → Nat → Int32) (g : Nat → Nat → Int64) (H : Heap) (locs : List Loc) (ls : Array Slot), Rg rA i → rel74 i → TH D h cz i g H → va_S (hA h) s.heap H locs → lv_has ls 4 [(3, .int x3), (2, .ref (h 96)), (1, .ref (h 0)), (0, .ref b)] → W p l e room_1 s m #[Value.ref b] below meth c H locs 600000 7302250 Q (F0 m 2196 ls [])) : W p l e room_1 s m #[Value.ref b] below meth c H locs 600000 7302250 Q (F0 m 1872 ls []) := by
  have hx := X.1
  have hb := X.2.1
  refine lv_aload_n hx hb dL_law_1872 rfl (lv_at hl 2 rfl) ?_
  refine lv_aload_n hx hb dL_law_1873 rfl (lv_at hl 3 rfl) ?_
  refine lv_iload_n hx hb dL_law_1874 rfl (lv_at hl 0 rfl) ?_
  refine lv_iconst (v := 1) hx hb dL_law_1875 (by decide) ?_
  refine lv_iadd hx hb dL_law_1876 ?_
  refine va_sld hx hb hX hbl hbA hS (i := (x3 + 1)) (sl_in 1 hx3 hL3 (by decide)) dL_law_1877 ?_
  refine lv_aload_n hx hb dL_law_1878 rfl (lv_at hl 3 rfl) ?_
  refine lv_iload_n hx hb dL_law_1879 rfl (lv_at hl 0 rfl) ?_
  refine lv_iconst (v := 2) hx hb dL_law_1880 (by decide) ?_
  refine lv_iadd hx hb dL_law_1881 ?_
  refine va_sld hx hb hX hbl hbA hS (i := (x3 + 2)) (sl_in 2 hx3 hL3 (by decide)) dL_law_1882 ?_
  refine lv_aload_n hx hb dL_law_1883 rfl (lv_at hl 3 rfl) ?_
  refine lv_iload_n hx hb dL_law_1884 rfl (lv_at hl 0 rfl) ?_
  refine lv_iconst (v := 3) hx hb dL_law_1885 (by decide) ?_
  refine lv_iadd hx hb dL_law_1886 ?_
  refine va_sld hx hb hX hbl hbA hS (i := (x3 + 3)) (sl_in 3 hx3 hL3 (by decide)) dL_law_1887 ?_
  refine e_Vi (As := [.int (xs (Int32.toNatClampNeg (x3 + 1))), .int (xs (Int32.toNatClampNeg (x3 + 2))), .int (xs (Int32.toNatClampNeg (x3 + 3)))]) (rest := []) X Y hT hS (m_X8_luck hR (xs (Int32.toNatClampNeg (x3 + 1))) (xs (Int32.toNatClampNeg (x3 + 2))) (xs (Int32.toNatClampNeg (x3 + 3)))) mk_X8_luck gm_1246 rfl rfl (by decide) hd_X8_luck ⟨rfl, rfl⟩ ⟨Nat.le_of_ble_eq_true rfl, Nat.le_of_ble_eq_true rfl⟩ hl.1 rfl (Nat.le_of_ble_eq_true rfl) dL_law_1888 ⟨Nat.le_refl _, Nat.le_refl _⟩ (fun r1 i1 g1 H locs hq hT hS => ?_)
  obtain ⟨hR1, hf1⟩ := hq
  have hrel1_ : rel74 i1 := rel74_f hrel hf1 (by decide) (by decide) (by decide) (by decide)
  refine lv_pop hx hb dL_law_1891 rfl ?_
  refine lv_aload_n hx hb dL_law_1892 rfl (lv_at hl 1 rfl) ?_
  refine lv_aload_n hx hb dL_law_1893 rfl (lv_at hl 3 rfl) ?_
  refine lv_iload_n hx hb dL_law_1894 rfl (lv_at hl 0 rfl) ?_
  refine lv_iconst (v := 1) hx hb dL_law_1895 (by decide) ?_
  refine lv_iadd hx hb dL_law_1896 ?_
  refine va_sld hx hb hX hbl hbA hS (i := (x3 + 1)) (sl_in 1 hx3 hL3 (by decide)) dL_law_1897 ?_
  refine lv_aload_n hx hb dL_law_1898 rfl (lv_at hl 3 rfl) ?_
  refine lv_iload_n hx hb dL_law_1899 rfl (lv_at hl 0 rfl) ?_
  refine lv_iconst (v := 2) hx hb dL_law_1900 (by decide) ?_
  refine lv_iadd hx hb dL_law_1901 ?_
  refine va_sld hx hb hX hbl hbA hS (i := (x3 + 2)) (sl_in 2 hx3 hL3 (by decide)) dL_law_1902 ?_
  refine lv_aload_n hx hb dL_law_1903 rfl (lv_at hl 3 rfl) ?_
  refine lv_iload_n hx hb dL_law_1904 rfl (lv_at hl 0 rfl) ?_
  refine lv_iconst (v := 3) hx hb dL_law_1905 (by decide) ?_
  refine lv_iadd hx hb dL_law_1906 ?_
  refine va_sld hx hb hX hbl hbA hS (i := (x3 + 3)) (sl_in 3 hx3 hL3 (by decide)) dL_law_1907 ?_
  refine e_Vi (As := [.int (xs (Int32.toNatClampNeg (x3 + 1))), .int (xs (Int32.toNatClampNeg (x3 + 2))), .int (xs (Int32.toNatClampNeg (x3 + 3)))]) (rest := []) X Y hT hS (m_X9_luck hR1 (xs (Int32.toNatClampNeg (x3 + 1))) (xs (Int32.toNatClampNeg (x3 + 2))) (xs (Int32.toNatClampNeg (x3 + 3)))) mk_X9_luck gm_2069 rfl rfl (by decide) hd_X9_luck ⟨rfl, rfl⟩ ⟨Nat.le_of_ble_eq_true rfl, Nat.le_of_ble_eq_true rfl⟩ hl.1 rfl (Nat.le_of_ble_eq_true rfl) dL_law_1908 ⟨Nat.le_refl _, Nat.le_refl _⟩ (fun r2 i2 g2 H locs hq hT hS => ?_)
  obtain ⟨hR2, hf2⟩ := hq
  have hrel2_ : rel74 i2 := rel74_f hrel1_ hf2 (by decide) (by decide) (by decide) (by decide)
  refine lv_pop hx hb dL_law_1911 rfl ?_
  refine lv_goto (tgt := 2196) hx hb dL_law_1912 (by decide) ?_
  exact hE _ _ _ _ _ hR2 hrel2_ hT hS (lv_sub hl [0, 1, 2, 3] rfl)

set_option maxRecDepth 100000 in
set_option maxHeartbeats 4000000 in
theorem law_67 {p : Program} {l : Launch} {e : Env} {s : State} {m : MethodId} {below : List Frame} {meth : Method} {c : Code} {D : va_G} {cz : Nat → ClassId} {h : Nat → Nat} {z : EZ} {i : Nat → Nat → Int32} {g : Nat → Nat → Int64} {b L : Nat} {xs : Nat → Int32} {H : Heap} {locs : List Loc} {ls : Array Slot} {Q : State → Prop} {x3 : Int32} (X : Cxt p s m c #[Value.ref b] cL_law 4 "UncutTaleLaw" D cz) (Y : EV h z s s.heap) (hR : Rg rA i) (hX : va_X b L xs s s.heap) (hbl : b < s.heap.size) (hbA : ¬ hA h b) (hT : TH D h cz i g H) (hS : va_S (hA h) s.heap H locs) (hx3 : rg 0 3066 x3) (hL3 : x3.toInt + 6 ≤ (L : Int)) (hl : lv_has ls 4 [(3, .int x3), (2, .ref (h 96)), (1, .ref (h 0)), (0, .ref b)]) (hrel : rel74 i) (hE : ∀ (i : Nat → Nat → Int32) (g : Nat → Nat → Int64) (H : Heap) (locs : List Loc) (ls : Array Slot), Rg rA i → rel74 i → TH D h cz i g H → va_S (hA h) s.heap H locs → lv_has ls 4 [(3, .int x3), (2, .ref (h 96)), (1, .ref (h 0)), (0, .ref b)] → W p l e room_1 s m #[Value.ref b] below meth c H locs 600000 7302250 Q (F0 m 2196 ls [])) : W p l e room_1 s m #[Value.ref b] below meth c H locs 600000 7302250 Q (F0 m 1915 ls []) := by
  have hx := X.1
  have hb := X.2.1
  refine lv_aload_n hx hb dL_law_1915 rfl (lv_at hl 2 rfl) ?_
  refine lv_aload_n hx hb dL_law_1916 rfl (lv_at hl 3 rfl) ?_
  refine lv_iload_n hx hb dL_law_1917 rfl (lv_at hl 0 rfl) ?_
  refine lv_iconst (v := 1) hx hb dL_law_1918 (by decide) ?_
  refine lv_iadd hx hb dL_law_1919 ?_
  refine va_sld hx hb hX hbl hbA hS (i := (x3 + 1)) (sl_in 1 hx3 hL3 (by decide)) dL_law_1920 ?_
  refine lv_aload_n hx hb dL_law_1921 rfl (lv_at hl 3 rfl) ?_
  refine lv_iload_n hx hb dL_law_1922 rfl (lv_at hl 0 rfl) ?_
  refine lv_iconst (v := 2) hx hb dL_law_1923 (by decide) ?_
  refine lv_iadd hx hb dL_law_1924 ?_
  refine va_sld hx hb hX hbl hbA hS (i := (x3 + 2)) (sl_in 2 hx3 hL3 (by decide)) dL_law_1925 ?_
  refine e_Vi (As := [.int (xs (Int32.toNatClampNeg (x3 + 1))), .int (xs (Int32.toNatClampNeg (x3 + 2)))]) (rest := []) X Y hT hS (m_X8_rate hR (xs (Int32.toNatClampNeg (x3 + 1))) (xs (Int32.toNatClampNeg (x3 + 2)))) mk_X8_rate gm_1274 rfl rfl (by decide) hd_X8_rate ⟨rfl, rfl⟩ ⟨Nat.le_of_ble_eq_true rfl, Nat.le_of_ble_eq_true rfl⟩ hl.1 rfl (Nat.le_of_ble_eq_true rfl) dL_law_1926 ⟨Nat.le_refl _, Nat.le_refl _⟩ (fun r1 i1 g1 H locs hq hT hS => ?_)
  obtain ⟨hR1, hf1, hr1⟩ := hq
  have hrel1_ : rel74 i1 := rel74_f hrel hf1 (by decide) (by decide) (by decide) (by decide)
  refine lv_pop hx hb dL_law_1929 rfl ?_
  refine lv_aload_n hx hb dL_law_1930 rfl (lv_at hl 1 rfl) ?_
  refine lv_aload_n hx hb dL_law_1931 rfl (lv_at hl 3 rfl) ?_
  refine lv_iload_n hx hb dL_law_1932 rfl (lv_at hl 0 rfl) ?_
  refine lv_iconst (v := 1) hx hb dL_law_1933 (by decide) ?_
  refine lv_iadd hx hb dL_law_1934 ?_
  refine va_sld hx hb hX hbl hbA hS (i := (x3 + 1)) (sl_in 1 hx3 hL3 (by decide)) dL_law_1935 ?_
  refine lv_aload_n hx hb dL_law_1936 rfl (lv_at hl 3 rfl) ?_
  refine lv_iload_n hx hb dL_law_1937 rfl (lv_at hl 0 rfl) ?_
  refine lv_iconst (v := 2) hx hb dL_law_1938 (by decide) ?_
  refine lv_iadd hx hb dL_law_1939 ?_
  refine va_sld hx hb hX hbl hbA hS (i := (x3 + 2)) (sl_in 2 hx3 hL3 (by decide)) dL_law_1940 ?_
  refine e_Vi (As := [.int (xs (Int32.toNatClampNeg (x3 + 1))), .int (xs (Int32.toNatClampNeg (x3 + 2)))]) (rest := []) X Y hT hS (m_X9_rate hR1 (xs (Int32.toNatClampNeg (x3 + 1))) (xs (Int32.toNatClampNeg (x3 + 2)))) mk_X9_rate gm_2094 rfl rfl (by decide) hd_X9_rate ⟨rfl, rfl⟩ ⟨Nat.le_of_ble_eq_true rfl, Nat.le_of_ble_eq_true rfl⟩ hl.1 rfl (Nat.le_of_ble_eq_true rfl) dL_law_1941 ⟨Nat.le_refl _, Nat.le_refl _⟩ (fun r2 i2 g2 H locs hq hT hS => ?_)
  obtain ⟨hR2, hf2, hr2⟩ := hq
  have hrel2_ : rel74 i2 := rel74_f hrel1_ hf2 (by decide) (by decide) (by decide) (by decide)
  refine lv_pop hx hb dL_law_1944 rfl ?_
  refine lv_goto (tgt := 2196) hx hb dL_law_1945 (by decide) ?_
  exact hE _ _ _ _ _ hR2 hrel2_ hT hS (lv_sub hl [0, 1, 2, 3] rfl)

set_option maxRecDepth 100000 in
set_option maxHeartbeats 4000000 in
theorem law_68 {p : Program} {l : Launch} {e : Env} {s : State} {m : MethodId} {below : List Frame} {meth : Method} {c : Code} {D : va_G} {cz : Nat → ClassId} {h : Nat → Nat} {z : EZ} {i : Nat → Nat → Int32} {g : Nat → Nat → Int64} {b L : Nat} {xs : Nat → Int32} {H : Heap} {locs : List Loc} {ls : Array Slot} {Q : State → Prop} {x3 : Int32} (X : Cxt p s m c #[Value.ref b] cL_law 4 "UncutTaleLaw" D cz) (Y : EV h z s s.heap) (hR : Rg rA i) (hX : va_X b L xs s s.heap) (hbl : b < s.heap.size) (hbA : ¬ hA h b) (hT : TH D h cz i g H) (hS : va_S (hA h) s.heap H locs) (hx3 : rg 0 3066 x3) (hL3 : x3.toInt + 6 ≤ (L : Int)) (hl : lv_has ls 4 [(3, .int x3), (2, .ref (h 96)), (1, .ref (h 0)), (0, .ref b)]) (hrel : rel74 i) (hE : ∀ (i : Nat → Nat → Int32) (g : Nat → Nat → Int64) (H : Heap) (locs : List Loc) (ls : Array Slot), Rg rA i → rel74 i → TH D h cz i g H → va_S (hA h) s.heap H locs → lv_has ls 4 [(3, .int x3), (2, .ref (h 96)), (1, .ref (h 0)), (0, .ref b)] → W p l e room_1 s m #[Value.ref b] below meth c H locs 600000 7302250 Q (F0 m 2196 ls [])) : W p l e room_1 s m #[Value.ref b] below meth c H locs 600000 7302250 Q (F0 m 1948 ls []) := by
  have hx := X.1
  have hb := X.2.1
  refine lv_aload_n hx hb dL_law_1948 rfl (lv_at hl 2 rfl) ?_
  refine lv_aload_n hx hb dL_law_1949 rfl (lv_at hl 3 rfl) ?_
  refine lv_iload_n hx hb dL_law_1950 rfl (lv_at hl 0 rfl) ?_
  refine lv_iconst (v := 1) hx hb dL_law_1951 (by decide) ?_
  refine lv_iadd hx hb dL_law_1952 ?_
  refine va_sld hx hb hX hbl hbA hS (i := (x3 + 1)) (sl_in 1 hx3 hL3 (by decide)) dL_law_1953 ?_
  refine e_Vi (As := [.int (xs (Int32.toNatClampNeg (x3 + 1)))]) (rest := []) X Y hT hS (m_X8_count hR (xs (Int32.toNatClampNeg (x3 + 1)))) mk_X8_count gm_711 rfl rfl (by decide) hd_X8_count ⟨rfl, rfl⟩ ⟨Nat.le_of_ble_eq_true rfl, Nat.le_of_ble_eq_true rfl⟩ hl.1 rfl (Nat.le_of_ble_eq_true rfl) dL_law_1954 ⟨Nat.le_refl _, Nat.le_refl _⟩ (fun r1 i1 g1 H locs hq hT hS => ?_)
  have eh1 := hq
  rw [(Prod.mk.inj eh1).1, (Prod.mk.inj eh1).2] at hT
  refine lv_pop hx hb dL_law_1957 rfl ?_
  refine lv_aload_n hx hb dL_law_1958 rfl (lv_at hl 1 rfl) ?_
  refine lv_aload_n hx hb dL_law_1959 rfl (lv_at hl 3 rfl) ?_
  refine lv_iload_n hx hb dL_law_1960 rfl (lv_at hl 0 rfl) ?_
  refine lv_iconst (v := 1) hx hb dL_law_1961 (by decide) ?_
  refine lv_iadd hx hb dL_law_1962 ?_
  refine va_sld hx hb hX hbl hbA hS (i := (x3 + 1)) (sl_in 1 hx3 hL3 (by decide)) dL_law_1963 ?_
  refine e_Vi (As := [.int (xs (Int32.toNatClampNeg (x3 + 1)))]) (rest := []) X Y hT hS (m_X9_count hR (xs (Int32.toNatClampNeg (x3 + 1)))) mk_X9_count gm_2099 rfl rfl (by decide) hd_X9_count ⟨rfl, rfl⟩ ⟨Nat.le_of_ble_eq_true rfl, Nat.le_of_ble_eq_true rfl⟩ hl.1 rfl (Nat.le_of_ble_eq_true rfl) dL_law_1964 ⟨Nat.le_refl _, Nat.le_refl _⟩ (fun r2 i2 g2 H locs hq hT hS => ?_)
  obtain ⟨hR2, hf2⟩ := hq
  have hrel2_ : rel74 i2 := rel74_f hrel hf2 (by decide) (by decide) (by decide) (by decide)
  refine lv_pop hx hb dL_law_1967 rfl ?_
  refine lv_goto (tgt := 2196) hx hb dL_law_1968 (by decide) ?_
  exact hE _ _ _ _ _ hR2 hrel2_ hT hS (lv_sub hl [0, 1, 2, 3] rfl)

set_option maxRecDepth 100000 in
set_option maxHeartbeats 4000000 in
theorem law_69 {p : Program} {l : Launch} {e : Env} {s : State} {m : MethodId} {below : List Frame} {meth : Method} {c : Code} {D : va_G} {cz : Nat → ClassId} {h : Nat → Nat} {z : EZ} {i : Nat → Nat → Int32} {g : Nat → Nat → Int64} {b L : Nat} {xs : Nat → Int32} {H : Heap} {locs : List Loc} {ls : Array Slot} {Q : State → Prop} {x3 : Int32} (X : Cxt p s m c #[Value.ref b] cL_law 4 "UncutTaleLaw" D cz) (Y : EV h z s s.heap) (hR : Rg rA i) (hX : va_X b L xs s s.heap) (hbl : b < s.heap.size) (hbA : ¬ hA h b) (hT : TH D h cz i g H) (hS : va_S (hA h) s.heap H locs) (hx3 : rg 0 3066 x3) (hL3 : x3.toInt + 6 ≤ (L : Int)) (hl : lv_has ls 4 [(3, .int x3), (2, .ref (h 96)), (1, .ref (h 0)), (0, .ref b)]) (hrel : rel74 i) (hE : ∀ (i : Nat → Nat → Int32) (g : Nat → Nat → Int64) (H : Heap) (locs : List Loc) (ls : Array Slot), Rg rA i → rel74 i → TH D h cz i g H → va_S (hA h) s.heap H locs → lv_has ls 4 [(3, .int x3), (2, .ref (h 96)), (1, .ref (h 0)), (0, .ref b)] → W p l e room_1 s m #[Value.ref b] below meth c H locs 600000 7302250 Q (F0 m 2196 ls [])) : W p l e room_1 s m #[Value.ref b] below meth c H locs 600000 7302250 Q (F0 m 1971 ls []) := by
  have hx := X.1
  have hb := X.2.1
  refine lv_aload_n hx hb dL_law_1971 rfl (lv_at hl 2 rfl) ?_
  refine lv_aload_n hx hb dL_law_1972 rfl (lv_at hl 3 rfl) ?_
  refine lv_iload_n hx hb dL_law_1973 rfl (lv_at hl 0 rfl) ?_
  refine lv_iconst (v := 1) hx hb dL_law_1974 (by decide) ?_
  refine lv_iadd hx hb dL_law_1975 ?_
  refine va_sld hx hb hX hbl hbA hS (i := (x3 + 1)) (sl_in 1 hx3 hL3 (by decide)) dL_law_1976 ?_
  refine e_Vi (As := [.int (xs (Int32.toNatClampNeg (x3 + 1)))]) (rest := []) X Y hT hS (m_X8_image hR (xs (Int32.toNatClampNeg (x3 + 1)))) mk_X8_image gm_1278 rfl rfl (by decide) hd_X8_image ⟨rfl, rfl⟩ ⟨Nat.le_of_ble_eq_true rfl, Nat.le_of_ble_eq_true rfl⟩ hl.1 rfl (Nat.le_of_ble_eq_true rfl) dL_law_1977 ⟨Nat.le_refl _, Nat.le_refl _⟩ (fun r1 i1 g1 H locs hq hT hS => ?_)
  rcases hq with hq | hq
  ·
    obtain ⟨hR1, hf1, rfl, hf1_0⟩ := hq
    have hrel1_ : rel74 i1 := rel74_f hrel hf1 (by decide) (by decide) (by decide) (by decide)
    refine lv_pop hx hb dL_law_1980 rfl ?_
    refine lv_aload_n hx hb dL_law_1981 rfl (lv_at hl 1 rfl) ?_
    refine lv_aload_n hx hb dL_law_1982 rfl (lv_at hl 3 rfl) ?_
    refine lv_iload_n hx hb dL_law_1983 rfl (lv_at hl 0 rfl) ?_
    refine lv_iconst (v := 1) hx hb dL_law_1984 (by decide) ?_
    refine lv_iadd hx hb dL_law_1985 ?_
    refine va_sld hx hb hX hbl hbA hS (i := (x3 + 1)) (sl_in 1 hx3 hL3 (by decide)) dL_law_1986 ?_
    refine e_Vi (As := [.int (xs (Int32.toNatClampNeg (x3 + 1)))]) (rest := []) X Y hT hS (m_X9_image hR1 (xs (Int32.toNatClampNeg (x3 + 1)))) mk_X9_image gm_2104 rfl rfl (by decide) hd_X9_image ⟨rfl, rfl⟩ ⟨Nat.le_of_ble_eq_true rfl, Nat.le_of_ble_eq_true rfl⟩ hl.1 rfl (Nat.le_of_ble_eq_true rfl) dL_law_1987 ⟨Nat.le_refl _, Nat.le_refl _⟩ (fun r2 i2 g2 H locs hq hT hS => ?_)
    rcases hq with hq | hq
    ·
      obtain ⟨hR2, hf2, rfl, hf2_0⟩ := hq
      have hrel2_ : rel74 i2 := rel74_f hrel1_ hf2 (by decide) (by decide) (by decide) (by decide)
      refine lv_pop hx hb dL_law_1990 rfl ?_
      refine lv_goto (tgt := 2196) hx hb dL_law_1991 (by decide) ?_
      exact hE _ _ _ _ _ hR2 hrel2_ hT hS (lv_sub hl [0, 1, 2, 3] rfl)
    ·
      obtain ⟨hR2, hf2, rfl, hf2_0⟩ := hq
      have hrel2_ : rel74 i2 := rel74_f hrel1_ hf2 (by decide) (by decide) (by decide) (by decide)
      refine lv_pop hx hb dL_law_1990 rfl ?_
      refine lv_goto (tgt := 2196) hx hb dL_law_1991 (by decide) ?_
      exact hE _ _ _ _ _ hR2 hrel2_ hT hS (lv_sub hl [0, 1, 2, 3] rfl)
  ·
    obtain ⟨hR1, hf1, rfl, hf1_0⟩ := hq
    have hrel1_ : rel74 i1 := rel74_f hrel hf1 (by decide) (by decide) (by decide) (by decide)
    refine lv_pop hx hb dL_law_1980 rfl ?_
    refine lv_aload_n hx hb dL_law_1981 rfl (lv_at hl 1 rfl) ?_
    refine lv_aload_n hx hb dL_law_1982 rfl (lv_at hl 3 rfl) ?_
    refine lv_iload_n hx hb dL_law_1983 rfl (lv_at hl 0 rfl) ?_
    refine lv_iconst (v := 1) hx hb dL_law_1984 (by decide) ?_
    refine lv_iadd hx hb dL_law_1985 ?_
    refine va_sld hx hb hX hbl hbA hS (i := (x3 + 1)) (sl_in 1 hx3 hL3 (by decide)) dL_law_1986 ?_
    refine e_Vi (As := [.int (xs (Int32.toNatClampNeg (x3 + 1)))]) (rest := []) X Y hT hS (m_X9_image hR1 (xs (Int32.toNatClampNeg (x3 + 1)))) mk_X9_image gm_2104 rfl rfl (by decide) hd_X9_image ⟨rfl, rfl⟩ ⟨Nat.le_of_ble_eq_true rfl, Nat.le_of_ble_eq_true rfl⟩ hl.1 rfl (Nat.le_of_ble_eq_true rfl) dL_law_1987 ⟨Nat.le_refl _, Nat.le_refl _⟩ (fun r3 i3 g3 H locs hq hT hS => ?_)
    rcases hq with hq | hq
    ·
      obtain ⟨hR3, hf3, rfl, hf3_0⟩ := hq
      have hrel3_ : rel74 i3 := rel74_f hrel1_ hf3 (by decide) (by decide) (by decide) (by decide)
      refine lv_pop hx hb dL_law_1990 rfl ?_
      refine lv_goto (tgt := 2196) hx hb dL_law_1991 (by decide) ?_
      exact hE _ _ _ _ _ hR3 hrel3_ hT hS (lv_sub hl [0, 1, 2, 3] rfl)
    ·
      obtain ⟨hR3, hf3, rfl, hf3_0⟩ := hq
      have hrel3_ : rel74 i3 := rel74_f hrel1_ hf3 (by decide) (by decide) (by decide) (by decide)
      refine lv_pop hx hb dL_law_1990 rfl ?_
      refine lv_goto (tgt := 2196) hx hb dL_law_1991 (by decide) ?_
      exact hE _ _ _ _ _ hR3 hrel3_ hT hS (lv_sub hl [0, 1, 2, 3] rfl)

set_option maxRecDepth 100000 in
set_option maxHeartbeats 4000000 in
theorem law_70 {p : Program} {l : Launch} {e : Env} {s : State} {m : MethodId} {below : List Frame} {meth : Method} {c : Code} {D : va_G} {cz : Nat → ClassId} {h : Nat → Nat} {z : EZ} {i : Nat → Nat → Int32} {g : Nat → Nat → Int64} {b L : Nat} {xs : Nat → Int32} {H : Heap} {locs : List Loc} {ls : Array Slot} {Q : State → Prop} {x3 : Int32} (X : Cxt p s m c #[Value.ref b] cL_law 4 "UncutTaleLaw" D cz) (Y : EV h z s s.heap) (hR : Rg rA i) (hX : va_X b L xs s s.heap) (hbl : b < s.heap.size) (hbA : ¬ hA h b) (hT : TH D h cz i g H) (hS : va_S (hA h) s.heap H locs) (hx3 : rg 0 3066 x3) (hL3 : x3.toInt + 6 ≤ (L : Int)) (hl : lv_has ls 4 [(3, .int x3), (2, .ref (h 96)), (1, .ref (h 0)), (0, .ref b)]) (hrel : rel74 i) (hE : ∀ (i : Nat → Nat → Int32) (g : Nat → Nat → Int64) (H : Heap) (locs : List Loc) (ls : Array Slot), Rg rA i → rel74 i → TH D h cz i g H → va_S (hA h) s.heap H locs → lv_has ls 4 [(3, .int x3), (2, .ref (h 96)), (1, .ref (h 0)), (0, .ref b)] → W p l e room_1 s m #[Value.ref b] below meth c H locs 600000 7302250 Q (F0 m 2196 ls [])) : W p l e room_1 s m #[Value.ref b] below meth c H locs 600000 7302250 Q (F0 m 1994 ls []) := by
  have hx := X.1
  have hb := X.2.1
  refine lv_aload_n hx hb dL_law_1994 rfl (lv_at hl 2 rfl) ?_
  refine lv_aload_n hx hb dL_law_1995 rfl (lv_at hl 3 rfl) ?_
  refine lv_iload_n hx hb dL_law_1996 rfl (lv_at hl 0 rfl) ?_
  refine lv_iconst (v := 1) hx hb dL_law_1997 (by decide) ?_
  refine lv_iadd hx hb dL_law_1998 ?_
  refine va_sld hx hb hX hbl hbA hS (i := (x3 + 1)) (sl_in 1 hx3 hL3 (by decide)) dL_law_1999 ?_
  refine e_Vi (As := [.int (xs (Int32.toNatClampNeg (x3 + 1)))]) (rest := []) X Y hT hS (m_X8_back hR (xs (Int32.toNatClampNeg (x3 + 1)))) mk_X8_back gm_1282 rfl rfl (by decide) hd_X8_back ⟨rfl, rfl⟩ ⟨Nat.le_of_ble_eq_true rfl, Nat.le_of_ble_eq_true rfl⟩ hl.1 rfl (Nat.le_of_ble_eq_true rfl) dL_law_2000 ⟨Nat.le_refl _, Nat.le_refl _⟩ (fun r1 i1 g1 H locs hq hT hS => ?_)
  obtain ⟨hR1, hf1, hr1⟩ := hq
  have hrel1_ : rel74 i1 := rel74_f hrel hf1 (by decide) (by decide) (by decide) (by decide)
  refine lv_pop hx hb dL_law_2003 rfl ?_
  refine lv_aload_n hx hb dL_law_2004 rfl (lv_at hl 1 rfl) ?_
  refine lv_aload_n hx hb dL_law_2005 rfl (lv_at hl 3 rfl) ?_
  refine lv_iload_n hx hb dL_law_2006 rfl (lv_at hl 0 rfl) ?_
  refine lv_iconst (v := 1) hx hb dL_law_2007 (by decide) ?_
  refine lv_iadd hx hb dL_law_2008 ?_
  refine va_sld hx hb hX hbl hbA hS (i := (x3 + 1)) (sl_in 1 hx3 hL3 (by decide)) dL_law_2009 ?_
  refine e_Vi (As := [.int (xs (Int32.toNatClampNeg (x3 + 1)))]) (rest := []) X Y hT hS (m_X9_back hR1 (xs (Int32.toNatClampNeg (x3 + 1)))) mk_X9_back gm_2108 rfl rfl (by decide) hd_X9_back ⟨rfl, rfl⟩ ⟨Nat.le_of_ble_eq_true rfl, Nat.le_of_ble_eq_true rfl⟩ hl.1 rfl (Nat.le_of_ble_eq_true rfl) dL_law_2010 ⟨Nat.le_refl _, Nat.le_refl _⟩ (fun r2 i2 g2 H locs hq hT hS => ?_)
  obtain ⟨hR2, hf2, hr2⟩ := hq
  have hrel2_ : rel74 i2 := rel74_f hrel1_ hf2 (by decide) (by decide) (by decide) (by decide)
  refine lv_pop hx hb dL_law_2013 rfl ?_
  refine lv_goto (tgt := 2196) hx hb dL_law_2014 (by decide) ?_
  exact hE _ _ _ _ _ hR2 hrel2_ hT hS (lv_sub hl [0, 1, 2, 3] rfl)

set_option maxRecDepth 100000 in
set_option maxHeartbeats 4000000 in
theorem law_71 {p : Program} {l : Launch} {e : Env} {s : State} {m : MethodId} {below : List Frame} {meth : Method} {c : Code} {D : va_G} {cz : Nat → ClassId} {h : Nat → Nat} {z : EZ} {i : Nat → Nat → Int32} {g : Nat → Nat → Int64} {b L : Nat} {xs : Nat → Int32} {H : Heap} {locs : List Loc} {ls : Array Slot} {Q : State → Prop} {x3 : Int32} (X : Cxt p s m c #[Value.ref b] cL_law 4 "UncutTaleLaw" D cz) (Y : EV h z s s.heap) (hR : Rg rA i) (hX : va_X b L xs s s.heap) (hbl : b < s.heap.size) (hbA : ¬ hA h b) (hT : TH D h cz i g H) (hS : va_S (hA h) s.heap H locs) (hx3 : rg 0 3066 x3) (hL3 : x3.toInt + 6 ≤ (L : Int)) (hl : lv_has ls 4 [(3, .int x3), (2, .ref (h 96)), (1, .ref (h 0)), (0, .ref b)]) (hrel : rel74 i) (hE : ∀ (i : Nat → Nat → Int32) (g : Nat → Nat → Int64) (H : Heap) (locs : List Loc) (ls : Array Slot), Rg rA i → rel74 i → TH D h cz i g H → va_S (hA h) s.heap H locs → lv_has ls 4 [(3, .int x3), (2, .ref (h 96)), (1, .ref (h 0)), (0, .ref b)] → W p l e room_1 s m #[Value.ref b] below meth c H locs 600000 7302250 Q (F0 m 2196 ls [])) : W p l e room_1 s m #[Value.ref b] below meth c H locs 600000 7302250 Q (F0 m 2017 ls []) := by
  have hx := X.1
  have hb := X.2.1
  refine lv_aload_n hx hb dL_law_2017 rfl (lv_at hl 2 rfl) ?_
  refine lv_aload_n hx hb dL_law_2018 rfl (lv_at hl 3 rfl) ?_
  refine lv_iload_n hx hb dL_law_2019 rfl (lv_at hl 0 rfl) ?_
  refine lv_iconst (v := 1) hx hb dL_law_2020 (by decide) ?_
  refine lv_iadd hx hb dL_law_2021 ?_
  refine va_sld hx hb hX hbl hbA hS (i := (x3 + 1)) (sl_in 1 hx3 hL3 (by decide)) dL_law_2022 ?_
  refine lv_aload_n hx hb dL_law_2023 rfl (lv_at hl 3 rfl) ?_
  refine lv_iload_n hx hb dL_law_2024 rfl (lv_at hl 0 rfl) ?_
  refine lv_iconst (v := 2) hx hb dL_law_2025 (by decide) ?_
  refine lv_iadd hx hb dL_law_2026 ?_
  refine va_sld hx hb hX hbl hbA hS (i := (x3 + 2)) (sl_in 2 hx3 hL3 (by decide)) dL_law_2027 ?_
  refine lv_aload_n hx hb dL_law_2028 rfl (lv_at hl 3 rfl) ?_
  refine lv_iload_n hx hb dL_law_2029 rfl (lv_at hl 0 rfl) ?_
  refine lv_iconst (v := 3) hx hb dL_law_2030 (by decide) ?_
  refine lv_iadd hx hb dL_law_2031 ?_
  refine va_sld hx hb hX hbl hbA hS (i := (x3 + 3)) (sl_in 3 hx3 hL3 (by decide)) dL_law_2032 ?_
  refine e_Vi (As := [.int (xs (Int32.toNatClampNeg (x3 + 1))), .int (xs (Int32.toNatClampNeg (x3 + 2))), .int (xs (Int32.toNatClampNeg (x3 + 3)))]) (rest := []) X Y hT hS (m_X8_row hR (xs (Int32.toNatClampNeg (x3 + 1))) (xs (Int32.toNatClampNeg (x3 + 2))) (xs (Int32.toNatClampNeg (x3 + 3)))) mk_X8_row gm_1286 rfl rfl (by decide) hd_X8_row ⟨rfl, rfl⟩ ⟨Nat.le_of_ble_eq_true rfl, Nat.le_of_ble_eq_true rfl⟩ hl.1 rfl (Nat.le_of_ble_eq_true rfl) dL_law_2033 ⟨Nat.le_refl _, Nat.le_refl _⟩ (fun r1 i1 g1 H locs hq hT hS => ?_)
  rcases hq with hq | hq | hq
  ·
    obtain ⟨hR1, hf1, rfl, hf1_0, hf1_1, hf1_2⟩ := hq
    refine lv_pop hx hb dL_law_2036 rfl ?_
    refine lv_aload_n hx hb dL_law_2037 rfl (lv_at hl 1 rfl) ?_
    refine lv_aload_n hx hb dL_law_2038 rfl (lv_at hl 3 rfl) ?_
    refine lv_iload_n hx hb dL_law_2039 rfl (lv_at hl 0 rfl) ?_
    refine lv_iconst (v := 1) hx hb dL_law_2040 (by decide) ?_
    refine lv_iadd hx hb dL_law_2041 ?_
    refine va_sld hx hb hX hbl hbA hS (i := (x3 + 1)) (sl_in 1 hx3 hL3 (by decide)) dL_law_2042 ?_
    refine lv_aload_n hx hb dL_law_2043 rfl (lv_at hl 3 rfl) ?_
    refine lv_iload_n hx hb dL_law_2044 rfl (lv_at hl 0 rfl) ?_
    refine lv_iconst (v := 2) hx hb dL_law_2045 (by decide) ?_
    refine lv_iadd hx hb dL_law_2046 ?_
    refine va_sld hx hb hX hbl hbA hS (i := (x3 + 2)) (sl_in 2 hx3 hL3 (by decide)) dL_law_2047 ?_
    refine lv_aload_n hx hb dL_law_2048 rfl (lv_at hl 3 rfl) ?_
    refine lv_iload_n hx hb dL_law_2049 rfl (lv_at hl 0 rfl) ?_
    refine lv_iconst (v := 3) hx hb dL_law_2050 (by decide) ?_
    refine lv_iadd hx hb dL_law_2051 ?_
    refine va_sld hx hb hX hbl hbA hS (i := (x3 + 3)) (sl_in 3 hx3 hL3 (by decide)) dL_law_2052 ?_
    refine e_Vi (As := [.int (xs (Int32.toNatClampNeg (x3 + 1))), .int (xs (Int32.toNatClampNeg (x3 + 2))), .int (xs (Int32.toNatClampNeg (x3 + 3)))]) (rest := []) X Y hT hS (m_X9_row hR1 (xs (Int32.toNatClampNeg (x3 + 1))) (xs (Int32.toNatClampNeg (x3 + 2))) (xs (Int32.toNatClampNeg (x3 + 3)))) mk_X9_row gm_1488 rfl rfl (by decide) hd_X9_row ⟨rfl, rfl⟩ ⟨Nat.le_of_ble_eq_true rfl, Nat.le_of_ble_eq_true rfl⟩ hl.1 rfl (Nat.le_of_ble_eq_true rfl) dL_law_2053 ⟨Nat.le_refl _, Nat.le_refl _⟩ (fun r2 i2 g2 H locs hq hT hS => ?_)
    rcases hq with hq | hq | hq
    ·
      obtain ⟨hR2, hf2, rfl, hf2_0, hf2_1, hf2_2⟩ := hq
      refine lv_pop hx hb dL_law_2056 rfl ?_
      refine lv_goto (tgt := 2196) hx hb dL_law_2057 (by decide) ?_
      exact hE _ _ _ _ _ hR2 (rel74_1 hrel hf1_1 hf1_2 (hf1.1 97 (by decide)) (hf1.1 98 (by decide)) (hf2.1 62 (by decide)) (hf2.1 63 (by decide)) hf2_1 hf2_2) hT hS (lv_sub hl [0, 1, 2, 3] rfl)
    ·
      obtain ⟨hR2, hf2, rfl, hf2_0, hf2_1, hf2_2⟩ := hq
      refine lv_pop hx hb dL_law_2056 rfl ?_
      refine lv_goto (tgt := 2196) hx hb dL_law_2057 (by decide) ?_
      exact hE _ _ _ _ _ hR2 (False.elim (by have := hf1_0; have := hf2_0; omega)) hT hS (lv_sub hl [0, 1, 2, 3] rfl)
    ·
      obtain ⟨hR2, hf2, rfl, hf2_0, hf2_1, hf2_2⟩ := hq
      refine lv_pop hx hb dL_law_2056 rfl ?_
      refine lv_goto (tgt := 2196) hx hb dL_law_2057 (by decide) ?_
      exact hE _ _ _ _ _ hR2 (False.elim (by have := hf1_0; have := hf2_0; omega)) hT hS (lv_sub hl [0, 1, 2, 3] rfl)
  ·
    obtain ⟨hR1, hf1, rfl, hf1_0, hf1_1, hf1_2⟩ := hq
    refine lv_pop hx hb dL_law_2036 rfl ?_
    refine lv_aload_n hx hb dL_law_2037 rfl (lv_at hl 1 rfl) ?_
    refine lv_aload_n hx hb dL_law_2038 rfl (lv_at hl 3 rfl) ?_
    refine lv_iload_n hx hb dL_law_2039 rfl (lv_at hl 0 rfl) ?_
    refine lv_iconst (v := 1) hx hb dL_law_2040 (by decide) ?_
    refine lv_iadd hx hb dL_law_2041 ?_
    refine va_sld hx hb hX hbl hbA hS (i := (x3 + 1)) (sl_in 1 hx3 hL3 (by decide)) dL_law_2042 ?_
    refine lv_aload_n hx hb dL_law_2043 rfl (lv_at hl 3 rfl) ?_
    refine lv_iload_n hx hb dL_law_2044 rfl (lv_at hl 0 rfl) ?_
    refine lv_iconst (v := 2) hx hb dL_law_2045 (by decide) ?_
    refine lv_iadd hx hb dL_law_2046 ?_
    refine va_sld hx hb hX hbl hbA hS (i := (x3 + 2)) (sl_in 2 hx3 hL3 (by decide)) dL_law_2047 ?_
    refine lv_aload_n hx hb dL_law_2048 rfl (lv_at hl 3 rfl) ?_
    refine lv_iload_n hx hb dL_law_2049 rfl (lv_at hl 0 rfl) ?_
    refine lv_iconst (v := 3) hx hb dL_law_2050 (by decide) ?_
    refine lv_iadd hx hb dL_law_2051 ?_
    refine va_sld hx hb hX hbl hbA hS (i := (x3 + 3)) (sl_in 3 hx3 hL3 (by decide)) dL_law_2052 ?_
    refine e_Vi (As := [.int (xs (Int32.toNatClampNeg (x3 + 1))), .int (xs (Int32.toNatClampNeg (x3 + 2))), .int (xs (Int32.toNatClampNeg (x3 + 3)))]) (rest := []) X Y hT hS (m_X9_row hR1 (xs (Int32.toNatClampNeg (x3 + 1))) (xs (Int32.toNatClampNeg (x3 + 2))) (xs (Int32.toNatClampNeg (x3 + 3)))) mk_X9_row gm_1488 rfl rfl (by decide) hd_X9_row ⟨rfl, rfl⟩ ⟨Nat.le_of_ble_eq_true rfl, Nat.le_of_ble_eq_true rfl⟩ hl.1 rfl (Nat.le_of_ble_eq_true rfl) dL_law_2053 ⟨Nat.le_refl _, Nat.le_refl _⟩ (fun r3 i3 g3 H locs hq hT hS => ?_)
    rcases hq with hq | hq | hq
    ·
      obtain ⟨hR3, hf3, rfl, hf3_0, hf3_1, hf3_2⟩ := hq
      refine lv_pop hx hb dL_law_2056 rfl ?_
      refine lv_goto (tgt := 2196) hx hb dL_law_2057 (by decide) ?_
      exact hE _ _ _ _ _ hR3 (False.elim (by have := hf1_0; have := hf3_0; omega)) hT hS (lv_sub hl [0, 1, 2, 3] rfl)
    ·
      obtain ⟨hR3, hf3, rfl, hf3_0, hf3_1, hf3_2⟩ := hq
      refine lv_pop hx hb dL_law_2056 rfl ?_
      refine lv_goto (tgt := 2196) hx hb dL_law_2057 (by decide) ?_
      exact hE _ _ _ _ _ hR3 (rel74_0 hrel hf1_1 hf1_2 (hf1.1 97 (by decide)) (hf1.1 98 (by decide)) (hf3.1 62 (by decide)) (hf3.1 63 (by decide)) hf3_1 hf3_2) hT hS (lv_sub hl [0, 1, 2, 3] rfl)
    ·
      obtain ⟨hR3, hf3, rfl, hf3_0, hf3_1, hf3_2⟩ := hq
      refine lv_pop hx hb dL_law_2056 rfl ?_
      refine lv_goto (tgt := 2196) hx hb dL_law_2057 (by decide) ?_
      exact hE _ _ _ _ _ hR3 (False.elim (by have := hf1_0; have := hf3_0; omega)) hT hS (lv_sub hl [0, 1, 2, 3] rfl)
  ·
    obtain ⟨hR1, hf1, rfl, hf1_0, hf1_1, hf1_2⟩ := hq
    refine lv_pop hx hb dL_law_2036 rfl ?_
    refine lv_aload_n hx hb dL_law_2037 rfl (lv_at hl 1 rfl) ?_
    refine lv_aload_n hx hb dL_law_2038 rfl (lv_at hl 3 rfl) ?_
    refine lv_iload_n hx hb dL_law_2039 rfl (lv_at hl 0 rfl) ?_
    refine lv_iconst (v := 1) hx hb dL_law_2040 (by decide) ?_
    refine lv_iadd hx hb dL_law_2041 ?_
    refine va_sld hx hb hX hbl hbA hS (i := (x3 + 1)) (sl_in 1 hx3 hL3 (by decide)) dL_law_2042 ?_
    refine lv_aload_n hx hb dL_law_2043 rfl (lv_at hl 3 rfl) ?_
    refine lv_iload_n hx hb dL_law_2044 rfl (lv_at hl 0 rfl) ?_
    refine lv_iconst (v := 2) hx hb dL_law_2045 (by decide) ?_
    refine lv_iadd hx hb dL_law_2046 ?_
    refine va_sld hx hb hX hbl hbA hS (i := (x3 + 2)) (sl_in 2 hx3 hL3 (by decide)) dL_law_2047 ?_
    refine lv_aload_n hx hb dL_law_2048 rfl (lv_at hl 3 rfl) ?_
    refine lv_iload_n hx hb dL_law_2049 rfl (lv_at hl 0 rfl) ?_
    refine lv_iconst (v := 3) hx hb dL_law_2050 (by decide) ?_
    refine lv_iadd hx hb dL_law_2051 ?_
    refine va_sld hx hb hX hbl hbA hS (i := (x3 + 3)) (sl_in 3 hx3 hL3 (by decide)) dL_law_2052 ?_
    refine e_Vi (As := [.int (xs (Int32.toNatClampNeg (x3 + 1))), .int (xs (Int32.toNatClampNeg (x3 + 2))), .int (xs (Int32.toNatClampNeg (x3 + 3)))]) (rest := []) X Y hT hS (m_X9_row hR1 (xs (Int32.toNatClampNeg (x3 + 1))) (xs (Int32.toNatClampNeg (x3 + 2))) (xs (Int32.toNatClampNeg (x3 + 3)))) mk_X9_row gm_1488 rfl rfl (by decide) hd_X9_row ⟨rfl, rfl⟩ ⟨Nat.le_of_ble_eq_true rfl, Nat.le_of_ble_eq_true rfl⟩ hl.1 rfl (Nat.le_of_ble_eq_true rfl) dL_law_2053 ⟨Nat.le_refl _, Nat.le_refl _⟩ (fun r4 i4 g4 H locs hq hT hS => ?_)
    rcases hq with hq | hq | hq
    ·
      obtain ⟨hR4, hf4, rfl, hf4_0, hf4_1, hf4_2⟩ := hq
      refine lv_pop hx hb dL_law_2056 rfl ?_
      refine lv_goto (tgt := 2196) hx hb dL_law_2057 (by decide) ?_
      exact hE _ _ _ _ _ hR4 (False.elim (by have := hf1_0; have := hf4_0; omega)) hT hS (lv_sub hl [0, 1, 2, 3] rfl)
    ·
      obtain ⟨hR4, hf4, rfl, hf4_0, hf4_1, hf4_2⟩ := hq
      refine lv_pop hx hb dL_law_2056 rfl ?_
      refine lv_goto (tgt := 2196) hx hb dL_law_2057 (by decide) ?_
      exact hE _ _ _ _ _ hR4 (False.elim (by have := hf1_0; have := hf4_0; omega)) hT hS (lv_sub hl [0, 1, 2, 3] rfl)
    ·
      obtain ⟨hR4, hf4, rfl, hf4_0, hf4_1, hf4_2⟩ := hq
      refine lv_pop hx hb dL_law_2056 rfl ?_
      refine lv_goto (tgt := 2196) hx hb dL_law_2057 (by decide) ?_
      exact hE _ _ _ _ _ hR4 (rel74_0 hrel hf1_1 hf1_2 (hf1.1 97 (by decide)) (hf1.1 98 (by decide)) (hf4.1 62 (by decide)) (hf4.1 63 (by decide)) hf4_1 hf4_2) hT hS (lv_sub hl [0, 1, 2, 3] rfl)

set_option maxRecDepth 100000 in
set_option maxHeartbeats 4000000 in
theorem law_72 {p : Program} {l : Launch} {e : Env} {s : State} {m : MethodId} {below : List Frame} {meth : Method} {c : Code} {D : va_G} {cz : Nat → ClassId} {h : Nat → Nat} {z : EZ} {i : Nat → Nat → Int32} {g : Nat → Nat → Int64} {b L : Nat} {xs : Nat → Int32} {H : Heap} {locs : List Loc} {ls : Array Slot} {Q : State → Prop} {x3 : Int32} (X : Cxt p s m c #[Value.ref b] cL_law 4 "UncutTaleLaw" D cz) (Y : EV h z s s.heap) (hR : Rg rA i) (hX : va_X b L xs s s.heap) (hbl : b < s.heap.size) (hbA : ¬ hA h b) (hT : TH D h cz i g H) (hS : va_S (hA h) s.heap H locs) (hx3 : rg 0 3066 x3) (hL3 : x3.toInt + 6 ≤ (L : Int)) (hl : lv_has ls 4 [(3, .int x3), (2, .ref (h 96)), (1, .ref (h 0)), (0, .ref b)]) (hrel : rel74 i) (hE : ∀ (i : Nat → Nat → Int32) (g : Nat → Nat → Int64) (H : Heap) (locs : List Loc) (ls : Array Slot), Rg rA i → rel74 i → TH D h cz i g H → va_S (hA h) s.heap H locs → lv_has ls 4 [(3, .int x3), (2, .ref (h 96)), (1, .ref (h 0)), (0, .ref b)] → W p l e room_1 s m #[Value.ref b] below meth c H locs 600000 7302250 Q (F0 m 2196 ls [])) : W p l e room_1 s m #[Value.ref b] below meth c H locs 600000 7302250 Q (F0 m 2060 ls []) := by
  have hx := X.1
  have hb := X.2.1
  refine lv_aload_n hx hb dL_law_2060 rfl (lv_at hl 2 rfl) ?_
  refine lv_aload_n hx hb dL_law_2061 rfl (lv_at hl 3 rfl) ?_
  refine lv_iload_n hx hb dL_law_2062 rfl (lv_at hl 0 rfl) ?_
  refine lv_iconst (v := 1) hx hb dL_law_2063 (by decide) ?_
  refine lv_iadd hx hb dL_law_2064 ?_
  refine va_sld hx hb hX hbl hbA hS (i := (x3 + 1)) (sl_in 1 hx3 hL3 (by decide)) dL_law_2065 ?_
  refine lv_aload_n hx hb dL_law_2066 rfl (lv_at hl 3 rfl) ?_
  refine lv_iload_n hx hb dL_law_2067 rfl (lv_at hl 0 rfl) ?_
  refine lv_iconst (v := 2) hx hb dL_law_2068 (by decide) ?_
  refine lv_iadd hx hb dL_law_2069 ?_
  refine va_sld hx hb hX hbl hbA hS (i := (x3 + 2)) (sl_in 2 hx3 hL3 (by decide)) dL_law_2070 ?_
  refine lv_aload_n hx hb dL_law_2071 rfl (lv_at hl 3 rfl) ?_
  refine lv_iload_n hx hb dL_law_2072 rfl (lv_at hl 0 rfl) ?_
  refine lv_iconst (v := 3) hx hb dL_law_2073 (by decide) ?_
  refine lv_iadd hx hb dL_law_2074 ?_
  refine va_sld hx hb hX hbl hbA hS (i := (x3 + 3)) (sl_in 3 hx3 hL3 (by decide)) dL_law_2075 ?_
  refine q_i2l hx hb dL_law_2076 (fun y1 ey1 => ?_)
  obtain ⟨hy1, ay1⟩ := rg_i2l ey1 (rg_top (xs (Int32.toNatClampNeg (x3 + 3))))
  refine lv_bipush (v := 32) hx hb dL_law_2077 (by decide) ?_
  refine q_lshl hx hb dL_law_2079 (fun y2 ey2 => ?_)
  refine lv_aload_n hx hb dL_law_2080 rfl (lv_at hl 3 rfl) ?_
  refine lv_iload_n hx hb dL_law_2081 rfl (lv_at hl 0 rfl) ?_
  refine lv_iconst (v := 4) hx hb dL_law_2082 (by decide) ?_
  refine lv_iadd hx hb dL_law_2083 ?_
  refine va_sld hx hb hX hbl hbA hS (i := (x3 + 4)) (sl_in 4 hx3 hL3 (by decide)) dL_law_2084 ?_
  refine q_i2l hx hb dL_law_2085 (fun y3 ey3 => ?_)
  obtain ⟨hy3, ay3⟩ := rg_i2l ey3 (rg_top (xs (Int32.toNatClampNeg (x3 + 4))))
  refine lv_ldc2 (v := 4294967295) hx hb X.2.2.2.1 (X.2.2.2.2.1 _ gm_2112) dL_law_2086 ?_
  refine q_land hx hb dL_law_2089 (fun y4 ey4 => ?_)
  refine q_lor hx hb dL_law_2090 (fun y5 ey5 => ?_)
  refine e_Vi (As := [.int (xs (Int32.toNatClampNeg (x3 + 1))), .int (xs (Int32.toNatClampNeg (x3 + 2))), .long y5]) (rest := []) X Y hT hS (m_X8_write hR (xs (Int32.toNatClampNeg (x3 + 1))) (xs (Int32.toNatClampNeg (x3 + 2))) y5) mk_X8_write gm_1300 rfl rfl (by decide) hd_X8_write ⟨rfl, rfl⟩ ⟨Nat.le_of_ble_eq_true rfl, Nat.le_of_ble_eq_true rfl⟩ hl.1 rfl (Nat.le_of_ble_eq_true rfl) dL_law_2091 ⟨Nat.le_refl _, Nat.le_refl _⟩ (fun r6 i6 g6 H locs hq hT hS => ?_)
  rcases hq with hq | hq | hq | hq
  ·
    obtain ⟨hR6, hf6, rfl, hf6_0⟩ := hq
    have hrel6_ : rel74 i6 := rel74_f hrel hf6 (by decide) (by decide) (by decide) (by decide)
    refine lv_pop hx hb dL_law_2094 rfl ?_
    refine lv_aload_n hx hb dL_law_2095 rfl (lv_at hl 1 rfl) ?_
    refine lv_aload_n hx hb dL_law_2096 rfl (lv_at hl 3 rfl) ?_
    refine lv_iload_n hx hb dL_law_2097 rfl (lv_at hl 0 rfl) ?_
    refine lv_iconst (v := 1) hx hb dL_law_2098 (by decide) ?_
    refine lv_iadd hx hb dL_law_2099 ?_
    refine va_sld hx hb hX hbl hbA hS (i := (x3 + 1)) (sl_in 1 hx3 hL3 (by decide)) dL_law_2100 ?_
    refine lv_aload_n hx hb dL_law_2101 rfl (lv_at hl 3 rfl) ?_
    refine lv_iload_n hx hb dL_law_2102 rfl (lv_at hl 0 rfl) ?_
    refine lv_iconst (v := 2) hx hb dL_law_2103 (by decide) ?_
    refine lv_iadd hx hb dL_law_2104 ?_
    refine va_sld hx hb hX hbl hbA hS (i := (x3 + 2)) (sl_in 2 hx3 hL3 (by decide)) dL_law_2105 ?_
    refine lv_aload_n hx hb dL_law_2106 rfl (lv_at hl 3 rfl) ?_
    refine lv_iload_n hx hb dL_law_2107 rfl (lv_at hl 0 rfl) ?_
    refine lv_iconst (v := 3) hx hb dL_law_2108 (by decide) ?_
    refine lv_iadd hx hb dL_law_2109 ?_
    refine va_sld hx hb hX hbl hbA hS (i := (x3 + 3)) (sl_in 3 hx3 hL3 (by decide)) dL_law_2110 ?_
    refine q_i2l hx hb dL_law_2111 (fun y7 ey7 => ?_)
    obtain ⟨hy7, ay7⟩ := rg_i2l ey7 (rg_top (xs (Int32.toNatClampNeg (x3 + 3))))
    refine lv_bipush (v := 32) hx hb dL_law_2112 (by decide) ?_
    refine q_lshl hx hb dL_law_2114 (fun y8 ey8 => ?_)
    refine lv_aload_n hx hb dL_law_2115 rfl (lv_at hl 3 rfl) ?_
    refine lv_iload_n hx hb dL_law_2116 rfl (lv_at hl 0 rfl) ?_
    refine lv_iconst (v := 4) hx hb dL_law_2117 (by decide) ?_
    refine lv_iadd hx hb dL_law_2118 ?_
    refine va_sld hx hb hX hbl hbA hS (i := (x3 + 4)) (sl_in 4 hx3 hL3 (by decide)) dL_law_2119 ?_
    refine q_i2l hx hb dL_law_2120 (fun y9 ey9 => ?_)
    obtain ⟨hy9, ay9⟩ := rg_i2l ey9 (rg_top (xs (Int32.toNatClampNeg (x3 + 4))))
    refine lv_ldc2 (v := 4294967295) hx hb X.2.2.2.1 (X.2.2.2.2.1 _ gm_2112) dL_law_2121 ?_
    refine q_land hx hb dL_law_2124 (fun y10 ey10 => ?_)
    refine q_lor hx hb dL_law_2125 (fun y11 ey11 => ?_)
    refine e_Vi (As := [.int (xs (Int32.toNatClampNeg (x3 + 1))), .int (xs (Int32.toNatClampNeg (x3 + 2))), .long y11]) (rest := []) X Y hT hS (m_X9_write hR6 (xs (Int32.toNatClampNeg (x3 + 1))) (xs (Int32.toNatClampNeg (x3 + 2))) y11) mk_X9_write gm_1499 rfl rfl (by decide) hd_X9_write ⟨rfl, rfl⟩ ⟨Nat.le_of_ble_eq_true rfl, Nat.le_of_ble_eq_true rfl⟩ hl.1 rfl (Nat.le_of_ble_eq_true rfl) dL_law_2126 ⟨Nat.le_refl _, Nat.le_refl _⟩ (fun r12 i12 g12 H locs hq hT hS => ?_)
    rcases hq with hq | hq | hq | hq
    ·
      obtain ⟨hR12, hf12, rfl, hf12_0⟩ := hq
      have hrel12_ : rel74 i12 := rel74_f hrel6_ hf12 (by decide) (by decide) (by decide) (by decide)
      refine lv_pop hx hb dL_law_2129 rfl ?_
      refine lv_goto (tgt := 2196) hx hb dL_law_2130 (by decide) ?_
      exact hE _ _ _ _ _ hR12 hrel12_ hT hS (lv_sub hl [0, 1, 2, 3] rfl)
    ·
      obtain ⟨hR12, hf12, rfl, hf12_0⟩ := hq
      have hrel12_ : rel74 i12 := rel74_f hrel6_ hf12 (by decide) (by decide) (by decide) (by decide)
      refine lv_pop hx hb dL_law_2129 rfl ?_
      refine lv_goto (tgt := 2196) hx hb dL_law_2130 (by decide) ?_
      exact hE _ _ _ _ _ hR12 hrel12_ hT hS (lv_sub hl [0, 1, 2, 3] rfl)
    ·
      obtain ⟨hR12, hf12, rfl, hf12_0⟩ := hq
      have hrel12_ : rel74 i12 := rel74_f hrel6_ hf12 (by decide) (by decide) (by decide) (by decide)
      refine lv_pop hx hb dL_law_2129 rfl ?_
      refine lv_goto (tgt := 2196) hx hb dL_law_2130 (by decide) ?_
      exact hE _ _ _ _ _ hR12 hrel12_ hT hS (lv_sub hl [0, 1, 2, 3] rfl)
    ·
      obtain ⟨hR12, hf12, rfl, hf12_0⟩ := hq
      have hrel12_ : rel74 i12 := rel74_f hrel6_ hf12 (by decide) (by decide) (by decide) (by decide)
      refine lv_pop hx hb dL_law_2129 rfl ?_
      refine lv_goto (tgt := 2196) hx hb dL_law_2130 (by decide) ?_
      exact hE _ _ _ _ _ hR12 hrel12_ hT hS (lv_sub hl [0, 1, 2, 3] rfl)
  ·
    obtain ⟨hR6, hf6, rfl, hf6_0⟩ := hq
    have hrel6_ : rel74 i6 := rel74_f hrel hf6 (by decide) (by decide) (by decide) (by decide)
    refine lv_pop hx hb dL_law_2094 rfl ?_
    refine lv_aload_n hx hb dL_law_2095 rfl (lv_at hl 1 rfl) ?_
    refine lv_aload_n hx hb dL_law_2096 rfl (lv_at hl 3 rfl) ?_
    refine lv_iload_n hx hb dL_law_2097 rfl (lv_at hl 0 rfl) ?_
    refine lv_iconst (v := 1) hx hb dL_law_2098 (by decide) ?_
    refine lv_iadd hx hb dL_law_2099 ?_
    refine va_sld hx hb hX hbl hbA hS (i := (x3 + 1)) (sl_in 1 hx3 hL3 (by decide)) dL_law_2100 ?_
    refine lv_aload_n hx hb dL_law_2101 rfl (lv_at hl 3 rfl) ?_
    refine lv_iload_n hx hb dL_law_2102 rfl (lv_at hl 0 rfl) ?_
    refine lv_iconst (v := 2) hx hb dL_law_2103 (by decide) ?_
    refine lv_iadd hx hb dL_law_2104 ?_
    refine va_sld hx hb hX hbl hbA hS (i := (x3 + 2)) (sl_in 2 hx3 hL3 (by decide)) dL_law_2105 ?_
    refine lv_aload_n hx hb dL_law_2106 rfl (lv_at hl 3 rfl) ?_
    refine lv_iload_n hx hb dL_law_2107 rfl (lv_at hl 0 rfl) ?_
    refine lv_iconst (v := 3) hx hb dL_law_2108 (by decide) ?_
    refine lv_iadd hx hb dL_law_2109 ?_
    refine va_sld hx hb hX hbl hbA hS (i := (x3 + 3)) (sl_in 3 hx3 hL3 (by decide)) dL_law_2110 ?_
    refine q_i2l hx hb dL_law_2111 (fun y13 ey13 => ?_)
    obtain ⟨hy13, ay13⟩ := rg_i2l ey13 (rg_top (xs (Int32.toNatClampNeg (x3 + 3))))
    refine lv_bipush (v := 32) hx hb dL_law_2112 (by decide) ?_
    refine q_lshl hx hb dL_law_2114 (fun y14 ey14 => ?_)
    refine lv_aload_n hx hb dL_law_2115 rfl (lv_at hl 3 rfl) ?_
    refine lv_iload_n hx hb dL_law_2116 rfl (lv_at hl 0 rfl) ?_
    refine lv_iconst (v := 4) hx hb dL_law_2117 (by decide) ?_
    refine lv_iadd hx hb dL_law_2118 ?_
    refine va_sld hx hb hX hbl hbA hS (i := (x3 + 4)) (sl_in 4 hx3 hL3 (by decide)) dL_law_2119 ?_
    refine q_i2l hx hb dL_law_2120 (fun y15 ey15 => ?_)
    obtain ⟨hy15, ay15⟩ := rg_i2l ey15 (rg_top (xs (Int32.toNatClampNeg (x3 + 4))))
    refine lv_ldc2 (v := 4294967295) hx hb X.2.2.2.1 (X.2.2.2.2.1 _ gm_2112) dL_law_2121 ?_
    refine q_land hx hb dL_law_2124 (fun y16 ey16 => ?_)
    refine q_lor hx hb dL_law_2125 (fun y17 ey17 => ?_)
    refine e_Vi (As := [.int (xs (Int32.toNatClampNeg (x3 + 1))), .int (xs (Int32.toNatClampNeg (x3 + 2))), .long y17]) (rest := []) X Y hT hS (m_X9_write hR6 (xs (Int32.toNatClampNeg (x3 + 1))) (xs (Int32.toNatClampNeg (x3 + 2))) y17) mk_X9_write gm_1499 rfl rfl (by decide) hd_X9_write ⟨rfl, rfl⟩ ⟨Nat.le_of_ble_eq_true rfl, Nat.le_of_ble_eq_true rfl⟩ hl.1 rfl (Nat.le_of_ble_eq_true rfl) dL_law_2126 ⟨Nat.le_refl _, Nat.le_refl _⟩ (fun r18 i18 g18 H locs hq hT hS => ?_)
    rcases hq with hq | hq | hq | hq
    ·
      obtain ⟨hR18, hf18, rfl, hf18_0⟩ := hq
      have hrel18_ : rel74 i18 := rel74_f hrel6_ hf18 (by decide) (by decide) (by decide) (by decide)
      refine lv_pop hx hb dL_law_2129 rfl ?_
      refine lv_goto (tgt := 2196) hx hb dL_law_2130 (by decide) ?_
      exact hE _ _ _ _ _ hR18 hrel18_ hT hS (lv_sub hl [0, 1, 2, 3] rfl)
    ·
      obtain ⟨hR18, hf18, rfl, hf18_0⟩ := hq
      have hrel18_ : rel74 i18 := rel74_f hrel6_ hf18 (by decide) (by decide) (by decide) (by decide)
      refine lv_pop hx hb dL_law_2129 rfl ?_
      refine lv_goto (tgt := 2196) hx hb dL_law_2130 (by decide) ?_
      exact hE _ _ _ _ _ hR18 hrel18_ hT hS (lv_sub hl [0, 1, 2, 3] rfl)
    ·
      obtain ⟨hR18, hf18, rfl, hf18_0⟩ := hq
      have hrel18_ : rel74 i18 := rel74_f hrel6_ hf18 (by decide) (by decide) (by decide) (by decide)
      refine lv_pop hx hb dL_law_2129 rfl ?_
      refine lv_goto (tgt := 2196) hx hb dL_law_2130 (by decide) ?_
      exact hE _ _ _ _ _ hR18 hrel18_ hT hS (lv_sub hl [0, 1, 2, 3] rfl)
    ·
      obtain ⟨hR18, hf18, rfl, hf18_0⟩ := hq
      have hrel18_ : rel74 i18 := rel74_f hrel6_ hf18 (by decide) (by decide) (by decide) (by decide)
      refine lv_pop hx hb dL_law_2129 rfl ?_
      refine lv_goto (tgt := 2196) hx hb dL_law_2130 (by decide) ?_
      exact hE _ _ _ _ _ hR18 hrel18_ hT hS (lv_sub hl [0, 1, 2, 3] rfl)
  ·
    obtain ⟨hR6, hf6, rfl, hf6_0⟩ := hq
    have hrel6_ : rel74 i6 := rel74_f hrel hf6 (by decide) (by decide) (by decide) (by decide)
    refine lv_pop hx hb dL_law_2094 rfl ?_
    refine lv_aload_n hx hb dL_law_2095 rfl (lv_at hl 1 rfl) ?_
    refine lv_aload_n hx hb dL_law_2096 rfl (lv_at hl 3 rfl) ?_
    refine lv_iload_n hx hb dL_law_2097 rfl (lv_at hl 0 rfl) ?_
    refine lv_iconst (v := 1) hx hb dL_law_2098 (by decide) ?_
    refine lv_iadd hx hb dL_law_2099 ?_
    refine va_sld hx hb hX hbl hbA hS (i := (x3 + 1)) (sl_in 1 hx3 hL3 (by decide)) dL_law_2100 ?_
    refine lv_aload_n hx hb dL_law_2101 rfl (lv_at hl 3 rfl) ?_
    refine lv_iload_n hx hb dL_law_2102 rfl (lv_at hl 0 rfl) ?_
    refine lv_iconst (v := 2) hx hb dL_law_2103 (by decide) ?_
    refine lv_iadd hx hb dL_law_2104 ?_
    refine va_sld hx hb hX hbl hbA hS (i := (x3 + 2)) (sl_in 2 hx3 hL3 (by decide)) dL_law_2105 ?_
    refine lv_aload_n hx hb dL_law_2106 rfl (lv_at hl 3 rfl) ?_
    refine lv_iload_n hx hb dL_law_2107 rfl (lv_at hl 0 rfl) ?_
    refine lv_iconst (v := 3) hx hb dL_law_2108 (by decide) ?_
    refine lv_iadd hx hb dL_law_2109 ?_
    refine va_sld hx hb hX hbl hbA hS (i := (x3 + 3)) (sl_in 3 hx3 hL3 (by decide)) dL_law_2110 ?_
    refine q_i2l hx hb dL_law_2111 (fun y19 ey19 => ?_)
    obtain ⟨hy19, ay19⟩ := rg_i2l ey19 (rg_top (xs (Int32.toNatClampNeg (x3 + 3))))
    refine lv_bipush (v := 32) hx hb dL_law_2112 (by decide) ?_
    refine q_lshl hx hb dL_law_2114 (fun y20 ey20 => ?_)
    refine lv_aload_n hx hb dL_law_2115 rfl (lv_at hl 3 rfl) ?_
    refine lv_iload_n hx hb dL_law_2116 rfl (lv_at hl 0 rfl) ?_
    refine lv_iconst (v := 4) hx hb dL_law_2117 (by decide) ?_
    refine lv_iadd hx hb dL_law_2118 ?_
    refine va_sld hx hb hX hbl hbA hS (i := (x3 + 4)) (sl_in 4 hx3 hL3 (by decide)) dL_law_2119 ?_
    refine q_i2l hx hb dL_law_2120 (fun y21 ey21 => ?_)
    obtain ⟨hy21, ay21⟩ := rg_i2l ey21 (rg_top (xs (Int32.toNatClampNeg (x3 + 4))))
    refine lv_ldc2 (v := 4294967295) hx hb X.2.2.2.1 (X.2.2.2.2.1 _ gm_2112) dL_law_2121 ?_
    refine q_land hx hb dL_law_2124 (fun y22 ey22 => ?_)
    refine q_lor hx hb dL_law_2125 (fun y23 ey23 => ?_)
    refine e_Vi (As := [.int (xs (Int32.toNatClampNeg (x3 + 1))), .int (xs (Int32.toNatClampNeg (x3 + 2))), .long y23]) (rest := []) X Y hT hS (m_X9_write hR6 (xs (Int32.toNatClampNeg (x3 + 1))) (xs (Int32.toNatClampNeg (x3 + 2))) y23) mk_X9_write gm_1499 rfl rfl (by decide) hd_X9_write ⟨rfl, rfl⟩ ⟨Nat.le_of_ble_eq_true rfl, Nat.le_of_ble_eq_true rfl⟩ hl.1 rfl (Nat.le_of_ble_eq_true rfl) dL_law_2126 ⟨Nat.le_refl _, Nat.le_refl _⟩ (fun r24 i24 g24 H locs hq hT hS => ?_)
    rcases hq with hq | hq | hq | hq
    ·
      obtain ⟨hR24, hf24, rfl, hf24_0⟩ := hq
      have hrel24_ : rel74 i24 := rel74_f hrel6_ hf24 (by decide) (by decide) (by decide) (by decide)
      refine lv_pop hx hb dL_law_2129 rfl ?_
      refine lv_goto (tgt := 2196) hx hb dL_law_2130 (by decide) ?_
      exact hE _ _ _ _ _ hR24 hrel24_ hT hS (lv_sub hl [0, 1, 2, 3] rfl)
    ·
      obtain ⟨hR24, hf24, rfl, hf24_0⟩ := hq
      have hrel24_ : rel74 i24 := rel74_f hrel6_ hf24 (by decide) (by decide) (by decide) (by decide)
      refine lv_pop hx hb dL_law_2129 rfl ?_
      refine lv_goto (tgt := 2196) hx hb dL_law_2130 (by decide) ?_
      exact hE _ _ _ _ _ hR24 hrel24_ hT hS (lv_sub hl [0, 1, 2, 3] rfl)
    ·
      obtain ⟨hR24, hf24, rfl, hf24_0⟩ := hq
      have hrel24_ : rel74 i24 := rel74_f hrel6_ hf24 (by decide) (by decide) (by decide) (by decide)
      refine lv_pop hx hb dL_law_2129 rfl ?_
      refine lv_goto (tgt := 2196) hx hb dL_law_2130 (by decide) ?_
      exact hE _ _ _ _ _ hR24 hrel24_ hT hS (lv_sub hl [0, 1, 2, 3] rfl)
    ·
      obtain ⟨hR24, hf24, rfl, hf24_0⟩ := hq
      have hrel24_ : rel74 i24 := rel74_f hrel6_ hf24 (by decide) (by decide) (by decide) (by decide)
      refine lv_pop hx hb dL_law_2129 rfl ?_
      refine lv_goto (tgt := 2196) hx hb dL_law_2130 (by decide) ?_
      exact hE _ _ _ _ _ hR24 hrel24_ hT hS (lv_sub hl [0, 1, 2, 3] rfl)
  ·
    obtain ⟨hR6, hf6, rfl, hf6_0⟩ := hq
    have hrel6_ : rel74 i6 := rel74_f hrel hf6 (by decide) (by decide) (by decide) (by decide)
    refine lv_pop hx hb dL_law_2094 rfl ?_
    refine lv_aload_n hx hb dL_law_2095 rfl (lv_at hl 1 rfl) ?_
    refine lv_aload_n hx hb dL_law_2096 rfl (lv_at hl 3 rfl) ?_
    refine lv_iload_n hx hb dL_law_2097 rfl (lv_at hl 0 rfl) ?_
    refine lv_iconst (v := 1) hx hb dL_law_2098 (by decide) ?_
    refine lv_iadd hx hb dL_law_2099 ?_
    refine va_sld hx hb hX hbl hbA hS (i := (x3 + 1)) (sl_in 1 hx3 hL3 (by decide)) dL_law_2100 ?_
    refine lv_aload_n hx hb dL_law_2101 rfl (lv_at hl 3 rfl) ?_
    refine lv_iload_n hx hb dL_law_2102 rfl (lv_at hl 0 rfl) ?_
    refine lv_iconst (v := 2) hx hb dL_law_2103 (by decide) ?_
    refine lv_iadd hx hb dL_law_2104 ?_
    refine va_sld hx hb hX hbl hbA hS (i := (x3 + 2)) (sl_in 2 hx3 hL3 (by decide)) dL_law_2105 ?_
    refine lv_aload_n hx hb dL_law_2106 rfl (lv_at hl 3 rfl) ?_
    refine lv_iload_n hx hb dL_law_2107 rfl (lv_at hl 0 rfl) ?_
    refine lv_iconst (v := 3) hx hb dL_law_2108 (by decide) ?_
    refine lv_iadd hx hb dL_law_2109 ?_
    refine va_sld hx hb hX hbl hbA hS (i := (x3 + 3)) (sl_in 3 hx3 hL3 (by decide)) dL_law_2110 ?_
    refine q_i2l hx hb dL_law_2111 (fun y25 ey25 => ?_)
    obtain ⟨hy25, ay25⟩ := rg_i2l ey25 (rg_top (xs (Int32.toNatClampNeg (x3 + 3))))
    refine lv_bipush (v := 32) hx hb dL_law_2112 (by decide) ?_
    refine q_lshl hx hb dL_law_2114 (fun y26 ey26 => ?_)
    refine lv_aload_n hx hb dL_law_2115 rfl (lv_at hl 3 rfl) ?_
    refine lv_iload_n hx hb dL_law_2116 rfl (lv_at hl 0 rfl) ?_
    refine lv_iconst (v := 4) hx hb dL_law_2117 (by decide) ?_
    refine lv_iadd hx hb dL_law_2118 ?_
    refine va_sld hx hb hX hbl hbA hS (i := (x3 + 4)) (sl_in 4 hx3 hL3 (by decide)) dL_law_2119 ?_
    refine q_i2l hx hb dL_law_2120 (fun y27 ey27 => ?_)
    obtain ⟨hy27, ay27⟩ := rg_i2l ey27 (rg_top (xs (Int32.toNatClampNeg (x3 + 4))))
    refine lv_ldc2 (v := 4294967295) hx hb X.2.2.2.1 (X.2.2.2.2.1 _ gm_2112) dL_law_2121 ?_
    refine q_land hx hb dL_law_2124 (fun y28 ey28 => ?_)
    refine q_lor hx hb dL_law_2125 (fun y29 ey29 => ?_)
    refine e_Vi (As := [.int (xs (Int32.toNatClampNeg (x3 + 1))), .int (xs (Int32.toNatClampNeg (x3 + 2))), .long y29]) (rest := []) X Y hT hS (m_X9_write hR6 (xs (Int32.toNatClampNeg (x3 + 1))) (xs (Int32.toNatClampNeg (x3 + 2))) y29) mk_X9_write gm_1499 rfl rfl (by decide) hd_X9_write ⟨rfl, rfl⟩ ⟨Nat.le_of_ble_eq_true rfl, Nat.le_of_ble_eq_true rfl⟩ hl.1 rfl (Nat.le_of_ble_eq_true rfl) dL_law_2126 ⟨Nat.le_refl _, Nat.le_refl _⟩ (fun r30 i30 g30 H locs hq hT hS => ?_)
    rcases hq with hq | hq | hq | hq
    ·
      obtain ⟨hR30, hf30, rfl, hf30_0⟩ := hq
      have hrel30_ : rel74 i30 := rel74_f hrel6_ hf30 (by decide) (by decide) (by decide) (by decide)
      refine lv_pop hx hb dL_law_2129 rfl ?_
      refine lv_goto (tgt := 2196) hx hb dL_law_2130 (by decide) ?_
      exact hE _ _ _ _ _ hR30 hrel30_ hT hS (lv_sub hl [0, 1, 2, 3] rfl)
    ·
      obtain ⟨hR30, hf30, rfl, hf30_0⟩ := hq
      have hrel30_ : rel74 i30 := rel74_f hrel6_ hf30 (by decide) (by decide) (by decide) (by decide)
      refine lv_pop hx hb dL_law_2129 rfl ?_
      refine lv_goto (tgt := 2196) hx hb dL_law_2130 (by decide) ?_
      exact hE _ _ _ _ _ hR30 hrel30_ hT hS (lv_sub hl [0, 1, 2, 3] rfl)
    ·
      obtain ⟨hR30, hf30, rfl, hf30_0⟩ := hq
      have hrel30_ : rel74 i30 := rel74_f hrel6_ hf30 (by decide) (by decide) (by decide) (by decide)
      refine lv_pop hx hb dL_law_2129 rfl ?_
      refine lv_goto (tgt := 2196) hx hb dL_law_2130 (by decide) ?_
      exact hE _ _ _ _ _ hR30 hrel30_ hT hS (lv_sub hl [0, 1, 2, 3] rfl)
    ·
      obtain ⟨hR30, hf30, rfl, hf30_0⟩ := hq
      have hrel30_ : rel74 i30 := rel74_f hrel6_ hf30 (by decide) (by decide) (by decide) (by decide)
      refine lv_pop hx hb dL_law_2129 rfl ?_
      refine lv_goto (tgt := 2196) hx hb dL_law_2130 (by decide) ?_
      exact hE _ _ _ _ _ hR30 hrel30_ hT hS (lv_sub hl [0, 1, 2, 3] rfl)

set_option maxRecDepth 100000 in
set_option maxHeartbeats 4000000 in
theorem law_73 {p : Program} {l : Launch} {e : Env} {s : State} {m : MethodId} {below : List Frame} {meth : Method} {c : Code} {D : va_G} {cz : Nat → ClassId} {h : Nat → Nat} {z : EZ} {i : Nat → Nat → Int32} {g : Nat → Nat → Int64} {b L : Nat} {xs : Nat → Int32} {H : Heap} {locs : List Loc} {ls : Array Slot} {Q : State → Prop} {x3 : Int32} (X : Cxt p s m c #[Value.ref b] cL_law 4 "UncutTaleLaw" D cz) (Y : EV h z s s.heap) (hR : Rg rA i) (hX : va_X b L xs s s.heap) (hbl : b < s.heap.size) (hbA : ¬ hA h b) (hT : TH D h cz i g H) (hS : va_S (hA h) s.heap H locs) (hx3 : rg 0 3066 x3) (hL3 : x3.toInt + 6 ≤ (L : Int)) (hl : lv_has ls 4 [(3, .int x3), (2, .ref (h 96)), (1, .ref (h 0)), (0, .ref b)]) (hrel : rel74 i) (hE : ∀ (i : Nat → Nat → Int32) (g : Nat → Nat → Int64) (H : Heap) (locs : List Loc) (ls : Array Slot), Rg rA i → rel74 i → TH D h cz i g H → va_S (hA h) s.heap H locs → lv_has ls 4 [(3, .int x3), (2, .ref (h 96)), (1, .ref (h 0)), (0, .ref b)] → W p l e room_1 s m #[Value.ref b] below meth c H locs 600000 7302250 Q (F0 m 2196 ls [])) : W p l e room_1 s m #[Value.ref b] below meth c H locs 600000 7302250 Q (F0 m 2133 ls []) := by
  have hx := X.1
  have hb := X.2.1
  refine lv_aload_n hx hb dL_law_2133 rfl (lv_at hl 2 rfl) ?_
  refine lv_aload_n hx hb dL_law_2134 rfl (lv_at hl 3 rfl) ?_
  refine lv_iload_n hx hb dL_law_2135 rfl (lv_at hl 0 rfl) ?_
  refine lv_iconst (v := 1) hx hb dL_law_2136 (by decide) ?_
  refine lv_iadd hx hb dL_law_2137 ?_
  refine va_sld hx hb hX hbl hbA hS (i := (x3 + 1)) (sl_in 1 hx3 hL3 (by decide)) dL_law_2138 ?_
  refine lv_aload_n hx hb dL_law_2139 rfl (lv_at hl 3 rfl) ?_
  refine lv_iload_n hx hb dL_law_2140 rfl (lv_at hl 0 rfl) ?_
  refine lv_iconst (v := 2) hx hb dL_law_2141 (by decide) ?_
  refine lv_iadd hx hb dL_law_2142 ?_
  refine va_sld hx hb hX hbl hbA hS (i := (x3 + 2)) (sl_in 2 hx3 hL3 (by decide)) dL_law_2143 ?_
  refine lv_aload_n hx hb dL_law_2144 rfl (lv_at hl 3 rfl) ?_
  refine lv_iload_n hx hb dL_law_2145 rfl (lv_at hl 0 rfl) ?_
  refine lv_iconst (v := 3) hx hb dL_law_2146 (by decide) ?_
  refine lv_iadd hx hb dL_law_2147 ?_
  refine va_sld hx hb hX hbl hbA hS (i := (x3 + 3)) (sl_in 3 hx3 hL3 (by decide)) dL_law_2148 ?_
  refine lv_aload_n hx hb dL_law_2149 rfl (lv_at hl 3 rfl) ?_
  refine lv_iload_n hx hb dL_law_2150 rfl (lv_at hl 0 rfl) ?_
  refine lv_iconst (v := 4) hx hb dL_law_2151 (by decide) ?_
  refine lv_iadd hx hb dL_law_2152 ?_
  refine va_sld hx hb hX hbl hbA hS (i := (x3 + 4)) (sl_in 4 hx3 hL3 (by decide)) dL_law_2153 ?_
  refine lv_aload_n hx hb dL_law_2154 rfl (lv_at hl 3 rfl) ?_
  refine lv_iload_n hx hb dL_law_2155 rfl (lv_at hl 0 rfl) ?_
  refine lv_iconst (v := 5) hx hb dL_law_2156 (by decide) ?_
  refine lv_iadd hx hb dL_law_2157 ?_
  refine va_sld hx hb hX hbl hbA hS (i := (x3 + 5)) (sl_in 5 hx3 hL3 (by decide)) dL_law_2158 ?_
  refine e_Vi (As := [.int (xs (Int32.toNatClampNeg (x3 + 1))), .int (xs (Int32.toNatClampNeg (x3 + 2))), .int (xs (Int32.toNatClampNeg (x3 + 3))), .int (xs (Int32.toNatClampNeg (x3 + 4))), .int (xs (Int32.toNatClampNeg (x3 + 5)))]) (rest := []) X Y hT hS (m_X8_paste hR (xs (Int32.toNatClampNeg (x3 + 1))) (xs (Int32.toNatClampNeg (x3 + 2))) (xs (Int32.toNatClampNeg (x3 + 3))) (xs (Int32.toNatClampNeg (x3 + 4))) (xs (Int32.toNatClampNeg (x3 + 5)))) mk_X8_paste gm_1315 rfl rfl (by decide) hd_X8_paste ⟨rfl, rfl⟩ ⟨Nat.le_of_ble_eq_true rfl, Nat.le_of_ble_eq_true rfl⟩ hl.1 rfl (Nat.le_of_ble_eq_true rfl) dL_law_2159 ⟨Nat.le_refl _, Nat.le_refl _⟩ (fun r1 i1 g1 H locs hq hT hS => ?_)
  rcases hq with hq | hq | hq | hq | hq
  ·
    obtain ⟨hR1, hf1, rfl, hf1_0⟩ := hq
    have hrel1_ : rel74 i1 := rel74_f hrel hf1 (by decide) (by decide) (by decide) (by decide)
    refine lv_aload_n hx hb dL_law_2162 rfl (lv_at hl 1 rfl) ?_
    refine lv_aload_n hx hb dL_law_2163 rfl (lv_at hl 3 rfl) ?_
    refine lv_iload_n hx hb dL_law_2164 rfl (lv_at hl 0 rfl) ?_
    refine lv_iconst (v := 1) hx hb dL_law_2165 (by decide) ?_
    refine lv_iadd hx hb dL_law_2166 ?_
    refine va_sld hx hb hX hbl hbA hS (i := (x3 + 1)) (sl_in 1 hx3 hL3 (by decide)) dL_law_2167 ?_
    refine lv_aload_n hx hb dL_law_2168 rfl (lv_at hl 3 rfl) ?_
    refine lv_iload_n hx hb dL_law_2169 rfl (lv_at hl 0 rfl) ?_
    refine lv_iconst (v := 2) hx hb dL_law_2170 (by decide) ?_
    refine lv_iadd hx hb dL_law_2171 ?_
    refine va_sld hx hb hX hbl hbA hS (i := (x3 + 2)) (sl_in 2 hx3 hL3 (by decide)) dL_law_2172 ?_
    refine lv_aload_n hx hb dL_law_2173 rfl (lv_at hl 3 rfl) ?_
    refine lv_iload_n hx hb dL_law_2174 rfl (lv_at hl 0 rfl) ?_
    refine lv_iconst (v := 3) hx hb dL_law_2175 (by decide) ?_
    refine lv_iadd hx hb dL_law_2176 ?_
    refine va_sld hx hb hX hbl hbA hS (i := (x3 + 3)) (sl_in 3 hx3 hL3 (by decide)) dL_law_2177 ?_
    refine lv_aload_n hx hb dL_law_2178 rfl (lv_at hl 3 rfl) ?_
    refine lv_iload_n hx hb dL_law_2179 rfl (lv_at hl 0 rfl) ?_
    refine lv_iconst (v := 4) hx hb dL_law_2180 (by decide) ?_
    refine lv_iadd hx hb dL_law_2181 ?_
    refine va_sld hx hb hX hbl hbA hS (i := (x3 + 4)) (sl_in 4 hx3 hL3 (by decide)) dL_law_2182 ?_
    refine lv_aload_n hx hb dL_law_2183 rfl (lv_at hl 3 rfl) ?_
    refine lv_iload_n hx hb dL_law_2184 rfl (lv_at hl 0 rfl) ?_
    refine lv_iconst (v := 5) hx hb dL_law_2185 (by decide) ?_
    refine lv_iadd hx hb dL_law_2186 ?_
    refine va_sld hx hb hX hbl hbA hS (i := (x3 + 5)) (sl_in 5 hx3 hL3 (by decide)) dL_law_2187 ?_
    refine e_Vi (As := [.int (xs (Int32.toNatClampNeg (x3 + 1))), .int (xs (Int32.toNatClampNeg (x3 + 2))), .int (xs (Int32.toNatClampNeg (x3 + 3))), .int (xs (Int32.toNatClampNeg (x3 + 4))), .int (xs (Int32.toNatClampNeg (x3 + 5)))]) (rest := [.int 0]) X Y hT hS (m_X9_paste hR1 (xs (Int32.toNatClampNeg (x3 + 1))) (xs (Int32.toNatClampNeg (x3 + 2))) (xs (Int32.toNatClampNeg (x3 + 3))) (xs (Int32.toNatClampNeg (x3 + 4))) (xs (Int32.toNatClampNeg (x3 + 5)))) mk_X9_paste gm_1506 rfl rfl (by decide) hd_X9_paste ⟨rfl, rfl⟩ ⟨Nat.le_of_ble_eq_true rfl, Nat.le_of_ble_eq_true rfl⟩ hl.1 rfl (Nat.le_of_ble_eq_true rfl) dL_law_2188 ⟨Nat.le_refl _, Nat.le_refl _⟩ (fun r2 i2 g2 H locs hq hT hS => ?_)
    rcases hq with hq | hq | hq | hq | hq
    ·
      obtain ⟨hR2, hf2, rfl, hf2_0⟩ := hq
      have hrel2_ : rel74 i2 := rel74_f hrel1_ hf2 (by decide) (by decide) (by decide) (by decide)
      refine lv_icmp_eq (tgt := 2196) hx hb dL_law_2191 (by decide) (fun c3 => ?_) (fun c3 => (x_ne (rg_k (by decide) : rg 0 0 0) (rg_k (by decide) : rg 0 0 0) (i_ne c3) (by decide)).elim)
      exact hE _ _ _ _ _ hR2 hrel2_ hT hS (lv_sub hl [0, 1, 2, 3] rfl)
    ·
      obtain ⟨hR2, hf2, rfl, hf2_0⟩ := hq
      have hrel2_ : rel74 i2 := rel74_f hrel1_ hf2 (by decide) (by decide) (by decide) (by decide)
      refine lv_icmp_eq (tgt := 2196) hx hb dL_law_2191 (by decide) (fun c4 => (x_eq (rg_k (by decide) : rg 0 0 0) (rg_k (by decide) : rg (-7) (-7) (-7)) (i_eq c4) (by decide)).elim) (fun c4 => ?_)
      refine lv_iconst (v := 0) hx hb dL_law_2194 (by decide) ?_
      exact (by have := hf1_0; have := hf2_0; have hK0 : ((xs (Int32.toNatClampNeg (x3 + 1)))).toNatClampNeg < 4 := (by show Int.toNat _ < 4; omega); have := congrArg Int32.toInt (hrel ((xs (Int32.toNatClampNeg (x3 + 1)))).toNatClampNeg hK0).1; have := congrArg Int32.toInt (hrel ((xs (Int32.toNatClampNeg (x3 + 1)))).toNatClampNeg hK0).2; have e970 : (i1, g1).1 97 = i 97 := hf1.1 97 (by decide); have := congrArg Int32.toInt (congrFun e970 ((xs (Int32.toNatClampNeg (x3 + 1)))).toNatClampNeg); have e980 : (i1, g1).1 98 = i 98 := hf1.1 98 (by decide); have := congrArg Int32.toInt (congrFun e980 ((xs (Int32.toNatClampNeg (x3 + 1)))).toNatClampNeg); have hK1 : ((xs (Int32.toNatClampNeg (x3 + 3)))).toNatClampNeg < 4 := (by show Int.toNat _ < 4; omega); have := congrArg Int32.toInt (hrel ((xs (Int32.toNatClampNeg (x3 + 3)))).toNatClampNeg hK1).1; have := congrArg Int32.toInt (hrel ((xs (Int32.toNatClampNeg (x3 + 3)))).toNatClampNeg hK1).2; have e971 : (i1, g1).1 97 = i 97 := hf1.1 97 (by decide); have := congrArg Int32.toInt (congrFun e971 ((xs (Int32.toNatClampNeg (x3 + 3)))).toNatClampNeg); have e981 : (i1, g1).1 98 = i 98 := hf1.1 98 (by decide); have := congrArg Int32.toInt (congrFun e981 ((xs (Int32.toNatClampNeg (x3 + 3)))).toNatClampNeg); omega : False).elim
    ·
      obtain ⟨hR2, hf2, rfl, hf2_0⟩ := hq
      have hrel2_ : rel74 i2 := rel74_f hrel1_ hf2 (by decide) (by decide) (by decide) (by decide)
      refine lv_icmp_eq (tgt := 2196) hx hb dL_law_2191 (by decide) (fun c5 => (x_eq (rg_k (by decide) : rg 0 0 0) (rg_k (by decide) : rg (-8) (-8) (-8)) (i_eq c5) (by decide)).elim) (fun c5 => ?_)
      refine lv_iconst (v := 0) hx hb dL_law_2194 (by decide) ?_
      exact (by have := hf1_0; have := hf2_0; have hK0 : ((xs (Int32.toNatClampNeg (x3 + 1)))).toNatClampNeg < 4 := (by show Int.toNat _ < 4; omega); have := congrArg Int32.toInt (hrel ((xs (Int32.toNatClampNeg (x3 + 1)))).toNatClampNeg hK0).1; have := congrArg Int32.toInt (hrel ((xs (Int32.toNatClampNeg (x3 + 1)))).toNatClampNeg hK0).2; have e970 : (i1, g1).1 97 = i 97 := hf1.1 97 (by decide); have := congrArg Int32.toInt (congrFun e970 ((xs (Int32.toNatClampNeg (x3 + 1)))).toNatClampNeg); have e980 : (i1, g1).1 98 = i 98 := hf1.1 98 (by decide); have := congrArg Int32.toInt (congrFun e980 ((xs (Int32.toNatClampNeg (x3 + 1)))).toNatClampNeg); have hK1 : ((xs (Int32.toNatClampNeg (x3 + 3)))).toNatClampNeg < 4 := (by show Int.toNat _ < 4; omega); have := congrArg Int32.toInt (hrel ((xs (Int32.toNatClampNeg (x3 + 3)))).toNatClampNeg hK1).1; have := congrArg Int32.toInt (hrel ((xs (Int32.toNatClampNeg (x3 + 3)))).toNatClampNeg hK1).2; have e971 : (i1, g1).1 97 = i 97 := hf1.1 97 (by decide); have := congrArg Int32.toInt (congrFun e971 ((xs (Int32.toNatClampNeg (x3 + 3)))).toNatClampNeg); have e981 : (i1, g1).1 98 = i 98 := hf1.1 98 (by decide); have := congrArg Int32.toInt (congrFun e981 ((xs (Int32.toNatClampNeg (x3 + 3)))).toNatClampNeg); omega : False).elim
    ·
      obtain ⟨hR2, hf2, rfl, hf2_0⟩ := hq
      have hrel2_ : rel74 i2 := rel74_f hrel1_ hf2 (by decide) (by decide) (by decide) (by decide)
      refine lv_icmp_eq (tgt := 2196) hx hb dL_law_2191 (by decide) (fun c6 => (x_eq (rg_k (by decide) : rg 0 0 0) (rg_k (by decide) : rg (-6) (-6) (-6)) (i_eq c6) (by decide)).elim) (fun c6 => ?_)
      refine lv_iconst (v := 0) hx hb dL_law_2194 (by decide) ?_
      exact (by have := hf1_0; have := hf2_0; have hK0 : ((xs (Int32.toNatClampNeg (x3 + 1)))).toNatClampNeg < 4 := (by show Int.toNat _ < 4; omega); have := congrArg Int32.toInt (hrel ((xs (Int32.toNatClampNeg (x3 + 1)))).toNatClampNeg hK0).1; have := congrArg Int32.toInt (hrel ((xs (Int32.toNatClampNeg (x3 + 1)))).toNatClampNeg hK0).2; have e970 : (i1, g1).1 97 = i 97 := hf1.1 97 (by decide); have := congrArg Int32.toInt (congrFun e970 ((xs (Int32.toNatClampNeg (x3 + 1)))).toNatClampNeg); have e980 : (i1, g1).1 98 = i 98 := hf1.1 98 (by decide); have := congrArg Int32.toInt (congrFun e980 ((xs (Int32.toNatClampNeg (x3 + 1)))).toNatClampNeg); have hK1 : ((xs (Int32.toNatClampNeg (x3 + 3)))).toNatClampNeg < 4 := (by show Int.toNat _ < 4; omega); have := congrArg Int32.toInt (hrel ((xs (Int32.toNatClampNeg (x3 + 3)))).toNatClampNeg hK1).1; have := congrArg Int32.toInt (hrel ((xs (Int32.toNatClampNeg (x3 + 3)))).toNatClampNeg hK1).2; have e971 : (i1, g1).1 97 = i 97 := hf1.1 97 (by decide); have := congrArg Int32.toInt (congrFun e971 ((xs (Int32.toNatClampNeg (x3 + 3)))).toNatClampNeg); have e981 : (i1, g1).1 98 = i 98 := hf1.1 98 (by decide); have := congrArg Int32.toInt (congrFun e981 ((xs (Int32.toNatClampNeg (x3 + 3)))).toNatClampNeg); omega : False).elim
    ·
      obtain ⟨hR2, hf2, rfl, hf2_0⟩ := hq
      have hrel2_ : rel74 i2 := rel74_f hrel1_ hf2 (by decide) (by decide) (by decide) (by decide)
      refine lv_icmp_eq (tgt := 2196) hx hb dL_law_2191 (by decide) (fun c7 => (x_eq (rg_k (by decide) : rg 0 0 0) (rg_k (by decide) : rg (-2) (-2) (-2)) (i_eq c7) (by decide)).elim) (fun c7 => ?_)
      refine lv_iconst (v := 0) hx hb dL_law_2194 (by decide) ?_
      exact (by have := hf1_0; have := hf2_0; omega : False).elim
  ·
    obtain ⟨hR1, hf1, rfl, hf1_0⟩ := hq
    have hrel1_ : rel74 i1 := rel74_f hrel hf1 (by decide) (by decide) (by decide) (by decide)
    refine lv_aload_n hx hb dL_law_2162 rfl (lv_at hl 1 rfl) ?_
    refine lv_aload_n hx hb dL_law_2163 rfl (lv_at hl 3 rfl) ?_
    refine lv_iload_n hx hb dL_law_2164 rfl (lv_at hl 0 rfl) ?_
    refine lv_iconst (v := 1) hx hb dL_law_2165 (by decide) ?_
    refine lv_iadd hx hb dL_law_2166 ?_
    refine va_sld hx hb hX hbl hbA hS (i := (x3 + 1)) (sl_in 1 hx3 hL3 (by decide)) dL_law_2167 ?_
    refine lv_aload_n hx hb dL_law_2168 rfl (lv_at hl 3 rfl) ?_
    refine lv_iload_n hx hb dL_law_2169 rfl (lv_at hl 0 rfl) ?_
    refine lv_iconst (v := 2) hx hb dL_law_2170 (by decide) ?_
    refine lv_iadd hx hb dL_law_2171 ?_
    refine va_sld hx hb hX hbl hbA hS (i := (x3 + 2)) (sl_in 2 hx3 hL3 (by decide)) dL_law_2172 ?_
    refine lv_aload_n hx hb dL_law_2173 rfl (lv_at hl 3 rfl) ?_
    refine lv_iload_n hx hb dL_law_2174 rfl (lv_at hl 0 rfl) ?_
    refine lv_iconst (v := 3) hx hb dL_law_2175 (by decide) ?_
    refine lv_iadd hx hb dL_law_2176 ?_
    refine va_sld hx hb hX hbl hbA hS (i := (x3 + 3)) (sl_in 3 hx3 hL3 (by decide)) dL_law_2177 ?_
    refine lv_aload_n hx hb dL_law_2178 rfl (lv_at hl 3 rfl) ?_
    refine lv_iload_n hx hb dL_law_2179 rfl (lv_at hl 0 rfl) ?_
    refine lv_iconst (v := 4) hx hb dL_law_2180 (by decide) ?_
    refine lv_iadd hx hb dL_law_2181 ?_
    refine va_sld hx hb hX hbl hbA hS (i := (x3 + 4)) (sl_in 4 hx3 hL3 (by decide)) dL_law_2182 ?_
    refine lv_aload_n hx hb dL_law_2183 rfl (lv_at hl 3 rfl) ?_
    refine lv_iload_n hx hb dL_law_2184 rfl (lv_at hl 0 rfl) ?_
    refine lv_iconst (v := 5) hx hb dL_law_2185 (by decide) ?_
    refine lv_iadd hx hb dL_law_2186 ?_
    refine va_sld hx hb hX hbl hbA hS (i := (x3 + 5)) (sl_in 5 hx3 hL3 (by decide)) dL_law_2187 ?_
    refine e_Vi (As := [.int (xs (Int32.toNatClampNeg (x3 + 1))), .int (xs (Int32.toNatClampNeg (x3 + 2))), .int (xs (Int32.toNatClampNeg (x3 + 3))), .int (xs (Int32.toNatClampNeg (x3 + 4))), .int (xs (Int32.toNatClampNeg (x3 + 5)))]) (rest := [.int (-7)]) X Y hT hS (m_X9_paste hR1 (xs (Int32.toNatClampNeg (x3 + 1))) (xs (Int32.toNatClampNeg (x3 + 2))) (xs (Int32.toNatClampNeg (x3 + 3))) (xs (Int32.toNatClampNeg (x3 + 4))) (xs (Int32.toNatClampNeg (x3 + 5)))) mk_X9_paste gm_1506 rfl rfl (by decide) hd_X9_paste ⟨rfl, rfl⟩ ⟨Nat.le_of_ble_eq_true rfl, Nat.le_of_ble_eq_true rfl⟩ hl.1 rfl (Nat.le_of_ble_eq_true rfl) dL_law_2188 ⟨Nat.le_refl _, Nat.le_refl _⟩ (fun r8 i8 g8 H locs hq hT hS => ?_)
    rcases hq with hq | hq | hq | hq | hq
    ·
      obtain ⟨hR8, hf8, rfl, hf8_0⟩ := hq
      have hrel8_ : rel74 i8 := rel74_f hrel1_ hf8 (by decide) (by decide) (by decide) (by decide)
      refine lv_icmp_eq (tgt := 2196) hx hb dL_law_2191 (by decide) (fun c9 => (x_eq (rg_k (by decide) : rg (-7) (-7) (-7)) (rg_k (by decide) : rg 0 0 0) (i_eq c9) (by decide)).elim) (fun c9 => ?_)
      refine lv_iconst (v := 0) hx hb dL_law_2194 (by decide) ?_
      exact (by have := hf1_0; have := hf8_0; have hK0 : ((xs (Int32.toNatClampNeg (x3 + 1)))).toNatClampNeg < 4 := (by show Int.toNat _ < 4; omega); have := congrArg Int32.toInt (hrel ((xs (Int32.toNatClampNeg (x3 + 1)))).toNatClampNeg hK0).1; have := congrArg Int32.toInt (hrel ((xs (Int32.toNatClampNeg (x3 + 1)))).toNatClampNeg hK0).2; have e970 : (i1, g1).1 97 = i 97 := hf1.1 97 (by decide); have := congrArg Int32.toInt (congrFun e970 ((xs (Int32.toNatClampNeg (x3 + 1)))).toNatClampNeg); have e980 : (i1, g1).1 98 = i 98 := hf1.1 98 (by decide); have := congrArg Int32.toInt (congrFun e980 ((xs (Int32.toNatClampNeg (x3 + 1)))).toNatClampNeg); have hK1 : ((xs (Int32.toNatClampNeg (x3 + 3)))).toNatClampNeg < 4 := (by show Int.toNat _ < 4; omega); have := congrArg Int32.toInt (hrel ((xs (Int32.toNatClampNeg (x3 + 3)))).toNatClampNeg hK1).1; have := congrArg Int32.toInt (hrel ((xs (Int32.toNatClampNeg (x3 + 3)))).toNatClampNeg hK1).2; have e971 : (i1, g1).1 97 = i 97 := hf1.1 97 (by decide); have := congrArg Int32.toInt (congrFun e971 ((xs (Int32.toNatClampNeg (x3 + 3)))).toNatClampNeg); have e981 : (i1, g1).1 98 = i 98 := hf1.1 98 (by decide); have := congrArg Int32.toInt (congrFun e981 ((xs (Int32.toNatClampNeg (x3 + 3)))).toNatClampNeg); omega : False).elim
    ·
      obtain ⟨hR8, hf8, rfl, hf8_0⟩ := hq
      have hrel8_ : rel74 i8 := rel74_f hrel1_ hf8 (by decide) (by decide) (by decide) (by decide)
      refine lv_icmp_eq (tgt := 2196) hx hb dL_law_2191 (by decide) (fun c10 => ?_) (fun c10 => (x_ne (rg_k (by decide) : rg (-7) (-7) (-7)) (rg_k (by decide) : rg (-7) (-7) (-7)) (i_ne c10) (by decide)).elim)
      exact hE _ _ _ _ _ hR8 hrel8_ hT hS (lv_sub hl [0, 1, 2, 3] rfl)
    ·
      obtain ⟨hR8, hf8, rfl, hf8_0⟩ := hq
      have hrel8_ : rel74 i8 := rel74_f hrel1_ hf8 (by decide) (by decide) (by decide) (by decide)
      refine lv_icmp_eq (tgt := 2196) hx hb dL_law_2191 (by decide) (fun c11 => (x_eq (rg_k (by decide) : rg (-7) (-7) (-7)) (rg_k (by decide) : rg (-8) (-8) (-8)) (i_eq c11) (by decide)).elim) (fun c11 => ?_)
      refine lv_iconst (v := 0) hx hb dL_law_2194 (by decide) ?_
      exact (by have := hf1_0; have := hf8_0; have hK0 : ((xs (Int32.toNatClampNeg (x3 + 1)))).toNatClampNeg < 4 := (by show Int.toNat _ < 4; omega); have := congrArg Int32.toInt (hrel ((xs (Int32.toNatClampNeg (x3 + 1)))).toNatClampNeg hK0).1; have := congrArg Int32.toInt (hrel ((xs (Int32.toNatClampNeg (x3 + 1)))).toNatClampNeg hK0).2; have e970 : (i1, g1).1 97 = i 97 := hf1.1 97 (by decide); have := congrArg Int32.toInt (congrFun e970 ((xs (Int32.toNatClampNeg (x3 + 1)))).toNatClampNeg); have e980 : (i1, g1).1 98 = i 98 := hf1.1 98 (by decide); have := congrArg Int32.toInt (congrFun e980 ((xs (Int32.toNatClampNeg (x3 + 1)))).toNatClampNeg); have hK1 : ((xs (Int32.toNatClampNeg (x3 + 3)))).toNatClampNeg < 4 := (by show Int.toNat _ < 4; omega); have := congrArg Int32.toInt (hrel ((xs (Int32.toNatClampNeg (x3 + 3)))).toNatClampNeg hK1).1; have := congrArg Int32.toInt (hrel ((xs (Int32.toNatClampNeg (x3 + 3)))).toNatClampNeg hK1).2; have e971 : (i1, g1).1 97 = i 97 := hf1.1 97 (by decide); have := congrArg Int32.toInt (congrFun e971 ((xs (Int32.toNatClampNeg (x3 + 3)))).toNatClampNeg); have e981 : (i1, g1).1 98 = i 98 := hf1.1 98 (by decide); have := congrArg Int32.toInt (congrFun e981 ((xs (Int32.toNatClampNeg (x3 + 3)))).toNatClampNeg); omega : False).elim
    ·
      obtain ⟨hR8, hf8, rfl, hf8_0⟩ := hq
      have hrel8_ : rel74 i8 := rel74_f hrel1_ hf8 (by decide) (by decide) (by decide) (by decide)
      refine lv_icmp_eq (tgt := 2196) hx hb dL_law_2191 (by decide) (fun c12 => (x_eq (rg_k (by decide) : rg (-7) (-7) (-7)) (rg_k (by decide) : rg (-6) (-6) (-6)) (i_eq c12) (by decide)).elim) (fun c12 => ?_)
      refine lv_iconst (v := 0) hx hb dL_law_2194 (by decide) ?_
      exact (by have := hf1_0; have := hf8_0; have hK0 : ((xs (Int32.toNatClampNeg (x3 + 1)))).toNatClampNeg < 4 := (by show Int.toNat _ < 4; omega); have := congrArg Int32.toInt (hrel ((xs (Int32.toNatClampNeg (x3 + 1)))).toNatClampNeg hK0).1; have := congrArg Int32.toInt (hrel ((xs (Int32.toNatClampNeg (x3 + 1)))).toNatClampNeg hK0).2; have e970 : (i1, g1).1 97 = i 97 := hf1.1 97 (by decide); have := congrArg Int32.toInt (congrFun e970 ((xs (Int32.toNatClampNeg (x3 + 1)))).toNatClampNeg); have e980 : (i1, g1).1 98 = i 98 := hf1.1 98 (by decide); have := congrArg Int32.toInt (congrFun e980 ((xs (Int32.toNatClampNeg (x3 + 1)))).toNatClampNeg); have hK1 : ((xs (Int32.toNatClampNeg (x3 + 3)))).toNatClampNeg < 4 := (by show Int.toNat _ < 4; omega); have := congrArg Int32.toInt (hrel ((xs (Int32.toNatClampNeg (x3 + 3)))).toNatClampNeg hK1).1; have := congrArg Int32.toInt (hrel ((xs (Int32.toNatClampNeg (x3 + 3)))).toNatClampNeg hK1).2; have e971 : (i1, g1).1 97 = i 97 := hf1.1 97 (by decide); have := congrArg Int32.toInt (congrFun e971 ((xs (Int32.toNatClampNeg (x3 + 3)))).toNatClampNeg); have e981 : (i1, g1).1 98 = i 98 := hf1.1 98 (by decide); have := congrArg Int32.toInt (congrFun e981 ((xs (Int32.toNatClampNeg (x3 + 3)))).toNatClampNeg); omega : False).elim
    ·
      obtain ⟨hR8, hf8, rfl, hf8_0⟩ := hq
      have hrel8_ : rel74 i8 := rel74_f hrel1_ hf8 (by decide) (by decide) (by decide) (by decide)
      refine lv_icmp_eq (tgt := 2196) hx hb dL_law_2191 (by decide) (fun c13 => (x_eq (rg_k (by decide) : rg (-7) (-7) (-7)) (rg_k (by decide) : rg (-2) (-2) (-2)) (i_eq c13) (by decide)).elim) (fun c13 => ?_)
      refine lv_iconst (v := 0) hx hb dL_law_2194 (by decide) ?_
      exact (by have := hf1_0; have := hf8_0; omega : False).elim
  ·
    obtain ⟨hR1, hf1, rfl, hf1_0⟩ := hq
    have hrel1_ : rel74 i1 := rel74_f hrel hf1 (by decide) (by decide) (by decide) (by decide)
    refine lv_aload_n hx hb dL_law_2162 rfl (lv_at hl 1 rfl) ?_
    refine lv_aload_n hx hb dL_law_2163 rfl (lv_at hl 3 rfl) ?_
    refine lv_iload_n hx hb dL_law_2164 rfl (lv_at hl 0 rfl) ?_
    refine lv_iconst (v := 1) hx hb dL_law_2165 (by decide) ?_
    refine lv_iadd hx hb dL_law_2166 ?_
    refine va_sld hx hb hX hbl hbA hS (i := (x3 + 1)) (sl_in 1 hx3 hL3 (by decide)) dL_law_2167 ?_
    refine lv_aload_n hx hb dL_law_2168 rfl (lv_at hl 3 rfl) ?_
    refine lv_iload_n hx hb dL_law_2169 rfl (lv_at hl 0 rfl) ?_
    refine lv_iconst (v := 2) hx hb dL_law_2170 (by decide) ?_
    refine lv_iadd hx hb dL_law_2171 ?_
    refine va_sld hx hb hX hbl hbA hS (i := (x3 + 2)) (sl_in 2 hx3 hL3 (by decide)) dL_law_2172 ?_
    refine lv_aload_n hx hb dL_law_2173 rfl (lv_at hl 3 rfl) ?_
    refine lv_iload_n hx hb dL_law_2174 rfl (lv_at hl 0 rfl) ?_
    refine lv_iconst (v := 3) hx hb dL_law_2175 (by decide) ?_
    refine lv_iadd hx hb dL_law_2176 ?_
    refine va_sld hx hb hX hbl hbA hS (i := (x3 + 3)) (sl_in 3 hx3 hL3 (by decide)) dL_law_2177 ?_
    refine lv_aload_n hx hb dL_law_2178 rfl (lv_at hl 3 rfl) ?_
    refine lv_iload_n hx hb dL_law_2179 rfl (lv_at hl 0 rfl) ?_
    refine lv_iconst (v := 4) hx hb dL_law_2180 (by decide) ?_
    refine lv_iadd hx hb dL_law_2181 ?_
    refine va_sld hx hb hX hbl hbA hS (i := (x3 + 4)) (sl_in 4 hx3 hL3 (by decide)) dL_law_2182 ?_
    refine lv_aload_n hx hb dL_law_2183 rfl (lv_at hl 3 rfl) ?_
    refine lv_iload_n hx hb dL_law_2184 rfl (lv_at hl 0 rfl) ?_
    refine lv_iconst (v := 5) hx hb dL_law_2185 (by decide) ?_
    refine lv_iadd hx hb dL_law_2186 ?_
    refine va_sld hx hb hX hbl hbA hS (i := (x3 + 5)) (sl_in 5 hx3 hL3 (by decide)) dL_law_2187 ?_
    refine e_Vi (As := [.int (xs (Int32.toNatClampNeg (x3 + 1))), .int (xs (Int32.toNatClampNeg (x3 + 2))), .int (xs (Int32.toNatClampNeg (x3 + 3))), .int (xs (Int32.toNatClampNeg (x3 + 4))), .int (xs (Int32.toNatClampNeg (x3 + 5)))]) (rest := [.int (-8)]) X Y hT hS (m_X9_paste hR1 (xs (Int32.toNatClampNeg (x3 + 1))) (xs (Int32.toNatClampNeg (x3 + 2))) (xs (Int32.toNatClampNeg (x3 + 3))) (xs (Int32.toNatClampNeg (x3 + 4))) (xs (Int32.toNatClampNeg (x3 + 5)))) mk_X9_paste gm_1506 rfl rfl (by decide) hd_X9_paste ⟨rfl, rfl⟩ ⟨Nat.le_of_ble_eq_true rfl, Nat.le_of_ble_eq_true rfl⟩ hl.1 rfl (Nat.le_of_ble_eq_true rfl) dL_law_2188 ⟨Nat.le_refl _, Nat.le_refl _⟩ (fun r14 i14 g14 H locs hq hT hS => ?_)
    rcases hq with hq | hq | hq | hq | hq
    ·
      obtain ⟨hR14, hf14, rfl, hf14_0⟩ := hq
      have hrel14_ : rel74 i14 := rel74_f hrel1_ hf14 (by decide) (by decide) (by decide) (by decide)
      refine lv_icmp_eq (tgt := 2196) hx hb dL_law_2191 (by decide) (fun c15 => (x_eq (rg_k (by decide) : rg (-8) (-8) (-8)) (rg_k (by decide) : rg 0 0 0) (i_eq c15) (by decide)).elim) (fun c15 => ?_)
      refine lv_iconst (v := 0) hx hb dL_law_2194 (by decide) ?_
      exact (by have := hf1_0; have := hf14_0; have hK0 : ((xs (Int32.toNatClampNeg (x3 + 1)))).toNatClampNeg < 4 := (by show Int.toNat _ < 4; omega); have := congrArg Int32.toInt (hrel ((xs (Int32.toNatClampNeg (x3 + 1)))).toNatClampNeg hK0).1; have := congrArg Int32.toInt (hrel ((xs (Int32.toNatClampNeg (x3 + 1)))).toNatClampNeg hK0).2; have e970 : (i1, g1).1 97 = i 97 := hf1.1 97 (by decide); have := congrArg Int32.toInt (congrFun e970 ((xs (Int32.toNatClampNeg (x3 + 1)))).toNatClampNeg); have e980 : (i1, g1).1 98 = i 98 := hf1.1 98 (by decide); have := congrArg Int32.toInt (congrFun e980 ((xs (Int32.toNatClampNeg (x3 + 1)))).toNatClampNeg); have hK1 : ((xs (Int32.toNatClampNeg (x3 + 3)))).toNatClampNeg < 4 := (by show Int.toNat _ < 4; omega); have := congrArg Int32.toInt (hrel ((xs (Int32.toNatClampNeg (x3 + 3)))).toNatClampNeg hK1).1; have := congrArg Int32.toInt (hrel ((xs (Int32.toNatClampNeg (x3 + 3)))).toNatClampNeg hK1).2; have e971 : (i1, g1).1 97 = i 97 := hf1.1 97 (by decide); have := congrArg Int32.toInt (congrFun e971 ((xs (Int32.toNatClampNeg (x3 + 3)))).toNatClampNeg); have e981 : (i1, g1).1 98 = i 98 := hf1.1 98 (by decide); have := congrArg Int32.toInt (congrFun e981 ((xs (Int32.toNatClampNeg (x3 + 3)))).toNatClampNeg); omega : False).elim
    ·
      obtain ⟨hR14, hf14, rfl, hf14_0⟩ := hq
      have hrel14_ : rel74 i14 := rel74_f hrel1_ hf14 (by decide) (by decide) (by decide) (by decide)
      refine lv_icmp_eq (tgt := 2196) hx hb dL_law_2191 (by decide) (fun c16 => (x_eq (rg_k (by decide) : rg (-8) (-8) (-8)) (rg_k (by decide) : rg (-7) (-7) (-7)) (i_eq c16) (by decide)).elim) (fun c16 => ?_)
      refine lv_iconst (v := 0) hx hb dL_law_2194 (by decide) ?_
      exact (by have := hf1_0; have := hf14_0; have hK0 : ((xs (Int32.toNatClampNeg (x3 + 1)))).toNatClampNeg < 4 := (by show Int.toNat _ < 4; omega); have := congrArg Int32.toInt (hrel ((xs (Int32.toNatClampNeg (x3 + 1)))).toNatClampNeg hK0).1; have := congrArg Int32.toInt (hrel ((xs (Int32.toNatClampNeg (x3 + 1)))).toNatClampNeg hK0).2; have e970 : (i1, g1).1 97 = i 97 := hf1.1 97 (by decide); have := congrArg Int32.toInt (congrFun e970 ((xs (Int32.toNatClampNeg (x3 + 1)))).toNatClampNeg); have e980 : (i1, g1).1 98 = i 98 := hf1.1 98 (by decide); have := congrArg Int32.toInt (congrFun e980 ((xs (Int32.toNatClampNeg (x3 + 1)))).toNatClampNeg); have hK1 : ((xs (Int32.toNatClampNeg (x3 + 3)))).toNatClampNeg < 4 := (by show Int.toNat _ < 4; omega); have := congrArg Int32.toInt (hrel ((xs (Int32.toNatClampNeg (x3 + 3)))).toNatClampNeg hK1).1; have := congrArg Int32.toInt (hrel ((xs (Int32.toNatClampNeg (x3 + 3)))).toNatClampNeg hK1).2; have e971 : (i1, g1).1 97 = i 97 := hf1.1 97 (by decide); have := congrArg Int32.toInt (congrFun e971 ((xs (Int32.toNatClampNeg (x3 + 3)))).toNatClampNeg); have e981 : (i1, g1).1 98 = i 98 := hf1.1 98 (by decide); have := congrArg Int32.toInt (congrFun e981 ((xs (Int32.toNatClampNeg (x3 + 3)))).toNatClampNeg); omega : False).elim
    ·
      obtain ⟨hR14, hf14, rfl, hf14_0⟩ := hq
      have hrel14_ : rel74 i14 := rel74_f hrel1_ hf14 (by decide) (by decide) (by decide) (by decide)
      refine lv_icmp_eq (tgt := 2196) hx hb dL_law_2191 (by decide) (fun c17 => ?_) (fun c17 => (x_ne (rg_k (by decide) : rg (-8) (-8) (-8)) (rg_k (by decide) : rg (-8) (-8) (-8)) (i_ne c17) (by decide)).elim)
      exact hE _ _ _ _ _ hR14 hrel14_ hT hS (lv_sub hl [0, 1, 2, 3] rfl)
    ·
      obtain ⟨hR14, hf14, rfl, hf14_0⟩ := hq
      have hrel14_ : rel74 i14 := rel74_f hrel1_ hf14 (by decide) (by decide) (by decide) (by decide)
      refine lv_icmp_eq (tgt := 2196) hx hb dL_law_2191 (by decide) (fun c18 => (x_eq (rg_k (by decide) : rg (-8) (-8) (-8)) (rg_k (by decide) : rg (-6) (-6) (-6)) (i_eq c18) (by decide)).elim) (fun c18 => ?_)
      refine lv_iconst (v := 0) hx hb dL_law_2194 (by decide) ?_
      exact (by have := hf1_0; have := hf14_0; have hK0 : ((xs (Int32.toNatClampNeg (x3 + 1)))).toNatClampNeg < 4 := (by show Int.toNat _ < 4; omega); have := congrArg Int32.toInt (hrel ((xs (Int32.toNatClampNeg (x3 + 1)))).toNatClampNeg hK0).1; have := congrArg Int32.toInt (hrel ((xs (Int32.toNatClampNeg (x3 + 1)))).toNatClampNeg hK0).2; have e970 : (i1, g1).1 97 = i 97 := hf1.1 97 (by decide); have := congrArg Int32.toInt (congrFun e970 ((xs (Int32.toNatClampNeg (x3 + 1)))).toNatClampNeg); have e980 : (i1, g1).1 98 = i 98 := hf1.1 98 (by decide); have := congrArg Int32.toInt (congrFun e980 ((xs (Int32.toNatClampNeg (x3 + 1)))).toNatClampNeg); have hK1 : ((xs (Int32.toNatClampNeg (x3 + 3)))).toNatClampNeg < 4 := (by show Int.toNat _ < 4; omega); have := congrArg Int32.toInt (hrel ((xs (Int32.toNatClampNeg (x3 + 3)))).toNatClampNeg hK1).1; have := congrArg Int32.toInt (hrel ((xs (Int32.toNatClampNeg (x3 + 3)))).toNatClampNeg hK1).2; have e971 : (i1, g1).1 97 = i 97 := hf1.1 97 (by decide); have := congrArg Int32.toInt (congrFun e971 ((xs (Int32.toNatClampNeg (x3 + 3)))).toNatClampNeg); have e981 : (i1, g1).1 98 = i 98 := hf1.1 98 (by decide); have := congrArg Int32.toInt (congrFun e981 ((xs (Int32.toNatClampNeg (x3 + 3)))).toNatClampNeg); omega : False).elim
    ·
      obtain ⟨hR14, hf14, rfl, hf14_0⟩ := hq
      have hrel14_ : rel74 i14 := rel74_f hrel1_ hf14 (by decide) (by decide) (by decide) (by decide)
      refine lv_icmp_eq (tgt := 2196) hx hb dL_law_2191 (by decide) (fun c19 => (x_eq (rg_k (by decide) : rg (-8) (-8) (-8)) (rg_k (by decide) : rg (-2) (-2) (-2)) (i_eq c19) (by decide)).elim) (fun c19 => ?_)
      refine lv_iconst (v := 0) hx hb dL_law_2194 (by decide) ?_
      exact (by have := hf1_0; have := hf14_0; omega : False).elim
  ·
    obtain ⟨hR1, hf1, rfl, hf1_0⟩ := hq
    have hrel1_ : rel74 i1 := rel74_f hrel hf1 (by decide) (by decide) (by decide) (by decide)
    refine lv_aload_n hx hb dL_law_2162 rfl (lv_at hl 1 rfl) ?_
    refine lv_aload_n hx hb dL_law_2163 rfl (lv_at hl 3 rfl) ?_
    refine lv_iload_n hx hb dL_law_2164 rfl (lv_at hl 0 rfl) ?_
    refine lv_iconst (v := 1) hx hb dL_law_2165 (by decide) ?_
    refine lv_iadd hx hb dL_law_2166 ?_
    refine va_sld hx hb hX hbl hbA hS (i := (x3 + 1)) (sl_in 1 hx3 hL3 (by decide)) dL_law_2167 ?_
    refine lv_aload_n hx hb dL_law_2168 rfl (lv_at hl 3 rfl) ?_
    refine lv_iload_n hx hb dL_law_2169 rfl (lv_at hl 0 rfl) ?_
    refine lv_iconst (v := 2) hx hb dL_law_2170 (by decide) ?_
    refine lv_iadd hx hb dL_law_2171 ?_
    refine va_sld hx hb hX hbl hbA hS (i := (x3 + 2)) (sl_in 2 hx3 hL3 (by decide)) dL_law_2172 ?_
    refine lv_aload_n hx hb dL_law_2173 rfl (lv_at hl 3 rfl) ?_
    refine lv_iload_n hx hb dL_law_2174 rfl (lv_at hl 0 rfl) ?_
    refine lv_iconst (v := 3) hx hb dL_law_2175 (by decide) ?_
    refine lv_iadd hx hb dL_law_2176 ?_
    refine va_sld hx hb hX hbl hbA hS (i := (x3 + 3)) (sl_in 3 hx3 hL3 (by decide)) dL_law_2177 ?_
    refine lv_aload_n hx hb dL_law_2178 rfl (lv_at hl 3 rfl) ?_
    refine lv_iload_n hx hb dL_law_2179 rfl (lv_at hl 0 rfl) ?_
    refine lv_iconst (v := 4) hx hb dL_law_2180 (by decide) ?_
    refine lv_iadd hx hb dL_law_2181 ?_
    refine va_sld hx hb hX hbl hbA hS (i := (x3 + 4)) (sl_in 4 hx3 hL3 (by decide)) dL_law_2182 ?_
    refine lv_aload_n hx hb dL_law_2183 rfl (lv_at hl 3 rfl) ?_
    refine lv_iload_n hx hb dL_law_2184 rfl (lv_at hl 0 rfl) ?_
    refine lv_iconst (v := 5) hx hb dL_law_2185 (by decide) ?_
    refine lv_iadd hx hb dL_law_2186 ?_
    refine va_sld hx hb hX hbl hbA hS (i := (x3 + 5)) (sl_in 5 hx3 hL3 (by decide)) dL_law_2187 ?_
    refine e_Vi (As := [.int (xs (Int32.toNatClampNeg (x3 + 1))), .int (xs (Int32.toNatClampNeg (x3 + 2))), .int (xs (Int32.toNatClampNeg (x3 + 3))), .int (xs (Int32.toNatClampNeg (x3 + 4))), .int (xs (Int32.toNatClampNeg (x3 + 5)))]) (rest := [.int (-6)]) X Y hT hS (m_X9_paste hR1 (xs (Int32.toNatClampNeg (x3 + 1))) (xs (Int32.toNatClampNeg (x3 + 2))) (xs (Int32.toNatClampNeg (x3 + 3))) (xs (Int32.toNatClampNeg (x3 + 4))) (xs (Int32.toNatClampNeg (x3 + 5)))) mk_X9_paste gm_1506 rfl rfl (by decide) hd_X9_paste ⟨rfl, rfl⟩ ⟨Nat.le_of_ble_eq_true rfl, Nat.le_of_ble_eq_true rfl⟩ hl.1 rfl (Nat.le_of_ble_eq_true rfl) dL_law_2188 ⟨Nat.le_refl _, Nat.le_refl _⟩ (fun r20 i20 g20 H locs hq hT hS => ?_)
    rcases hq with hq | hq | hq | hq | hq
    ·
      obtain ⟨hR20, hf20, rfl, hf20_0⟩ := hq
      have hrel20_ : rel74 i20 := rel74_f hrel1_ hf20 (by decide) (by decide) (by decide) (by decide)
      refine lv_icmp_eq (tgt := 2196) hx hb dL_law_2191 (by decide) (fun c21 => (x_eq (rg_k (by decide) : rg (-6) (-6) (-6)) (rg_k (by decide) : rg 0 0 0) (i_eq c21) (by decide)).elim) (fun c21 => ?_)
      refine lv_iconst (v := 0) hx hb dL_law_2194 (by decide) ?_
      exact (by have := hf1_0; have := hf20_0; have hK0 : ((xs (Int32.toNatClampNeg (x3 + 1)))).toNatClampNeg < 4 := (by show Int.toNat _ < 4; omega); have := congrArg Int32.toInt (hrel ((xs (Int32.toNatClampNeg (x3 + 1)))).toNatClampNeg hK0).1; have := congrArg Int32.toInt (hrel ((xs (Int32.toNatClampNeg (x3 + 1)))).toNatClampNeg hK0).2; have e970 : (i1, g1).1 97 = i 97 := hf1.1 97 (by decide); have := congrArg Int32.toInt (congrFun e970 ((xs (Int32.toNatClampNeg (x3 + 1)))).toNatClampNeg); have e980 : (i1, g1).1 98 = i 98 := hf1.1 98 (by decide); have := congrArg Int32.toInt (congrFun e980 ((xs (Int32.toNatClampNeg (x3 + 1)))).toNatClampNeg); have hK1 : ((xs (Int32.toNatClampNeg (x3 + 3)))).toNatClampNeg < 4 := (by show Int.toNat _ < 4; omega); have := congrArg Int32.toInt (hrel ((xs (Int32.toNatClampNeg (x3 + 3)))).toNatClampNeg hK1).1; have := congrArg Int32.toInt (hrel ((xs (Int32.toNatClampNeg (x3 + 3)))).toNatClampNeg hK1).2; have e971 : (i1, g1).1 97 = i 97 := hf1.1 97 (by decide); have := congrArg Int32.toInt (congrFun e971 ((xs (Int32.toNatClampNeg (x3 + 3)))).toNatClampNeg); have e981 : (i1, g1).1 98 = i 98 := hf1.1 98 (by decide); have := congrArg Int32.toInt (congrFun e981 ((xs (Int32.toNatClampNeg (x3 + 3)))).toNatClampNeg); omega : False).elim
    ·
      obtain ⟨hR20, hf20, rfl, hf20_0⟩ := hq
      have hrel20_ : rel74 i20 := rel74_f hrel1_ hf20 (by decide) (by decide) (by decide) (by decide)
      refine lv_icmp_eq (tgt := 2196) hx hb dL_law_2191 (by decide) (fun c22 => (x_eq (rg_k (by decide) : rg (-6) (-6) (-6)) (rg_k (by decide) : rg (-7) (-7) (-7)) (i_eq c22) (by decide)).elim) (fun c22 => ?_)
      refine lv_iconst (v := 0) hx hb dL_law_2194 (by decide) ?_
      exact (by have := hf1_0; have := hf20_0; have hK0 : ((xs (Int32.toNatClampNeg (x3 + 1)))).toNatClampNeg < 4 := (by show Int.toNat _ < 4; omega); have := congrArg Int32.toInt (hrel ((xs (Int32.toNatClampNeg (x3 + 1)))).toNatClampNeg hK0).1; have := congrArg Int32.toInt (hrel ((xs (Int32.toNatClampNeg (x3 + 1)))).toNatClampNeg hK0).2; have e970 : (i1, g1).1 97 = i 97 := hf1.1 97 (by decide); have := congrArg Int32.toInt (congrFun e970 ((xs (Int32.toNatClampNeg (x3 + 1)))).toNatClampNeg); have e980 : (i1, g1).1 98 = i 98 := hf1.1 98 (by decide); have := congrArg Int32.toInt (congrFun e980 ((xs (Int32.toNatClampNeg (x3 + 1)))).toNatClampNeg); have hK1 : ((xs (Int32.toNatClampNeg (x3 + 3)))).toNatClampNeg < 4 := (by show Int.toNat _ < 4; omega); have := congrArg Int32.toInt (hrel ((xs (Int32.toNatClampNeg (x3 + 3)))).toNatClampNeg hK1).1; have := congrArg Int32.toInt (hrel ((xs (Int32.toNatClampNeg (x3 + 3)))).toNatClampNeg hK1).2; have e971 : (i1, g1).1 97 = i 97 := hf1.1 97 (by decide); have := congrArg Int32.toInt (congrFun e971 ((xs (Int32.toNatClampNeg (x3 + 3)))).toNatClampNeg); have e981 : (i1, g1).1 98 = i 98 := hf1.1 98 (by decide); have := congrArg Int32.toInt (congrFun e981 ((xs (Int32.toNatClampNeg (x3 + 3)))).toNatClampNeg); omega : False).elim
    ·
      obtain ⟨hR20, hf20, rfl, hf20_0⟩ := hq
      have hrel20_ : rel74 i20 := rel74_f hrel1_ hf20 (by decide) (by decide) (by decide) (by decide)
      refine lv_icmp_eq (tgt := 2196) hx hb dL_law_2191 (by decide) (fun c23 => (x_eq (rg_k (by decide) : rg (-6) (-6) (-6)) (rg_k (by decide) : rg (-8) (-8) (-8)) (i_eq c23) (by decide)).elim) (fun c23 => ?_)
      refine lv_iconst (v := 0) hx hb dL_law_2194 (by decide) ?_
      exact (by have := hf1_0; have := hf20_0; have hK0 : ((xs (Int32.toNatClampNeg (x3 + 1)))).toNatClampNeg < 4 := (by show Int.toNat _ < 4; omega); have := congrArg Int32.toInt (hrel ((xs (Int32.toNatClampNeg (x3 + 1)))).toNatClampNeg hK0).1; have := congrArg Int32.toInt (hrel ((xs (Int32.toNatClampNeg (x3 + 1)))).toNatClampNeg hK0).2; have e970 : (i1, g1).1 97 = i 97 := hf1.1 97 (by decide); have := congrArg Int32.toInt (congrFun e970 ((xs (Int32.toNatClampNeg (x3 + 1)))).toNatClampNeg); have e980 : (i1, g1).1 98 = i 98 := hf1.1 98 (by decide); have := congrArg Int32.toInt (congrFun e980 ((xs (Int32.toNatClampNeg (x3 + 1)))).toNatClampNeg); have hK1 : ((xs (Int32.toNatClampNeg (x3 + 3)))).toNatClampNeg < 4 := (by show Int.toNat _ < 4; omega); have := congrArg Int32.toInt (hrel ((xs (Int32.toNatClampNeg (x3 + 3)))).toNatClampNeg hK1).1; have := congrArg Int32.toInt (hrel ((xs (Int32.toNatClampNeg (x3 + 3)))).toNatClampNeg hK1).2; have e971 : (i1, g1).1 97 = i 97 := hf1.1 97 (by decide); have := congrArg Int32.toInt (congrFun e971 ((xs (Int32.toNatClampNeg (x3 + 3)))).toNatClampNeg); have e981 : (i1, g1).1 98 = i 98 := hf1.1 98 (by decide); have := congrArg Int32.toInt (congrFun e981 ((xs (Int32.toNatClampNeg (x3 + 3)))).toNatClampNeg); omega : False).elim
    ·
      obtain ⟨hR20, hf20, rfl, hf20_0⟩ := hq
      have hrel20_ : rel74 i20 := rel74_f hrel1_ hf20 (by decide) (by decide) (by decide) (by decide)
      refine lv_icmp_eq (tgt := 2196) hx hb dL_law_2191 (by decide) (fun c24 => ?_) (fun c24 => (x_ne (rg_k (by decide) : rg (-6) (-6) (-6)) (rg_k (by decide) : rg (-6) (-6) (-6)) (i_ne c24) (by decide)).elim)
      exact hE _ _ _ _ _ hR20 hrel20_ hT hS (lv_sub hl [0, 1, 2, 3] rfl)
    ·
      obtain ⟨hR20, hf20, rfl, hf20_0⟩ := hq
      have hrel20_ : rel74 i20 := rel74_f hrel1_ hf20 (by decide) (by decide) (by decide) (by decide)
      refine lv_icmp_eq (tgt := 2196) hx hb dL_law_2191 (by decide) (fun c25 => (x_eq (rg_k (by decide) : rg (-6) (-6) (-6)) (rg_k (by decide) : rg (-2) (-2) (-2)) (i_eq c25) (by decide)).elim) (fun c25 => ?_)
      refine lv_iconst (v := 0) hx hb dL_law_2194 (by decide) ?_
      exact (by have := hf1_0; have := hf20_0; omega : False).elim
  ·
    obtain ⟨hR1, hf1, rfl, hf1_0⟩ := hq
    have hrel1_ : rel74 i1 := rel74_f hrel hf1 (by decide) (by decide) (by decide) (by decide)
    refine lv_aload_n hx hb dL_law_2162 rfl (lv_at hl 1 rfl) ?_
    refine lv_aload_n hx hb dL_law_2163 rfl (lv_at hl 3 rfl) ?_
    refine lv_iload_n hx hb dL_law_2164 rfl (lv_at hl 0 rfl) ?_
    refine lv_iconst (v := 1) hx hb dL_law_2165 (by decide) ?_
    refine lv_iadd hx hb dL_law_2166 ?_
    refine va_sld hx hb hX hbl hbA hS (i := (x3 + 1)) (sl_in 1 hx3 hL3 (by decide)) dL_law_2167 ?_
    refine lv_aload_n hx hb dL_law_2168 rfl (lv_at hl 3 rfl) ?_
    refine lv_iload_n hx hb dL_law_2169 rfl (lv_at hl 0 rfl) ?_
    refine lv_iconst (v := 2) hx hb dL_law_2170 (by decide) ?_
    refine lv_iadd hx hb dL_law_2171 ?_
    refine va_sld hx hb hX hbl hbA hS (i := (x3 + 2)) (sl_in 2 hx3 hL3 (by decide)) dL_law_2172 ?_
    refine lv_aload_n hx hb dL_law_2173 rfl (lv_at hl 3 rfl) ?_
    refine lv_iload_n hx hb dL_law_2174 rfl (lv_at hl 0 rfl) ?_
    refine lv_iconst (v := 3) hx hb dL_law_2175 (by decide) ?_
    refine lv_iadd hx hb dL_law_2176 ?_
    refine va_sld hx hb hX hbl hbA hS (i := (x3 + 3)) (sl_in 3 hx3 hL3 (by decide)) dL_law_2177 ?_
    refine lv_aload_n hx hb dL_law_2178 rfl (lv_at hl 3 rfl) ?_
    refine lv_iload_n hx hb dL_law_2179 rfl (lv_at hl 0 rfl) ?_
    refine lv_iconst (v := 4) hx hb dL_law_2180 (by decide) ?_
    refine lv_iadd hx hb dL_law_2181 ?_
    refine va_sld hx hb hX hbl hbA hS (i := (x3 + 4)) (sl_in 4 hx3 hL3 (by decide)) dL_law_2182 ?_
    refine lv_aload_n hx hb dL_law_2183 rfl (lv_at hl 3 rfl) ?_
    refine lv_iload_n hx hb dL_law_2184 rfl (lv_at hl 0 rfl) ?_
    refine lv_iconst (v := 5) hx hb dL_law_2185 (by decide) ?_
    refine lv_iadd hx hb dL_law_2186 ?_
    refine va_sld hx hb hX hbl hbA hS (i := (x3 + 5)) (sl_in 5 hx3 hL3 (by decide)) dL_law_2187 ?_
    refine e_Vi (As := [.int (xs (Int32.toNatClampNeg (x3 + 1))), .int (xs (Int32.toNatClampNeg (x3 + 2))), .int (xs (Int32.toNatClampNeg (x3 + 3))), .int (xs (Int32.toNatClampNeg (x3 + 4))), .int (xs (Int32.toNatClampNeg (x3 + 5)))]) (rest := [.int (-2)]) X Y hT hS (m_X9_paste hR1 (xs (Int32.toNatClampNeg (x3 + 1))) (xs (Int32.toNatClampNeg (x3 + 2))) (xs (Int32.toNatClampNeg (x3 + 3))) (xs (Int32.toNatClampNeg (x3 + 4))) (xs (Int32.toNatClampNeg (x3 + 5)))) mk_X9_paste gm_1506 rfl rfl (by decide) hd_X9_paste ⟨rfl, rfl⟩ ⟨Nat.le_of_ble_eq_true rfl, Nat.le_of_ble_eq_true rfl⟩ hl.1 rfl (Nat.le_of_ble_eq_true rfl) dL_law_2188 ⟨Nat.le_refl _, Nat.le_refl _⟩ (fun r26 i26 g26 H locs hq hT hS => ?_)
    rcases hq with hq | hq | hq | hq | hq
    ·
      obtain ⟨hR26, hf26, rfl, hf26_0⟩ := hq
      have hrel26_ : rel74 i26 := rel74_f hrel1_ hf26 (by decide) (by decide) (by decide) (by decide)
      refine lv_icmp_eq (tgt := 2196) hx hb dL_law_2191 (by decide) (fun c27 => (x_eq (rg_k (by decide) : rg (-2) (-2) (-2)) (rg_k (by decide) : rg 0 0 0) (i_eq c27) (by decide)).elim) (fun c27 => ?_)
      refine lv_iconst (v := 0) hx hb dL_law_2194 (by decide) ?_
      exact (by have := hf1_0; have := hf26_0; omega : False).elim
    ·
      obtain ⟨hR26, hf26, rfl, hf26_0⟩ := hq
      have hrel26_ : rel74 i26 := rel74_f hrel1_ hf26 (by decide) (by decide) (by decide) (by decide)
      refine lv_icmp_eq (tgt := 2196) hx hb dL_law_2191 (by decide) (fun c28 => (x_eq (rg_k (by decide) : rg (-2) (-2) (-2)) (rg_k (by decide) : rg (-7) (-7) (-7)) (i_eq c28) (by decide)).elim) (fun c28 => ?_)
      refine lv_iconst (v := 0) hx hb dL_law_2194 (by decide) ?_
      exact (by have := hf1_0; have := hf26_0; omega : False).elim
    ·
      obtain ⟨hR26, hf26, rfl, hf26_0⟩ := hq
      have hrel26_ : rel74 i26 := rel74_f hrel1_ hf26 (by decide) (by decide) (by decide) (by decide)
      refine lv_icmp_eq (tgt := 2196) hx hb dL_law_2191 (by decide) (fun c29 => (x_eq (rg_k (by decide) : rg (-2) (-2) (-2)) (rg_k (by decide) : rg (-8) (-8) (-8)) (i_eq c29) (by decide)).elim) (fun c29 => ?_)
      refine lv_iconst (v := 0) hx hb dL_law_2194 (by decide) ?_
      exact (by have := hf1_0; have := hf26_0; omega : False).elim
    ·
      obtain ⟨hR26, hf26, rfl, hf26_0⟩ := hq
      have hrel26_ : rel74 i26 := rel74_f hrel1_ hf26 (by decide) (by decide) (by decide) (by decide)
      refine lv_icmp_eq (tgt := 2196) hx hb dL_law_2191 (by decide) (fun c30 => (x_eq (rg_k (by decide) : rg (-2) (-2) (-2)) (rg_k (by decide) : rg (-6) (-6) (-6)) (i_eq c30) (by decide)).elim) (fun c30 => ?_)
      refine lv_iconst (v := 0) hx hb dL_law_2194 (by decide) ?_
      exact (by have := hf1_0; have := hf26_0; omega : False).elim
    ·
      obtain ⟨hR26, hf26, rfl, hf26_0⟩ := hq
      have hrel26_ : rel74 i26 := rel74_f hrel1_ hf26 (by decide) (by decide) (by decide) (by decide)
      refine lv_icmp_eq (tgt := 2196) hx hb dL_law_2191 (by decide) (fun c31 => ?_) (fun c31 => (x_ne (rg_k (by decide) : rg (-2) (-2) (-2)) (rg_k (by decide) : rg (-2) (-2) (-2)) (i_ne c31) (by decide)).elim)
      exact hE _ _ _ _ _ hR26 hrel26_ hT hS (lv_sub hl [0, 1, 2, 3] rfl)
