set_option maxRecDepth 100000 in
set_option maxHeartbeats 4000000 in
theorem law_25 {p : Program} {l : Launch} {e : Env} {s : State} {m : MethodId} {below : List Frame} {meth : Method} {c : Code} {D : va_G} {cz : Nat → ClassId} {h : Nat → Nat} {z : EZ} {i : Nat → Nat → Int32} {g : Nat → Nat → Int64} {b L : Nat} {xs : Nat → Int32} {H : Heap} {locs : List Loc} {ls : Array Slot} {Q : State → Prop} {x3 : Int32} (X : Cxt p s m c #[Value.ref b] cL_law 4 "UncutTaleLaw" D cz) (Y : EV h z s s.heap) (hR : Rg rA i) (hX : va_X b L xs s s.heap) (hbl : b < s.heap.size) (hbA : ¬ hA h b) (hT : TH D h cz i g H) (hS : va_S (hA h) s.heap H locs) (hx3 : rg 0 3066 x3) (hL3 : x3.toInt + 6 ≤ (L : Int)) (hl : lv_has ls 4 [(3, .int x3), (2, .ref (h 96)), (1, .ref (h 0)), (0, .ref b)]) (hrel : rel74 i) (hE : ∀ (i : Nat → Nat → Int32) (g : Nat → Nat → Int64) (H : Heap) (locs : List Loc) (ls : Array Slot), Rg rA i → rel74 i → TH D h cz i g H → va_S (hA h) s.heap H locs → lv_has ls 4 [(3, .int x3), (2, .ref (h 96)), (1, .ref (h 0)), (0, .ref b)] → W p l e room_1 s m #[Value.ref b] below meth c H locs 600000 7302250 Q (F0 m 2196 ls [])) : W p l e room_1 s m #[Value.ref b] below meth c H locs 600000 7302250 Q (F0 m 939 ls []) := by
  have hx := X.1
  have hb := X.2.1
  refine lv_aload_n hx hb dL_law_939 rfl (lv_at hl 2 rfl) ?_
  refine lv_aload_n hx hb dL_law_940 rfl (lv_at hl 3 rfl) ?_
  refine lv_iload_n hx hb dL_law_941 rfl (lv_at hl 0 rfl) ?_
  refine lv_iconst (v := 1) hx hb dL_law_942 (by decide) ?_
  refine lv_iadd hx hb dL_law_943 ?_
  refine va_sld hx hb hX hbl hbA hS (i := (x3 + 1)) (sl_in 1 hx3 hL3 (by decide)) dL_law_944 ?_
  refine e_Vi (As := [.int (xs (Int32.toNatClampNeg (x3 + 1)))]) (rest := []) X Y hT hS (m_X8_with hR (xs (Int32.toNatClampNeg (x3 + 1)))) mk_X8_with gm_930 rfl rfl (by decide) hd_X8_with ⟨rfl, rfl⟩ ⟨Nat.le_of_ble_eq_true rfl, Nat.le_of_ble_eq_true rfl⟩ hl.1 rfl (Nat.le_of_ble_eq_true rfl) dL_law_945 ⟨Nat.le_refl _, Nat.le_refl _⟩ (fun r1 i1 g1 H locs hq hT hS => ?_)
  obtain ⟨hR1, hf1⟩ := hq
  have hrel1_ : rel74 i1 := rel74_f hrel hf1 (by decide) (by decide) (by decide) (by decide)
  refine lv_pop hx hb dL_law_948 rfl ?_
  refine lv_aload_n hx hb dL_law_949 rfl (lv_at hl 1 rfl) ?_
  refine lv_aload_n hx hb dL_law_950 rfl (lv_at hl 3 rfl) ?_
  refine lv_iload_n hx hb dL_law_951 rfl (lv_at hl 0 rfl) ?_
  refine lv_iconst (v := 1) hx hb dL_law_952 (by decide) ?_
  refine lv_iadd hx hb dL_law_953 ?_
  refine va_sld hx hb hX hbl hbA hS (i := (x3 + 1)) (sl_in 1 hx3 hL3 (by decide)) dL_law_954 ?_
  refine e_Vi (As := [.int (xs (Int32.toNatClampNeg (x3 + 1)))]) (rest := []) X Y hT hS (m_X9_with hR1 (xs (Int32.toNatClampNeg (x3 + 1)))) mk_X9_with gm_1830 rfl rfl (by decide) hd_X9_with ⟨rfl, rfl⟩ ⟨Nat.le_of_ble_eq_true rfl, Nat.le_of_ble_eq_true rfl⟩ hl.1 rfl (Nat.le_of_ble_eq_true rfl) dL_law_955 ⟨Nat.le_refl _, Nat.le_refl _⟩ (fun r2 i2 g2 H locs hq hT hS => ?_)
  obtain ⟨hR2, hf2, hr2⟩ := hq
  have hrel2_ : rel74 i2 := rel74_f hrel1_ hf2 (by decide) (by decide) (by decide) (by decide)
  refine lv_pop hx hb dL_law_958 rfl ?_
  refine lv_goto (tgt := 2196) hx hb dL_law_959 (by decide) ?_
  exact hE _ _ _ _ _ hR2 hrel2_ hT hS (lv_sub hl [0, 1, 2, 3] rfl)

set_option maxRecDepth 100000 in
set_option maxHeartbeats 4000000 in
theorem law_26 {p : Program} {l : Launch} {e : Env} {s : State} {m : MethodId} {below : List Frame} {meth : Method} {c : Code} {D : va_G} {cz : Nat → ClassId} {h : Nat → Nat} {z : EZ} {i : Nat → Nat → Int32} {g : Nat → Nat → Int64} {b L : Nat} {xs : Nat → Int32} {H : Heap} {locs : List Loc} {ls : Array Slot} {Q : State → Prop} {x3 : Int32} (X : Cxt p s m c #[Value.ref b] cL_law 4 "UncutTaleLaw" D cz) (Y : EV h z s s.heap) (hR : Rg rA i) (hX : va_X b L xs s s.heap) (hbl : b < s.heap.size) (hbA : ¬ hA h b) (hT : TH D h cz i g H) (hS : va_S (hA h) s.heap H locs) (hx3 : rg 0 3066 x3) (hL3 : x3.toInt + 6 ≤ (L : Int)) (hl : lv_has ls 4 [(3, .int x3), (2, .ref (h 96)), (1, .ref (h 0)), (0, .ref b)]) (hrel : rel74 i) (hE : ∀ (i : Nat → Nat → Int32) (g : Nat → Nat → Int64) (H : Heap) (locs : List Loc) (ls : Array Slot), Rg rA i → rel74 i → TH D h cz i g H → va_S (hA h) s.heap H locs → lv_has ls 4 [(3, .int x3), (2, .ref (h 96)), (1, .ref (h 0)), (0, .ref b)] → W p l e room_1 s m #[Value.ref b] below meth c H locs 600000 7302250 Q (F0 m 2196 ls [])) : W p l e room_1 s m #[Value.ref b] below meth c H locs 600000 7302250 Q (F0 m 962 ls []) := by
  have hx := X.1
  have hb := X.2.1
  refine lv_aload_n hx hb dL_law_962 rfl (lv_at hl 2 rfl) ?_
  refine e_Vi (As := []) (rest := []) X Y hT hS (m_X8_charms hR) mk_X8_charms gm_934 rfl rfl (by decide) hd_X8_charms ⟨rfl, rfl⟩ ⟨Nat.le_of_ble_eq_true rfl, Nat.le_of_ble_eq_true rfl⟩ hl.1 rfl (Nat.le_of_ble_eq_true rfl) dL_law_963 ⟨Nat.le_refl _, Nat.le_refl _⟩ (fun r1 i1 g1 H locs hq hT hS => ?_)
  obtain ⟨hR1, hf1⟩ := hq
  have hrel1_ : rel74 i1 := rel74_f hrel hf1 (by decide) (by decide) (by decide) (by decide)
  refine lv_pop hx hb dL_law_966 rfl ?_
  refine lv_aload_n hx hb dL_law_967 rfl (lv_at hl 1 rfl) ?_
  refine e_Vi (As := []) (rest := []) X Y hT hS (m_X9_charms hR1) mk_X9_charms gm_1834 rfl rfl (by decide) hd_X9_charms ⟨rfl, rfl⟩ ⟨Nat.le_of_ble_eq_true rfl, Nat.le_of_ble_eq_true rfl⟩ hl.1 rfl (Nat.le_of_ble_eq_true rfl) dL_law_968 ⟨Nat.le_refl _, Nat.le_refl _⟩ (fun r2 i2 g2 H locs hq hT hS => ?_)
  obtain ⟨hR2, hf2⟩ := hq
  have hrel2_ : rel74 i2 := rel74_f hrel1_ hf2 (by decide) (by decide) (by decide) (by decide)
  refine lv_pop hx hb dL_law_971 rfl ?_
  refine lv_goto (tgt := 2196) hx hb dL_law_972 (by decide) ?_
  exact hE _ _ _ _ _ hR2 hrel2_ hT hS (lv_sub hl [0, 1, 2, 3] rfl)

set_option maxRecDepth 100000 in
set_option maxHeartbeats 4000000 in
theorem law_27 {p : Program} {l : Launch} {e : Env} {s : State} {m : MethodId} {below : List Frame} {meth : Method} {c : Code} {D : va_G} {cz : Nat → ClassId} {h : Nat → Nat} {z : EZ} {i : Nat → Nat → Int32} {g : Nat → Nat → Int64} {b L : Nat} {xs : Nat → Int32} {H : Heap} {locs : List Loc} {ls : Array Slot} {Q : State → Prop} {x3 : Int32} (X : Cxt p s m c #[Value.ref b] cL_law 4 "UncutTaleLaw" D cz) (Y : EV h z s s.heap) (hR : Rg rA i) (hX : va_X b L xs s s.heap) (hbl : b < s.heap.size) (hbA : ¬ hA h b) (hT : TH D h cz i g H) (hS : va_S (hA h) s.heap H locs) (hx3 : rg 0 3066 x3) (hL3 : x3.toInt + 6 ≤ (L : Int)) (hl : lv_has ls 4 [(3, .int x3), (2, .ref (h 96)), (1, .ref (h 0)), (0, .ref b)]) (hrel : rel74 i) (hE : ∀ (i : Nat → Nat → Int32) (g : Nat → Nat → Int64) (H : Heap) (locs : List Loc) (ls : Array Slot), Rg rA i → rel74 i → TH D h cz i g H → va_S (hA h) s.heap H locs → lv_has ls 4 [(3, .int x3), (2, .ref (h 96)), (1, .ref (h 0)), (0, .ref b)] → W p l e room_1 s m #[Value.ref b] below meth c H locs 600000 7302250 Q (F0 m 2196 ls [])) : W p l e room_1 s m #[Value.ref b] below meth c H locs 600000 7302250 Q (F0 m 975 ls []) := by
  have hx := X.1
  have hb := X.2.1
  refine lv_aload_n hx hb dL_law_975 rfl (lv_at hl 2 rfl) ?_
  refine lv_aload_n hx hb dL_law_976 rfl (lv_at hl 3 rfl) ?_
  refine lv_iload_n hx hb dL_law_977 rfl (lv_at hl 0 rfl) ?_
  refine lv_iconst (v := 1) hx hb dL_law_978 (by decide) ?_
  refine lv_iadd hx hb dL_law_979 ?_
  refine va_sld hx hb hX hbl hbA hS (i := (x3 + 1)) (sl_in 1 hx3 hL3 (by decide)) dL_law_980 ?_
  refine e_Vi (As := [.int (xs (Int32.toNatClampNeg (x3 + 1)))]) (rest := []) X Y hT hS (m_X8_best hR (xs (Int32.toNatClampNeg (x3 + 1)))) mk_X8_best gm_873 rfl rfl (by decide) hd_X8_best ⟨rfl, rfl⟩ ⟨Nat.le_of_ble_eq_true rfl, Nat.le_of_ble_eq_true rfl⟩ hl.1 rfl (Nat.le_of_ble_eq_true rfl) dL_law_981 ⟨Nat.le_refl _, Nat.le_refl _⟩ (fun r1 i1 g1 H locs hq hT hS => ?_)
  obtain ⟨hR1, hf1, hr1⟩ := hq
  have hrel1_ : rel74 i1 := rel74_f hrel hf1 (by decide) (by decide) (by decide) (by decide)
  refine lv_pop hx hb dL_law_984 rfl ?_
  refine lv_aload_n hx hb dL_law_985 rfl (lv_at hl 1 rfl) ?_
  refine lv_aload_n hx hb dL_law_986 rfl (lv_at hl 3 rfl) ?_
  refine lv_iload_n hx hb dL_law_987 rfl (lv_at hl 0 rfl) ?_
  refine lv_iconst (v := 1) hx hb dL_law_988 (by decide) ?_
  refine lv_iadd hx hb dL_law_989 ?_
  refine va_sld hx hb hX hbl hbA hS (i := (x3 + 1)) (sl_in 1 hx3 hL3 (by decide)) dL_law_990 ?_
  refine e_Vi (As := [.int (xs (Int32.toNatClampNeg (x3 + 1)))]) (rest := []) X Y hT hS (m_X9_best hR1 (xs (Int32.toNatClampNeg (x3 + 1)))) mk_X9_best gm_1838 rfl rfl (by decide) hd_X9_best ⟨rfl, rfl⟩ ⟨Nat.le_of_ble_eq_true rfl, Nat.le_of_ble_eq_true rfl⟩ hl.1 rfl (Nat.le_of_ble_eq_true rfl) dL_law_991 ⟨Nat.le_refl _, Nat.le_refl _⟩ (fun r2 i2 g2 H locs hq hT hS => ?_)
  obtain ⟨hR2, hf2, hr2⟩ := hq
  have hrel2_ : rel74 i2 := rel74_f hrel1_ hf2 (by decide) (by decide) (by decide) (by decide)
  refine lv_pop hx hb dL_law_994 rfl ?_
  refine lv_goto (tgt := 2196) hx hb dL_law_995 (by decide) ?_
  exact hE _ _ _ _ _ hR2 hrel2_ hT hS (lv_sub hl [0, 1, 2, 3] rfl)

set_option maxRecDepth 100000 in
set_option maxHeartbeats 4000000 in
theorem law_28 {p : Program} {l : Launch} {e : Env} {s : State} {m : MethodId} {below : List Frame} {meth : Method} {c : Code} {D : va_G} {cz : Nat → ClassId} {h : Nat → Nat} {z : EZ} {i : Nat → Nat → Int32} {g : Nat → Nat → Int64} {b L : Nat} {xs : Nat → Int32} {H : Heap} {locs : List Loc} {ls : Array Slot} {Q : State → Prop} {x3 : Int32} (X : Cxt p s m c #[Value.ref b] cL_law 4 "UncutTaleLaw" D cz) (Y : EV h z s s.heap) (hR : Rg rA i) (hX : va_X b L xs s s.heap) (hbl : b < s.heap.size) (hbA : ¬ hA h b) (hT : TH D h cz i g H) (hS : va_S (hA h) s.heap H locs) (hx3 : rg 0 3066 x3) (hL3 : x3.toInt + 6 ≤ (L : Int)) (hl : lv_has ls 4 [(3, .int x3), (2, .ref (h 96)), (1, .ref (h 0)), (0, .ref b)]) (hrel : rel74 i) (hE : ∀ (i : Nat → Nat → Int32) (g : Nat → Nat → Int64) (H : Heap) (locs : List Loc) (ls : Array Slot), Rg rA i → rel74 i → TH D h cz i g H → va_S (hA h) s.heap H locs → lv_has ls 4 [(3, .int x3), (2, .ref (h 96)), (1, .ref (h 0)), (0, .ref b)] → W p l e room_1 s m #[Value.ref b] below meth c H locs 600000 7302250 Q (F0 m 2196 ls [])) : W p l e room_1 s m #[Value.ref b] below meth c H locs 600000 7302250 Q (F0 m 998 ls []) := by
  have hx := X.1
  have hb := X.2.1
  refine lv_aload_n hx hb dL_law_998 rfl (lv_at hl 2 rfl) ?_
  refine e_Vi (As := []) (rest := []) X Y hT hS (m_X8_peak hR) mk_X8_peak gm_938 rfl rfl (by decide) hd_X8_peak ⟨rfl, rfl⟩ ⟨Nat.le_of_ble_eq_true rfl, Nat.le_of_ble_eq_true rfl⟩ hl.1 rfl (Nat.le_of_ble_eq_true rfl) dL_law_999 ⟨Nat.le_refl _, Nat.le_refl _⟩ (fun r1 i1 g1 H locs hq hT hS => ?_)
  obtain ⟨hR1, hf1, hr1⟩ := hq
  have hrel1_ : rel74 i1 := rel74_f hrel hf1 (by decide) (by decide) (by decide) (by decide)
  refine lv_pop hx hb dL_law_1002 rfl ?_
  refine lv_aload_n hx hb dL_law_1003 rfl (lv_at hl 1 rfl) ?_
  refine e_Vi (As := []) (rest := []) X Y hT hS (m_X9_peak hR1) mk_X9_peak gm_1842 rfl rfl (by decide) hd_X9_peak ⟨rfl, rfl⟩ ⟨Nat.le_of_ble_eq_true rfl, Nat.le_of_ble_eq_true rfl⟩ hl.1 rfl (Nat.le_of_ble_eq_true rfl) dL_law_1004 ⟨Nat.le_refl _, Nat.le_refl _⟩ (fun r2 i2 g2 H locs hq hT hS => ?_)
  obtain ⟨hR2, hf2, hr2⟩ := hq
  have hrel2_ : rel74 i2 := rel74_f hrel1_ hf2 (by decide) (by decide) (by decide) (by decide)
  refine lv_pop hx hb dL_law_1007 rfl ?_
  refine lv_goto (tgt := 2196) hx hb dL_law_1008 (by decide) ?_
  exact hE _ _ _ _ _ hR2 hrel2_ hT hS (lv_sub hl [0, 1, 2, 3] rfl)

set_option maxRecDepth 100000 in
set_option maxHeartbeats 4000000 in
theorem law_29 {p : Program} {l : Launch} {e : Env} {s : State} {m : MethodId} {below : List Frame} {meth : Method} {c : Code} {D : va_G} {cz : Nat → ClassId} {h : Nat → Nat} {z : EZ} {i : Nat → Nat → Int32} {g : Nat → Nat → Int64} {b L : Nat} {xs : Nat → Int32} {H : Heap} {locs : List Loc} {ls : Array Slot} {Q : State → Prop} {x3 : Int32} (X : Cxt p s m c #[Value.ref b] cL_law 4 "UncutTaleLaw" D cz) (Y : EV h z s s.heap) (hR : Rg rA i) (hX : va_X b L xs s s.heap) (hbl : b < s.heap.size) (hbA : ¬ hA h b) (hT : TH D h cz i g H) (hS : va_S (hA h) s.heap H locs) (hx3 : rg 0 3066 x3) (hL3 : x3.toInt + 6 ≤ (L : Int)) (hl : lv_has ls 4 [(3, .int x3), (2, .ref (h 96)), (1, .ref (h 0)), (0, .ref b)]) (hrel : rel74 i) (hE : ∀ (i : Nat → Nat → Int32) (g : Nat → Nat → Int64) (H : Heap) (locs : List Loc) (ls : Array Slot), Rg rA i → rel74 i → TH D h cz i g H → va_S (hA h) s.heap H locs → lv_has ls 4 [(3, .int x3), (2, .ref (h 96)), (1, .ref (h 0)), (0, .ref b)] → W p l e room_1 s m #[Value.ref b] below meth c H locs 600000 7302250 Q (F0 m 2196 ls [])) : W p l e room_1 s m #[Value.ref b] below meth c H locs 600000 7302250 Q (F0 m 1011 ls []) := by
  have hx := X.1
  have hb := X.2.1
  refine lv_aload_n hx hb dL_law_1011 rfl (lv_at hl 2 rfl) ?_
  refine e_Vi (As := []) (rest := []) X Y hT hS (m_X8_first hR) mk_X8_first gm_942 rfl rfl (by decide) hd_X8_first ⟨rfl, rfl⟩ ⟨Nat.le_of_ble_eq_true rfl, Nat.le_of_ble_eq_true rfl⟩ hl.1 rfl (Nat.le_of_ble_eq_true rfl) dL_law_1012 ⟨Nat.le_refl _, Nat.le_refl _⟩ (fun r1 i1 g1 H locs hq hT hS => ?_)
  obtain ⟨hR1, hf1, hr1⟩ := hq
  have hrel1_ : rel74 i1 := rel74_f hrel hf1 (by decide) (by decide) (by decide) (by decide)
  refine lv_pop hx hb dL_law_1015 rfl ?_
  refine lv_aload_n hx hb dL_law_1016 rfl (lv_at hl 1 rfl) ?_
  refine e_Vi (As := []) (rest := []) X Y hT hS (m_X9_first hR1) mk_X9_first gm_1846 rfl rfl (by decide) hd_X9_first ⟨rfl, rfl⟩ ⟨Nat.le_of_ble_eq_true rfl, Nat.le_of_ble_eq_true rfl⟩ hl.1 rfl (Nat.le_of_ble_eq_true rfl) dL_law_1017 ⟨Nat.le_refl _, Nat.le_refl _⟩ (fun r2 i2 g2 H locs hq hT hS => ?_)
  obtain ⟨hR2, hf2, hr2⟩ := hq
  have hrel2_ : rel74 i2 := rel74_f hrel1_ hf2 (by decide) (by decide) (by decide) (by decide)
  refine lv_pop hx hb dL_law_1020 rfl ?_
  refine lv_goto (tgt := 2196) hx hb dL_law_1021 (by decide) ?_
  exact hE _ _ _ _ _ hR2 hrel2_ hT hS (lv_sub hl [0, 1, 2, 3] rfl)

set_option maxRecDepth 100000 in
set_option maxHeartbeats 4000000 in
theorem law_30 {p : Program} {l : Launch} {e : Env} {s : State} {m : MethodId} {below : List Frame} {meth : Method} {c : Code} {D : va_G} {cz : Nat → ClassId} {h : Nat → Nat} {z : EZ} {i : Nat → Nat → Int32} {g : Nat → Nat → Int64} {b L : Nat} {xs : Nat → Int32} {H : Heap} {locs : List Loc} {ls : Array Slot} {Q : State → Prop} {x3 : Int32} (X : Cxt p s m c #[Value.ref b] cL_law 4 "UncutTaleLaw" D cz) (Y : EV h z s s.heap) (hR : Rg rA i) (hX : va_X b L xs s s.heap) (hbl : b < s.heap.size) (hbA : ¬ hA h b) (hT : TH D h cz i g H) (hS : va_S (hA h) s.heap H locs) (hx3 : rg 0 3066 x3) (hL3 : x3.toInt + 6 ≤ (L : Int)) (hl : lv_has ls 4 [(3, .int x3), (2, .ref (h 96)), (1, .ref (h 0)), (0, .ref b)]) (hrel : rel74 i) (hE : ∀ (i : Nat → Nat → Int32) (g : Nat → Nat → Int64) (H : Heap) (locs : List Loc) (ls : Array Slot), Rg rA i → rel74 i → TH D h cz i g H → va_S (hA h) s.heap H locs → lv_has ls 4 [(3, .int x3), (2, .ref (h 96)), (1, .ref (h 0)), (0, .ref b)] → W p l e room_1 s m #[Value.ref b] below meth c H locs 600000 7302250 Q (F0 m 2196 ls [])) : W p l e room_1 s m #[Value.ref b] below meth c H locs 600000 7302250 Q (F0 m 1024 ls []) := by
  have hx := X.1
  have hb := X.2.1
  refine lv_aload_n hx hb dL_law_1024 rfl (lv_at hl 2 rfl) ?_
  refine e_Vi (As := []) (rest := []) X Y hT hS (m_X8_quiet hR) mk_X8_quiet gm_946 rfl rfl (by decide) hd_X8_quiet ⟨rfl, rfl⟩ ⟨Nat.le_of_ble_eq_true rfl, Nat.le_of_ble_eq_true rfl⟩ hl.1 rfl (Nat.le_of_ble_eq_true rfl) dL_law_1025 ⟨Nat.le_refl _, Nat.le_refl _⟩ (fun r1 i1 g1 H locs hq hT hS => ?_)
  obtain ⟨hR1, hf1⟩ := hq
  have hrel1_ : rel74 i1 := rel74_f hrel hf1 (by decide) (by decide) (by decide) (by decide)
  refine lv_pop hx hb dL_law_1028 rfl ?_
  refine lv_aload_n hx hb dL_law_1029 rfl (lv_at hl 1 rfl) ?_
  refine e_Vi (As := []) (rest := []) X Y hT hS (m_X9_quiet hR1) mk_X9_quiet gm_1850 rfl rfl (by decide) hd_X9_quiet ⟨rfl, rfl⟩ ⟨Nat.le_of_ble_eq_true rfl, Nat.le_of_ble_eq_true rfl⟩ hl.1 rfl (Nat.le_of_ble_eq_true rfl) dL_law_1030 ⟨Nat.le_refl _, Nat.le_refl _⟩ (fun r2 i2 g2 H locs hq hT hS => ?_)
  obtain ⟨hR2, hf2⟩ := hq
  have hrel2_ : rel74 i2 := rel74_f hrel1_ hf2 (by decide) (by decide) (by decide) (by decide)
  refine lv_pop hx hb dL_law_1033 rfl ?_
  refine lv_goto (tgt := 2196) hx hb dL_law_1034 (by decide) ?_
  exact hE _ _ _ _ _ hR2 hrel2_ hT hS (lv_sub hl [0, 1, 2, 3] rfl)

set_option maxRecDepth 100000 in
set_option maxHeartbeats 4000000 in
theorem law_31 {p : Program} {l : Launch} {e : Env} {s : State} {m : MethodId} {below : List Frame} {meth : Method} {c : Code} {D : va_G} {cz : Nat → ClassId} {h : Nat → Nat} {z : EZ} {i : Nat → Nat → Int32} {g : Nat → Nat → Int64} {b L : Nat} {xs : Nat → Int32} {H : Heap} {locs : List Loc} {ls : Array Slot} {Q : State → Prop} {x3 : Int32} (X : Cxt p s m c #[Value.ref b] cL_law 4 "UncutTaleLaw" D cz) (Y : EV h z s s.heap) (hR : Rg rA i) (hX : va_X b L xs s s.heap) (hbl : b < s.heap.size) (hbA : ¬ hA h b) (hT : TH D h cz i g H) (hS : va_S (hA h) s.heap H locs) (hx3 : rg 0 3066 x3) (hL3 : x3.toInt + 6 ≤ (L : Int)) (hl : lv_has ls 4 [(3, .int x3), (2, .ref (h 96)), (1, .ref (h 0)), (0, .ref b)]) (hrel : rel74 i) (hE : ∀ (i : Nat → Nat → Int32) (g : Nat → Nat → Int64) (H : Heap) (locs : List Loc) (ls : Array Slot), Rg rA i → rel74 i → TH D h cz i g H → va_S (hA h) s.heap H locs → lv_has ls 4 [(3, .int x3), (2, .ref (h 96)), (1, .ref (h 0)), (0, .ref b)] → W p l e room_1 s m #[Value.ref b] below meth c H locs 600000 7302250 Q (F0 m 2196 ls [])) : W p l e room_1 s m #[Value.ref b] below meth c H locs 600000 7302250 Q (F0 m 1037 ls []) := by
  have hx := X.1
  have hb := X.2.1
  refine lv_aload_n hx hb dL_law_1037 rfl (lv_at hl 2 rfl) ?_
  refine lv_aload_n hx hb dL_law_1038 rfl (lv_at hl 3 rfl) ?_
  refine lv_iload_n hx hb dL_law_1039 rfl (lv_at hl 0 rfl) ?_
  refine lv_iconst (v := 1) hx hb dL_law_1040 (by decide) ?_
  refine lv_iadd hx hb dL_law_1041 ?_
  refine va_sld hx hb hX hbl hbA hS (i := (x3 + 1)) (sl_in 1 hx3 hL3 (by decide)) dL_law_1042 ?_
  refine e_Vi (As := [.int (xs (Int32.toNatClampNeg (x3 + 1)))]) (rest := []) X Y hT hS (m_X8_lone hR (xs (Int32.toNatClampNeg (x3 + 1)))) mk_X8_lone gm_877 rfl rfl (by decide) hd_X8_lone ⟨rfl, rfl⟩ ⟨Nat.le_of_ble_eq_true rfl, Nat.le_of_ble_eq_true rfl⟩ hl.1 rfl (Nat.le_of_ble_eq_true rfl) dL_law_1043 ⟨Nat.le_refl _, Nat.le_refl _⟩ (fun r1 i1 g1 H locs hq hT hS => ?_)
  obtain ⟨hR1, hf1, hr1⟩ := hq
  have hrel1_ : rel74 i1 := rel74_f hrel hf1 (by decide) (by decide) (by decide) (by decide)
  refine lv_pop hx hb dL_law_1046 rfl ?_
  refine lv_aload_n hx hb dL_law_1047 rfl (lv_at hl 1 rfl) ?_
  refine lv_aload_n hx hb dL_law_1048 rfl (lv_at hl 3 rfl) ?_
  refine lv_iload_n hx hb dL_law_1049 rfl (lv_at hl 0 rfl) ?_
  refine lv_iconst (v := 1) hx hb dL_law_1050 (by decide) ?_
  refine lv_iadd hx hb dL_law_1051 ?_
  refine va_sld hx hb hX hbl hbA hS (i := (x3 + 1)) (sl_in 1 hx3 hL3 (by decide)) dL_law_1052 ?_
  refine e_Vi (As := [.int (xs (Int32.toNatClampNeg (x3 + 1)))]) (rest := []) X Y hT hS (m_X9_lone hR1 (xs (Int32.toNatClampNeg (x3 + 1)))) mk_X9_lone gm_1854 rfl rfl (by decide) hd_X9_lone ⟨rfl, rfl⟩ ⟨Nat.le_of_ble_eq_true rfl, Nat.le_of_ble_eq_true rfl⟩ hl.1 rfl (Nat.le_of_ble_eq_true rfl) dL_law_1053 ⟨Nat.le_refl _, Nat.le_refl _⟩ (fun r2 i2 g2 H locs hq hT hS => ?_)
  obtain ⟨hR2, hf2, hr2⟩ := hq
  have hrel2_ : rel74 i2 := rel74_f hrel1_ hf2 (by decide) (by decide) (by decide) (by decide)
  refine lv_pop hx hb dL_law_1056 rfl ?_
  refine lv_goto (tgt := 2196) hx hb dL_law_1057 (by decide) ?_
  exact hE _ _ _ _ _ hR2 hrel2_ hT hS (lv_sub hl [0, 1, 2, 3] rfl)

set_option maxRecDepth 100000 in
set_option maxHeartbeats 4000000 in
theorem law_32 {p : Program} {l : Launch} {e : Env} {s : State} {m : MethodId} {below : List Frame} {meth : Method} {c : Code} {D : va_G} {cz : Nat → ClassId} {h : Nat → Nat} {z : EZ} {i : Nat → Nat → Int32} {g : Nat → Nat → Int64} {b L : Nat} {xs : Nat → Int32} {H : Heap} {locs : List Loc} {ls : Array Slot} {Q : State → Prop} {x3 : Int32} (X : Cxt p s m c #[Value.ref b] cL_law 4 "UncutTaleLaw" D cz) (Y : EV h z s s.heap) (hR : Rg rA i) (hX : va_X b L xs s s.heap) (hbl : b < s.heap.size) (hbA : ¬ hA h b) (hT : TH D h cz i g H) (hS : va_S (hA h) s.heap H locs) (hx3 : rg 0 3066 x3) (hL3 : x3.toInt + 6 ≤ (L : Int)) (hl : lv_has ls 4 [(3, .int x3), (2, .ref (h 96)), (1, .ref (h 0)), (0, .ref b)]) (hrel : rel74 i) (hE : ∀ (i : Nat → Nat → Int32) (g : Nat → Nat → Int64) (H : Heap) (locs : List Loc) (ls : Array Slot), Rg rA i → rel74 i → TH D h cz i g H → va_S (hA h) s.heap H locs → lv_has ls 4 [(3, .int x3), (2, .ref (h 96)), (1, .ref (h 0)), (0, .ref b)] → W p l e room_1 s m #[Value.ref b] below meth c H locs 600000 7302250 Q (F0 m 2196 ls [])) : W p l e room_1 s m #[Value.ref b] below meth c H locs 600000 7302250 Q (F0 m 1060 ls []) := by
  have hx := X.1
  have hb := X.2.1
  refine lv_aload_n hx hb dL_law_1060 rfl (lv_at hl 2 rfl) ?_
  refine lv_aload_n hx hb dL_law_1061 rfl (lv_at hl 3 rfl) ?_
  refine lv_iload_n hx hb dL_law_1062 rfl (lv_at hl 0 rfl) ?_
  refine lv_iconst (v := 1) hx hb dL_law_1063 (by decide) ?_
  refine lv_iadd hx hb dL_law_1064 ?_
  refine va_sld hx hb hX hbl hbA hS (i := (x3 + 1)) (sl_in 1 hx3 hL3 (by decide)) dL_law_1065 ?_
  refine e_Vi (As := [.int (xs (Int32.toNatClampNeg (x3 + 1)))]) (rest := []) X Y hT hS (m_X8_stalest hR (xs (Int32.toNatClampNeg (x3 + 1)))) mk_X8_stalest gm_881 rfl rfl (by decide) hd_X8_stalest ⟨rfl, rfl⟩ ⟨Nat.le_of_ble_eq_true rfl, Nat.le_of_ble_eq_true rfl⟩ hl.1 rfl (Nat.le_of_ble_eq_true rfl) dL_law_1066 ⟨Nat.le_refl _, Nat.le_refl _⟩ (fun r1 i1 g1 H locs hq hT hS => ?_)
  obtain ⟨hR1, hf1, hr1⟩ := hq
  have hrel1_ : rel74 i1 := rel74_f hrel hf1 (by decide) (by decide) (by decide) (by decide)
  refine lv_pop hx hb dL_law_1069 rfl ?_
  refine lv_aload_n hx hb dL_law_1070 rfl (lv_at hl 1 rfl) ?_
  refine lv_aload_n hx hb dL_law_1071 rfl (lv_at hl 3 rfl) ?_
  refine lv_iload_n hx hb dL_law_1072 rfl (lv_at hl 0 rfl) ?_
  refine lv_iconst (v := 1) hx hb dL_law_1073 (by decide) ?_
  refine lv_iadd hx hb dL_law_1074 ?_
  refine va_sld hx hb hX hbl hbA hS (i := (x3 + 1)) (sl_in 1 hx3 hL3 (by decide)) dL_law_1075 ?_
  refine e_Vi (As := [.int (xs (Int32.toNatClampNeg (x3 + 1)))]) (rest := []) X Y hT hS (m_X9_stalest hR1 (xs (Int32.toNatClampNeg (x3 + 1)))) mk_X9_stalest gm_1858 rfl rfl (by decide) hd_X9_stalest ⟨rfl, rfl⟩ ⟨Nat.le_of_ble_eq_true rfl, Nat.le_of_ble_eq_true rfl⟩ hl.1 rfl (Nat.le_of_ble_eq_true rfl) dL_law_1076 ⟨Nat.le_refl _, Nat.le_refl _⟩ (fun r2 i2 g2 H locs hq hT hS => ?_)
  obtain ⟨hR2, hf2, hr2⟩ := hq
  have hrel2_ : rel74 i2 := rel74_f hrel1_ hf2 (by decide) (by decide) (by decide) (by decide)
  refine lv_pop hx hb dL_law_1079 rfl ?_
  refine lv_goto (tgt := 2196) hx hb dL_law_1080 (by decide) ?_
  exact hE _ _ _ _ _ hR2 hrel2_ hT hS (lv_sub hl [0, 1, 2, 3] rfl)

set_option maxRecDepth 100000 in
set_option maxHeartbeats 4000000 in
theorem law_33 {p : Program} {l : Launch} {e : Env} {s : State} {m : MethodId} {below : List Frame} {meth : Method} {c : Code} {D : va_G} {cz : Nat → ClassId} {h : Nat → Nat} {z : EZ} {i : Nat → Nat → Int32} {g : Nat → Nat → Int64} {b L : Nat} {xs : Nat → Int32} {H : Heap} {locs : List Loc} {ls : Array Slot} {Q : State → Prop} {x3 : Int32} (X : Cxt p s m c #[Value.ref b] cL_law 4 "UncutTaleLaw" D cz) (Y : EV h z s s.heap) (hR : Rg rA i) (hX : va_X b L xs s s.heap) (hbl : b < s.heap.size) (hbA : ¬ hA h b) (hT : TH D h cz i g H) (hS : va_S (hA h) s.heap H locs) (hx3 : rg 0 3066 x3) (hL3 : x3.toInt + 6 ≤ (L : Int)) (hl : lv_has ls 4 [(3, .int x3), (2, .ref (h 96)), (1, .ref (h 0)), (0, .ref b)]) (hrel : rel74 i) (hE : ∀ (i : Nat → Nat → Int32) (g : Nat → Nat → Int64) (H : Heap) (locs : List Loc) (ls : Array Slot), Rg rA i → rel74 i → TH D h cz i g H → va_S (hA h) s.heap H locs → lv_has ls 4 [(3, .int x3), (2, .ref (h 96)), (1, .ref (h 0)), (0, .ref b)] → W p l e room_1 s m #[Value.ref b] below meth c H locs 600000 7302250 Q (F0 m 2196 ls [])) : W p l e room_1 s m #[Value.ref b] below meth c H locs 600000 7302250 Q (F0 m 1083 ls []) := by
  have hx := X.1
  have hb := X.2.1
  refine lv_aload_n hx hb dL_law_1083 rfl (lv_at hl 2 rfl) ?_
  refine e_Vi (As := []) (rest := []) X Y hT hS (m_X8_pieces hR) mk_X8_pieces gm_694 rfl rfl (by decide) hd_X8_pieces ⟨rfl, rfl⟩ ⟨Nat.le_of_ble_eq_true rfl, Nat.le_of_ble_eq_true rfl⟩ hl.1 rfl (Nat.le_of_ble_eq_true rfl) dL_law_1084 ⟨Nat.le_refl _, Nat.le_refl _⟩ (fun r1 i1 g1 H locs hq hT hS => ?_)
  have eh1 := hq
  rw [(Prod.mk.inj eh1).1, (Prod.mk.inj eh1).2] at hT
  refine lv_pop hx hb dL_law_1087 rfl ?_
  refine lv_aload_n hx hb dL_law_1088 rfl (lv_at hl 1 rfl) ?_
  refine e_Vi (As := []) (rest := []) X Y hT hS (m_X9_pieces hR) mk_X9_pieces gm_1862 rfl rfl (by decide) hd_X9_pieces ⟨rfl, rfl⟩ ⟨Nat.le_of_ble_eq_true rfl, Nat.le_of_ble_eq_true rfl⟩ hl.1 rfl (Nat.le_of_ble_eq_true rfl) dL_law_1089 ⟨Nat.le_refl _, Nat.le_refl _⟩ (fun r2 i2 g2 H locs hq hT hS => ?_)
  obtain ⟨hR2, hf2⟩ := hq
  have hrel2_ : rel74 i2 := rel74_f hrel hf2 (by decide) (by decide) (by decide) (by decide)
  refine lv_pop hx hb dL_law_1092 rfl ?_
  refine lv_goto (tgt := 2196) hx hb dL_law_1093 (by decide) ?_
  exact hE _ _ _ _ _ hR2 hrel2_ hT hS (lv_sub hl [0, 1, 2, 3] rfl)

set_option maxRecDepth 100000 in
set_option maxHeartbeats 4000000 in
theorem law_34 {p : Program} {l : Launch} {e : Env} {s : State} {m : MethodId} {below : List Frame} {meth : Method} {c : Code} {D : va_G} {cz : Nat → ClassId} {h : Nat → Nat} {z : EZ} {i : Nat → Nat → Int32} {g : Nat → Nat → Int64} {b L : Nat} {xs : Nat → Int32} {H : Heap} {locs : List Loc} {ls : Array Slot} {Q : State → Prop} {x3 : Int32} (X : Cxt p s m c #[Value.ref b] cL_law 4 "UncutTaleLaw" D cz) (Y : EV h z s s.heap) (hR : Rg rA i) (hX : va_X b L xs s s.heap) (hbl : b < s.heap.size) (hbA : ¬ hA h b) (hT : TH D h cz i g H) (hS : va_S (hA h) s.heap H locs) (hx3 : rg 0 3066 x3) (hL3 : x3.toInt + 6 ≤ (L : Int)) (hl : lv_has ls 4 [(3, .int x3), (2, .ref (h 96)), (1, .ref (h 0)), (0, .ref b)]) (hrel : rel74 i) (hE : ∀ (i : Nat → Nat → Int32) (g : Nat → Nat → Int64) (H : Heap) (locs : List Loc) (ls : Array Slot), Rg rA i → rel74 i → TH D h cz i g H → va_S (hA h) s.heap H locs → lv_has ls 4 [(3, .int x3), (2, .ref (h 96)), (1, .ref (h 0)), (0, .ref b)] → W p l e room_1 s m #[Value.ref b] below meth c H locs 600000 7302250 Q (F0 m 2196 ls [])) : W p l e room_1 s m #[Value.ref b] below meth c H locs 600000 7302250 Q (F0 m 1096 ls []) := by
  have hx := X.1
  have hb := X.2.1
  refine lv_aload_n hx hb dL_law_1096 rfl (lv_at hl 2 rfl) ?_
  refine e_Vi (As := []) (rest := []) X Y hT hS (m_X8_lost hR) mk_X8_lost gm_950 rfl rfl (by decide) hd_X8_lost ⟨rfl, rfl⟩ ⟨Nat.le_of_ble_eq_true rfl, Nat.le_of_ble_eq_true rfl⟩ hl.1 rfl (Nat.le_of_ble_eq_true rfl) dL_law_1097 ⟨Nat.le_refl _, Nat.le_refl _⟩ (fun r1 i1 g1 H locs hq hT hS => ?_)
  obtain ⟨hR1, hf1⟩ := hq
  have hrel1_ : rel74 i1 := rel74_f hrel hf1 (by decide) (by decide) (by decide) (by decide)
  refine lv_pop hx hb dL_law_1100 rfl ?_
  refine lv_aload_n hx hb dL_law_1101 rfl (lv_at hl 1 rfl) ?_
  refine e_Vi (As := []) (rest := []) X Y hT hS (m_X9_lost hR1) mk_X9_lost gm_1866 rfl rfl (by decide) hd_X9_lost ⟨rfl, rfl⟩ ⟨Nat.le_of_ble_eq_true rfl, Nat.le_of_ble_eq_true rfl⟩ hl.1 rfl (Nat.le_of_ble_eq_true rfl) dL_law_1102 ⟨Nat.le_refl _, Nat.le_refl _⟩ (fun r2 i2 g2 H locs hq hT hS => ?_)
  obtain ⟨hR2, hf2⟩ := hq
  have hrel2_ : rel74 i2 := rel74_f hrel1_ hf2 (by decide) (by decide) (by decide) (by decide)
  refine lv_pop hx hb dL_law_1105 rfl ?_
  refine lv_goto (tgt := 2196) hx hb dL_law_1106 (by decide) ?_
  exact hE _ _ _ _ _ hR2 hrel2_ hT hS (lv_sub hl [0, 1, 2, 3] rfl)

set_option maxRecDepth 100000 in
set_option maxHeartbeats 4000000 in
theorem law_35 {p : Program} {l : Launch} {e : Env} {s : State} {m : MethodId} {below : List Frame} {meth : Method} {c : Code} {D : va_G} {cz : Nat → ClassId} {h : Nat → Nat} {z : EZ} {i : Nat → Nat → Int32} {g : Nat → Nat → Int64} {b L : Nat} {xs : Nat → Int32} {H : Heap} {locs : List Loc} {ls : Array Slot} {Q : State → Prop} {x3 : Int32} (X : Cxt p s m c #[Value.ref b] cL_law 4 "UncutTaleLaw" D cz) (Y : EV h z s s.heap) (hR : Rg rA i) (hX : va_X b L xs s s.heap) (hbl : b < s.heap.size) (hbA : ¬ hA h b) (hT : TH D h cz i g H) (hS : va_S (hA h) s.heap H locs) (hx3 : rg 0 3066 x3) (hL3 : x3.toInt + 6 ≤ (L : Int)) (hl : lv_has ls 4 [(3, .int x3), (2, .ref (h 96)), (1, .ref (h 0)), (0, .ref b)]) (hrel : rel74 i) (hE : ∀ (i : Nat → Nat → Int32) (g : Nat → Nat → Int64) (H : Heap) (locs : List Loc) (ls : Array Slot), Rg rA i → rel74 i → TH D h cz i g H → va_S (hA h) s.heap H locs → lv_has ls 4 [(3, .int x3), (2, .ref (h 96)), (1, .ref (h 0)), (0, .ref b)] → W p l e room_1 s m #[Value.ref b] below meth c H locs 600000 7302250 Q (F0 m 2196 ls [])) : W p l e room_1 s m #[Value.ref b] below meth c H locs 600000 7302250 Q (F0 m 1109 ls []) := by
  have hx := X.1
  have hb := X.2.1
  refine lv_aload_n hx hb dL_law_1109 rfl (lv_at hl 2 rfl) ?_
  refine lv_aload_n hx hb dL_law_1110 rfl (lv_at hl 3 rfl) ?_
  refine lv_iload_n hx hb dL_law_1111 rfl (lv_at hl 0 rfl) ?_
  refine lv_iconst (v := 1) hx hb dL_law_1112 (by decide) ?_
  refine lv_iadd hx hb dL_law_1113 ?_
  refine va_sld hx hb hX hbl hbA hS (i := (x3 + 1)) (sl_in 1 hx3 hL3 (by decide)) dL_law_1114 ?_
  refine e_Vi (As := [.int (xs (Int32.toNatClampNeg (x3 + 1)))]) (rest := []) X Y hT hS (m_X8_knives hR (xs (Int32.toNatClampNeg (x3 + 1)))) mk_X8_knives gm_707 rfl rfl (by decide) hd_X8_knives ⟨rfl, rfl⟩ ⟨Nat.le_of_ble_eq_true rfl, Nat.le_of_ble_eq_true rfl⟩ hl.1 rfl (Nat.le_of_ble_eq_true rfl) dL_law_1115 ⟨Nat.le_refl _, Nat.le_refl _⟩ (fun r1 i1 g1 H locs hq hT hS => ?_)
  obtain ⟨eh1, hr1⟩ := hq
  rw [(Prod.mk.inj eh1).1, (Prod.mk.inj eh1).2] at hT
  refine lv_pop hx hb dL_law_1118 rfl ?_
  refine lv_aload_n hx hb dL_law_1119 rfl (lv_at hl 1 rfl) ?_
  refine lv_aload_n hx hb dL_law_1120 rfl (lv_at hl 3 rfl) ?_
  refine lv_iload_n hx hb dL_law_1121 rfl (lv_at hl 0 rfl) ?_
  refine lv_iconst (v := 1) hx hb dL_law_1122 (by decide) ?_
  refine lv_iadd hx hb dL_law_1123 ?_
  refine va_sld hx hb hX hbl hbA hS (i := (x3 + 1)) (sl_in 1 hx3 hL3 (by decide)) dL_law_1124 ?_
  refine e_Vi (As := [.int (xs (Int32.toNatClampNeg (x3 + 1)))]) (rest := []) X Y hT hS (m_X9_knives hR (xs (Int32.toNatClampNeg (x3 + 1)))) mk_X9_knives gm_1870 rfl rfl (by decide) hd_X9_knives ⟨rfl, rfl⟩ ⟨Nat.le_of_ble_eq_true rfl, Nat.le_of_ble_eq_true rfl⟩ hl.1 rfl (Nat.le_of_ble_eq_true rfl) dL_law_1125 ⟨Nat.le_refl _, Nat.le_refl _⟩ (fun r2 i2 g2 H locs hq hT hS => ?_)
  obtain ⟨hR2, hf2, hr2⟩ := hq
  have hrel2_ : rel74 i2 := rel74_f hrel hf2 (by decide) (by decide) (by decide) (by decide)
  refine lv_pop hx hb dL_law_1128 rfl ?_
  refine lv_goto (tgt := 2196) hx hb dL_law_1129 (by decide) ?_
  exact hE _ _ _ _ _ hR2 hrel2_ hT hS (lv_sub hl [0, 1, 2, 3] rfl)

set_option maxRecDepth 100000 in
set_option maxHeartbeats 4000000 in
theorem law_36 {p : Program} {l : Launch} {e : Env} {s : State} {m : MethodId} {below : List Frame} {meth : Method} {c : Code} {D : va_G} {cz : Nat → ClassId} {h : Nat → Nat} {z : EZ} {i : Nat → Nat → Int32} {g : Nat → Nat → Int64} {b L : Nat} {xs : Nat → Int32} {H : Heap} {locs : List Loc} {ls : Array Slot} {Q : State → Prop} {x3 : Int32} (X : Cxt p s m c #[Value.ref b] cL_law 4 "UncutTaleLaw" D cz) (Y : EV h z s s.heap) (hR : Rg rA i) (hX : va_X b L xs s s.heap) (hbl : b < s.heap.size) (hbA : ¬ hA h b) (hT : TH D h cz i g H) (hS : va_S (hA h) s.heap H locs) (hx3 : rg 0 3066 x3) (hL3 : x3.toInt + 6 ≤ (L : Int)) (hl : lv_has ls 4 [(3, .int x3), (2, .ref (h 96)), (1, .ref (h 0)), (0, .ref b)]) (hrel : rel74 i) (hE : ∀ (i : Nat → Nat → Int32) (g : Nat → Nat → Int64) (H : Heap) (locs : List Loc) (ls : Array Slot), Rg rA i → rel74 i → TH D h cz i g H → va_S (hA h) s.heap H locs → lv_has ls 4 [(3, .int x3), (2, .ref (h 96)), (1, .ref (h 0)), (0, .ref b)] → W p l e room_1 s m #[Value.ref b] below meth c H locs 600000 7302250 Q (F0 m 2196 ls [])) : W p l e room_1 s m #[Value.ref b] below meth c H locs 600000 7302250 Q (F0 m 1132 ls []) := by
  have hx := X.1
  have hb := X.2.1
  refine lv_aload_n hx hb dL_law_1132 rfl (lv_at hl 2 rfl) ?_
  refine e_Vi (As := []) (rest := []) X Y hT hS (m_X8_idle hR) mk_X8_idle gm_901 rfl rfl (by decide) hd_X8_idle ⟨rfl, rfl⟩ ⟨Nat.le_of_ble_eq_true rfl, Nat.le_of_ble_eq_true rfl⟩ hl.1 rfl (Nat.le_of_ble_eq_true rfl) dL_law_1133 ⟨Nat.le_refl _, Nat.le_refl _⟩ (fun r1 i1 g1 H locs hq hT hS => ?_)
  obtain ⟨hR1, hf1, hr1⟩ := hq
  have hrel1_ : rel74 i1 := rel74_f hrel hf1 (by decide) (by decide) (by decide) (by decide)
  refine lv_pop hx hb dL_law_1136 rfl ?_
  refine lv_aload_n hx hb dL_law_1137 rfl (lv_at hl 1 rfl) ?_
  refine e_Vi (As := []) (rest := []) X Y hT hS (m_X9_idle hR1) mk_X9_idle gm_1874 rfl rfl (by decide) hd_X9_idle ⟨rfl, rfl⟩ ⟨Nat.le_of_ble_eq_true rfl, Nat.le_of_ble_eq_true rfl⟩ hl.1 rfl (Nat.le_of_ble_eq_true rfl) dL_law_1138 ⟨Nat.le_refl _, Nat.le_refl _⟩ (fun r2 i2 g2 H locs hq hT hS => ?_)
  obtain ⟨hR2, hf2, hr2⟩ := hq
  have hrel2_ : rel74 i2 := rel74_f hrel1_ hf2 (by decide) (by decide) (by decide) (by decide)
  refine lv_pop hx hb dL_law_1141 rfl ?_
  refine lv_goto (tgt := 2196) hx hb dL_law_1142 (by decide) ?_
  exact hE _ _ _ _ _ hR2 hrel2_ hT hS (lv_sub hl [0, 1, 2, 3] rfl)

set_option maxRecDepth 100000 in
set_option maxHeartbeats 4000000 in
theorem law_37 {p : Program} {l : Launch} {e : Env} {s : State} {m : MethodId} {below : List Frame} {meth : Method} {c : Code} {D : va_G} {cz : Nat → ClassId} {h : Nat → Nat} {z : EZ} {i : Nat → Nat → Int32} {g : Nat → Nat → Int64} {b L : Nat} {xs : Nat → Int32} {H : Heap} {locs : List Loc} {ls : Array Slot} {Q : State → Prop} {x3 : Int32} (X : Cxt p s m c #[Value.ref b] cL_law 4 "UncutTaleLaw" D cz) (Y : EV h z s s.heap) (hR : Rg rA i) (hX : va_X b L xs s s.heap) (hbl : b < s.heap.size) (hbA : ¬ hA h b) (hT : TH D h cz i g H) (hS : va_S (hA h) s.heap H locs) (hx3 : rg 0 3066 x3) (hL3 : x3.toInt + 6 ≤ (L : Int)) (hl : lv_has ls 4 [(3, .int x3), (2, .ref (h 96)), (1, .ref (h 0)), (0, .ref b)]) (hrel : rel74 i) (hE : ∀ (i : Nat → Nat → Int32) (g : Nat → Nat → Int64) (H : Heap) (locs : List Loc) (ls : Array Slot), Rg rA i → rel74 i → TH D h cz i g H → va_S (hA h) s.heap H locs → lv_has ls 4 [(3, .int x3), (2, .ref (h 96)), (1, .ref (h 0)), (0, .ref b)] → W p l e room_1 s m #[Value.ref b] below meth c H locs 600000 7302250 Q (F0 m 2196 ls [])) : W p l e room_1 s m #[Value.ref b] below meth c H locs 600000 7302250 Q (F0 m 1145 ls []) := by
  have hx := X.1
  have hb := X.2.1
  refine lv_aload_n hx hb dL_law_1145 rfl (lv_at hl 2 rfl) ?_
  refine e_Vi (As := []) (rest := []) X Y hT hS (m_X8_few hR) mk_X8_few gm_954 rfl rfl (by decide) hd_X8_few ⟨rfl, rfl⟩ ⟨Nat.le_of_ble_eq_true rfl, Nat.le_of_ble_eq_true rfl⟩ hl.1 rfl (Nat.le_of_ble_eq_true rfl) dL_law_1146 ⟨Nat.le_refl _, Nat.le_refl _⟩ (fun r1 i1 g1 H locs hq hT hS => ?_)
  obtain ⟨hR1, hf1, hr1⟩ := hq
  have hrel1_ : rel74 i1 := rel74_f hrel hf1 (by decide) (by decide) (by decide) (by decide)
  refine lv_pop hx hb dL_law_1149 rfl ?_
  refine lv_aload_n hx hb dL_law_1150 rfl (lv_at hl 1 rfl) ?_
  refine e_Vi (As := []) (rest := []) X Y hT hS (m_X9_few hR1) mk_X9_few gm_1878 rfl rfl (by decide) hd_X9_few ⟨rfl, rfl⟩ ⟨Nat.le_of_ble_eq_true rfl, Nat.le_of_ble_eq_true rfl⟩ hl.1 rfl (Nat.le_of_ble_eq_true rfl) dL_law_1151 ⟨Nat.le_refl _, Nat.le_refl _⟩ (fun r2 i2 g2 H locs hq hT hS => ?_)
  obtain ⟨hR2, hf2, hr2⟩ := hq
  have hrel2_ : rel74 i2 := rel74_f hrel1_ hf2 (by decide) (by decide) (by decide) (by decide)
  refine lv_pop hx hb dL_law_1154 rfl ?_
  refine lv_goto (tgt := 2196) hx hb dL_law_1155 (by decide) ?_
  exact hE _ _ _ _ _ hR2 hrel2_ hT hS (lv_sub hl [0, 1, 2, 3] rfl)

set_option maxRecDepth 100000 in
set_option maxHeartbeats 4000000 in
theorem law_38 {p : Program} {l : Launch} {e : Env} {s : State} {m : MethodId} {below : List Frame} {meth : Method} {c : Code} {D : va_G} {cz : Nat → ClassId} {h : Nat → Nat} {z : EZ} {i : Nat → Nat → Int32} {g : Nat → Nat → Int64} {b L : Nat} {xs : Nat → Int32} {H : Heap} {locs : List Loc} {ls : Array Slot} {Q : State → Prop} {x3 : Int32} (X : Cxt p s m c #[Value.ref b] cL_law 4 "UncutTaleLaw" D cz) (Y : EV h z s s.heap) (hR : Rg rA i) (hX : va_X b L xs s s.heap) (hbl : b < s.heap.size) (hbA : ¬ hA h b) (hT : TH D h cz i g H) (hS : va_S (hA h) s.heap H locs) (hx3 : rg 0 3066 x3) (hL3 : x3.toInt + 6 ≤ (L : Int)) (hl : lv_has ls 4 [(3, .int x3), (2, .ref (h 96)), (1, .ref (h 0)), (0, .ref b)]) (hrel : rel74 i) (hE : ∀ (i : Nat → Nat → Int32) (g : Nat → Nat → Int64) (H : Heap) (locs : List Loc) (ls : Array Slot), Rg rA i → rel74 i → TH D h cz i g H → va_S (hA h) s.heap H locs → lv_has ls 4 [(3, .int x3), (2, .ref (h 96)), (1, .ref (h 0)), (0, .ref b)] → W p l e room_1 s m #[Value.ref b] below meth c H locs 600000 7302250 Q (F0 m 2196 ls [])) : W p l e room_1 s m #[Value.ref b] below meth c H locs 600000 7302250 Q (F0 m 1158 ls []) := by
  have hx := X.1
  have hb := X.2.1
  refine lv_aload_n hx hb dL_law_1158 rfl (lv_at hl 2 rfl) ?_
  refine e_Vi (As := []) (rest := []) X Y hT hS (m_X8_fews hR) mk_X8_fews gm_963 rfl rfl (by decide) hd_X8_fews ⟨rfl, rfl⟩ ⟨Nat.le_of_ble_eq_true rfl, Nat.le_of_ble_eq_true rfl⟩ hl.1 rfl (Nat.le_of_ble_eq_true rfl) dL_law_1159 ⟨Nat.le_refl _, Nat.le_refl _⟩ (fun r1 i1 g1 H locs hq hT hS => ?_)
  obtain ⟨hR1, hf1, hr1⟩ := hq
  have hrel1_ : rel74 i1 := rel74_f hrel hf1 (by decide) (by decide) (by decide) (by decide)
  refine lv_pop hx hb dL_law_1162 rfl ?_
  refine lv_aload_n hx hb dL_law_1163 rfl (lv_at hl 1 rfl) ?_
  refine e_Vi (As := []) (rest := []) X Y hT hS (m_X9_fews hR1) mk_X9_fews gm_1890 rfl rfl (by decide) hd_X9_fews ⟨rfl, rfl⟩ ⟨Nat.le_of_ble_eq_true rfl, Nat.le_of_ble_eq_true rfl⟩ hl.1 rfl (Nat.le_of_ble_eq_true rfl) dL_law_1164 ⟨Nat.le_refl _, Nat.le_refl _⟩ (fun r2 i2 g2 H locs hq hT hS => ?_)
  obtain ⟨hR2, hf2, hr2⟩ := hq
  have hrel2_ : rel74 i2 := rel74_f hrel1_ hf2 (by decide) (by decide) (by decide) (by decide)
  refine lv_pop hx hb dL_law_1167 rfl ?_
  refine lv_goto (tgt := 2196) hx hb dL_law_1168 (by decide) ?_
  exact hE _ _ _ _ _ hR2 hrel2_ hT hS (lv_sub hl [0, 1, 2, 3] rfl)

set_option maxRecDepth 100000 in
set_option maxHeartbeats 4000000 in
theorem law_39 {p : Program} {l : Launch} {e : Env} {s : State} {m : MethodId} {below : List Frame} {meth : Method} {c : Code} {D : va_G} {cz : Nat → ClassId} {h : Nat → Nat} {z : EZ} {i : Nat → Nat → Int32} {g : Nat → Nat → Int64} {b L : Nat} {xs : Nat → Int32} {H : Heap} {locs : List Loc} {ls : Array Slot} {Q : State → Prop} {x3 : Int32} (X : Cxt p s m c #[Value.ref b] cL_law 4 "UncutTaleLaw" D cz) (Y : EV h z s s.heap) (hR : Rg rA i) (hX : va_X b L xs s s.heap) (hbl : b < s.heap.size) (hbA : ¬ hA h b) (hT : TH D h cz i g H) (hS : va_S (hA h) s.heap H locs) (hx3 : rg 0 3066 x3) (hL3 : x3.toInt + 6 ≤ (L : Int)) (hl : lv_has ls 4 [(3, .int x3), (2, .ref (h 96)), (1, .ref (h 0)), (0, .ref b)]) (hrel : rel74 i) (hE : ∀ (i : Nat → Nat → Int32) (g : Nat → Nat → Int64) (H : Heap) (locs : List Loc) (ls : Array Slot), Rg rA i → rel74 i → TH D h cz i g H → va_S (hA h) s.heap H locs → lv_has ls 4 [(3, .int x3), (2, .ref (h 96)), (1, .ref (h 0)), (0, .ref b)] → W p l e room_1 s m #[Value.ref b] below meth c H locs 600000 7302250 Q (F0 m 2196 ls [])) : W p l e room_1 s m #[Value.ref b] below meth c H locs 600000 7302250 Q (F0 m 1171 ls []) := by
  have hx := X.1
  have hb := X.2.1
  refine lv_aload_n hx hb dL_law_1171 rfl (lv_at hl 2 rfl) ?_
  refine lv_aload_n hx hb dL_law_1172 rfl (lv_at hl 3 rfl) ?_
  refine lv_iload_n hx hb dL_law_1173 rfl (lv_at hl 0 rfl) ?_
  refine lv_iconst (v := 1) hx hb dL_law_1174 (by decide) ?_
  refine lv_iadd hx hb dL_law_1175 ?_
  refine va_sld hx hb hX hbl hbA hS (i := (x3 + 1)) (sl_in 1 hx3 hL3 (by decide)) dL_law_1176 ?_
  refine e_Vi (As := [.int (xs (Int32.toNatClampNeg (x3 + 1)))]) (rest := []) X Y hT hS (m_X8_worth hR (xs (Int32.toNatClampNeg (x3 + 1)))) mk_X8_worth gm_967 rfl rfl (by decide) hd_X8_worth ⟨rfl, rfl⟩ ⟨Nat.le_of_ble_eq_true rfl, Nat.le_of_ble_eq_true rfl⟩ hl.1 rfl (Nat.le_of_ble_eq_true rfl) dL_law_1177 ⟨Nat.le_refl _, Nat.le_refl _⟩ (fun r1 i1 g1 H locs hq hT hS => ?_)
  obtain ⟨hR1, hf1⟩ := hq
  have hrel1_ : rel74 i1 := rel74_f hrel hf1 (by decide) (by decide) (by decide) (by decide)
  refine lv_pop hx hb dL_law_1180 rfl ?_
  refine lv_aload_n hx hb dL_law_1181 rfl (lv_at hl 1 rfl) ?_
  refine lv_aload_n hx hb dL_law_1182 rfl (lv_at hl 3 rfl) ?_
  refine lv_iload_n hx hb dL_law_1183 rfl (lv_at hl 0 rfl) ?_
  refine lv_iconst (v := 1) hx hb dL_law_1184 (by decide) ?_
  refine lv_iadd hx hb dL_law_1185 ?_
  refine va_sld hx hb hX hbl hbA hS (i := (x3 + 1)) (sl_in 1 hx3 hL3 (by decide)) dL_law_1186 ?_
  refine e_Vi (As := [.int (xs (Int32.toNatClampNeg (x3 + 1)))]) (rest := []) X Y hT hS (m_X9_worth hR1 (xs (Int32.toNatClampNeg (x3 + 1)))) mk_X9_worth gm_1894 rfl rfl (by decide) hd_X9_worth ⟨rfl, rfl⟩ ⟨Nat.le_of_ble_eq_true rfl, Nat.le_of_ble_eq_true rfl⟩ hl.1 rfl (Nat.le_of_ble_eq_true rfl) dL_law_1187 ⟨Nat.le_refl _, Nat.le_refl _⟩ (fun r2 i2 g2 H locs hq hT hS => ?_)
  obtain ⟨hR2, hf2⟩ := hq
  have hrel2_ : rel74 i2 := rel74_f hrel1_ hf2 (by decide) (by decide) (by decide) (by decide)
  refine lv_pop hx hb dL_law_1190 rfl ?_
  refine lv_goto (tgt := 2196) hx hb dL_law_1191 (by decide) ?_
  exact hE _ _ _ _ _ hR2 hrel2_ hT hS (lv_sub hl [0, 1, 2, 3] rfl)

set_option maxRecDepth 100000 in
set_option maxHeartbeats 4000000 in
theorem law_40 {p : Program} {l : Launch} {e : Env} {s : State} {m : MethodId} {below : List Frame} {meth : Method} {c : Code} {D : va_G} {cz : Nat → ClassId} {h : Nat → Nat} {z : EZ} {i : Nat → Nat → Int32} {g : Nat → Nat → Int64} {b L : Nat} {xs : Nat → Int32} {H : Heap} {locs : List Loc} {ls : Array Slot} {Q : State → Prop} {x3 : Int32} (X : Cxt p s m c #[Value.ref b] cL_law 4 "UncutTaleLaw" D cz) (Y : EV h z s s.heap) (hR : Rg rA i) (hX : va_X b L xs s s.heap) (hbl : b < s.heap.size) (hbA : ¬ hA h b) (hT : TH D h cz i g H) (hS : va_S (hA h) s.heap H locs) (hx3 : rg 0 3066 x3) (hL3 : x3.toInt + 6 ≤ (L : Int)) (hl : lv_has ls 4 [(3, .int x3), (2, .ref (h 96)), (1, .ref (h 0)), (0, .ref b)]) (hrel : rel74 i) (hE : ∀ (i : Nat → Nat → Int32) (g : Nat → Nat → Int64) (H : Heap) (locs : List Loc) (ls : Array Slot), Rg rA i → rel74 i → TH D h cz i g H → va_S (hA h) s.heap H locs → lv_has ls 4 [(3, .int x3), (2, .ref (h 96)), (1, .ref (h 0)), (0, .ref b)] → W p l e room_1 s m #[Value.ref b] below meth c H locs 600000 7302250 Q (F0 m 2196 ls [])) : W p l e room_1 s m #[Value.ref b] below meth c H locs 600000 7302250 Q (F0 m 1194 ls []) := by
  have hx := X.1
  have hb := X.2.1
  refine lv_aload_n hx hb dL_law_1194 rfl (lv_at hl 2 rfl) ?_
  refine lv_aload_n hx hb dL_law_1195 rfl (lv_at hl 3 rfl) ?_
  refine lv_iload_n hx hb dL_law_1196 rfl (lv_at hl 0 rfl) ?_
  refine lv_iconst (v := 1) hx hb dL_law_1197 (by decide) ?_
  refine lv_iadd hx hb dL_law_1198 ?_
  refine va_sld hx hb hX hbl hbA hS (i := (x3 + 1)) (sl_in 1 hx3 hL3 (by decide)) dL_law_1199 ?_
  refine lv_aload_n hx hb dL_law_1200 rfl (lv_at hl 3 rfl) ?_
  refine lv_iload_n hx hb dL_law_1201 rfl (lv_at hl 0 rfl) ?_
  refine lv_iconst (v := 2) hx hb dL_law_1202 (by decide) ?_
  refine lv_iadd hx hb dL_law_1203 ?_
  refine va_sld hx hb hX hbl hbA hS (i := (x3 + 2)) (sl_in 2 hx3 hL3 (by decide)) dL_law_1204 ?_
  refine e_Vi (As := [.int (xs (Int32.toNatClampNeg (x3 + 1))), .int (xs (Int32.toNatClampNeg (x3 + 2)))]) (rest := []) X Y hT hS (m_X8_share hR (xs (Int32.toNatClampNeg (x3 + 1))) (xs (Int32.toNatClampNeg (x3 + 2)))) mk_X8_share gm_979 rfl rfl (by decide) hd_X8_share ⟨rfl, rfl⟩ ⟨Nat.le_of_ble_eq_true rfl, Nat.le_of_ble_eq_true rfl⟩ hl.1 rfl (Nat.le_of_ble_eq_true rfl) dL_law_1205 ⟨Nat.le_refl _, Nat.le_refl _⟩ (fun r1 i1 g1 H locs hq hT hS => ?_)
  obtain ⟨hR1, hf1⟩ := hq
  have hrel1_ : rel74 i1 := rel74_f hrel hf1 (by decide) (by decide) (by decide) (by decide)
  refine lv_pop hx hb dL_law_1208 rfl ?_
  refine lv_aload_n hx hb dL_law_1209 rfl (lv_at hl 1 rfl) ?_
  refine lv_aload_n hx hb dL_law_1210 rfl (lv_at hl 3 rfl) ?_
  refine lv_iload_n hx hb dL_law_1211 rfl (lv_at hl 0 rfl) ?_
  refine lv_iconst (v := 1) hx hb dL_law_1212 (by decide) ?_
  refine lv_iadd hx hb dL_law_1213 ?_
  refine va_sld hx hb hX hbl hbA hS (i := (x3 + 1)) (sl_in 1 hx3 hL3 (by decide)) dL_law_1214 ?_
  refine lv_aload_n hx hb dL_law_1215 rfl (lv_at hl 3 rfl) ?_
  refine lv_iload_n hx hb dL_law_1216 rfl (lv_at hl 0 rfl) ?_
  refine lv_iconst (v := 2) hx hb dL_law_1217 (by decide) ?_
  refine lv_iadd hx hb dL_law_1218 ?_
  refine va_sld hx hb hX hbl hbA hS (i := (x3 + 2)) (sl_in 2 hx3 hL3 (by decide)) dL_law_1219 ?_
  refine e_Vi (As := [.int (xs (Int32.toNatClampNeg (x3 + 1))), .int (xs (Int32.toNatClampNeg (x3 + 2)))]) (rest := []) X Y hT hS (m_X9_share hR1 (xs (Int32.toNatClampNeg (x3 + 1))) (xs (Int32.toNatClampNeg (x3 + 2)))) mk_X9_share gm_1898 rfl rfl (by decide) hd_X9_share ⟨rfl, rfl⟩ ⟨Nat.le_of_ble_eq_true rfl, Nat.le_of_ble_eq_true rfl⟩ hl.1 rfl (Nat.le_of_ble_eq_true rfl) dL_law_1220 ⟨Nat.le_refl _, Nat.le_refl _⟩ (fun r2 i2 g2 H locs hq hT hS => ?_)
  obtain ⟨hR2, hf2⟩ := hq
  have hrel2_ : rel74 i2 := rel74_f hrel1_ hf2 (by decide) (by decide) (by decide) (by decide)
  refine lv_pop hx hb dL_law_1223 rfl ?_
  refine lv_goto (tgt := 2196) hx hb dL_law_1224 (by decide) ?_
  exact hE _ _ _ _ _ hR2 hrel2_ hT hS (lv_sub hl [0, 1, 2, 3] rfl)

set_option maxRecDepth 100000 in
set_option maxHeartbeats 4000000 in
theorem law_41 {p : Program} {l : Launch} {e : Env} {s : State} {m : MethodId} {below : List Frame} {meth : Method} {c : Code} {D : va_G} {cz : Nat → ClassId} {h : Nat → Nat} {z : EZ} {i : Nat → Nat → Int32} {g : Nat → Nat → Int64} {b L : Nat} {xs : Nat → Int32} {H : Heap} {locs : List Loc} {ls : Array Slot} {Q : State → Prop} {x3 : Int32} (X : Cxt p s m c #[Value.ref b] cL_law 4 "UncutTaleLaw" D cz) (Y : EV h z s s.heap) (hR : Rg rA i) (hX : va_X b L xs s s.heap) (hbl : b < s.heap.size) (hbA : ¬ hA h b) (hT : TH D h cz i g H) (hS : va_S (hA h) s.heap H locs) (hx3 : rg 0 3066 x3) (hL3 : x3.toInt + 6 ≤ (L : Int)) (hl : lv_has ls 4 [(3, .int x3), (2, .ref (h 96)), (1, .ref (h 0)), (0, .ref b)]) (hrel : rel74 i) (hE : ∀ (i : Nat → Nat → Int32) (g : Nat → Nat → Int64) (H : Heap) (locs : List Loc) (ls : Array Slot), Rg rA i → rel74 i → TH D h cz i g H → va_S (hA h) s.heap H locs → lv_has ls 4 [(3, .int x3), (2, .ref (h 96)), (1, .ref (h 0)), (0, .ref b)] → W p l e room_1 s m #[Value.ref b] below meth c H locs 600000 7302250 Q (F0 m 2196 ls [])) : W p l e room_1 s m #[Value.ref b] below meth c H locs 600000 7302250 Q (F0 m 1227 ls []) := by
  have hx := X.1
  have hb := X.2.1
  refine lv_aload_n hx hb dL_law_1227 rfl (lv_at hl 2 rfl) ?_
  refine lv_aload_n hx hb dL_law_1228 rfl (lv_at hl 3 rfl) ?_
  refine lv_iload_n hx hb dL_law_1229 rfl (lv_at hl 0 rfl) ?_
  refine lv_iconst (v := 1) hx hb dL_law_1230 (by decide) ?_
  refine lv_iadd hx hb dL_law_1231 ?_
  refine va_sld hx hb hX hbl hbA hS (i := (x3 + 1)) (sl_in 1 hx3 hL3 (by decide)) dL_law_1232 ?_
  refine e_Vi (As := [.int (xs (Int32.toNatClampNeg (x3 + 1)))]) (rest := []) X Y hT hS (m_X8_plan hR (xs (Int32.toNatClampNeg (x3 + 1)))) mk_X8_plan gm_1004 rfl rfl (by decide) hd_X8_plan ⟨rfl, rfl⟩ ⟨Nat.le_of_ble_eq_true rfl, Nat.le_of_ble_eq_true rfl⟩ hl.1 rfl (Nat.le_of_ble_eq_true rfl) dL_law_1233 ⟨Nat.le_refl _, Nat.le_refl _⟩ (fun r1 i1 g1 H locs hq hT hS => ?_)
  obtain ⟨hR1, hf1⟩ := hq
  have hrel1_ : rel74 i1 := rel74_f hrel hf1 (by decide) (by decide) (by decide) (by decide)
  refine lv_pop hx hb dL_law_1236 rfl ?_
  refine lv_aload_n hx hb dL_law_1237 rfl (lv_at hl 1 rfl) ?_
  refine lv_aload_n hx hb dL_law_1238 rfl (lv_at hl 3 rfl) ?_
  refine lv_iload_n hx hb dL_law_1239 rfl (lv_at hl 0 rfl) ?_
  refine lv_iconst (v := 1) hx hb dL_law_1240 (by decide) ?_
  refine lv_iadd hx hb dL_law_1241 ?_
  refine va_sld hx hb hX hbl hbA hS (i := (x3 + 1)) (sl_in 1 hx3 hL3 (by decide)) dL_law_1242 ?_
  refine e_Vi (As := [.int (xs (Int32.toNatClampNeg (x3 + 1)))]) (rest := []) X Y hT hS (m_X9_plan hR1 (xs (Int32.toNatClampNeg (x3 + 1)))) mk_X9_plan gm_1915 rfl rfl (by decide) hd_X9_plan ⟨rfl, rfl⟩ ⟨Nat.le_of_ble_eq_true rfl, Nat.le_of_ble_eq_true rfl⟩ hl.1 rfl (Nat.le_of_ble_eq_true rfl) dL_law_1243 ⟨Nat.le_refl _, Nat.le_refl _⟩ (fun r2 i2 g2 H locs hq hT hS => ?_)
  obtain ⟨hR2, hf2⟩ := hq
  have hrel2_ : rel74 i2 := rel74_f hrel1_ hf2 (by decide) (by decide) (by decide) (by decide)
  refine lv_pop hx hb dL_law_1246 rfl ?_
  refine lv_goto (tgt := 2196) hx hb dL_law_1247 (by decide) ?_
  exact hE _ _ _ _ _ hR2 hrel2_ hT hS (lv_sub hl [0, 1, 2, 3] rfl)

set_option maxRecDepth 100000 in
set_option maxHeartbeats 4000000 in
theorem law_42 {p : Program} {l : Launch} {e : Env} {s : State} {m : MethodId} {below : List Frame} {meth : Method} {c : Code} {D : va_G} {cz : Nat → ClassId} {h : Nat → Nat} {z : EZ} {i : Nat → Nat → Int32} {g : Nat → Nat → Int64} {b L : Nat} {xs : Nat → Int32} {H : Heap} {locs : List Loc} {ls : Array Slot} {Q : State → Prop} {x3 : Int32} (X : Cxt p s m c #[Value.ref b] cL_law 4 "UncutTaleLaw" D cz) (Y : EV h z s s.heap) (hR : Rg rA i) (hX : va_X b L xs s s.heap) (hbl : b < s.heap.size) (hbA : ¬ hA h b) (hT : TH D h cz i g H) (hS : va_S (hA h) s.heap H locs) (hx3 : rg 0 3066 x3) (hL3 : x3.toInt + 6 ≤ (L : Int)) (hl : lv_has ls 4 [(3, .int x3), (2, .ref (h 96)), (1, .ref (h 0)), (0, .ref b)]) (hrel : rel74 i) (hE : ∀ (i : Nat → Nat → Int32) (g : Nat → Nat → Int64) (H : Heap) (locs : List Loc) (ls : Array Slot), Rg rA i → rel74 i → TH D h cz i g H → va_S (hA h) s.heap H locs → lv_has ls 4 [(3, .int x3), (2, .ref (h 96)), (1, .ref (h 0)), (0, .ref b)] → W p l e room_1 s m #[Value.ref b] below meth c H locs 600000 7302250 Q (F0 m 2196 ls [])) : W p l e room_1 s m #[Value.ref b] below meth c H locs 600000 7302250 Q (F0 m 1250 ls []) := by
  have hx := X.1
  have hb := X.2.1
  refine lv_aload_n hx hb dL_law_1250 rfl (lv_at hl 2 rfl) ?_
  refine lv_aload_n hx hb dL_law_1251 rfl (lv_at hl 3 rfl) ?_
  refine lv_iload_n hx hb dL_law_1252 rfl (lv_at hl 0 rfl) ?_
  refine lv_iconst (v := 1) hx hb dL_law_1253 (by decide) ?_
  refine lv_iadd hx hb dL_law_1254 ?_
  refine va_sld hx hb hX hbl hbA hS (i := (x3 + 1)) (sl_in 1 hx3 hL3 (by decide)) dL_law_1255 ?_
  refine lv_aload_n hx hb dL_law_1256 rfl (lv_at hl 3 rfl) ?_
  refine lv_iload_n hx hb dL_law_1257 rfl (lv_at hl 0 rfl) ?_
  refine lv_iconst (v := 2) hx hb dL_law_1258 (by decide) ?_
  refine lv_iadd hx hb dL_law_1259 ?_
  refine va_sld hx hb hX hbl hbA hS (i := (x3 + 2)) (sl_in 2 hx3 hL3 (by decide)) dL_law_1260 ?_
  refine e_Vi (As := [.int (xs (Int32.toNatClampNeg (x3 + 1))), .int (xs (Int32.toNatClampNeg (x3 + 2)))]) (rest := []) X Y hT hS (m_X8_planned hR (xs (Int32.toNatClampNeg (x3 + 1))) (xs (Int32.toNatClampNeg (x3 + 2)))) mk_X8_planned gm_1036 rfl rfl (by decide) hd_X8_planned ⟨rfl, rfl⟩ ⟨Nat.le_of_ble_eq_true rfl, Nat.le_of_ble_eq_true rfl⟩ hl.1 rfl (Nat.le_of_ble_eq_true rfl) dL_law_1261 ⟨Nat.le_refl _, Nat.le_refl _⟩ (fun r1 i1 g1 H locs hq hT hS => ?_)
  obtain ⟨hR1, hf1⟩ := hq
  have hrel1_ : rel74 i1 := rel74_f hrel hf1 (by decide) (by decide) (by decide) (by decide)
  refine lv_pop hx hb dL_law_1264 rfl ?_
  refine lv_aload_n hx hb dL_law_1265 rfl (lv_at hl 1 rfl) ?_
  refine lv_aload_n hx hb dL_law_1266 rfl (lv_at hl 3 rfl) ?_
  refine lv_iload_n hx hb dL_law_1267 rfl (lv_at hl 0 rfl) ?_
  refine lv_iconst (v := 1) hx hb dL_law_1268 (by decide) ?_
  refine lv_iadd hx hb dL_law_1269 ?_
  refine va_sld hx hb hX hbl hbA hS (i := (x3 + 1)) (sl_in 1 hx3 hL3 (by decide)) dL_law_1270 ?_
  refine lv_aload_n hx hb dL_law_1271 rfl (lv_at hl 3 rfl) ?_
  refine lv_iload_n hx hb dL_law_1272 rfl (lv_at hl 0 rfl) ?_
  refine lv_iconst (v := 2) hx hb dL_law_1273 (by decide) ?_
  refine lv_iadd hx hb dL_law_1274 ?_
  refine va_sld hx hb hX hbl hbA hS (i := (x3 + 2)) (sl_in 2 hx3 hL3 (by decide)) dL_law_1275 ?_
  refine e_Vi (As := [.int (xs (Int32.toNatClampNeg (x3 + 1))), .int (xs (Int32.toNatClampNeg (x3 + 2)))]) (rest := []) X Y hT hS (m_X9_planned hR1 (xs (Int32.toNatClampNeg (x3 + 1))) (xs (Int32.toNatClampNeg (x3 + 2)))) mk_X9_planned gm_1935 rfl rfl (by decide) hd_X9_planned ⟨rfl, rfl⟩ ⟨Nat.le_of_ble_eq_true rfl, Nat.le_of_ble_eq_true rfl⟩ hl.1 rfl (Nat.le_of_ble_eq_true rfl) dL_law_1276 ⟨Nat.le_refl _, Nat.le_refl _⟩ (fun r2 i2 g2 H locs hq hT hS => ?_)
  obtain ⟨hR2, hf2⟩ := hq
  have hrel2_ : rel74 i2 := rel74_f hrel1_ hf2 (by decide) (by decide) (by decide) (by decide)
  refine lv_pop hx hb dL_law_1279 rfl ?_
  refine lv_goto (tgt := 2196) hx hb dL_law_1280 (by decide) ?_
  exact hE _ _ _ _ _ hR2 hrel2_ hT hS (lv_sub hl [0, 1, 2, 3] rfl)

set_option maxRecDepth 100000 in
set_option maxHeartbeats 4000000 in
theorem law_43 {p : Program} {l : Launch} {e : Env} {s : State} {m : MethodId} {below : List Frame} {meth : Method} {c : Code} {D : va_G} {cz : Nat → ClassId} {h : Nat → Nat} {z : EZ} {i : Nat → Nat → Int32} {g : Nat → Nat → Int64} {b L : Nat} {xs : Nat → Int32} {H : Heap} {locs : List Loc} {ls : Array Slot} {Q : State → Prop} {x3 : Int32} (X : Cxt p s m c #[Value.ref b] cL_law 4 "UncutTaleLaw" D cz) (Y : EV h z s s.heap) (hR : Rg rA i) (hX : va_X b L xs s s.heap) (hbl : b < s.heap.size) (hbA : ¬ hA h b) (hT : TH D h cz i g H) (hS : va_S (hA h) s.heap H locs) (hx3 : rg 0 3066 x3) (hL3 : x3.toInt + 6 ≤ (L : Int)) (hl : lv_has ls 4 [(3, .int x3), (2, .ref (h 96)), (1, .ref (h 0)), (0, .ref b)]) (hrel : rel74 i) (hE : ∀ (i : Nat → Nat → Int32) (g : Nat → Nat → Int64) (H : Heap) (locs : List Loc) (ls : Array Slot), Rg rA i → rel74 i → TH D h cz i g H → va_S (hA h) s.heap H locs → lv_has ls 4 [(3, .int x3), (2, .ref (h 96)), (1, .ref (h 0)), (0, .ref b)] → W p l e room_1 s m #[Value.ref b] below meth c H locs 600000 7302250 Q (F0 m 2196 ls [])) : W p l e room_1 s m #[Value.ref b] below meth c H locs 600000 7302250 Q (F0 m 1283 ls []) := by
  have hx := X.1
  have hb := X.2.1
  refine lv_aload_n hx hb dL_law_1283 rfl (lv_at hl 2 rfl) ?_
  refine lv_aload_n hx hb dL_law_1284 rfl (lv_at hl 3 rfl) ?_
  refine lv_iload_n hx hb dL_law_1285 rfl (lv_at hl 0 rfl) ?_
  refine lv_iconst (v := 1) hx hb dL_law_1286 (by decide) ?_
  refine lv_iadd hx hb dL_law_1287 ?_
  refine va_sld hx hb hX hbl hbA hS (i := (x3 + 1)) (sl_in 1 hx3 hL3 (by decide)) dL_law_1288 ?_
  refine e_Vi (As := [.int (xs (Int32.toNatClampNeg (x3 + 1)))]) (rest := []) X Y hT hS (m_X8_plans hR (xs (Int32.toNatClampNeg (x3 + 1)))) mk_X8_plans gm_1040 rfl rfl (by decide) hd_X8_plans ⟨rfl, rfl⟩ ⟨Nat.le_of_ble_eq_true rfl, Nat.le_of_ble_eq_true rfl⟩ hl.1 rfl (Nat.le_of_ble_eq_true rfl) dL_law_1289 ⟨Nat.le_refl _, Nat.le_refl _⟩ (fun r1 i1 g1 H locs hq hT hS => ?_)
  obtain ⟨hR1, hf1⟩ := hq
  have hrel1_ : rel74 i1 := rel74_f hrel hf1 (by decide) (by decide) (by decide) (by decide)
  refine lv_pop hx hb dL_law_1292 rfl ?_
  refine lv_aload_n hx hb dL_law_1293 rfl (lv_at hl 1 rfl) ?_
  refine lv_aload_n hx hb dL_law_1294 rfl (lv_at hl 3 rfl) ?_
  refine lv_iload_n hx hb dL_law_1295 rfl (lv_at hl 0 rfl) ?_
  refine lv_iconst (v := 1) hx hb dL_law_1296 (by decide) ?_
  refine lv_iadd hx hb dL_law_1297 ?_
  refine va_sld hx hb hX hbl hbA hS (i := (x3 + 1)) (sl_in 1 hx3 hL3 (by decide)) dL_law_1298 ?_
  refine e_Vi (As := [.int (xs (Int32.toNatClampNeg (x3 + 1)))]) (rest := []) X Y hT hS (m_X9_plans hR1 (xs (Int32.toNatClampNeg (x3 + 1)))) mk_X9_plans gm_1939 rfl rfl (by decide) hd_X9_plans ⟨rfl, rfl⟩ ⟨Nat.le_of_ble_eq_true rfl, Nat.le_of_ble_eq_true rfl⟩ hl.1 rfl (Nat.le_of_ble_eq_true rfl) dL_law_1299 ⟨Nat.le_refl _, Nat.le_refl _⟩ (fun r2 i2 g2 H locs hq hT hS => ?_)
  obtain ⟨hR2, hf2⟩ := hq
  have hrel2_ : rel74 i2 := rel74_f hrel1_ hf2 (by decide) (by decide) (by decide) (by decide)
  refine lv_pop hx hb dL_law_1302 rfl ?_
  refine lv_goto (tgt := 2196) hx hb dL_law_1303 (by decide) ?_
  exact hE _ _ _ _ _ hR2 hrel2_ hT hS (lv_sub hl [0, 1, 2, 3] rfl)

set_option maxRecDepth 100000 in
set_option maxHeartbeats 4000000 in
theorem law_44 {p : Program} {l : Launch} {e : Env} {s : State} {m : MethodId} {below : List Frame} {meth : Method} {c : Code} {D : va_G} {cz : Nat → ClassId} {h : Nat → Nat} {z : EZ} {i : Nat → Nat → Int32} {g : Nat → Nat → Int64} {b L : Nat} {xs : Nat → Int32} {H : Heap} {locs : List Loc} {ls : Array Slot} {Q : State → Prop} {x3 : Int32} (X : Cxt p s m c #[Value.ref b] cL_law 4 "UncutTaleLaw" D cz) (Y : EV h z s s.heap) (hR : Rg rA i) (hX : va_X b L xs s s.heap) (hbl : b < s.heap.size) (hbA : ¬ hA h b) (hT : TH D h cz i g H) (hS : va_S (hA h) s.heap H locs) (hx3 : rg 0 3066 x3) (hL3 : x3.toInt + 6 ≤ (L : Int)) (hl : lv_has ls 4 [(3, .int x3), (2, .ref (h 96)), (1, .ref (h 0)), (0, .ref b)]) (hrel : rel74 i) (hE : ∀ (i : Nat → Nat → Int32) (g : Nat → Nat → Int64) (H : Heap) (locs : List Loc) (ls : Array Slot), Rg rA i → rel74 i → TH D h cz i g H → va_S (hA h) s.heap H locs → lv_has ls 4 [(3, .int x3), (2, .ref (h 96)), (1, .ref (h 0)), (0, .ref b)] → W p l e room_1 s m #[Value.ref b] below meth c H locs 600000 7302250 Q (F0 m 2196 ls [])) : W p l e room_1 s m #[Value.ref b] below meth c H locs 600000 7302250 Q (F0 m 1306 ls []) := by
  have hx := X.1
  have hb := X.2.1
  refine lv_aload_n hx hb dL_law_1306 rfl (lv_at hl 2 rfl) ?_
  refine lv_aload_n hx hb dL_law_1307 rfl (lv_at hl 3 rfl) ?_
  refine lv_iload_n hx hb dL_law_1308 rfl (lv_at hl 0 rfl) ?_
  refine lv_iconst (v := 1) hx hb dL_law_1309 (by decide) ?_
  refine lv_iadd hx hb dL_law_1310 ?_
  refine va_sld hx hb hX hbl hbA hS (i := (x3 + 1)) (sl_in 1 hx3 hL3 (by decide)) dL_law_1311 ?_
  refine lv_aload_n hx hb dL_law_1312 rfl (lv_at hl 3 rfl) ?_
  refine lv_iload_n hx hb dL_law_1313 rfl (lv_at hl 0 rfl) ?_
  refine lv_iconst (v := 2) hx hb dL_law_1314 (by decide) ?_
  refine lv_iadd hx hb dL_law_1315 ?_
  refine va_sld hx hb hX hbl hbA hS (i := (x3 + 2)) (sl_in 2 hx3 hL3 (by decide)) dL_law_1316 ?_
  refine e_Vi (As := [.int (xs (Int32.toNatClampNeg (x3 + 1))), .int (xs (Int32.toNatClampNeg (x3 + 2)))]) (rest := []) X Y hT hS (m_X8_stiffs hR (xs (Int32.toNatClampNeg (x3 + 1))) (xs (Int32.toNatClampNeg (x3 + 2)))) mk_X8_stiffs gm_1044 rfl rfl (by decide) hd_X8_stiffs ⟨rfl, rfl⟩ ⟨Nat.le_of_ble_eq_true rfl, Nat.le_of_ble_eq_true rfl⟩ hl.1 rfl (Nat.le_of_ble_eq_true rfl) dL_law_1317 ⟨Nat.le_refl _, Nat.le_refl _⟩ (fun r1 i1 g1 H locs hq hT hS => ?_)
  obtain ⟨hR1, hf1⟩ := hq
  have hrel1_ : rel74 i1 := rel74_f hrel hf1 (by decide) (by decide) (by decide) (by decide)
  refine lv_pop hx hb dL_law_1320 rfl ?_
  refine lv_aload_n hx hb dL_law_1321 rfl (lv_at hl 1 rfl) ?_
  refine lv_aload_n hx hb dL_law_1322 rfl (lv_at hl 3 rfl) ?_
  refine lv_iload_n hx hb dL_law_1323 rfl (lv_at hl 0 rfl) ?_
  refine lv_iconst (v := 1) hx hb dL_law_1324 (by decide) ?_
  refine lv_iadd hx hb dL_law_1325 ?_
  refine va_sld hx hb hX hbl hbA hS (i := (x3 + 1)) (sl_in 1 hx3 hL3 (by decide)) dL_law_1326 ?_
  refine lv_aload_n hx hb dL_law_1327 rfl (lv_at hl 3 rfl) ?_
  refine lv_iload_n hx hb dL_law_1328 rfl (lv_at hl 0 rfl) ?_
  refine lv_iconst (v := 2) hx hb dL_law_1329 (by decide) ?_
  refine lv_iadd hx hb dL_law_1330 ?_
  refine va_sld hx hb hX hbl hbA hS (i := (x3 + 2)) (sl_in 2 hx3 hL3 (by decide)) dL_law_1331 ?_
  refine e_Vi (As := [.int (xs (Int32.toNatClampNeg (x3 + 1))), .int (xs (Int32.toNatClampNeg (x3 + 2)))]) (rest := []) X Y hT hS (m_X9_stiffs hR1 (xs (Int32.toNatClampNeg (x3 + 1))) (xs (Int32.toNatClampNeg (x3 + 2)))) mk_X9_stiffs gm_1943 rfl rfl (by decide) hd_X9_stiffs ⟨rfl, rfl⟩ ⟨Nat.le_of_ble_eq_true rfl, Nat.le_of_ble_eq_true rfl⟩ hl.1 rfl (Nat.le_of_ble_eq_true rfl) dL_law_1332 ⟨Nat.le_refl _, Nat.le_refl _⟩ (fun r2 i2 g2 H locs hq hT hS => ?_)
  obtain ⟨hR2, hf2⟩ := hq
  have hrel2_ : rel74 i2 := rel74_f hrel1_ hf2 (by decide) (by decide) (by decide) (by decide)
  refine lv_pop hx hb dL_law_1335 rfl ?_
  refine lv_goto (tgt := 2196) hx hb dL_law_1336 (by decide) ?_
  exact hE _ _ _ _ _ hR2 hrel2_ hT hS (lv_sub hl [0, 1, 2, 3] rfl)

set_option maxRecDepth 100000 in
set_option maxHeartbeats 4000000 in
theorem law_45 {p : Program} {l : Launch} {e : Env} {s : State} {m : MethodId} {below : List Frame} {meth : Method} {c : Code} {D : va_G} {cz : Nat → ClassId} {h : Nat → Nat} {z : EZ} {i : Nat → Nat → Int32} {g : Nat → Nat → Int64} {b L : Nat} {xs : Nat → Int32} {H : Heap} {locs : List Loc} {ls : Array Slot} {Q : State → Prop} {x3 : Int32} (X : Cxt p s m c #[Value.ref b] cL_law 4 "UncutTaleLaw" D cz) (Y : EV h z s s.heap) (hR : Rg rA i) (hX : va_X b L xs s s.heap) (hbl : b < s.heap.size) (hbA : ¬ hA h b) (hT : TH D h cz i g H) (hS : va_S (hA h) s.heap H locs) (hx3 : rg 0 3066 x3) (hL3 : x3.toInt + 6 ≤ (L : Int)) (hl : lv_has ls 4 [(3, .int x3), (2, .ref (h 96)), (1, .ref (h 0)), (0, .ref b)]) (hrel : rel74 i) (hE : ∀ (i : Nat → Nat → Int32) (g : Nat → Nat → Int64) (H : Heap) (locs : List Loc) (ls : Array Slot), Rg rA i → rel74 i → TH D h cz i g H → va_S (hA h) s.heap H locs → lv_has ls 4 [(3, .int x3), (2, .ref (h 96)), (1, .ref (h 0)), (0, .ref b)] → W p l e room_1 s m #[Value.ref b] below meth c H locs 600000 7302250 Q (F0 m 2196 ls [])) : W p l e room_1 s m #[Value.ref b] below meth c H locs 600000 7302250 Q (F0 m 1339 ls []) := by
  have hx := X.1
  have hb := X.2.1
  refine lv_aload_n hx hb dL_law_1339 rfl (lv_at hl 2 rfl) ?_
  refine lv_aload_n hx hb dL_law_1340 rfl (lv_at hl 3 rfl) ?_
  refine lv_iload_n hx hb dL_law_1341 rfl (lv_at hl 0 rfl) ?_
  refine lv_iconst (v := 1) hx hb dL_law_1342 (by decide) ?_
  refine lv_iadd hx hb dL_law_1343 ?_
  refine va_sld hx hb hX hbl hbA hS (i := (x3 + 1)) (sl_in 1 hx3 hL3 (by decide)) dL_law_1344 ?_
  refine lv_aload_n hx hb dL_law_1345 rfl (lv_at hl 3 rfl) ?_
  refine lv_iload_n hx hb dL_law_1346 rfl (lv_at hl 0 rfl) ?_
  refine lv_iconst (v := 2) hx hb dL_law_1347 (by decide) ?_
  refine lv_iadd hx hb dL_law_1348 ?_
  refine va_sld hx hb hX hbl hbA hS (i := (x3 + 2)) (sl_in 2 hx3 hL3 (by decide)) dL_law_1349 ?_
  refine e_Vi (As := [.int (xs (Int32.toNatClampNeg (x3 + 1))), .int (xs (Int32.toNatClampNeg (x3 + 2)))]) (rest := []) X Y hT hS (m_X8_low hR (xs (Int32.toNatClampNeg (x3 + 1))) (xs (Int32.toNatClampNeg (x3 + 2)))) mk_X8_low gm_1088 rfl rfl (by decide) hd_X8_low ⟨rfl, rfl⟩ ⟨Nat.le_of_ble_eq_true rfl, Nat.le_of_ble_eq_true rfl⟩ hl.1 rfl (Nat.le_of_ble_eq_true rfl) dL_law_1350 ⟨Nat.le_refl _, Nat.le_refl _⟩ (fun r1 i1 g1 H locs hq hT hS => ?_)
  obtain ⟨hR1, hf1, hr1⟩ := hq
  have hrel1_ : rel74 i1 := rel74_f hrel hf1 (by decide) (by decide) (by decide) (by decide)
  refine lv_pop hx hb dL_law_1353 rfl ?_
  refine lv_aload_n hx hb dL_law_1354 rfl (lv_at hl 1 rfl) ?_
  refine lv_aload_n hx hb dL_law_1355 rfl (lv_at hl 3 rfl) ?_
  refine lv_iload_n hx hb dL_law_1356 rfl (lv_at hl 0 rfl) ?_
  refine lv_iconst (v := 1) hx hb dL_law_1357 (by decide) ?_
  refine lv_iadd hx hb dL_law_1358 ?_
  refine va_sld hx hb hX hbl hbA hS (i := (x3 + 1)) (sl_in 1 hx3 hL3 (by decide)) dL_law_1359 ?_
  refine lv_aload_n hx hb dL_law_1360 rfl (lv_at hl 3 rfl) ?_
  refine lv_iload_n hx hb dL_law_1361 rfl (lv_at hl 0 rfl) ?_
  refine lv_iconst (v := 2) hx hb dL_law_1362 (by decide) ?_
  refine lv_iadd hx hb dL_law_1363 ?_
  refine va_sld hx hb hX hbl hbA hS (i := (x3 + 2)) (sl_in 2 hx3 hL3 (by decide)) dL_law_1364 ?_
  refine e_Vi (As := [.int (xs (Int32.toNatClampNeg (x3 + 1))), .int (xs (Int32.toNatClampNeg (x3 + 2)))]) (rest := []) X Y hT hS (m_X9_low hR1 (xs (Int32.toNatClampNeg (x3 + 1))) (xs (Int32.toNatClampNeg (x3 + 2)))) mk_X9_low gm_1960 rfl rfl (by decide) hd_X9_low ⟨rfl, rfl⟩ ⟨Nat.le_of_ble_eq_true rfl, Nat.le_of_ble_eq_true rfl⟩ hl.1 rfl (Nat.le_of_ble_eq_true rfl) dL_law_1365 ⟨Nat.le_refl _, Nat.le_refl _⟩ (fun r2 i2 g2 H locs hq hT hS => ?_)
  obtain ⟨hR2, hf2⟩ := hq
  have hrel2_ : rel74 i2 := rel74_f hrel1_ hf2 (by decide) (by decide) (by decide) (by decide)
  refine lv_pop hx hb dL_law_1368 rfl ?_
  refine lv_goto (tgt := 2196) hx hb dL_law_1369 (by decide) ?_
  exact hE _ _ _ _ _ hR2 hrel2_ hT hS (lv_sub hl [0, 1, 2, 3] rfl)

set_option maxRecDepth 100000 in
set_option maxHeartbeats 4000000 in
theorem law_46 {p : Program} {l : Launch} {e : Env} {s : State} {m : MethodId} {below : List Frame} {meth : Method} {c : Code} {D : va_G} {cz : Nat → ClassId} {h : Nat → Nat} {z : EZ} {i : Nat → Nat → Int32} {g : Nat → Nat → Int64} {b L : Nat} {xs : Nat → Int32} {H : Heap} {locs : List Loc} {ls : Array Slot} {Q : State → Prop} {x3 : Int32} (X : Cxt p s m c #[Value.ref b] cL_law 4 "UncutTaleLaw" D cz) (Y : EV h z s s.heap) (hR : Rg rA i) (hX : va_X b L xs s s.heap) (hbl : b < s.heap.size) (hbA : ¬ hA h b) (hT : TH D h cz i g H) (hS : va_S (hA h) s.heap H locs) (hx3 : rg 0 3066 x3) (hL3 : x3.toInt + 6 ≤ (L : Int)) (hl : lv_has ls 4 [(3, .int x3), (2, .ref (h 96)), (1, .ref (h 0)), (0, .ref b)]) (hrel : rel74 i) (hE : ∀ (i : Nat → Nat → Int32) (g : Nat → Nat → Int64) (H : Heap) (locs : List Loc) (ls : Array Slot), Rg rA i → rel74 i → TH D h cz i g H → va_S (hA h) s.heap H locs → lv_has ls 4 [(3, .int x3), (2, .ref (h 96)), (1, .ref (h 0)), (0, .ref b)] → W p l e room_1 s m #[Value.ref b] below meth c H locs 600000 7302250 Q (F0 m 2196 ls [])) : W p l e room_1 s m #[Value.ref b] below meth c H locs 600000 7302250 Q (F0 m 1372 ls []) := by
  have hx := X.1
  have hb := X.2.1
  refine lv_aload_n hx hb dL_law_1372 rfl (lv_at hl 2 rfl) ?_
  refine lv_aload_n hx hb dL_law_1373 rfl (lv_at hl 3 rfl) ?_
  refine lv_iload_n hx hb dL_law_1374 rfl (lv_at hl 0 rfl) ?_
  refine lv_iconst (v := 1) hx hb dL_law_1375 (by decide) ?_
  refine lv_iadd hx hb dL_law_1376 ?_
  refine va_sld hx hb hX hbl hbA hS (i := (x3 + 1)) (sl_in 1 hx3 hL3 (by decide)) dL_law_1377 ?_
  refine lv_aload_n hx hb dL_law_1378 rfl (lv_at hl 3 rfl) ?_
  refine lv_iload_n hx hb dL_law_1379 rfl (lv_at hl 0 rfl) ?_
  refine lv_iconst (v := 2) hx hb dL_law_1380 (by decide) ?_
  refine lv_iadd hx hb dL_law_1381 ?_
  refine va_sld hx hb hX hbl hbA hS (i := (x3 + 2)) (sl_in 2 hx3 hL3 (by decide)) dL_law_1382 ?_
  refine e_Vi (As := [.int (xs (Int32.toNatClampNeg (x3 + 1))), .int (xs (Int32.toNatClampNeg (x3 + 2)))]) (rest := []) X Y hT hS (m_X8_high hR (xs (Int32.toNatClampNeg (x3 + 1))) (xs (Int32.toNatClampNeg (x3 + 2)))) mk_X8_high gm_1096 rfl rfl (by decide) hd_X8_high ⟨rfl, rfl⟩ ⟨Nat.le_of_ble_eq_true rfl, Nat.le_of_ble_eq_true rfl⟩ hl.1 rfl (Nat.le_of_ble_eq_true rfl) dL_law_1383 ⟨Nat.le_refl _, Nat.le_refl _⟩ (fun r1 i1 g1 H locs hq hT hS => ?_)
  obtain ⟨hR1, hf1, hr1⟩ := hq
  have hrel1_ : rel74 i1 := rel74_f hrel hf1 (by decide) (by decide) (by decide) (by decide)
  refine lv_pop hx hb dL_law_1386 rfl ?_
  refine lv_aload_n hx hb dL_law_1387 rfl (lv_at hl 1 rfl) ?_
  refine lv_aload_n hx hb dL_law_1388 rfl (lv_at hl 3 rfl) ?_
  refine lv_iload_n hx hb dL_law_1389 rfl (lv_at hl 0 rfl) ?_
  refine lv_iconst (v := 1) hx hb dL_law_1390 (by decide) ?_
  refine lv_iadd hx hb dL_law_1391 ?_
  refine va_sld hx hb hX hbl hbA hS (i := (x3 + 1)) (sl_in 1 hx3 hL3 (by decide)) dL_law_1392 ?_
  refine lv_aload_n hx hb dL_law_1393 rfl (lv_at hl 3 rfl) ?_
  refine lv_iload_n hx hb dL_law_1394 rfl (lv_at hl 0 rfl) ?_
  refine lv_iconst (v := 2) hx hb dL_law_1395 (by decide) ?_
  refine lv_iadd hx hb dL_law_1396 ?_
  refine va_sld hx hb hX hbl hbA hS (i := (x3 + 2)) (sl_in 2 hx3 hL3 (by decide)) dL_law_1397 ?_
  refine e_Vi (As := [.int (xs (Int32.toNatClampNeg (x3 + 1))), .int (xs (Int32.toNatClampNeg (x3 + 2)))]) (rest := []) X Y hT hS (m_X9_high hR1 (xs (Int32.toNatClampNeg (x3 + 1))) (xs (Int32.toNatClampNeg (x3 + 2)))) mk_X9_high gm_1964 rfl rfl (by decide) hd_X9_high ⟨rfl, rfl⟩ ⟨Nat.le_of_ble_eq_true rfl, Nat.le_of_ble_eq_true rfl⟩ hl.1 rfl (Nat.le_of_ble_eq_true rfl) dL_law_1398 ⟨Nat.le_refl _, Nat.le_refl _⟩ (fun r2 i2 g2 H locs hq hT hS => ?_)
  obtain ⟨hR2, hf2⟩ := hq
  have hrel2_ : rel74 i2 := rel74_f hrel1_ hf2 (by decide) (by decide) (by decide) (by decide)
  refine lv_pop hx hb dL_law_1401 rfl ?_
  refine lv_goto (tgt := 2196) hx hb dL_law_1402 (by decide) ?_
  exact hE _ _ _ _ _ hR2 hrel2_ hT hS (lv_sub hl [0, 1, 2, 3] rfl)

set_option maxRecDepth 100000 in
set_option maxHeartbeats 4000000 in
theorem law_47 {p : Program} {l : Launch} {e : Env} {s : State} {m : MethodId} {below : List Frame} {meth : Method} {c : Code} {D : va_G} {cz : Nat → ClassId} {h : Nat → Nat} {z : EZ} {i : Nat → Nat → Int32} {g : Nat → Nat → Int64} {b L : Nat} {xs : Nat → Int32} {H : Heap} {locs : List Loc} {ls : Array Slot} {Q : State → Prop} {x3 : Int32} (X : Cxt p s m c #[Value.ref b] cL_law 4 "UncutTaleLaw" D cz) (Y : EV h z s s.heap) (hR : Rg rA i) (hX : va_X b L xs s s.heap) (hbl : b < s.heap.size) (hbA : ¬ hA h b) (hT : TH D h cz i g H) (hS : va_S (hA h) s.heap H locs) (hx3 : rg 0 3066 x3) (hL3 : x3.toInt + 6 ≤ (L : Int)) (hl : lv_has ls 4 [(3, .int x3), (2, .ref (h 96)), (1, .ref (h 0)), (0, .ref b)]) (hrel : rel74 i) (hE : ∀ (i : Nat → Nat → Int32) (g : Nat → Nat → Int64) (H : Heap) (locs : List Loc) (ls : Array Slot), Rg rA i → rel74 i → TH D h cz i g H → va_S (hA h) s.heap H locs → lv_has ls 4 [(3, .int x3), (2, .ref (h 96)), (1, .ref (h 0)), (0, .ref b)] → W p l e room_1 s m #[Value.ref b] below meth c H locs 600000 7302250 Q (F0 m 2196 ls [])) : W p l e room_1 s m #[Value.ref b] below meth c H locs 600000 7302250 Q (F0 m 1405 ls []) := by
  have hx := X.1
  have hb := X.2.1
  refine lv_aload_n hx hb dL_law_1405 rfl (lv_at hl 2 rfl) ?_
  refine lv_aload_n hx hb dL_law_1406 rfl (lv_at hl 3 rfl) ?_
  refine lv_iload_n hx hb dL_law_1407 rfl (lv_at hl 0 rfl) ?_
  refine lv_iconst (v := 1) hx hb dL_law_1408 (by decide) ?_
  refine lv_iadd hx hb dL_law_1409 ?_
  refine va_sld hx hb hX hbl hbA hS (i := (x3 + 1)) (sl_in 1 hx3 hL3 (by decide)) dL_law_1410 ?_
  refine lv_aload_n hx hb dL_law_1411 rfl (lv_at hl 3 rfl) ?_
  refine lv_iload_n hx hb dL_law_1412 rfl (lv_at hl 0 rfl) ?_
  refine lv_iconst (v := 2) hx hb dL_law_1413 (by decide) ?_
  refine lv_iadd hx hb dL_law_1414 ?_
  refine va_sld hx hb hX hbl hbA hS (i := (x3 + 2)) (sl_in 2 hx3 hL3 (by decide)) dL_law_1415 ?_
  refine e_Vi (As := [.int (xs (Int32.toNatClampNeg (x3 + 1))), .int (xs (Int32.toNatClampNeg (x3 + 2)))]) (rest := []) X Y hT hS (m_X8_ask hR (xs (Int32.toNatClampNeg (x3 + 1))) (xs (Int32.toNatClampNeg (x3 + 2)))) mk_X8_ask gm_1104 rfl rfl (by decide) hd_X8_ask ⟨rfl, rfl⟩ ⟨Nat.le_of_ble_eq_true rfl, Nat.le_of_ble_eq_true rfl⟩ hl.1 rfl (Nat.le_of_ble_eq_true rfl) dL_law_1416 ⟨Nat.le_refl _, Nat.le_refl _⟩ (fun r1 i1 g1 H locs hq hT hS => ?_)
  obtain ⟨hR1, hf1⟩ := hq
  have hrel1_ : rel74 i1 := rel74_f hrel hf1 (by decide) (by decide) (by decide) (by decide)
  refine lv_pop hx hb dL_law_1419 rfl ?_
  refine lv_aload_n hx hb dL_law_1420 rfl (lv_at hl 1 rfl) ?_
  refine lv_aload_n hx hb dL_law_1421 rfl (lv_at hl 3 rfl) ?_
  refine lv_iload_n hx hb dL_law_1422 rfl (lv_at hl 0 rfl) ?_
  refine lv_iconst (v := 1) hx hb dL_law_1423 (by decide) ?_
  refine lv_iadd hx hb dL_law_1424 ?_
  refine va_sld hx hb hX hbl hbA hS (i := (x3 + 1)) (sl_in 1 hx3 hL3 (by decide)) dL_law_1425 ?_
  refine lv_aload_n hx hb dL_law_1426 rfl (lv_at hl 3 rfl) ?_
  refine lv_iload_n hx hb dL_law_1427 rfl (lv_at hl 0 rfl) ?_
  refine lv_iconst (v := 2) hx hb dL_law_1428 (by decide) ?_
  refine lv_iadd hx hb dL_law_1429 ?_
  refine va_sld hx hb hX hbl hbA hS (i := (x3 + 2)) (sl_in 2 hx3 hL3 (by decide)) dL_law_1430 ?_
  refine e_Vi (As := [.int (xs (Int32.toNatClampNeg (x3 + 1))), .int (xs (Int32.toNatClampNeg (x3 + 2)))]) (rest := []) X Y hT hS (m_X9_ask hR1 (xs (Int32.toNatClampNeg (x3 + 1))) (xs (Int32.toNatClampNeg (x3 + 2)))) mk_X9_ask gm_1968 rfl rfl (by decide) hd_X9_ask ⟨rfl, rfl⟩ ⟨Nat.le_of_ble_eq_true rfl, Nat.le_of_ble_eq_true rfl⟩ hl.1 rfl (Nat.le_of_ble_eq_true rfl) dL_law_1431 ⟨Nat.le_refl _, Nat.le_refl _⟩ (fun r2 i2 g2 H locs hq hT hS => ?_)
  obtain ⟨hR2, hf2⟩ := hq
  have hrel2_ : rel74 i2 := rel74_f hrel1_ hf2 (by decide) (by decide) (by decide) (by decide)
  refine lv_pop hx hb dL_law_1434 rfl ?_
  refine lv_goto (tgt := 2196) hx hb dL_law_1435 (by decide) ?_
  exact hE _ _ _ _ _ hR2 hrel2_ hT hS (lv_sub hl [0, 1, 2, 3] rfl)

set_option maxRecDepth 100000 in
set_option maxHeartbeats 4000000 in
theorem law_48 {p : Program} {l : Launch} {e : Env} {s : State} {m : MethodId} {below : List Frame} {meth : Method} {c : Code} {D : va_G} {cz : Nat → ClassId} {h : Nat → Nat} {z : EZ} {i : Nat → Nat → Int32} {g : Nat → Nat → Int64} {b L : Nat} {xs : Nat → Int32} {H : Heap} {locs : List Loc} {ls : Array Slot} {Q : State → Prop} {x3 : Int32} (X : Cxt p s m c #[Value.ref b] cL_law 4 "UncutTaleLaw" D cz) (Y : EV h z s s.heap) (hR : Rg rA i) (hX : va_X b L xs s s.heap) (hbl : b < s.heap.size) (hbA : ¬ hA h b) (hT : TH D h cz i g H) (hS : va_S (hA h) s.heap H locs) (hx3 : rg 0 3066 x3) (hL3 : x3.toInt + 6 ≤ (L : Int)) (hl : lv_has ls 4 [(3, .int x3), (2, .ref (h 96)), (1, .ref (h 0)), (0, .ref b)]) (hrel : rel74 i) (hE : ∀ (i : Nat → Nat → Int32) (g : Nat → Nat → Int64) (H : Heap) (locs : List Loc) (ls : Array Slot), Rg rA i → rel74 i → TH D h cz i g H → va_S (hA h) s.heap H locs → lv_has ls 4 [(3, .int x3), (2, .ref (h 96)), (1, .ref (h 0)), (0, .ref b)] → W p l e room_1 s m #[Value.ref b] below meth c H locs 600000 7302250 Q (F0 m 2196 ls [])) : W p l e room_1 s m #[Value.ref b] below meth c H locs 600000 7302250 Q (F0 m 1438 ls []) := by
  have hx := X.1
  have hb := X.2.1
  refine lv_aload_n hx hb dL_law_1438 rfl (lv_at hl 2 rfl) ?_
  refine lv_aload_n hx hb dL_law_1439 rfl (lv_at hl 3 rfl) ?_
  refine lv_iload_n hx hb dL_law_1440 rfl (lv_at hl 0 rfl) ?_
  refine lv_iconst (v := 1) hx hb dL_law_1441 (by decide) ?_
  refine lv_iadd hx hb dL_law_1442 ?_
  refine va_sld hx hb hX hbl hbA hS (i := (x3 + 1)) (sl_in 1 hx3 hL3 (by decide)) dL_law_1443 ?_
  refine lv_aload_n hx hb dL_law_1444 rfl (lv_at hl 3 rfl) ?_
  refine lv_iload_n hx hb dL_law_1445 rfl (lv_at hl 0 rfl) ?_
  refine lv_iconst (v := 2) hx hb dL_law_1446 (by decide) ?_
  refine lv_iadd hx hb dL_law_1447 ?_
  refine va_sld hx hb hX hbl hbA hS (i := (x3 + 2)) (sl_in 2 hx3 hL3 (by decide)) dL_law_1448 ?_
  refine e_Vi (As := [.int (xs (Int32.toNatClampNeg (x3 + 1))), .int (xs (Int32.toNatClampNeg (x3 + 2)))]) (rest := []) X Y hT hS (m_X8_leaves hR (xs (Int32.toNatClampNeg (x3 + 1))) (xs (Int32.toNatClampNeg (x3 + 2)))) mk_X8_leaves gm_1123 rfl rfl (by decide) hd_X8_leaves ⟨rfl, rfl⟩ ⟨Nat.le_of_ble_eq_true rfl, Nat.le_of_ble_eq_true rfl⟩ hl.1 rfl (Nat.le_of_ble_eq_true rfl) dL_law_1449 ⟨Nat.le_refl _, Nat.le_refl _⟩ (fun r1 i1 g1 H locs hq hT hS => ?_)
  obtain ⟨hR1, hf1⟩ := hq
  have hrel1_ : rel74 i1 := rel74_f hrel hf1 (by decide) (by decide) (by decide) (by decide)
  refine lv_pop hx hb dL_law_1452 rfl ?_
  refine lv_aload_n hx hb dL_law_1453 rfl (lv_at hl 1 rfl) ?_
  refine lv_aload_n hx hb dL_law_1454 rfl (lv_at hl 3 rfl) ?_
  refine lv_iload_n hx hb dL_law_1455 rfl (lv_at hl 0 rfl) ?_
  refine lv_iconst (v := 1) hx hb dL_law_1456 (by decide) ?_
  refine lv_iadd hx hb dL_law_1457 ?_
  refine va_sld hx hb hX hbl hbA hS (i := (x3 + 1)) (sl_in 1 hx3 hL3 (by decide)) dL_law_1458 ?_
  refine lv_aload_n hx hb dL_law_1459 rfl (lv_at hl 3 rfl) ?_
  refine lv_iload_n hx hb dL_law_1460 rfl (lv_at hl 0 rfl) ?_
  refine lv_iconst (v := 2) hx hb dL_law_1461 (by decide) ?_
  refine lv_iadd hx hb dL_law_1462 ?_
  refine va_sld hx hb hX hbl hbA hS (i := (x3 + 2)) (sl_in 2 hx3 hL3 (by decide)) dL_law_1463 ?_
  refine e_Vi (As := [.int (xs (Int32.toNatClampNeg (x3 + 1))), .int (xs (Int32.toNatClampNeg (x3 + 2)))]) (rest := []) X Y hT hS (m_X9_leaves hR1 (xs (Int32.toNatClampNeg (x3 + 1))) (xs (Int32.toNatClampNeg (x3 + 2)))) mk_X9_leaves gm_1972 rfl rfl (by decide) hd_X9_leaves ⟨rfl, rfl⟩ ⟨Nat.le_of_ble_eq_true rfl, Nat.le_of_ble_eq_true rfl⟩ hl.1 rfl (Nat.le_of_ble_eq_true rfl) dL_law_1464 ⟨Nat.le_refl _, Nat.le_refl _⟩ (fun r2 i2 g2 H locs hq hT hS => ?_)
  obtain ⟨hR2, hf2⟩ := hq
  have hrel2_ : rel74 i2 := rel74_f hrel1_ hf2 (by decide) (by decide) (by decide) (by decide)
  refine lv_pop hx hb dL_law_1467 rfl ?_
  refine lv_goto (tgt := 2196) hx hb dL_law_1468 (by decide) ?_
  exact hE _ _ _ _ _ hR2 hrel2_ hT hS (lv_sub hl [0, 1, 2, 3] rfl)

set_option maxRecDepth 100000 in
set_option maxHeartbeats 4000000 in
theorem law_49 {p : Program} {l : Launch} {e : Env} {s : State} {m : MethodId} {below : List Frame} {meth : Method} {c : Code} {D : va_G} {cz : Nat → ClassId} {h : Nat → Nat} {z : EZ} {i : Nat → Nat → Int32} {g : Nat → Nat → Int64} {b L : Nat} {xs : Nat → Int32} {H : Heap} {locs : List Loc} {ls : Array Slot} {Q : State → Prop} {x3 : Int32} (X : Cxt p s m c #[Value.ref b] cL_law 4 "UncutTaleLaw" D cz) (Y : EV h z s s.heap) (hR : Rg rA i) (hX : va_X b L xs s s.heap) (hbl : b < s.heap.size) (hbA : ¬ hA h b) (hT : TH D h cz i g H) (hS : va_S (hA h) s.heap H locs) (hx3 : rg 0 3066 x3) (hL3 : x3.toInt + 6 ≤ (L : Int)) (hl : lv_has ls 4 [(3, .int x3), (2, .ref (h 96)), (1, .ref (h 0)), (0, .ref b)]) (hrel : rel74 i) (hE : ∀ (i : Nat → Nat → Int32) (g : Nat → Nat → Int64) (H : Heap) (locs : List Loc) (ls : Array Slot), Rg rA i → rel74 i → TH D h cz i g H → va_S (hA h) s.heap H locs → lv_has ls 4 [(3, .int x3), (2, .ref (h 96)), (1, .ref (h 0)), (0, .ref b)] → W p l e room_1 s m #[Value.ref b] below meth c H locs 600000 7302250 Q (F0 m 2196 ls [])) : W p l e room_1 s m #[Value.ref b] below meth c H locs 600000 7302250 Q (F0 m 1471 ls []) := by
  have hx := X.1
  have hb := X.2.1
  refine lv_aload_n hx hb dL_law_1471 rfl (lv_at hl 2 rfl) ?_
  refine lv_aload_n hx hb dL_law_1472 rfl (lv_at hl 3 rfl) ?_
  refine lv_iload_n hx hb dL_law_1473 rfl (lv_at hl 0 rfl) ?_
  refine lv_iconst (v := 1) hx hb dL_law_1474 (by decide) ?_
  refine lv_iadd hx hb dL_law_1475 ?_
  refine va_sld hx hb hX hbl hbA hS (i := (x3 + 1)) (sl_in 1 hx3 hL3 (by decide)) dL_law_1476 ?_
  refine e_Vi (As := [.int (xs (Int32.toNatClampNeg (x3 + 1)))]) (rest := []) X Y hT hS (m_X8_laws hR (xs (Int32.toNatClampNeg (x3 + 1)))) mk_X8_laws gm_1127 rfl rfl (by decide) hd_X8_laws ⟨rfl, rfl⟩ ⟨Nat.le_of_ble_eq_true rfl, Nat.le_of_ble_eq_true rfl⟩ hl.1 rfl (Nat.le_of_ble_eq_true rfl) dL_law_1477 ⟨Nat.le_refl _, Nat.le_refl _⟩ (fun r1 i1 g1 H locs hq hT hS => ?_)
  obtain ⟨hR1, hf1, hr1⟩ := hq
  have hrel1_ : rel74 i1 := rel74_f hrel hf1 (by decide) (by decide) (by decide) (by decide)
  refine lv_pop hx hb dL_law_1480 rfl ?_
  refine lv_aload_n hx hb dL_law_1481 rfl (lv_at hl 1 rfl) ?_
  refine lv_aload_n hx hb dL_law_1482 rfl (lv_at hl 3 rfl) ?_
  refine lv_iload_n hx hb dL_law_1483 rfl (lv_at hl 0 rfl) ?_
  refine lv_iconst (v := 1) hx hb dL_law_1484 (by decide) ?_
  refine lv_iadd hx hb dL_law_1485 ?_
  refine va_sld hx hb hX hbl hbA hS (i := (x3 + 1)) (sl_in 1 hx3 hL3 (by decide)) dL_law_1486 ?_
  refine e_Vi (As := [.int (xs (Int32.toNatClampNeg (x3 + 1)))]) (rest := []) X Y hT hS (m_X9_laws hR1 (xs (Int32.toNatClampNeg (x3 + 1)))) mk_X9_laws gm_1976 rfl rfl (by decide) hd_X9_laws ⟨rfl, rfl⟩ ⟨Nat.le_of_ble_eq_true rfl, Nat.le_of_ble_eq_true rfl⟩ hl.1 rfl (Nat.le_of_ble_eq_true rfl) dL_law_1487 ⟨Nat.le_refl _, Nat.le_refl _⟩ (fun r2 i2 g2 H locs hq hT hS => ?_)
  obtain ⟨hR2, hf2, hr2⟩ := hq
  have hrel2_ : rel74 i2 := rel74_f hrel1_ hf2 (by decide) (by decide) (by decide) (by decide)
  refine lv_pop hx hb dL_law_1490 rfl ?_
  refine lv_goto (tgt := 2196) hx hb dL_law_1491 (by decide) ?_
  exact hE _ _ _ _ _ hR2 hrel2_ hT hS (lv_sub hl [0, 1, 2, 3] rfl)
