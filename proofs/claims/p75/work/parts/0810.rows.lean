set_option maxRecDepth 100000 in
set_option maxHeartbeats 4000000 in
theorem m_X9_tellsOf_5_1t8 {l : Launch} {D : va_G} {h : Nat → Nat} {cz : Nat → ClassId} {z : EZ} {i : Nat → Nat → Int32} {g : Nat → Nat → Int64} (hR : Rg rA i) (a_a : Int32) (a_b : Int32) (ha_a : rg 5 5 a_a) (ha_b : rg 1 8 a_b) : DtV l yX9_tellsOf cX9_tellsOf 3 none ({ frames := 0, cells := 0, slots := 0, locals := 0 } : Room) D h cz z i g [.ref (h 96), .int a_a, .int a_b] (fun u => Rg rA u.1 ∧ Fr [103] [] i g u) := by
  refine e_V pn_X9_tellsOf (Nat.le_of_ble_eq_true rfl) ?_
  intro p e s m args below meth c ls Q X Y hret hT hl hS
  have hx := X.1
  have hb := X.2.1
  have hl : lv_has ls 3 [(0, .ref (h 96)), (1, .int a_a), (2, .int a_b)] := hl
  have hF : Fr [103] [] i g (i, g) := Fr_rf _ _ _ _
  refine lv_aload_n hx hb dX9_tellsOf_0 rfl (lv_at hl 0 rfl) ?_
  refine r_getr X hT 96 17 103 fk_9_34 rfl rfl (by decide) dX9_tellsOf_1 ?_
  refine lv_bipush (v := 28) hx hb dX9_tellsOf_4 (by decide) ?_
  refine lv_iload_n hx hb dX9_tellsOf_6 rfl (lv_at hl 1 rfl) ?_
  refine q_iadd hx hb dX9_tellsOf_7 (fun x1 ex1 => ?_)
  obtain ⟨hx1, ax1⟩ := rg_add 33 33 ex1 (rg_k (by decide) : rg 28 28 28) ha_a (by decide)
  replace ax1 : x1.toInt = 28 + a_a.toInt := ax1
  refine lv_iload_n hx hb dX9_tellsOf_8 rfl (lv_at hl 2 rfl) ?_
  refine r_iastc X hT hS 103 33 rfl (by decide) (v_in hx1 (by decide)) (cl_c hx1 33 rfl (by decide)) dX9_tellsOf_9 (fun H locs i2 ei2 hT hS => ?_)
  have hR2 := Rg_put hR ei2 0 8 rfl ha_b (by decide)
  have hF2 := Fr_puti hF ei2 (by decide)
  exact hret _ _ _ _ _ _ dX9_tellsOf_10 hT hS ⟨hR2, hF2⟩
set_option maxRecDepth 100000 in
set_option maxHeartbeats 4000000 in
theorem m_X9_knifeLine {l : Launch} {D : va_G} {h : Nat → Nat} {cz : Nat → ClassId} {z : EZ} {i : Nat → Nat → Int32} {g : Nat → Nat → Int64} (hR : Rg rA i) (hs103_33 : rg 0 7 (i 103 33)) (hp0 : (i 96 7).toInt ≤ (i 96 6).toInt) : DtV l yX9_knifeLine cX9_knifeLine 2 none ({ frames := 5, cells := 0, slots := 0, locals := 112 } : Room) D h cz z i g [.ref (h 96)] (fun u => Rg rA u.1 ∧ Fr [96, 103, 106] [96] i g u ∧ ((u.1 96 7).toInt ≤ (u.1 96 6).toInt) ∧ prg i u.1) := by
  refine e_V pn_X9_knifeLine (Nat.le_of_ble_eq_true rfl) ?_
  intro p e s m args below meth c ls Q X Y hret hT hl hS
  have hx := X.1
  have hb := X.2.1
  have hl : lv_has ls 2 [(0, .ref (h 96))] := hl
  have hF : Fr [96, 103, 106] [96] i g (i, g) := Fr_rf _ _ _ _
  refine lv_iconst (v := 2) hx hb dX9_knifeLine_0 (by decide) ?_
  refine lv_bipush (v := 32) hx hb dX9_knifeLine_1 (by decide) ?_
  refine lv_aload_n hx hb dX9_knifeLine_3 rfl (lv_at hl 0 rfl) ?_
  refine lv_iconst (v := 5) hx hb dX9_knifeLine_4 (by decide) ?_
  refine e_Vi (As := [.int 5]) (rest := [.int 32, .int 2]) X Y hT hS (m_X9_hasRead_5 hR (5) (rg_k (by decide) : rg 5 5 5)) mk_X9_hasRead gm_1596 rfl rfl (by decide) hd_X9_hasRead ⟨rfl, rfl⟩ ⟨Nat.le_of_ble_eq_true rfl, Nat.le_of_ble_eq_true rfl⟩ hl.1 rfl (Nat.le_of_ble_eq_true rfl) dX9_knifeLine_5 ⟨Nat.zero_le _, Nat.zero_le _⟩ (fun r1 i1 g1 H locs hq hT hS => ?_)
  obtain ⟨eh1, hr1, hf1_0⟩ := hq
  rw [(Prod.mk.inj eh1).1, (Prod.mk.inj eh1).2] at hT
  replace hf1_0 : r1 = (i 103 33) := hf1_0
  have h2 : rg 0 7 r1 := rg_of hf1_0 hs103_33
  refine q_iadd hx hb dX9_knifeLine_8 (fun x3 ex3 => ?_)
  obtain ⟨hx3, ax3⟩ := rg_add 32 39 ex3 (rg_k (by decide) : rg 32 32 32) h2 (by decide)
  replace ax3 : x3.toInt = 32 + r1.toInt := ax3
  refine q_imul hx hb dX9_knifeLine_9 (fun x4 ex4 => ?_)
  obtain ⟨hx4, ax4⟩ := rg_mul 64 78 ex4 (rg_k (by decide) : rg 2 2 2) hx3 (by decide)
  replace ax4 : x4.toInt = 2 * x3.toInt := ax4
  refine lv_istore_n (lv' := [(1, .int x4), (0, .ref (h 96))]) hx hb dX9_knifeLine_10 rfl hl (by decide) rfl (fun ls hl => ?_)
  refine lv_aload_n hx hb dX9_knifeLine_11 rfl (lv_at hl 1 rfl) ?_
  refine r_getr X hT 96 20 106 fk_9_43 rfl rfl (by decide) dX9_knifeLine_12 ?_
  refine lv_iload_n hx hb dX9_knifeLine_15 rfl (lv_at hl 0 rfl) ?_
  refine lv_aload_n hx hb dX9_knifeLine_16 rfl (lv_at hl 1 rfl) ?_
  refine e_Vi (As := []) (rest := [.int x4, .ref (h 106)]) X Y hT hS (m_X9_partHere hR hp0) mk_X9_partHere gm_1612 rfl rfl (by decide) hd_X9_partHere ⟨rfl, rfl⟩ ⟨Nat.le_of_ble_eq_true rfl, Nat.le_of_ble_eq_true rfl⟩ hl.1 rfl (Nat.le_of_ble_eq_true rfl) dX9_knifeLine_17 ⟨Nat.zero_le _, Nat.zero_le _⟩ (fun r5 i5 g5 H locs hq hT hS => ?_)
  obtain ⟨hR5, hf5, hr5, hp5_0, hf5_0⟩ := hq
  have hF5 := Fr_tr hF hf5 (by decide)
  replace hp5_0 : (i5 96 7).toInt ≤ (i5 96 6).toInt := hp5_0
  have hQ6_i : prg i i5 := prg_tr (prg_rf i) hf5_0
  refine r_iast X hT hS 106 rfl (by decide) (v_in hx4 (by decide)) dX9_knifeLine_20 (fun H locs i7 ei7 hT hS => ?_)
  have hR7 := Rg_puta hR5 ei7 0 5 (aff_put (m := 2) (a := 0) (n := 8) (c := 64) (by decide) (v := r1.toInt) ⟨by have := h2.1; omega, by have := h2.2; omega⟩ (by have := ax3; have := ax4; omega)) hr5 (by decide)
  have hF7 := Fr_puti hF5 ei7 (by decide)
  have hP7 : (i7 96 7).toInt ≤ (i7 96 6).toInt := by rw [z_j ei7 rfl (by decide), z_j ei7 rfl (by decide)]; exact hp5_0
  have hQ7_i : prg i i7 := prg_j hQ6_i ei7 (by decide)
  refine lv_aload_n hx hb dX9_knifeLine_21 rfl (lv_at hl 1 rfl) ?_
  refine r_getr X hT 96 20 106 fk_9_43 rfl rfl (by decide) dX9_knifeLine_22 ?_
  refine lv_iload_n hx hb dX9_knifeLine_25 rfl (lv_at hl 0 rfl) ?_
  refine lv_iconst (v := 1) hx hb dX9_knifeLine_26 (by decide) ?_
  refine q_iadd hx hb dX9_knifeLine_27 (fun x8 ex8 => ?_)
  obtain ⟨hx8, ax8⟩ := rg_add 65 79 ex8 hx4 (rg_k (by decide) : rg 1 1 1) (by decide)
  replace ax8 : x8.toInt = x4.toInt + 1 := ax8
  refine lv_aload_n hx hb dX9_knifeLine_28 rfl (lv_at hl 1 rfl) ?_
  refine lv_ldc2 (v := 47) hx hb X.2.2.2.1 (X.2.2.2.2.1 _ gm_1625) dX9_knifeLine_29 ?_
  refine lv_iconst (v := 0) hx hb dX9_knifeLine_32 (by decide) ?_
  refine lv_bipush (v := 11) hx hb dX9_knifeLine_33 (by decide) ?_
  refine e_Vi (As := [.long 47, .int 0, .int 11]) (rest := [.int x8, .ref (h 106)]) X Y hT hS (m_X9_number_ hR7 (47) (0) (11) hP7) mk_X9_number_ gm_1577 rfl rfl (by decide) hd_X9_number_ ⟨rfl, rfl⟩ ⟨Nat.le_of_ble_eq_true rfl, Nat.le_of_ble_eq_true rfl⟩ hl.1 rfl (Nat.le_of_ble_eq_true rfl) dX9_knifeLine_35 ⟨Nat.zero_le _, Nat.zero_le _⟩ (fun r9 i9 g9 H locs hq hT hS => ?_)
  obtain ⟨hR9, hf9, hp9_0, hf9_0, hf9_1⟩ := hq
  have hF9 := Fr_tr hF7 hf9 (by decide)
  replace hp9_0 : (i9 96 7).toInt ≤ (i9 96 6).toInt := hp9_0
  have hQ10_i : prg i i9 := prg_tr hQ7_i hf9_0
  replace hf9_1 : 0 ≤ r9.toInt ∧ (r9.toInt ≤ 11 ∨ r9.toInt = 0) := hf9_1
  have h11 : rg 0 11 r9 := ⟨by omega, by omega⟩
  refine r_iast X hT hS 106 rfl (by decide) (v_in hx8 (by decide)) dX9_knifeLine_38 (fun H locs i12 ei12 hT hS => ?_)
  have hR12 := Rg_puta hR9 ei12 0 11 (aff_put (m := 2) (a := 0) (n := 8) (c := 65) (by decide) (v := r1.toInt) ⟨by have := h2.1; omega, by have := h2.2; omega⟩ (by have := ax3; have := ax4; have := ax8; omega)) h11 (by decide)
  have hF12 := Fr_puti hF9 ei12 (by decide)
  have hP12 : (i12 96 7).toInt ≤ (i12 96 6).toInt := by rw [z_j ei12 rfl (by decide), z_j ei12 rfl (by decide)]; exact hp9_0
  have hQ12_i : prg i i12 := prg_j hQ10_i ei12 (by decide)
  refine lv_aload_n hx hb dX9_knifeLine_39 rfl (lv_at hl 1 rfl) ?_
  refine lv_iconst (v := 5) hx hb dX9_knifeLine_40 (by decide) ?_
  refine lv_aload_n hx hb dX9_knifeLine_41 rfl (lv_at hl 1 rfl) ?_
  refine lv_iconst (v := 5) hx hb dX9_knifeLine_42 (by decide) ?_
  refine e_Vi (As := [.int 5]) (rest := [.int 5, .ref (h 96)]) X Y hT hS (m_X9_hasRead_5 hR12 (5) (rg_k (by decide) : rg 5 5 5)) mk_X9_hasRead gm_1596 rfl rfl (by decide) hd_X9_hasRead ⟨rfl, rfl⟩ ⟨Nat.le_of_ble_eq_true rfl, Nat.le_of_ble_eq_true rfl⟩ hl.1 rfl (Nat.le_of_ble_eq_true rfl) dX9_knifeLine_43 ⟨Nat.zero_le _, Nat.zero_le _⟩ (fun r13 i13 g13 H locs hq hT hS => ?_)
  obtain ⟨eh13, hr13, hf13_0⟩ := hq
  rw [(Prod.mk.inj eh13).1, (Prod.mk.inj eh13).2] at hT
  have e14 : (i12 103 33) = (i 103 33) := (z_j ei12 (z_F hf9 (z_j ei7 (z_F hf5 rfl (by decide)) (by decide)) (by decide)) (by decide))
  have h15 : rg 0 7 (i12 103 33) := rg_of e14 hs103_33
  replace hf13_0 : r13 = (i12 103 33) := hf13_0
  have h16 : rg 0 7 r13 := rg_of hf13_0 h15
  refine lv_iconst (v := 1) hx hb dX9_knifeLine_46 (by decide) ?_
  refine q_iadd hx hb dX9_knifeLine_47 (fun x17 ex17 => ?_)
  obtain ⟨hx17, ax17⟩ := rg_add 1 8 ex17 h16 (rg_k (by decide) : rg 1 1 1) (by decide)
  replace ax17 : x17.toInt = r13.toInt + 1 := ax17
  refine e_Vv (As := [.int 5, .int x17]) (rest := []) X Y hT hS (m_X9_tellsOf_5_1t8 hR12 (5) x17 (rg_k (by decide) : rg 5 5 5) hx17) mk_X9_tellsOf gm_1534 rfl rfl (by decide) hd_X9_tellsOf ⟨rfl, rfl⟩ ⟨Nat.le_of_ble_eq_true rfl, Nat.le_of_ble_eq_true rfl⟩ hl.1 rfl (Nat.le_of_ble_eq_true rfl) dX9_knifeLine_48 ⟨Nat.zero_le _, Nat.zero_le _⟩ (fun i18 g18 H locs hq hT hS => ?_)
  obtain ⟨hR18, hf18⟩ := hq
  have hF18 := Fr_tr hF12 hf18 (by decide)
  have hP18 : (i18 96 7).toInt ≤ (i18 96 6).toInt := by rw [show i18 96 = _ from (hf18).1 96 (by decide)]; exact hP12
  have hQ18_i : prg i i18 := prg_f hQ12_i hf18 (by decide)
  exact hret _ _ _ _ _ _ dX9_knifeLine_51 hT hS ⟨hR18, hF18, hP18, hQ18_i⟩
set_option maxRecDepth 100000 in
set_option maxHeartbeats 4000000 in
theorem m_X9_lineHere {l : Launch} {D : va_G} {h : Nat → Nat} {cz : Nat → ClassId} {z : EZ} {i : Nat → Nat → Int32} {g : Nat → Nat → Int64} (hR : Rg rA i) (hp0 : (i 96 7).toInt ≤ (i 96 6).toInt) : DtV l yX9_lineHere cX9_lineHere 1 none ({ frames := 6, cells := 0, slots := 0, locals := 133 } : Room) D h cz z i g [.ref (h 96)] (fun u => Rg rA u.1 ∧ Fr [96, 103, 104, 105, 106] [96] i g u ∧ ((u.1 96 7).toInt ≤ (u.1 96 6).toInt) ∧ prg i u.1 ∧ tok i u.1) := by
  refine e_V pn_X9_lineHere (Nat.le_of_ble_eq_true rfl) ?_
  intro p e s m args below meth c ls Q X Y hret hT hl hS
  have hx := X.1
  have hb := X.2.1
  have hl : lv_has ls 1 [(0, .ref (h 96))] := hl
  have hF : Fr [96, 103, 104, 105, 106] [96] i g (i, g) := Fr_rf _ _ _ _
  refine lv_aload_n hx hb dX9_lineHere_0 rfl (lv_at hl 0 rfl) ?_
  refine lv_aload_n hx hb dX9_lineHere_1 rfl (lv_at hl 0 rfl) ?_
  refine lv_ldc2 (v := 316163) hx hb X.2.2.2.1 (X.2.2.2.2.1 _ gm_1591) dX9_lineHere_2 ?_
  refine e_Vi (As := [.long 316163]) (rest := [.ref (h 96)]) X Y hT hS (m_X9_is hR (316163)) mk_X9_is gm_1568 rfl rfl (by decide) hd_X9_is ⟨rfl, rfl⟩ ⟨Nat.le_of_ble_eq_true rfl, Nat.le_of_ble_eq_true rfl⟩ hl.1 rfl (Nat.le_of_ble_eq_true rfl) dX9_lineHere_5 ⟨Nat.zero_le _, Nat.zero_le _⟩ (fun r1 i1 g1 H locs hq hT hS => ?_)
  rcases hq with hq | hq
  ·
    obtain ⟨eh1, rfl, hf1_0, hf1_1⟩ := hq
    rw [(Prod.mk.inj eh1).1, (Prod.mk.inj eh1).2] at hT
    have h2 : rg 1 1 (i 96 8) := hf1_0
    have h3 : rg 0 0 (i 96 12) := hf1_1
    refine lv_iconst (v := 3) hx hb dX9_lineHere_8 (by decide) ?_
    refine lv_bipush (v := 6) hx hb dX9_lineHere_9 (by decide) ?_
    refine e_Vi (As := [.int 1, .int 3, .int 6]) (rest := []) X Y hT hS (m_X9_isRoom_3 hR (1) (3) (6) (rg_w (rg_k (by decide) : rg 1 1 1) (by decide) : rg 0 1 1) (rg_k (by decide) : rg 3 3 3) (rg_k (by decide) : rg 6 6 6) hp0) mk_X9_isRoom gm_1592 rfl rfl (by decide) hd_X9_isRoom ⟨rfl, rfl⟩ ⟨Nat.le_of_ble_eq_true rfl, Nat.le_of_ble_eq_true rfl⟩ hl.1 rfl (Nat.le_of_ble_eq_true rfl) dX9_lineHere_11 ⟨Nat.zero_le _, Nat.zero_le _⟩ (fun r4 i4 g4 H locs hq hT hS => ?_)
    rcases hq with hq | hq | hq
    ·
      obtain ⟨hR4, hf4, rfl, hp4_0, hf4_0, hf4_1, hf4_2⟩ := hq
      have hF4 := Fr_tr hF hf4 (by decide)
      replace hp4_0 : (i4 96 7).toInt ≤ (i4 96 6).toInt := hp4_0
      have h5 : rg 0 5 (i4 103 31) := hf4_1
      have hQ6_i : prg i i4 := prg_tr (prg_rf i) hf4_2
      refine lv_if_eq (tgt := 24) hx hb dX9_lineHere_14 (by decide) (fun c7 => (x_eq (rg_k (by decide) : rg 1 1 1) (rg_k (by decide) : rg 0 0 0) (i_eq c7) (by decide)).elim) (fun c7 => ?_)
      refine lv_aload_n hx hb dX9_lineHere_17 rfl (lv_at hl 0 rfl) ?_
      refine e_Vv (As := []) (rest := []) X Y hT hS (m_X9_partLine hR4 h5 hp4_0) mk_X9_partLine gm_1600 rfl rfl (by decide) hd_X9_partLine ⟨rfl, rfl⟩ ⟨Nat.le_of_ble_eq_true rfl, Nat.le_of_ble_eq_true rfl⟩ hl.1 rfl (Nat.le_of_ble_eq_true rfl) dX9_lineHere_18 ⟨Nat.zero_le _, Nat.zero_le _⟩ (fun i8 g8 H locs hq hT hS => ?_)
      obtain ⟨hR8, hf8, hp8_0, hf8_0⟩ := hq
      have hF8 := Fr_tr hF4 hf8 (by decide)
      replace hp8_0 : (i8 96 7).toInt ≤ (i8 96 6).toInt := hp8_0
      have hQ9_i : prg i i8 := prg_tr hQ6_i hf8_0
      refine lv_goto (tgt := 98) hx hb dX9_lineHere_21 (by decide) ?_
      exact hret _ _ _ _ _ _ dX9_lineHere_98 hT hS ⟨hR8, hF8, hp8_0, hQ9_i, (tok_1 h2)⟩
    ·
      obtain ⟨hR4, hf4, rfl, hf4_0, hf4_1⟩ := hq
      have hF4 := Fr_tr hF hf4 (by decide)
      exact (x_eq (rg_k (by decide) : rg 1 1 1) hf4_0 rfl (by decide)).elim
    ·
      obtain ⟨hR4, hf4, rfl, hp4_0, hf4_0, hf4_1⟩ := hq
      have hF4 := Fr_tr hF hf4 (by decide)
      replace hp4_0 : (i4 96 7).toInt ≤ (i4 96 6).toInt := hp4_0
      have h10 : rg 1 3 (i4 96 12) := hf4_0
      have hQ11_i : prg i i4 := prg_tr (prg_rf i) hf4_1
      refine lv_if_eq (tgt := 24) hx hb dX9_lineHere_14 (by decide) (fun c12 => ?_) (fun c12 => (x_ne (rg_k (by decide) : rg 0 0 0) (rg_k (by decide) : rg 0 0 0) (i_ne c12) (by decide)).elim)
      refine lv_aload_n hx hb dX9_lineHere_24 rfl (lv_at hl 0 rfl) ?_
      refine r_geti X hT 96 12 fk_9_135 rfl rfl (by decide) dX9_lineHere_25 ?_
      refine lv_if_ne (tgt := 55) hx hb dX9_lineHere_28 (by decide) (fun c13 => ?_) (fun c13 => (x_eq h10 (rg_k (by decide) : rg 0 0 0) (i_eq c13) (by decide)).elim)
      have q13 : ¬ (i4 96 12).toInt = 0 := i_ne c13
      refine lv_aload_n hx hb dX9_lineHere_55 rfl (lv_at hl 0 rfl) ?_
      refine r_geti X hT 96 12 fk_9_135 rfl rfl (by decide) dX9_lineHere_56 ?_
      refine lv_if_ne (tgt := 86) hx hb dX9_lineHere_59 (by decide) (fun c14 => ?_) (fun c14 => (x_eq h10 (rg_k (by decide) : rg 0 0 0) (i_eq c14) (by decide)).elim)
      have q14 : ¬ (i4 96 12).toInt = 0 := i_ne c14
      refine lv_aload_n hx hb dX9_lineHere_86 rfl (lv_at hl 0 rfl) ?_
      refine r_geti X hT 96 12 fk_9_135 rfl rfl (by decide) dX9_lineHere_87 ?_
      refine lv_if_ne (tgt := 98) hx hb dX9_lineHere_90 (by decide) (fun c15 => ?_) (fun c15 => (x_eq h10 (rg_k (by decide) : rg 0 0 0) (i_eq c15) (by decide)).elim)
      have q15 : ¬ (i4 96 12).toInt = 0 := i_ne c15
      exact hret _ _ _ _ _ _ dX9_lineHere_98 hT hS ⟨hR4, hF4, hp4_0, hQ11_i, (tok_b h10 (by decide))⟩
  ·
    obtain ⟨eh1, rfl⟩ := hq
    rw [(Prod.mk.inj eh1).1, (Prod.mk.inj eh1).2] at hT
    refine lv_iconst (v := 3) hx hb dX9_lineHere_8 (by decide) ?_
    refine lv_bipush (v := 6) hx hb dX9_lineHere_9 (by decide) ?_
    refine e_Vi (As := [.int 0, .int 3, .int 6]) (rest := []) X Y hT hS (m_X9_isRoom_3 hR (0) (3) (6) (rg_w (rg_k (by decide) : rg 0 0 0) (by decide) : rg 0 1 0) (rg_k (by decide) : rg 3 3 3) (rg_k (by decide) : rg 6 6 6) hp0) mk_X9_isRoom gm_1592 rfl rfl (by decide) hd_X9_isRoom ⟨rfl, rfl⟩ ⟨Nat.le_of_ble_eq_true rfl, Nat.le_of_ble_eq_true rfl⟩ hl.1 rfl (Nat.le_of_ble_eq_true rfl) dX9_lineHere_11 ⟨Nat.zero_le _, Nat.zero_le _⟩ (fun r16 i16 g16 H locs hq hT hS => ?_)
    rcases hq with hq | hq | hq
    ·
      obtain ⟨hR16, hf16, rfl, hp16_0, hf16_0, hf16_1, hf16_2⟩ := hq
      have hF16 := Fr_tr hF hf16 (by decide)
      replace hp16_0 : (i16 96 7).toInt ≤ (i16 96 6).toInt := hp16_0
      exact (x_eq (rg_k (by decide) : rg 0 0 0) hf16_0 rfl (by decide)).elim
    ·
      obtain ⟨hR16, hf16, rfl, hf16_0, hf16_1⟩ := hq
      have hF16 := Fr_tr hF hf16 (by decide)
      rw [(Prod.mk.inj hf16_1).1, (Prod.mk.inj hf16_1).2] at hT
      refine lv_if_eq (tgt := 24) hx hb dX9_lineHere_14 (by decide) (fun c17 => ?_) (fun c17 => (x_ne (rg_k (by decide) : rg 0 0 0) (rg_k (by decide) : rg 0 0 0) (i_ne c17) (by decide)).elim)
      refine lv_aload_n hx hb dX9_lineHere_24 rfl (lv_at hl 0 rfl) ?_
      refine r_geti X hT 96 12 fk_9_135 rfl rfl (by decide) dX9_lineHere_25 ?_
      refine lv_if_ne (tgt := 55) hx hb dX9_lineHere_28 (by decide) (fun c18 => ?_) (fun c18 => ?_)
      ·
        have q18 : ¬ (i 96 12).toInt = 0 := i_ne c18
        have h19 : rg 1 3 (i 96 12) := t_nelo 1 (Rg_at hR 96 12 0 3 (by decide) rfl) (rg_k (by decide) : rg 0 0 0) (i_ne c18) (by decide)
        refine lv_aload_n hx hb dX9_lineHere_55 rfl (lv_at hl 0 rfl) ?_
        refine r_geti X hT 96 12 fk_9_135 rfl rfl (by decide) dX9_lineHere_56 ?_
        refine lv_if_ne (tgt := 86) hx hb dX9_lineHere_59 (by decide) (fun c20 => ?_) (fun c20 => (x_eq h19 (rg_k (by decide) : rg 0 0 0) (i_eq c20) (by decide)).elim)
        have q20 : ¬ (i 96 12).toInt = 0 := i_ne c20
        refine lv_aload_n hx hb dX9_lineHere_86 rfl (lv_at hl 0 rfl) ?_
        refine r_geti X hT 96 12 fk_9_135 rfl rfl (by decide) dX9_lineHere_87 ?_
        refine lv_if_ne (tgt := 98) hx hb dX9_lineHere_90 (by decide) (fun c21 => ?_) (fun c21 => (x_eq h19 (rg_k (by decide) : rg 0 0 0) (i_eq c21) (by decide)).elim)
        have q21 : ¬ (i 96 12).toInt = 0 := i_ne c21
        exact hret _ _ _ _ _ _ dX9_lineHere_98 hT hS ⟨hR, hF, hp0, (prg_rf i), (tok_b h19 (by decide))⟩
      ·
        have q18 : (i 96 12).toInt = 0 := i_eq c18
        have h22 : rg 0 0 (i 96 12) := t_eqx 0 0 (Rg_at hR 96 12 0 3 (by decide) rfl) (rg_k (by decide) : rg 0 0 0) (i_eq c18) (by decide)
        refine lv_aload_n hx hb dX9_lineHere_31 rfl (lv_at hl 0 rfl) ?_
        refine lv_aload_n hx hb dX9_lineHere_32 rfl (lv_at hl 0 rfl) ?_
        refine lv_ldc2 (v := 129361) hx hb X.2.2.2.1 (X.2.2.2.2.1 _ gm_1607) dX9_lineHere_33 ?_
        refine e_Vi (As := [.long 129361]) (rest := [.ref (h 96)]) X Y hT hS (m_X9_is hR (129361)) mk_X9_is gm_1568 rfl rfl (by decide) hd_X9_is ⟨rfl, rfl⟩ ⟨Nat.le_of_ble_eq_true rfl, Nat.le_of_ble_eq_true rfl⟩ hl.1 rfl (Nat.le_of_ble_eq_true rfl) dX9_lineHere_36 ⟨Nat.zero_le _, Nat.zero_le _⟩ (fun r23 i23 g23 H locs hq hT hS => ?_)
        rcases hq with hq | hq
        ·
          obtain ⟨eh23, rfl, hf23_0, hf23_1⟩ := hq
          rw [(Prod.mk.inj eh23).1, (Prod.mk.inj eh23).2] at hT
          have h24 : rg 1 1 (i 96 8) := hf23_0
          refine lv_iconst (v := 4) hx hb dX9_lineHere_39 (by decide) ?_
          refine lv_bipush (v := 10) hx hb dX9_lineHere_40 (by decide) ?_
          refine e_Vi (As := [.int 1, .int 4, .int 10]) (rest := []) X Y hT hS (m_X9_isRoom_4 hR (1) (4) (10) (rg_w (rg_k (by decide) : rg 1 1 1) (by decide) : rg 0 1 1) (rg_k (by decide) : rg 4 4 4) (rg_k (by decide) : rg 10 10 10) hp0) mk_X9_isRoom gm_1592 rfl rfl (by decide) hd_X9_isRoom ⟨rfl, rfl⟩ ⟨Nat.le_of_ble_eq_true rfl, Nat.le_of_ble_eq_true rfl⟩ hl.1 rfl (Nat.le_of_ble_eq_true rfl) dX9_lineHere_42 ⟨Nat.zero_le _, Nat.zero_le _⟩ (fun r25 i25 g25 H locs hq hT hS => ?_)
          rcases hq with hq | hq | hq
          ·
            obtain ⟨hR25, hf25, rfl, hp25_0, hf25_0, hf25_1, hf25_2⟩ := hq
            have hF25 := Fr_tr hF hf25 (by decide)
            replace hp25_0 : (i25 96 7).toInt ≤ (i25 96 6).toInt := hp25_0
            have h26 : rg 0 9 (i25 103 32) := hf25_1
            have hQ27_i : prg i i25 := prg_tr (prg_rf i) hf25_2
            refine lv_if_eq (tgt := 55) hx hb dX9_lineHere_45 (by decide) (fun c28 => (x_eq (rg_k (by decide) : rg 1 1 1) (rg_k (by decide) : rg 0 0 0) (i_eq c28) (by decide)).elim) (fun c28 => ?_)
            refine lv_aload_n hx hb dX9_lineHere_48 rfl (lv_at hl 0 rfl) ?_
            refine e_Vv (As := []) (rest := []) X Y hT hS (m_X9_foldLine hR25 h26 hp25_0) mk_X9_foldLine gm_1608 rfl rfl (by decide) hd_X9_foldLine ⟨rfl, rfl⟩ ⟨Nat.le_of_ble_eq_true rfl, Nat.le_of_ble_eq_true rfl⟩ hl.1 rfl (Nat.le_of_ble_eq_true rfl) dX9_lineHere_49 ⟨Nat.zero_le _, Nat.zero_le _⟩ (fun i29 g29 H locs hq hT hS => ?_)
            obtain ⟨hR29, hf29, hp29_0, hf29_0⟩ := hq
            have hF29 := Fr_tr hF25 hf29 (by decide)
            replace hp29_0 : (i29 96 7).toInt ≤ (i29 96 6).toInt := hp29_0
            have hQ30_i : prg i i29 := prg_tr hQ27_i hf29_0
            refine lv_goto (tgt := 98) hx hb dX9_lineHere_52 (by decide) ?_
            exact hret _ _ _ _ _ _ dX9_lineHere_98 hT hS ⟨hR29, hF29, hp29_0, hQ30_i, (tok_1 h24)⟩
          ·
            obtain ⟨hR25, hf25, rfl, hf25_0, hf25_1⟩ := hq
            have hF25 := Fr_tr hF hf25 (by decide)
            exact (x_eq (rg_k (by decide) : rg 1 1 1) hf25_0 rfl (by decide)).elim
          ·
            obtain ⟨hR25, hf25, rfl, hp25_0, hf25_0, hf25_1⟩ := hq
            have hF25 := Fr_tr hF hf25 (by decide)
            replace hp25_0 : (i25 96 7).toInt ≤ (i25 96 6).toInt := hp25_0
            have h31 : rg 1 3 (i25 96 12) := hf25_0
            have hQ32_i : prg i i25 := prg_tr (prg_rf i) hf25_1
            refine lv_if_eq (tgt := 55) hx hb dX9_lineHere_45 (by decide) (fun c33 => ?_) (fun c33 => (x_ne (rg_k (by decide) : rg 0 0 0) (rg_k (by decide) : rg 0 0 0) (i_ne c33) (by decide)).elim)
            refine lv_aload_n hx hb dX9_lineHere_55 rfl (lv_at hl 0 rfl) ?_
            refine r_geti X hT 96 12 fk_9_135 rfl rfl (by decide) dX9_lineHere_56 ?_
            refine lv_if_ne (tgt := 86) hx hb dX9_lineHere_59 (by decide) (fun c34 => ?_) (fun c34 => (x_eq h31 (rg_k (by decide) : rg 0 0 0) (i_eq c34) (by decide)).elim)
            have q34 : ¬ (i25 96 12).toInt = 0 := i_ne c34
            refine lv_aload_n hx hb dX9_lineHere_86 rfl (lv_at hl 0 rfl) ?_
            refine r_geti X hT 96 12 fk_9_135 rfl rfl (by decide) dX9_lineHere_87 ?_
            refine lv_if_ne (tgt := 98) hx hb dX9_lineHere_90 (by decide) (fun c35 => ?_) (fun c35 => (x_eq h31 (rg_k (by decide) : rg 0 0 0) (i_eq c35) (by decide)).elim)
            have q35 : ¬ (i25 96 12).toInt = 0 := i_ne c35
            exact hret _ _ _ _ _ _ dX9_lineHere_98 hT hS ⟨hR25, hF25, hp25_0, hQ32_i, (tok_b h31 (by decide))⟩
        ·
          obtain ⟨eh23, rfl⟩ := hq
          rw [(Prod.mk.inj eh23).1, (Prod.mk.inj eh23).2] at hT
          refine lv_iconst (v := 4) hx hb dX9_lineHere_39 (by decide) ?_
          refine lv_bipush (v := 10) hx hb dX9_lineHere_40 (by decide) ?_
          refine e_Vi (As := [.int 0, .int 4, .int 10]) (rest := []) X Y hT hS (m_X9_isRoom_4 hR (0) (4) (10) (rg_w (rg_k (by decide) : rg 0 0 0) (by decide) : rg 0 1 0) (rg_k (by decide) : rg 4 4 4) (rg_k (by decide) : rg 10 10 10) hp0) mk_X9_isRoom gm_1592 rfl rfl (by decide) hd_X9_isRoom ⟨rfl, rfl⟩ ⟨Nat.le_of_ble_eq_true rfl, Nat.le_of_ble_eq_true rfl⟩ hl.1 rfl (Nat.le_of_ble_eq_true rfl) dX9_lineHere_42 ⟨Nat.zero_le _, Nat.zero_le _⟩ (fun r36 i36 g36 H locs hq hT hS => ?_)
          rcases hq with hq | hq | hq
          ·
            obtain ⟨hR36, hf36, rfl, hp36_0, hf36_0, hf36_1, hf36_2⟩ := hq
            have hF36 := Fr_tr hF hf36 (by decide)
            replace hp36_0 : (i36 96 7).toInt ≤ (i36 96 6).toInt := hp36_0
            exact (x_eq (rg_k (by decide) : rg 0 0 0) hf36_0 rfl (by decide)).elim
          ·
            obtain ⟨hR36, hf36, rfl, hf36_0, hf36_1⟩ := hq
            have hF36 := Fr_tr hF hf36 (by decide)
            rw [(Prod.mk.inj hf36_1).1, (Prod.mk.inj hf36_1).2] at hT
            refine lv_if_eq (tgt := 55) hx hb dX9_lineHere_45 (by decide) (fun c37 => ?_) (fun c37 => (x_ne (rg_k (by decide) : rg 0 0 0) (rg_k (by decide) : rg 0 0 0) (i_ne c37) (by decide)).elim)
            refine lv_aload_n hx hb dX9_lineHere_55 rfl (lv_at hl 0 rfl) ?_
            refine r_geti X hT 96 12 fk_9_135 rfl rfl (by decide) dX9_lineHere_56 ?_
            refine lv_if_ne (tgt := 86) hx hb dX9_lineHere_59 (by decide) (fun c38 => (x_ne h22 (rg_k (by decide) : rg 0 0 0) (i_ne c38) (by decide)).elim) (fun c38 => ?_)
            have q38 : (i 96 12).toInt = 0 := i_eq c38
            refine lv_aload_n hx hb dX9_lineHere_62 rfl (lv_at hl 0 rfl) ?_
            refine lv_aload_n hx hb dX9_lineHere_63 rfl (lv_at hl 0 rfl) ?_
            refine lv_ldc2 (v := 6128141) hx hb X.2.2.2.1 (X.2.2.2.2.1 _ gm_1620) dX9_lineHere_64 ?_
            refine e_Vi (As := [.long 6128141]) (rest := [.ref (h 96)]) X Y hT hS (m_X9_is hR (6128141)) mk_X9_is gm_1568 rfl rfl (by decide) hd_X9_is ⟨rfl, rfl⟩ ⟨Nat.le_of_ble_eq_true rfl, Nat.le_of_ble_eq_true rfl⟩ hl.1 rfl (Nat.le_of_ble_eq_true rfl) dX9_lineHere_67 ⟨Nat.zero_le _, Nat.zero_le _⟩ (fun r39 i39 g39 H locs hq hT hS => ?_)
            rcases hq with hq | hq
            ·
              obtain ⟨eh39, rfl, hf39_0, hf39_1⟩ := hq
              rw [(Prod.mk.inj eh39).1, (Prod.mk.inj eh39).2] at hT
              have h40 : rg 1 1 (i 96 8) := hf39_0
              refine lv_iconst (v := 5) hx hb dX9_lineHere_70 (by decide) ?_
              refine lv_bipush (v := 8) hx hb dX9_lineHere_71 (by decide) ?_
              refine e_Vi (As := [.int 1, .int 5, .int 8]) (rest := []) X Y hT hS (m_X9_isRoom_5 hR (1) (5) (8) (rg_w (rg_k (by decide) : rg 1 1 1) (by decide) : rg 0 1 1) (rg_k (by decide) : rg 5 5 5) (rg_k (by decide) : rg 8 8 8) hp0) mk_X9_isRoom gm_1592 rfl rfl (by decide) hd_X9_isRoom ⟨rfl, rfl⟩ ⟨Nat.le_of_ble_eq_true rfl, Nat.le_of_ble_eq_true rfl⟩ hl.1 rfl (Nat.le_of_ble_eq_true rfl) dX9_lineHere_73 ⟨Nat.zero_le _, Nat.zero_le _⟩ (fun r41 i41 g41 H locs hq hT hS => ?_)
              rcases hq with hq | hq | hq
              ·
                obtain ⟨hR41, hf41, rfl, hp41_0, hf41_0, hf41_1, hf41_2⟩ := hq
                have hF41 := Fr_tr hF hf41 (by decide)
                replace hp41_0 : (i41 96 7).toInt ≤ (i41 96 6).toInt := hp41_0
                have h42 : rg 0 7 (i41 103 33) := hf41_1
                have hQ43_i : prg i i41 := prg_tr (prg_rf i) hf41_2
                refine lv_if_eq (tgt := 86) hx hb dX9_lineHere_76 (by decide) (fun c44 => (x_eq (rg_k (by decide) : rg 1 1 1) (rg_k (by decide) : rg 0 0 0) (i_eq c44) (by decide)).elim) (fun c44 => ?_)
                refine lv_aload_n hx hb dX9_lineHere_79 rfl (lv_at hl 0 rfl) ?_
                refine e_Vv (As := []) (rest := []) X Y hT hS (m_X9_knifeLine hR41 h42 hp41_0) mk_X9_knifeLine gm_1621 rfl rfl (by decide) hd_X9_knifeLine ⟨rfl, rfl⟩ ⟨Nat.le_of_ble_eq_true rfl, Nat.le_of_ble_eq_true rfl⟩ hl.1 rfl (Nat.le_of_ble_eq_true rfl) dX9_lineHere_80 ⟨Nat.zero_le _, Nat.zero_le _⟩ (fun i45 g45 H locs hq hT hS => ?_)
                obtain ⟨hR45, hf45, hp45_0, hf45_0⟩ := hq
                have hF45 := Fr_tr hF41 hf45 (by decide)
                replace hp45_0 : (i45 96 7).toInt ≤ (i45 96 6).toInt := hp45_0
                have hQ46_i : prg i i45 := prg_tr hQ43_i hf45_0
                refine lv_goto (tgt := 98) hx hb dX9_lineHere_83 (by decide) ?_
                exact hret _ _ _ _ _ _ dX9_lineHere_98 hT hS ⟨hR45, hF45, hp45_0, hQ46_i, (tok_1 h40)⟩
              ·
                obtain ⟨hR41, hf41, rfl, hf41_0, hf41_1⟩ := hq
                have hF41 := Fr_tr hF hf41 (by decide)
                exact (x_eq (rg_k (by decide) : rg 1 1 1) hf41_0 rfl (by decide)).elim
              ·
                obtain ⟨hR41, hf41, rfl, hp41_0, hf41_0, hf41_1⟩ := hq
                have hF41 := Fr_tr hF hf41 (by decide)
                replace hp41_0 : (i41 96 7).toInt ≤ (i41 96 6).toInt := hp41_0
                have h47 : rg 1 3 (i41 96 12) := hf41_0
                have hQ48_i : prg i i41 := prg_tr (prg_rf i) hf41_1
                refine lv_if_eq (tgt := 86) hx hb dX9_lineHere_76 (by decide) (fun c49 => ?_) (fun c49 => (x_ne (rg_k (by decide) : rg 0 0 0) (rg_k (by decide) : rg 0 0 0) (i_ne c49) (by decide)).elim)
                refine lv_aload_n hx hb dX9_lineHere_86 rfl (lv_at hl 0 rfl) ?_
                refine r_geti X hT 96 12 fk_9_135 rfl rfl (by decide) dX9_lineHere_87 ?_
                refine lv_if_ne (tgt := 98) hx hb dX9_lineHere_90 (by decide) (fun c50 => ?_) (fun c50 => (x_eq h47 (rg_k (by decide) : rg 0 0 0) (i_eq c50) (by decide)).elim)
                have q50 : ¬ (i41 96 12).toInt = 0 := i_ne c50
                exact hret _ _ _ _ _ _ dX9_lineHere_98 hT hS ⟨hR41, hF41, hp41_0, hQ48_i, (tok_b h47 (by decide))⟩
            ·
              obtain ⟨eh39, rfl⟩ := hq
              rw [(Prod.mk.inj eh39).1, (Prod.mk.inj eh39).2] at hT
              refine lv_iconst (v := 5) hx hb dX9_lineHere_70 (by decide) ?_
              refine lv_bipush (v := 8) hx hb dX9_lineHere_71 (by decide) ?_
              refine e_Vi (As := [.int 0, .int 5, .int 8]) (rest := []) X Y hT hS (m_X9_isRoom_5 hR (0) (5) (8) (rg_w (rg_k (by decide) : rg 0 0 0) (by decide) : rg 0 1 0) (rg_k (by decide) : rg 5 5 5) (rg_k (by decide) : rg 8 8 8) hp0) mk_X9_isRoom gm_1592 rfl rfl (by decide) hd_X9_isRoom ⟨rfl, rfl⟩ ⟨Nat.le_of_ble_eq_true rfl, Nat.le_of_ble_eq_true rfl⟩ hl.1 rfl (Nat.le_of_ble_eq_true rfl) dX9_lineHere_73 ⟨Nat.zero_le _, Nat.zero_le _⟩ (fun r51 i51 g51 H locs hq hT hS => ?_)
              rcases hq with hq | hq | hq
              ·
                obtain ⟨hR51, hf51, rfl, hp51_0, hf51_0, hf51_1, hf51_2⟩ := hq
                have hF51 := Fr_tr hF hf51 (by decide)
                replace hp51_0 : (i51 96 7).toInt ≤ (i51 96 6).toInt := hp51_0
                exact (x_eq (rg_k (by decide) : rg 0 0 0) hf51_0 rfl (by decide)).elim
              ·
                obtain ⟨hR51, hf51, rfl, hf51_0, hf51_1⟩ := hq
                have hF51 := Fr_tr hF hf51 (by decide)
                rw [(Prod.mk.inj hf51_1).1, (Prod.mk.inj hf51_1).2] at hT
                refine lv_if_eq (tgt := 86) hx hb dX9_lineHere_76 (by decide) (fun c52 => ?_) (fun c52 => (x_ne (rg_k (by decide) : rg 0 0 0) (rg_k (by decide) : rg 0 0 0) (i_ne c52) (by decide)).elim)
                refine lv_aload_n hx hb dX9_lineHere_86 rfl (lv_at hl 0 rfl) ?_
                refine r_geti X hT 96 12 fk_9_135 rfl rfl (by decide) dX9_lineHere_87 ?_
                refine lv_if_ne (tgt := 98) hx hb dX9_lineHere_90 (by decide) (fun c53 => (x_ne h22 (rg_k (by decide) : rg 0 0 0) (i_ne c53) (by decide)).elim) (fun c53 => ?_)
                have q53 : (i 96 12).toInt = 0 := i_eq c53
                refine lv_aload_n hx hb dX9_lineHere_93 rfl (lv_at hl 0 rfl) ?_
                refine lv_iconst (v := 1) hx hb dX9_lineHere_94 (by decide) ?_
                refine e_Vv (As := [.int 1]) (rest := []) X Y hT hS (m_X9_fails hR (1) (rg_w (rg_k (by decide) : rg 1 1 1) (by decide) : rg 1 3 1) hp0) mk_X9_fails gm_1572 rfl rfl (by decide) hd_X9_fails ⟨rfl, rfl⟩ ⟨Nat.le_of_ble_eq_true rfl, Nat.le_of_ble_eq_true rfl⟩ hl.1 rfl (Nat.le_of_ble_eq_true rfl) dX9_lineHere_95 ⟨Nat.zero_le _, Nat.zero_le _⟩ (fun i54 g54 H locs hq hT hS => ?_)
                obtain ⟨hR54, hf54, hp54_0, hf54_0, hf54_1⟩ := hq
                have hF54 := Fr_tr hF hf54 (by decide)
                replace hp54_0 : (i54 96 7).toInt ≤ (i54 96 6).toInt := hp54_0
                have h55 : rg 1 3 (i54 96 12) := hf54_0
                have hQ56_i : prg i i54 := prg_tr (prg_rf i) hf54_1
                exact hret _ _ _ _ _ _ dX9_lineHere_98 hT hS ⟨hR54, hF54, hp54_0, hQ56_i, (tok_b h55 (by decide))⟩
              ·
                obtain ⟨hR51, hf51, rfl, hp51_0, hf51_0, hf51_1⟩ := hq
                have hF51 := Fr_tr hF hf51 (by decide)
                replace hp51_0 : (i51 96 7).toInt ≤ (i51 96 6).toInt := hp51_0
                have h57 : rg 1 3 (i51 96 12) := hf51_0
                have hQ58_i : prg i i51 := prg_tr (prg_rf i) hf51_1
                refine lv_if_eq (tgt := 86) hx hb dX9_lineHere_76 (by decide) (fun c59 => ?_) (fun c59 => (x_ne (rg_k (by decide) : rg 0 0 0) (rg_k (by decide) : rg 0 0 0) (i_ne c59) (by decide)).elim)
                refine lv_aload_n hx hb dX9_lineHere_86 rfl (lv_at hl 0 rfl) ?_
                refine r_geti X hT 96 12 fk_9_135 rfl rfl (by decide) dX9_lineHere_87 ?_
                refine lv_if_ne (tgt := 98) hx hb dX9_lineHere_90 (by decide) (fun c60 => ?_) (fun c60 => (x_eq h57 (rg_k (by decide) : rg 0 0 0) (i_eq c60) (by decide)).elim)
                have q60 : ¬ (i51 96 12).toInt = 0 := i_ne c60
                exact hret _ _ _ _ _ _ dX9_lineHere_98 hT hS ⟨hR51, hF51, hp51_0, hQ58_i, (tok_b h57 (by decide))⟩
          ·
            obtain ⟨hR36, hf36, rfl, hp36_0, hf36_0, hf36_1⟩ := hq
            have hF36 := Fr_tr hF hf36 (by decide)
            replace hp36_0 : (i36 96 7).toInt ≤ (i36 96 6).toInt := hp36_0
            have h61 : rg 1 3 (i36 96 12) := hf36_0
            have hQ62_i : prg i i36 := prg_tr (prg_rf i) hf36_1
            refine lv_if_eq (tgt := 55) hx hb dX9_lineHere_45 (by decide) (fun c63 => ?_) (fun c63 => (x_ne (rg_k (by decide) : rg 0 0 0) (rg_k (by decide) : rg 0 0 0) (i_ne c63) (by decide)).elim)
            refine lv_aload_n hx hb dX9_lineHere_55 rfl (lv_at hl 0 rfl) ?_
            refine r_geti X hT 96 12 fk_9_135 rfl rfl (by decide) dX9_lineHere_56 ?_
            refine lv_if_ne (tgt := 86) hx hb dX9_lineHere_59 (by decide) (fun c64 => ?_) (fun c64 => (x_eq h61 (rg_k (by decide) : rg 0 0 0) (i_eq c64) (by decide)).elim)
            have q64 : ¬ (i36 96 12).toInt = 0 := i_ne c64
            refine lv_aload_n hx hb dX9_lineHere_86 rfl (lv_at hl 0 rfl) ?_
            refine r_geti X hT 96 12 fk_9_135 rfl rfl (by decide) dX9_lineHere_87 ?_
            refine lv_if_ne (tgt := 98) hx hb dX9_lineHere_90 (by decide) (fun c65 => ?_) (fun c65 => (x_eq h61 (rg_k (by decide) : rg 0 0 0) (i_eq c65) (by decide)).elim)
            have q65 : ¬ (i36 96 12).toInt = 0 := i_ne c65
            exact hret _ _ _ _ _ _ dX9_lineHere_98 hT hS ⟨hR36, hF36, hp36_0, hQ62_i, (tok_b h61 (by decide))⟩
    ·
      obtain ⟨hR16, hf16, rfl, hp16_0, hf16_0, hf16_1⟩ := hq
      have hF16 := Fr_tr hF hf16 (by decide)
      replace hp16_0 : (i16 96 7).toInt ≤ (i16 96 6).toInt := hp16_0
      have h66 : rg 1 3 (i16 96 12) := hf16_0
      have hQ67_i : prg i i16 := prg_tr (prg_rf i) hf16_1
      refine lv_if_eq (tgt := 24) hx hb dX9_lineHere_14 (by decide) (fun c68 => ?_) (fun c68 => (x_ne (rg_k (by decide) : rg 0 0 0) (rg_k (by decide) : rg 0 0 0) (i_ne c68) (by decide)).elim)
      refine lv_aload_n hx hb dX9_lineHere_24 rfl (lv_at hl 0 rfl) ?_
      refine r_geti X hT 96 12 fk_9_135 rfl rfl (by decide) dX9_lineHere_25 ?_
      refine lv_if_ne (tgt := 55) hx hb dX9_lineHere_28 (by decide) (fun c69 => ?_) (fun c69 => (x_eq h66 (rg_k (by decide) : rg 0 0 0) (i_eq c69) (by decide)).elim)
      have q69 : ¬ (i16 96 12).toInt = 0 := i_ne c69
      refine lv_aload_n hx hb dX9_lineHere_55 rfl (lv_at hl 0 rfl) ?_
      refine r_geti X hT 96 12 fk_9_135 rfl rfl (by decide) dX9_lineHere_56 ?_
      refine lv_if_ne (tgt := 86) hx hb dX9_lineHere_59 (by decide) (fun c70 => ?_) (fun c70 => (x_eq h66 (rg_k (by decide) : rg 0 0 0) (i_eq c70) (by decide)).elim)
      have q70 : ¬ (i16 96 12).toInt = 0 := i_ne c70
      refine lv_aload_n hx hb dX9_lineHere_86 rfl (lv_at hl 0 rfl) ?_
      refine r_geti X hT 96 12 fk_9_135 rfl rfl (by decide) dX9_lineHere_87 ?_
      refine lv_if_ne (tgt := 98) hx hb dX9_lineHere_90 (by decide) (fun c71 => ?_) (fun c71 => (x_eq h66 (rg_k (by decide) : rg 0 0 0) (i_eq c71) (by decide)).elim)
      have q71 : ¬ (i16 96 12).toInt = 0 := i_ne c71
      exact hret _ _ _ _ _ _ dX9_lineHere_98 hT hS ⟨hR16, hF16, hp16_0, hQ67_i, (tok_b h66 (by decide))⟩
set_option maxRecDepth 100000 in
set_option maxHeartbeats 4000000 in
theorem m_X9_ends {l : Launch} {D : va_G} {h : Nat → Nat} {cz : Nat → ClassId} {z : EZ} {i : Nat → Nat → Int32} {g : Nat → Nat → Int64} (hR : Rg rA i) (hp0 : (i 96 7).toInt ≤ (i 96 6).toInt) : DtV l yX9_ends cX9_ends 1 none ({ frames := 2, cells := 0, slots := 0, locals := 44 } : Room) D h cz z i g [.ref (h 96)] (fun u => Rg rA u.1 ∧ Fr [96] [96] i g u ∧ ((u.1 96 7).toInt ≤ (u.1 96 6).toInt) ∧ prg i u.1 ∧ (¬ (u.1 96 12).toInt = 0 ∨ (i 96 8).toInt = 3)) := by
  refine e_V pn_X9_ends (Nat.le_of_ble_eq_true rfl) ?_
  intro p e s m args below meth c ls Q X Y hret hT hl hS
  have hx := X.1
  have hb := X.2.1
  have hl : lv_has ls 1 [(0, .ref (h 96))] := hl
  have hF : Fr [96] [96] i g (i, g) := Fr_rf _ _ _ _
  refine lv_aload_n hx hb dX9_ends_0 rfl (lv_at hl 0 rfl) ?_
  refine r_geti X hT 96 8 fk_9_124 rfl rfl (by decide) dX9_ends_1 ?_
  refine lv_iconst (v := 3) hx hb dX9_ends_4 (by decide) ?_
  refine lv_icmp_eq (tgt := 13) hx hb dX9_ends_5 (by decide) (fun c1 => ?_) (fun c1 => ?_)
  ·
    have q1 : (i 96 8).toInt = 3 := i_eq c1
    have h2 : rg 3 3 (i 96 8) := t_eqx 3 3 (rg_top (i 96 8)) (rg_k (by decide) : rg 3 3 3) (i_eq c1) (by decide)
    refine lv_aload_n hx hb dX9_ends_13 rfl (lv_at hl 0 rfl) ?_
    refine r_geti X hT 96 12 fk_9_135 rfl rfl (by decide) dX9_ends_14 ?_
    refine lv_if_ne (tgt := 24) hx hb dX9_ends_17 (by decide) (fun c3 => ?_) (fun c3 => ?_)
    ·
      have q3 : ¬ (i 96 12).toInt = 0 := i_ne c3
      have h4 : rg 1 3 (i 96 12) := t_nelo 1 (Rg_at hR 96 12 0 3 (by decide) rfl) (rg_k (by decide) : rg 0 0 0) (i_ne c3) (by decide)
      exact hret _ _ _ _ _ _ dX9_ends_24 hT hS ⟨hR, hF, hp0, (prg_rf i), (Or.inr (by have := h2.1; have := h2.2; omega))⟩
    ·
      have q3 : (i 96 12).toInt = 0 := i_eq c3
      have h5 : rg 0 0 (i 96 12) := t_eqx 0 0 (Rg_at hR 96 12 0 3 (by decide) rfl) (rg_k (by decide) : rg 0 0 0) (i_eq c3) (by decide)
      refine lv_aload_n hx hb dX9_ends_20 rfl (lv_at hl 0 rfl) ?_
      refine e_Vv (As := []) (rest := []) X Y hT hS (m_X9_follows hR hp0) mk_X9_follows gm_1542 rfl rfl (by decide) hd_X9_follows ⟨rfl, rfl⟩ ⟨Nat.le_of_ble_eq_true rfl, Nat.le_of_ble_eq_true rfl⟩ hl.1 rfl (Nat.le_of_ble_eq_true rfl) dX9_ends_21 ⟨Nat.zero_le _, Nat.zero_le _⟩ (fun i6 g6 H locs hq hT hS => ?_)
      obtain ⟨hR6, hf6, hp6_0, hf6_0, hf6_1⟩ := hq
      have hF6 := Fr_tr hF hf6 (by decide)
      replace hp6_0 : (i6 96 7).toInt ≤ (i6 96 6).toInt := hp6_0
      have hQ7_i : prg i i6 := prg_tr (prg_rf i) hf6_0
      exact hret _ _ _ _ _ _ dX9_ends_24 hT hS ⟨hR6, hF6, hp6_0, hQ7_i, (Or.inr (by have := h2.1; have := h2.2; omega))⟩
  ·
    have q1 : ¬ (i 96 8).toInt = 3 := i_ne c1
    refine lv_aload_n hx hb dX9_ends_8 rfl (lv_at hl 0 rfl) ?_
    refine lv_iconst (v := 1) hx hb dX9_ends_9 (by decide) ?_
    refine e_Vv (As := [.int 1]) (rest := []) X Y hT hS (m_X9_fails hR (1) (rg_w (rg_k (by decide) : rg 1 1 1) (by decide) : rg 1 3 1) hp0) mk_X9_fails gm_1572 rfl rfl (by decide) hd_X9_fails ⟨rfl, rfl⟩ ⟨Nat.le_of_ble_eq_true rfl, Nat.le_of_ble_eq_true rfl⟩ hl.1 rfl (Nat.le_of_ble_eq_true rfl) dX9_ends_10 ⟨Nat.zero_le _, Nat.zero_le _⟩ (fun i8 g8 H locs hq hT hS => ?_)
    obtain ⟨hR8, hf8, hp8_0, hf8_0, hf8_1⟩ := hq
    have hF8 := Fr_tr hF hf8 (by decide)
    replace hp8_0 : (i8 96 7).toInt ≤ (i8 96 6).toInt := hp8_0
    have h9 : rg 1 3 (i8 96 12) := hf8_0
    have hQ10_i : prg i i8 := prg_tr (prg_rf i) hf8_1
    refine lv_aload_n hx hb dX9_ends_13 rfl (lv_at hl 0 rfl) ?_
    refine r_geti X hT 96 12 fk_9_135 rfl rfl (by decide) dX9_ends_14 ?_
    refine lv_if_ne (tgt := 24) hx hb dX9_ends_17 (by decide) (fun c11 => ?_) (fun c11 => (x_eq h9 (rg_k (by decide) : rg 0 0 0) (i_eq c11) (by decide)).elim)
    have q11 : ¬ (i8 96 12).toInt = 0 := i_ne c11
    exact hret _ _ _ _ _ _ dX9_ends_24 hT hS ⟨hR8, hF8, hp8_0, hQ10_i, (Or.inl (by have := h9.1; omega))⟩
set_option maxRecDepth 100000 in
set_option maxHeartbeats 4000000 in
theorem m_X9_tellsOf_0_1t12 {l : Launch} {D : va_G} {h : Nat → Nat} {cz : Nat → ClassId} {z : EZ} {i : Nat → Nat → Int32} {g : Nat → Nat → Int64} (hR : Rg rA i) (a_a : Int32) (a_b : Int32) (ha_a : rg 0 0 a_a) (ha_b : rg 1 12 a_b) : DtV l yX9_tellsOf cX9_tellsOf 3 none ({ frames := 0, cells := 0, slots := 0, locals := 0 } : Room) D h cz z i g [.ref (h 96), .int a_a, .int a_b] (fun u => Rg rA u.1 ∧ Fr [103] [] i g u) := by
  refine e_V pn_X9_tellsOf (Nat.le_of_ble_eq_true rfl) ?_
  intro p e s m args below meth c ls Q X Y hret hT hl hS
  have hx := X.1
  have hb := X.2.1
  have hl : lv_has ls 3 [(0, .ref (h 96)), (1, .int a_a), (2, .int a_b)] := hl
  have hF : Fr [103] [] i g (i, g) := Fr_rf _ _ _ _
  refine lv_aload_n hx hb dX9_tellsOf_0 rfl (lv_at hl 0 rfl) ?_
  refine r_getr X hT 96 17 103 fk_9_34 rfl rfl (by decide) dX9_tellsOf_1 ?_
  refine lv_bipush (v := 28) hx hb dX9_tellsOf_4 (by decide) ?_
  refine lv_iload_n hx hb dX9_tellsOf_6 rfl (lv_at hl 1 rfl) ?_
  refine q_iadd hx hb dX9_tellsOf_7 (fun x1 ex1 => ?_)
  obtain ⟨hx1, ax1⟩ := rg_add 28 28 ex1 (rg_k (by decide) : rg 28 28 28) ha_a (by decide)
  replace ax1 : x1.toInt = 28 + a_a.toInt := ax1
  refine lv_iload_n hx hb dX9_tellsOf_8 rfl (lv_at hl 2 rfl) ?_
  refine r_iastc X hT hS 103 28 rfl (by decide) (v_in hx1 (by decide)) (cl_c hx1 28 rfl (by decide)) dX9_tellsOf_9 (fun H locs i2 ei2 hT hS => ?_)
  have hR2 := Rg_put hR ei2 0 12 rfl ha_b (by decide)
  have hF2 := Fr_puti hF ei2 (by decide)
  exact hret _ _ _ _ _ _ dX9_tellsOf_10 hT hS ⟨hR2, hF2⟩
set_option maxRecDepth 100000 in
set_option maxHeartbeats 4000000 in
theorem m_X9_tellsOf_1_0t3 {l : Launch} {D : va_G} {h : Nat → Nat} {cz : Nat → ClassId} {z : EZ} {i : Nat → Nat → Int32} {g : Nat → Nat → Int64} (hR : Rg rA i) (a_a : Int32) (a_b : Int32) (ha_a : rg 1 1 a_a) (ha_b : rg 0 3 a_b) : DtV l yX9_tellsOf cX9_tellsOf 3 none ({ frames := 0, cells := 0, slots := 0, locals := 0 } : Room) D h cz z i g [.ref (h 96), .int a_a, .int a_b] (fun u => Rg rA u.1 ∧ Fr [103] [] i g u) := by
  refine e_V pn_X9_tellsOf (Nat.le_of_ble_eq_true rfl) ?_
  intro p e s m args below meth c ls Q X Y hret hT hl hS
  have hx := X.1
  have hb := X.2.1
  have hl : lv_has ls 3 [(0, .ref (h 96)), (1, .int a_a), (2, .int a_b)] := hl
  have hF : Fr [103] [] i g (i, g) := Fr_rf _ _ _ _
  refine lv_aload_n hx hb dX9_tellsOf_0 rfl (lv_at hl 0 rfl) ?_
  refine r_getr X hT 96 17 103 fk_9_34 rfl rfl (by decide) dX9_tellsOf_1 ?_
  refine lv_bipush (v := 28) hx hb dX9_tellsOf_4 (by decide) ?_
  refine lv_iload_n hx hb dX9_tellsOf_6 rfl (lv_at hl 1 rfl) ?_
  refine q_iadd hx hb dX9_tellsOf_7 (fun x1 ex1 => ?_)
  obtain ⟨hx1, ax1⟩ := rg_add 29 29 ex1 (rg_k (by decide) : rg 28 28 28) ha_a (by decide)
  replace ax1 : x1.toInt = 28 + a_a.toInt := ax1
  refine lv_iload_n hx hb dX9_tellsOf_8 rfl (lv_at hl 2 rfl) ?_
  refine r_iastc X hT hS 103 29 rfl (by decide) (v_in hx1 (by decide)) (cl_c hx1 29 rfl (by decide)) dX9_tellsOf_9 (fun H locs i2 ei2 hT hS => ?_)
  have hR2 := Rg_put hR ei2 0 3 rfl ha_b (by decide)
  have hF2 := Fr_puti hF ei2 (by decide)
  exact hret _ _ _ _ _ _ dX9_tellsOf_10 hT hS ⟨hR2, hF2⟩
set_option maxRecDepth 100000 in
set_option maxHeartbeats 4000000 in
theorem m_X9_tellsOf_2_0t10 {l : Launch} {D : va_G} {h : Nat → Nat} {cz : Nat → ClassId} {z : EZ} {i : Nat → Nat → Int32} {g : Nat → Nat → Int64} (hR : Rg rA i) (a_a : Int32) (a_b : Int32) (ha_a : rg 2 2 a_a) (ha_b : rg 0 10 a_b) : DtV l yX9_tellsOf cX9_tellsOf 3 none ({ frames := 0, cells := 0, slots := 0, locals := 0 } : Room) D h cz z i g [.ref (h 96), .int a_a, .int a_b] (fun u => Rg rA u.1 ∧ Fr [103] [] i g u) := by
  refine e_V pn_X9_tellsOf (Nat.le_of_ble_eq_true rfl) ?_
  intro p e s m args below meth c ls Q X Y hret hT hl hS
  have hx := X.1
  have hb := X.2.1
  have hl : lv_has ls 3 [(0, .ref (h 96)), (1, .int a_a), (2, .int a_b)] := hl
  have hF : Fr [103] [] i g (i, g) := Fr_rf _ _ _ _
  refine lv_aload_n hx hb dX9_tellsOf_0 rfl (lv_at hl 0 rfl) ?_
  refine r_getr X hT 96 17 103 fk_9_34 rfl rfl (by decide) dX9_tellsOf_1 ?_
  refine lv_bipush (v := 28) hx hb dX9_tellsOf_4 (by decide) ?_
  refine lv_iload_n hx hb dX9_tellsOf_6 rfl (lv_at hl 1 rfl) ?_
  refine q_iadd hx hb dX9_tellsOf_7 (fun x1 ex1 => ?_)
  obtain ⟨hx1, ax1⟩ := rg_add 30 30 ex1 (rg_k (by decide) : rg 28 28 28) ha_a (by decide)
  replace ax1 : x1.toInt = 28 + a_a.toInt := ax1
  refine lv_iload_n hx hb dX9_tellsOf_8 rfl (lv_at hl 2 rfl) ?_
  refine r_iastc X hT hS 103 30 rfl (by decide) (v_in hx1 (by decide)) (cl_c hx1 30 rfl (by decide)) dX9_tellsOf_9 (fun H locs i2 ei2 hT hS => ?_)
  have hR2 := Rg_put hR ei2 0 10 rfl ha_b (by decide)
  have hF2 := Fr_puti hF ei2 (by decide)
  exact hret _ _ _ _ _ _ dX9_tellsOf_10 hT hS ⟨hR2, hF2⟩
set_option maxRecDepth 100000 in
set_option maxHeartbeats 4000000 in
theorem m_X9_tale {l : Launch} {D : va_G} {h : Nat → Nat} {cz : Nat → ClassId} {z : EZ} {i : Nat → Nat → Int32} {g : Nat → Nat → Int64} (hR : Rg rA i) : DtI l yX9_tale cX9_tale 1 (some .int) ({ frames := 7, cells := 0, slots := 0, locals := 153 } : Room) D h cz z i g [.ref (h 96)] (fun r u => Rg rA u.1 ∧ Fr [96, 102, 103, 104, 105, 106, 107] [96] i g u) := by
  refine e_I pn_X9_tale (Nat.le_of_ble_eq_true rfl) ?_
  intro p e s m args below meth c ls Q X Y hret hT hl hS
  have hx := X.1
  have hb := X.2.1
  have hl : lv_has ls 1 [(0, .ref (h 96))] := hl
  have hF : Fr [96, 102, 103, 104, 105, 106, 107] [96] i g (i, g) := Fr_rf _ _ _ _
  refine lv_aload_n hx hb dX9_tale_0 rfl (lv_at hl 0 rfl) ?_
  refine lv_iconst (v := 0) hx hb dX9_tale_1 (by decide) ?_
  refine r_puti X hT hS 96 0 pk_9_83 rfl rfl rfl rfl (by decide) dX9_tale_2 (fun H locs i1 ei1 hT hS => ?_)
  have hR1 := Rg_put hR ei1 (-2147483648) 2147483647 rfl (rg_k (by decide) : rg 0 0 0) (by decide)
  have hF1 := Fr_puti hF ei1 (by decide)
  refine lv_aload_n hx hb dX9_tale_5 rfl (lv_at hl 0 rfl) ?_
  refine e_Vv (As := []) (rest := []) X Y hT hS (m_X9_clears hR1) mk_X9_clears gm_1530 rfl rfl (by decide) hd_X9_clears ⟨rfl, rfl⟩ ⟨Nat.le_of_ble_eq_true rfl, Nat.le_of_ble_eq_true rfl⟩ hl.1 rfl (Nat.le_of_ble_eq_true rfl) dX9_tale_6 ⟨Nat.zero_le _, Nat.zero_le _⟩ (fun i2 g2 H locs hq hT hS => ?_)
  obtain ⟨hR2, hf2⟩ := hq
  have hF2 := Fr_tr hF1 hf2 (by decide)
  refine lv_aload_n hx hb dX9_tale_9 rfl (lv_at hl 0 rfl) ?_
  refine e_Vv (As := []) (rest := []) X Y hT hS (m_X9_begins hR2) mk_X9_begins gm_1538 rfl rfl (by decide) hd_X9_begins ⟨rfl, rfl⟩ ⟨Nat.le_of_ble_eq_true rfl, Nat.le_of_ble_eq_true rfl⟩ hl.1 rfl (Nat.le_of_ble_eq_true rfl) dX9_tale_10 ⟨Nat.zero_le _, Nat.zero_le _⟩ (fun i3 g3 H locs hq hT hS => ?_)
  obtain ⟨hR3, hf3, hp3_0⟩ := hq
  have hF3 := Fr_tr hF2 hf3 (by decide)
  replace hp3_0 : (i3 96 7).toInt ≤ (i3 96 6).toInt := hp3_0
  have L13_4 : ∀ (n6_ : Nat)  (i5 : Nat → Nat → Int32) (g5 : Nat → Nat → Int64) (H : Heap) (locs : List Loc) (ls : Array Slot), Rg rA i5 → Fr [96, 102, 103, 104, 105, 106, 107] [96] i g (i5, g5) → ((i5 96 7).toInt ≤ (i5 96 6).toInt) → TH D h cz i5 g5 H → va_S (hA h) s.heap H locs → lv_has ls 1 [(0, .ref (h 96))] → mt i5 < n6_ → W p l e ({ frames := 7, cells := 0, slots := 0, locals := 153 } : Room) s m args below meth c H locs 0 0 Q (F0 m 13 ls []) := by
    intro n6_
    induction n6_ with
    | zero => intro  i5 g5 H locs ls hR5 hF5 hP5_0 hT hS hl hm6_; exact absurd hm6_ (Nat.not_lt_zero _)
    | succ n6_ ih6_ =>
      intro  i5 g5 H locs ls hR5 hF5 hP5_0 hT hS hl hm6_
      have hPb : prg i5 i5 := prg_rf _
      refine lv_aload_n hx hb dX9_tale_13 rfl (lv_at hl 0 rfl) ?_
      refine e_Vi (As := []) (rest := []) X Y hT hS (m_X9_isGood hR5) mk_X9_isGood gm_1555 rfl rfl (by decide) hd_X9_isGood ⟨rfl, rfl⟩ ⟨Nat.le_of_ble_eq_true rfl, Nat.le_of_ble_eq_true rfl⟩ hl.1 rfl (Nat.le_of_ble_eq_true rfl) dX9_tale_14 ⟨Nat.zero_le _, Nat.zero_le _⟩ (fun r7 i7 g7 H locs hq hT hS => ?_)
      rcases hq with hq | hq
      ·
        obtain ⟨eh7, rfl, hf7_0⟩ := hq
        rw [(Prod.mk.inj eh7).1, (Prod.mk.inj eh7).2] at hT
        have h8 : rg 0 0 (i5 96 12) := hf7_0
        refine lv_if_eq (tgt := 118) hx hb dX9_tale_17 (by decide) (fun c9 => (x_eq (rg_k (by decide) : rg 1 1 1) (rg_k (by decide) : rg 0 0 0) (i_eq c9) (by decide)).elim) (fun c9 => ?_)
        refine lv_aload_n hx hb dX9_tale_20 rfl (lv_at hl 0 rfl) ?_
        refine r_geti X hT 96 8 fk_9_124 rfl rfl (by decide) dX9_tale_21 ?_
        refine lv_if_eq (tgt := 118) hx hb dX9_tale_24 (by decide) (fun c10 => ?_) (fun c10 => ?_)
        ·
          have q10 : (i5 96 8).toInt = 0 := i_eq c10
          have h11 : rg 0 0 (i5 96 8) := t_eqx 0 0 (rg_top (i5 96 8)) (rg_k (by decide) : rg 0 0 0) (i_eq c10) (by decide)
          refine lv_aload_n hx hb dX9_tale_118 rfl (lv_at hl 0 rfl) ?_
          refine e_Vv (As := []) (rest := []) X Y hT hS (m_X9_isOver hR5) mk_X9_isOver gm_1630 rfl rfl (by decide) hd_X9_isOver ⟨rfl, rfl⟩ ⟨Nat.le_of_ble_eq_true rfl, Nat.le_of_ble_eq_true rfl⟩ hl.1 rfl (Nat.le_of_ble_eq_true rfl) dX9_tale_119 ⟨Nat.zero_le _, Nat.zero_le _⟩ (fun i12 g12 H locs hq hT hS => ?_)
          obtain ⟨hR12, hf12⟩ := hq
          have hF12 := Fr_tr hF5 hf12 (by decide)
          refine lv_aload_n hx hb dX9_tale_122 rfl (lv_at hl 0 rfl) ?_
          refine r_geti X hT 96 12 fk_9_135 rfl rfl (by decide) dX9_tale_123 ?_
          refine lv_if_eq (tgt := 132) hx hb dX9_tale_126 (by decide) (fun c13 => ?_) (fun c13 => ?_)
          ·
            have q13 : (i12 96 12).toInt = 0 := i_eq c13
            have h14 : rg 0 0 (i12 96 12) := t_eqx 0 0 (Rg_at hR12 96 12 0 3 (by decide) rfl) (rg_k (by decide) : rg 0 0 0) (i_eq c13) (by decide)
            refine lv_aload_n hx hb dX9_tale_132 rfl (lv_at hl 0 rfl) ?_
            refine lv_iconst (v := 4) hx hb dX9_tale_133 (by decide) ?_
            refine lv_iconst (v := 0) hx hb dX9_tale_134 (by decide) ?_
            refine e_Vv (As := [.int 4, .int 0]) (rest := []) X Y hT hS (m_X9_copyTale_4t4_0t0 hR12 (4) (0) (rg_k (by decide) : rg 4 4 4) (rg_k (by decide) : rg 0 0 0)) mk_X9_copyTale gm_1634 rfl rfl (by decide) hd_X9_copyTale ⟨rfl, rfl⟩ ⟨Nat.le_of_ble_eq_true rfl, Nat.le_of_ble_eq_true rfl⟩ hl.1 rfl (Nat.le_of_ble_eq_true rfl) dX9_tale_135 ⟨Nat.zero_le _, Nat.zero_le _⟩ (fun i15 g15 H locs hq hT hS => ?_)
            obtain ⟨hR15, hf15⟩ := hq
            have hF15 := Fr_tr hF12 hf15 (by decide)
            refine lv_aload_n hx hb dX9_tale_138 rfl (lv_at hl 0 rfl) ?_
            refine r_getr X hT 96 16 102 fk_9_31 rfl rfl (by decide) dX9_tale_139 ?_
            refine lv_iconst (v := 0) hx hb dX9_tale_142 (by decide) ?_
            refine r_ialdc X hT 102 0 rfl (by decide) (v_in (rg_k (by decide) : rg 0 0 0) (by decide)) (by decide) dX9_tale_143 ?_
            exact hret (i15 102 0) _ _ _ _ _ _ dX9_tale_144 hT hS ⟨hR15, hF15⟩
          ·
            have q13 : ¬ (i12 96 12).toInt = 0 := i_ne c13
            have h16 : rg 1 3 (i12 96 12) := t_nelo 1 (Rg_at hR12 96 12 0 3 (by decide) rfl) (rg_k (by decide) : rg 0 0 0) (i_ne c13) (by decide)
            refine lv_bipush (v := (-4)) hx hb dX9_tale_129 (by decide) ?_
            exact hret (-4) _ _ _ _ _ _ dX9_tale_131 hT hS ⟨hR12, hF12⟩
        ·
          have q10 : ¬ (i5 96 8).toInt = 0 := i_ne c10
          refine lv_aload_n hx hb dX9_tale_27 rfl (lv_at hl 0 rfl) ?_
          refine r_getr X hT 96 16 102 fk_9_31 rfl rfl (by decide) dX9_tale_28 ?_
          refine lv_iconst (v := 4) hx hb dX9_tale_31 (by decide) ?_
          refine r_ialdc X hT 102 4 rfl (by decide) (v_in (rg_k (by decide) : rg 4 4 4) (by decide)) (by decide) dX9_tale_32 ?_
          refine lv_if_ne (tgt := 90) hx hb dX9_tale_33 (by decide) (fun c17 => ?_) (fun c17 => ?_)
          ·
            have q17 : ¬ (i5 102 4).toInt = 0 := i_ne c17
            refine lv_aload_n hx hb dX9_tale_90 rfl (lv_at hl 0 rfl) ?_
            refine e_Vv (As := []) (rest := []) X Y hT hS (m_X9_lineHere hR5 hP5_0) mk_X9_lineHere gm_1587 rfl rfl (by decide) hd_X9_lineHere ⟨rfl, rfl⟩ ⟨Nat.le_of_ble_eq_true rfl, Nat.le_of_ble_eq_true rfl⟩ hl.1 rfl (Nat.le_of_ble_eq_true rfl) dX9_tale_91 ⟨Nat.zero_le _, Nat.zero_le _⟩ (fun i18 g18 H locs hq hT hS => ?_)
            obtain ⟨hR18, hf18, hp18_0, hf18_0, hf18_1⟩ := hq
            have hF18 := Fr_tr hF5 hf18 (by decide)
            replace hp18_0 : (i18 96 7).toInt ≤ (i18 96 6).toInt := hp18_0
            have hQ19_i5 : prg i5 i18 := prg_tr hPb hf18_0
            refine lv_aload_n hx hb dX9_tale_94 rfl (lv_at hl 0 rfl) ?_
            refine e_Vi (As := []) (rest := []) X Y hT hS (m_X9_isGood hR18) mk_X9_isGood gm_1555 rfl rfl (by decide) hd_X9_isGood ⟨rfl, rfl⟩ ⟨Nat.le_of_ble_eq_true rfl, Nat.le_of_ble_eq_true rfl⟩ hl.1 rfl (Nat.le_of_ble_eq_true rfl) dX9_tale_95 ⟨Nat.zero_le _, Nat.zero_le _⟩ (fun r20 i20 g20 H locs hq hT hS => ?_)
            rcases hq with hq | hq
            ·
              obtain ⟨eh20, rfl, hf20_0⟩ := hq
              rw [(Prod.mk.inj eh20).1, (Prod.mk.inj eh20).2] at hT
              have h21 : rg 0 0 (i18 96 12) := hf20_0
              refine lv_if_eq (tgt := 105) hx hb dX9_tale_98 (by decide) (fun c22 => (x_eq (rg_k (by decide) : rg 1 1 1) (rg_k (by decide) : rg 0 0 0) (i_eq c22) (by decide)).elim) (fun c22 => ?_)
              refine lv_aload_n hx hb dX9_tale_101 rfl (lv_at hl 0 rfl) ?_
              refine e_Vv (As := []) (rest := []) X Y hT hS (m_X9_ends hR18 hp18_0) mk_X9_ends gm_1626 rfl rfl (by decide) hd_X9_ends ⟨rfl, rfl⟩ ⟨Nat.le_of_ble_eq_true rfl, Nat.le_of_ble_eq_true rfl⟩ hl.1 rfl (Nat.le_of_ble_eq_true rfl) dX9_tale_102 ⟨Nat.zero_le _, Nat.zero_le _⟩ (fun i23 g23 H locs hq hT hS => ?_)
              obtain ⟨hR23, hf23, hp23_0, hf23_0, hf23_1⟩ := hq
              have hF23 := Fr_tr hF18 hf23 (by decide)
              replace hp23_0 : (i23 96 7).toInt ≤ (i23 96 6).toInt := hp23_0
              have hQ24_i5 : prg i5 i23 := prg_tr hQ19_i5 hf23_0
              have hK25 : tok i5 i23 := tok_tr hf18_1 hf23_0
              replace hf23_1 : ¬ (i23 96 12).toInt = 0 ∨ (i18 96 8).toInt = 3 := hf23_1
              refine lv_aload_n hx hb dX9_tale_105 rfl (lv_at hl 0 rfl) ?_
              refine r_getr X hT 96 16 102 fk_9_31 rfl rfl (by decide) dX9_tale_106 ?_
              refine lv_iconst (v := 4) hx hb dX9_tale_109 (by decide) ?_
              refine lv_dup2_11 hx hb dX9_tale_110 rfl rfl ?_
              refine r_ialdc X hT 102 4 rfl (by decide) (v_in (rg_k (by decide) : rg 4 4 4) (by decide)) (by decide) dX9_tale_111 ?_
              have e26 : (i23 102 4) = (i5 102 4) := (z_F hf23 (z_F hf18 rfl (by decide)) (by decide))
              refine lv_iconst (v := 1) hx hb dX9_tale_112 (by decide) ?_
              refine q_iadd hx hb dX9_tale_113 (fun x27 ex27 => ?_)
              refine r_iastc X hT hS 102 4 rfl (by decide) (v_in (rg_k (by decide) : rg 4 4 4) (by decide)) (by decide) dX9_tale_114 (fun H locs i28 ei28 hT hS => ?_)
              have hR28 := Rg_put hR23 ei28 (-2147483648) 2147483647 rfl (rg_top x27) (by decide)
              have hF28 := Fr_puti hF23 ei28 (by decide)
              have hP28 : (i28 96 7).toInt ≤ (i28 96 6).toInt := by rw [z_j ei28 rfl (by decide), z_j ei28 rfl (by decide)]; exact hp23_0
              have hQ28_i5 : prg i5 i28 := prg_j hQ24_i5 ei28 (by decide)
              have hK28 : tok i5 i28 := tok_j hK25 ei28 (by decide)
              refine lv_goto (tgt := 13) hx hb dX9_tale_115 (by decide) ?_
              exact ih6_ i28 g23 _ _ _ hR28 hF28 hP28 hT hS (lv_sub hl [0] rfl) (by rw [mt_j ei28 (by decide)]; exact mt_e hQ19_i5 hf18_1 hf23_0 hf23_1 h8 q10 (Rg_at hR5 96 7 0 700 (by decide) rfl) hm6_)
            ·
              obtain ⟨eh20, rfl, hf20_0⟩ := hq
              rw [(Prod.mk.inj eh20).1, (Prod.mk.inj eh20).2] at hT
              have h29 : rg 1 3 (i18 96 12) := hf20_0
              refine lv_if_eq (tgt := 105) hx hb dX9_tale_98 (by decide) (fun c30 => ?_) (fun c30 => (x_ne (rg_k (by decide) : rg 0 0 0) (rg_k (by decide) : rg 0 0 0) (i_ne c30) (by decide)).elim)
              refine lv_aload_n hx hb dX9_tale_105 rfl (lv_at hl 0 rfl) ?_
              refine r_getr X hT 96 16 102 fk_9_31 rfl rfl (by decide) dX9_tale_106 ?_
              refine lv_iconst (v := 4) hx hb dX9_tale_109 (by decide) ?_
              refine lv_dup2_11 hx hb dX9_tale_110 rfl rfl ?_
              refine r_ialdc X hT 102 4 rfl (by decide) (v_in (rg_k (by decide) : rg 4 4 4) (by decide)) (by decide) dX9_tale_111 ?_
              have e31 : (i18 102 4) = (i5 102 4) := (z_F hf18 rfl (by decide))
              refine lv_iconst (v := 1) hx hb dX9_tale_112 (by decide) ?_
              refine q_iadd hx hb dX9_tale_113 (fun x32 ex32 => ?_)
              refine r_iastc X hT hS 102 4 rfl (by decide) (v_in (rg_k (by decide) : rg 4 4 4) (by decide)) (by decide) dX9_tale_114 (fun H locs i33 ei33 hT hS => ?_)
              have hR33 := Rg_put hR18 ei33 (-2147483648) 2147483647 rfl (rg_top x32) (by decide)
              have hF33 := Fr_puti hF18 ei33 (by decide)
              have hP33 : (i33 96 7).toInt ≤ (i33 96 6).toInt := by rw [z_j ei33 rfl (by decide), z_j ei33 rfl (by decide)]; exact hp18_0
              have hQ33_i5 : prg i5 i33 := prg_j hQ19_i5 ei33 (by decide)
              have hK33 : tok i5 i33 := tok_j hf18_1 ei33 (by decide)
              refine lv_goto (tgt := 13) hx hb dX9_tale_115 (by decide) ?_
              have e34 : (i33 96 12) = (i18 96 12) := (z_j ei33 rfl (by decide))
              have h35 : rg 1 3 (i33 96 12) := rg_of e34 h29
              exact ih6_ i33 g18 _ _ _ hR33 hF33 hP33 hT hS (lv_sub hl [0] rfl) (mt_b h35 (by decide) h8 q10 (Rg_at hR5 96 7 0 700 (by decide) rfl) hm6_)
          ·
            have q17 : (i5 102 4).toInt = 0 := i_eq c17
            have h36 : rg 0 0 (i5 102 4) := t_eqx 0 0 (rg_top (i5 102 4)) (rg_k (by decide) : rg 0 0 0) (i_eq c17) (by decide)
            refine lv_aload_n hx hb dX9_tale_36 rfl (lv_at hl 0 rfl) ?_
            refine lv_ldc2 (v := 394718) hx hb X.2.2.2.1 (X.2.2.2.2.1 _ gm_1559) dX9_tale_37 ?_
            refine e_Vv (As := [.long 394718]) (rest := []) X Y hT hS (m_X9_asks hR5 (394718) hP5_0) mk_X9_asks gm_1560 rfl rfl (by decide) hd_X9_asks ⟨rfl, rfl⟩ ⟨Nat.le_of_ble_eq_true rfl, Nat.le_of_ble_eq_true rfl⟩ hl.1 rfl (Nat.le_of_ble_eq_true rfl) dX9_tale_40 ⟨Nat.zero_le _, Nat.zero_le _⟩ (fun i37 g37 H locs hq hT hS => ?_)
            obtain ⟨hR37, hf37, hp37_0, hf37_0, hf37_1⟩ := hq
            have hF37 := Fr_tr hF5 hf37 (by decide)
            replace hp37_0 : (i37 96 7).toInt ≤ (i37 96 6).toInt := hp37_0
            have hQ38_i5 : prg i5 i37 := prg_tr hPb hf37_0
            refine lv_aload_n hx hb dX9_tale_43 rfl (lv_at hl 0 rfl) ?_
            refine lv_iconst (v := 0) hx hb dX9_tale_44 (by decide) ?_
            refine lv_aload_n hx hb dX9_tale_45 rfl (lv_at hl 0 rfl) ?_
            refine lv_ldc2 (v := 13385674) hx hb X.2.2.2.1 (X.2.2.2.2.1 _ gm_1576) dX9_tale_46 ?_
            refine lv_iconst (v := 1) hx hb dX9_tale_49 (by decide) ?_
            refine lv_bipush (v := 12) hx hb dX9_tale_50 (by decide) ?_
            refine e_Vi (As := [.long 13385674, .int 1, .int 12]) (rest := [.int 0, .ref (h 96)]) X Y hT hS (m_X9_number_ hR37 (13385674) (1) (12) hp37_0) mk_X9_number_ gm_1577 rfl rfl (by decide) hd_X9_number_ ⟨rfl, rfl⟩ ⟨Nat.le_of_ble_eq_true rfl, Nat.le_of_ble_eq_true rfl⟩ hl.1 rfl (Nat.le_of_ble_eq_true rfl) dX9_tale_52 ⟨Nat.zero_le _, Nat.zero_le _⟩ (fun r39 i39 g39 H locs hq hT hS => ?_)
            obtain ⟨hR39, hf39, hp39_0, hf39_0, hf39_1⟩ := hq
            have hF39 := Fr_tr hF37 hf39 (by decide)
            replace hp39_0 : (i39 96 7).toInt ≤ (i39 96 6).toInt := hp39_0
            have hQ40_i5 : prg i5 i39 := prg_tr hQ38_i5 hf39_0
            have hK41 : tok i5 i39 := tok_tr hf37_1 hf39_0
            replace hf39_1 : 1 ≤ r39.toInt ∧ (r39.toInt ≤ 12 ∨ r39.toInt = 1) := hf39_1
            have h42 : rg 1 12 r39 := ⟨by omega, by omega⟩
            refine e_Vv (As := [.int 0, .int r39]) (rest := []) X Y hT hS (m_X9_tellsOf_0_1t12 hR39 (0) r39 (rg_k (by decide) : rg 0 0 0) h42) mk_X9_tellsOf gm_1534 rfl rfl (by decide) hd_X9_tellsOf ⟨rfl, rfl⟩ ⟨Nat.le_of_ble_eq_true rfl, Nat.le_of_ble_eq_true rfl⟩ hl.1 rfl (Nat.le_of_ble_eq_true rfl) dX9_tale_55 ⟨Nat.zero_le _, Nat.zero_le _⟩ (fun i43 g43 H locs hq hT hS => ?_)
            obtain ⟨hR43, hf43⟩ := hq
            have hF43 := Fr_tr hF39 hf43 (by decide)
            have hP43 : (i43 96 7).toInt ≤ (i43 96 6).toInt := by rw [show i43 96 = _ from (hf43).1 96 (by decide)]; exact hp39_0
            have hQ43_i5 : prg i5 i43 := prg_f hQ40_i5 hf43 (by decide)
            have hK43 : tok i5 i43 := tok_f hK41 hf43 (by decide)
            refine lv_aload_n hx hb dX9_tale_58 rfl (lv_at hl 0 rfl) ?_
            refine lv_iconst (v := 1) hx hb dX9_tale_59 (by decide) ?_
            refine lv_aload_n hx hb dX9_tale_60 rfl (lv_at hl 0 rfl) ?_
            refine lv_ldc2 (v := 8798) hx hb X.2.2.2.1 (X.2.2.2.2.1 _ gm_1585) dX9_tale_61 ?_
            refine lv_iconst (v := 0) hx hb dX9_tale_64 (by decide) ?_
            refine lv_iconst (v := 3) hx hb dX9_tale_65 (by decide) ?_
            refine e_Vi (As := [.long 8798, .int 0, .int 3]) (rest := [.int 1, .ref (h 96)]) X Y hT hS (m_X9_number_ hR43 (8798) (0) (3) hP43) mk_X9_number_ gm_1577 rfl rfl (by decide) hd_X9_number_ ⟨rfl, rfl⟩ ⟨Nat.le_of_ble_eq_true rfl, Nat.le_of_ble_eq_true rfl⟩ hl.1 rfl (Nat.le_of_ble_eq_true rfl) dX9_tale_66 ⟨Nat.zero_le _, Nat.zero_le _⟩ (fun r44 i44 g44 H locs hq hT hS => ?_)
            obtain ⟨hR44, hf44, hp44_0, hf44_0, hf44_1⟩ := hq
            have hF44 := Fr_tr hF43 hf44 (by decide)
            replace hp44_0 : (i44 96 7).toInt ≤ (i44 96 6).toInt := hp44_0
            have hQ45_i5 : prg i5 i44 := prg_tr hQ43_i5 hf44_0
            have hK46 : tok i5 i44 := tok_tr hK43 hf44_0
            replace hf44_1 : 0 ≤ r44.toInt ∧ (r44.toInt ≤ 3 ∨ r44.toInt = 0) := hf44_1
            have h47 : rg 0 3 r44 := ⟨by omega, by omega⟩
            refine e_Vv (As := [.int 1, .int r44]) (rest := []) X Y hT hS (m_X9_tellsOf_1_0t3 hR44 (1) r44 (rg_k (by decide) : rg 1 1 1) h47) mk_X9_tellsOf gm_1534 rfl rfl (by decide) hd_X9_tellsOf ⟨rfl, rfl⟩ ⟨Nat.le_of_ble_eq_true rfl, Nat.le_of_ble_eq_true rfl⟩ hl.1 rfl (Nat.le_of_ble_eq_true rfl) dX9_tale_69 ⟨Nat.zero_le _, Nat.zero_le _⟩ (fun i48 g48 H locs hq hT hS => ?_)
            obtain ⟨hR48, hf48⟩ := hq
            have hF48 := Fr_tr hF44 hf48 (by decide)
            have hP48 : (i48 96 7).toInt ≤ (i48 96 6).toInt := by rw [show i48 96 = _ from (hf48).1 96 (by decide)]; exact hp44_0
            have hQ48_i5 : prg i5 i48 := prg_f hQ45_i5 hf48 (by decide)
            have hK48 : tok i5 i48 := tok_f hK46 hf48 (by decide)
            refine lv_aload_n hx hb dX9_tale_72 rfl (lv_at hl 0 rfl) ?_
            refine lv_iconst (v := 2) hx hb dX9_tale_73 (by decide) ?_
            refine lv_aload_n hx hb dX9_tale_74 rfl (lv_at hl 0 rfl) ?_
            refine lv_ldc2 (v := 298288) hx hb X.2.2.2.1 (X.2.2.2.2.1 _ gm_1586) dX9_tale_75 ?_
            refine lv_iconst (v := 0) hx hb dX9_tale_78 (by decide) ?_
            refine lv_bipush (v := 10) hx hb dX9_tale_79 (by decide) ?_
            refine e_Vi (As := [.long 298288, .int 0, .int 10]) (rest := [.int 2, .ref (h 96)]) X Y hT hS (m_X9_number_ hR48 (298288) (0) (10) hP48) mk_X9_number_ gm_1577 rfl rfl (by decide) hd_X9_number_ ⟨rfl, rfl⟩ ⟨Nat.le_of_ble_eq_true rfl, Nat.le_of_ble_eq_true rfl⟩ hl.1 rfl (Nat.le_of_ble_eq_true rfl) dX9_tale_81 ⟨Nat.zero_le _, Nat.zero_le _⟩ (fun r49 i49 g49 H locs hq hT hS => ?_)
            obtain ⟨hR49, hf49, hp49_0, hf49_0, hf49_1⟩ := hq
            have hF49 := Fr_tr hF48 hf49 (by decide)
            replace hp49_0 : (i49 96 7).toInt ≤ (i49 96 6).toInt := hp49_0
            have hQ50_i5 : prg i5 i49 := prg_tr hQ48_i5 hf49_0
            have hK51 : tok i5 i49 := tok_tr hK48 hf49_0
            replace hf49_1 : 0 ≤ r49.toInt ∧ (r49.toInt ≤ 10 ∨ r49.toInt = 0) := hf49_1
            have h52 : rg 0 10 r49 := ⟨by omega, by omega⟩
            refine e_Vv (As := [.int 2, .int r49]) (rest := []) X Y hT hS (m_X9_tellsOf_2_0t10 hR49 (2) r49 (rg_k (by decide) : rg 2 2 2) h52) mk_X9_tellsOf gm_1534 rfl rfl (by decide) hd_X9_tellsOf ⟨rfl, rfl⟩ ⟨Nat.le_of_ble_eq_true rfl, Nat.le_of_ble_eq_true rfl⟩ hl.1 rfl (Nat.le_of_ble_eq_true rfl) dX9_tale_84 ⟨Nat.zero_le _, Nat.zero_le _⟩ (fun i53 g53 H locs hq hT hS => ?_)
            obtain ⟨hR53, hf53⟩ := hq
            have hF53 := Fr_tr hF49 hf53 (by decide)
            have hP53 : (i53 96 7).toInt ≤ (i53 96 6).toInt := by rw [show i53 96 = _ from (hf53).1 96 (by decide)]; exact hp49_0
            have hQ53_i5 : prg i5 i53 := prg_f hQ50_i5 hf53 (by decide)
            have hK53 : tok i5 i53 := tok_f hK51 hf53 (by decide)
            refine lv_goto (tgt := 94) hx hb dX9_tale_87 (by decide) ?_
            refine lv_aload_n hx hb dX9_tale_94 rfl (lv_at hl 0 rfl) ?_
            refine e_Vi (As := []) (rest := []) X Y hT hS (m_X9_isGood hR53) mk_X9_isGood gm_1555 rfl rfl (by decide) hd_X9_isGood ⟨rfl, rfl⟩ ⟨Nat.le_of_ble_eq_true rfl, Nat.le_of_ble_eq_true rfl⟩ hl.1 rfl (Nat.le_of_ble_eq_true rfl) dX9_tale_95 ⟨Nat.zero_le _, Nat.zero_le _⟩ (fun r54 i54 g54 H locs hq hT hS => ?_)
            rcases hq with hq | hq
            ·
              obtain ⟨eh54, rfl, hf54_0⟩ := hq
              rw [(Prod.mk.inj eh54).1, (Prod.mk.inj eh54).2] at hT
              have h55 : rg 0 0 (i53 96 12) := hf54_0
              refine lv_if_eq (tgt := 105) hx hb dX9_tale_98 (by decide) (fun c56 => (x_eq (rg_k (by decide) : rg 1 1 1) (rg_k (by decide) : rg 0 0 0) (i_eq c56) (by decide)).elim) (fun c56 => ?_)
              refine lv_aload_n hx hb dX9_tale_101 rfl (lv_at hl 0 rfl) ?_
              refine e_Vv (As := []) (rest := []) X Y hT hS (m_X9_ends hR53 hP53) mk_X9_ends gm_1626 rfl rfl (by decide) hd_X9_ends ⟨rfl, rfl⟩ ⟨Nat.le_of_ble_eq_true rfl, Nat.le_of_ble_eq_true rfl⟩ hl.1 rfl (Nat.le_of_ble_eq_true rfl) dX9_tale_102 ⟨Nat.zero_le _, Nat.zero_le _⟩ (fun i57 g57 H locs hq hT hS => ?_)
              obtain ⟨hR57, hf57, hp57_0, hf57_0, hf57_1⟩ := hq
              have hF57 := Fr_tr hF53 hf57 (by decide)
              replace hp57_0 : (i57 96 7).toInt ≤ (i57 96 6).toInt := hp57_0
              have hQ58_i5 : prg i5 i57 := prg_tr hQ53_i5 hf57_0
              have hK59 : tok i5 i57 := tok_tr hK53 hf57_0
              replace hf57_1 : ¬ (i57 96 12).toInt = 0 ∨ (i53 96 8).toInt = 3 := hf57_1
              refine lv_aload_n hx hb dX9_tale_105 rfl (lv_at hl 0 rfl) ?_
              refine r_getr X hT 96 16 102 fk_9_31 rfl rfl (by decide) dX9_tale_106 ?_
              refine lv_iconst (v := 4) hx hb dX9_tale_109 (by decide) ?_
              refine lv_dup2_11 hx hb dX9_tale_110 rfl rfl ?_
              refine r_ialdc X hT 102 4 rfl (by decide) (v_in (rg_k (by decide) : rg 4 4 4) (by decide)) (by decide) dX9_tale_111 ?_
              have e60 : (i57 102 4) = (i5 102 4) := (z_F hf57 (z_F hf53 (z_F hf49 (z_F hf48 (z_F hf44 (z_F hf43 (z_F hf39 (z_F hf37 rfl (by decide)) (by decide)) (by decide)) (by decide)) (by decide)) (by decide)) (by decide)) (by decide))
              have h61 : rg 0 0 (i57 102 4) := rg_of e60 h36
              refine lv_iconst (v := 1) hx hb dX9_tale_112 (by decide) ?_
              refine q_iadd hx hb dX9_tale_113 (fun x62 ex62 => ?_)
              obtain ⟨hx62, ax62⟩ := rg_add 1 1 ex62 h61 (rg_k (by decide) : rg 1 1 1) (by decide)
              replace ax62 : x62.toInt = (i57 102 4).toInt + 1 := ax62
              refine r_iastc X hT hS 102 4 rfl (by decide) (v_in (rg_k (by decide) : rg 4 4 4) (by decide)) (by decide) dX9_tale_114 (fun H locs i63 ei63 hT hS => ?_)
              have hR63 := Rg_put hR57 ei63 (-2147483648) 2147483647 rfl hx62 (by decide)
              have hF63 := Fr_puti hF57 ei63 (by decide)
              have hP63 : (i63 96 7).toInt ≤ (i63 96 6).toInt := by rw [z_j ei63 rfl (by decide), z_j ei63 rfl (by decide)]; exact hp57_0
              have hQ63_i5 : prg i5 i63 := prg_j hQ58_i5 ei63 (by decide)
              have hK63 : tok i5 i63 := tok_j hK59 ei63 (by decide)
              refine lv_goto (tgt := 13) hx hb dX9_tale_115 (by decide) ?_
              exact ih6_ i63 g57 _ _ _ hR63 hF63 hP63 hT hS (lv_sub hl [0] rfl) (by rw [mt_j ei63 (by decide)]; exact mt_e hQ53_i5 hK53 hf57_0 hf57_1 h8 q10 (Rg_at hR5 96 7 0 700 (by decide) rfl) hm6_)
            ·
              obtain ⟨eh54, rfl, hf54_0⟩ := hq
              rw [(Prod.mk.inj eh54).1, (Prod.mk.inj eh54).2] at hT
              have h64 : rg 1 3 (i53 96 12) := hf54_0
              refine lv_if_eq (tgt := 105) hx hb dX9_tale_98 (by decide) (fun c65 => ?_) (fun c65 => (x_ne (rg_k (by decide) : rg 0 0 0) (rg_k (by decide) : rg 0 0 0) (i_ne c65) (by decide)).elim)
              refine lv_aload_n hx hb dX9_tale_105 rfl (lv_at hl 0 rfl) ?_
              refine r_getr X hT 96 16 102 fk_9_31 rfl rfl (by decide) dX9_tale_106 ?_
              refine lv_iconst (v := 4) hx hb dX9_tale_109 (by decide) ?_
              refine lv_dup2_11 hx hb dX9_tale_110 rfl rfl ?_
              refine r_ialdc X hT 102 4 rfl (by decide) (v_in (rg_k (by decide) : rg 4 4 4) (by decide)) (by decide) dX9_tale_111 ?_
              have e66 : (i53 102 4) = (i5 102 4) := (z_F hf53 (z_F hf49 (z_F hf48 (z_F hf44 (z_F hf43 (z_F hf39 (z_F hf37 rfl (by decide)) (by decide)) (by decide)) (by decide)) (by decide)) (by decide)) (by decide))
              have h67 : rg 0 0 (i53 102 4) := rg_of e66 h36
              refine lv_iconst (v := 1) hx hb dX9_tale_112 (by decide) ?_
              refine q_iadd hx hb dX9_tale_113 (fun x68 ex68 => ?_)
              obtain ⟨hx68, ax68⟩ := rg_add 1 1 ex68 h67 (rg_k (by decide) : rg 1 1 1) (by decide)
              replace ax68 : x68.toInt = (i53 102 4).toInt + 1 := ax68
              refine r_iastc X hT hS 102 4 rfl (by decide) (v_in (rg_k (by decide) : rg 4 4 4) (by decide)) (by decide) dX9_tale_114 (fun H locs i69 ei69 hT hS => ?_)
              have hR69 := Rg_put hR53 ei69 (-2147483648) 2147483647 rfl hx68 (by decide)
              have hF69 := Fr_puti hF53 ei69 (by decide)
              have hP69 : (i69 96 7).toInt ≤ (i69 96 6).toInt := by rw [z_j ei69 rfl (by decide), z_j ei69 rfl (by decide)]; exact hP53
              have hQ69_i5 : prg i5 i69 := prg_j hQ53_i5 ei69 (by decide)
              have hK69 : tok i5 i69 := tok_j hK53 ei69 (by decide)
              refine lv_goto (tgt := 13) hx hb dX9_tale_115 (by decide) ?_
              have e70 : (i69 96 12) = (i53 96 12) := (z_j ei69 rfl (by decide))
              have h71 : rg 1 3 (i69 96 12) := rg_of e70 h64
              exact ih6_ i69 g53 _ _ _ hR69 hF69 hP69 hT hS (lv_sub hl [0] rfl) (mt_b h71 (by decide) h8 q10 (Rg_at hR5 96 7 0 700 (by decide) rfl) hm6_)
      ·
        obtain ⟨eh7, rfl, hf7_0⟩ := hq
        rw [(Prod.mk.inj eh7).1, (Prod.mk.inj eh7).2] at hT
        have h72 : rg 1 3 (i5 96 12) := hf7_0
        refine lv_if_eq (tgt := 118) hx hb dX9_tale_17 (by decide) (fun c73 => ?_) (fun c73 => (x_ne (rg_k (by decide) : rg 0 0 0) (rg_k (by decide) : rg 0 0 0) (i_ne c73) (by decide)).elim)
        refine lv_aload_n hx hb dX9_tale_118 rfl (lv_at hl 0 rfl) ?_
        refine e_Vv (As := []) (rest := []) X Y hT hS (m_X9_isOver hR5) mk_X9_isOver gm_1630 rfl rfl (by decide) hd_X9_isOver ⟨rfl, rfl⟩ ⟨Nat.le_of_ble_eq_true rfl, Nat.le_of_ble_eq_true rfl⟩ hl.1 rfl (Nat.le_of_ble_eq_true rfl) dX9_tale_119 ⟨Nat.zero_le _, Nat.zero_le _⟩ (fun i74 g74 H locs hq hT hS => ?_)
        obtain ⟨hR74, hf74⟩ := hq
        have hF74 := Fr_tr hF5 hf74 (by decide)
        refine lv_aload_n hx hb dX9_tale_122 rfl (lv_at hl 0 rfl) ?_
        refine r_geti X hT 96 12 fk_9_135 rfl rfl (by decide) dX9_tale_123 ?_
        refine lv_if_eq (tgt := 132) hx hb dX9_tale_126 (by decide) (fun c75 => ?_) (fun c75 => ?_)
        ·
          have q75 : (i74 96 12).toInt = 0 := i_eq c75
          have h76 : rg 0 0 (i74 96 12) := t_eqx 0 0 (Rg_at hR74 96 12 0 3 (by decide) rfl) (rg_k (by decide) : rg 0 0 0) (i_eq c75) (by decide)
          refine lv_aload_n hx hb dX9_tale_132 rfl (lv_at hl 0 rfl) ?_
          refine lv_iconst (v := 4) hx hb dX9_tale_133 (by decide) ?_
          refine lv_iconst (v := 0) hx hb dX9_tale_134 (by decide) ?_
          refine e_Vv (As := [.int 4, .int 0]) (rest := []) X Y hT hS (m_X9_copyTale_4t4_0t0 hR74 (4) (0) (rg_k (by decide) : rg 4 4 4) (rg_k (by decide) : rg 0 0 0)) mk_X9_copyTale gm_1634 rfl rfl (by decide) hd_X9_copyTale ⟨rfl, rfl⟩ ⟨Nat.le_of_ble_eq_true rfl, Nat.le_of_ble_eq_true rfl⟩ hl.1 rfl (Nat.le_of_ble_eq_true rfl) dX9_tale_135 ⟨Nat.zero_le _, Nat.zero_le _⟩ (fun i77 g77 H locs hq hT hS => ?_)
          obtain ⟨hR77, hf77⟩ := hq
          have hF77 := Fr_tr hF74 hf77 (by decide)
          refine lv_aload_n hx hb dX9_tale_138 rfl (lv_at hl 0 rfl) ?_
          refine r_getr X hT 96 16 102 fk_9_31 rfl rfl (by decide) dX9_tale_139 ?_
          refine lv_iconst (v := 0) hx hb dX9_tale_142 (by decide) ?_
          refine r_ialdc X hT 102 0 rfl (by decide) (v_in (rg_k (by decide) : rg 0 0 0) (by decide)) (by decide) dX9_tale_143 ?_
          exact hret (i77 102 0) _ _ _ _ _ _ dX9_tale_144 hT hS ⟨hR77, hF77⟩
        ·
          have q75 : ¬ (i74 96 12).toInt = 0 := i_ne c75
          have h78 : rg 1 3 (i74 96 12) := t_nelo 1 (Rg_at hR74 96 12 0 3 (by decide) rfl) (rg_k (by decide) : rg 0 0 0) (i_ne c75) (by decide)
          refine lv_bipush (v := (-4)) hx hb dX9_tale_129 (by decide) ?_
          exact hret (-4) _ _ _ _ _ _ dX9_tale_131 hT hS ⟨hR74, hF74⟩
  exact L13_4 _ i3 g3 _ _ _ hR3 hF3 hp3_0 hT hS (lv_sub hl [0] rfl) (Nat.lt_succ_self _)
set_option maxRecDepth 100000 in
set_option maxHeartbeats 4000000 in
theorem m_X9_fault {l : Launch} {D : va_G} {h : Nat → Nat} {cz : Nat → ClassId} {z : EZ} {i : Nat → Nat → Int32} {g : Nat → Nat → Int64} (hR : Rg rA i) (a_a : Int32) : DtI l yX9_fault cX9_fault 2 (some .int) ({ frames := 0, cells := 0, slots := 0, locals := 0 } : Room) D h cz z i g [.ref (h 96), .int a_a] (fun r u => Rg rA u.1 ∧ Fr [96] [] i g u) := by
  refine e_I pn_X9_fault (Nat.le_of_ble_eq_true rfl) ?_
  intro p e s m args below meth c ls Q X Y hret hT hl hS
  have hx := X.1
  have hb := X.2.1
  have hl : lv_has ls 2 [(0, .ref (h 96)), (1, .int a_a)] := hl
  have hF : Fr [96] [] i g (i, g) := Fr_rf _ _ _ _
  refine lv_aload_n hx hb dX9_fault_0 rfl (lv_at hl 0 rfl) ?_
  refine lv_iconst (v := 0) hx hb dX9_fault_1 (by decide) ?_
  refine r_puti X hT hS 96 0 pk_9_83 rfl rfl rfl rfl (by decide) dX9_fault_2 (fun H locs i1 ei1 hT hS => ?_)
  have hR1 := Rg_put hR ei1 (-2147483648) 2147483647 rfl (rg_k (by decide) : rg 0 0 0) (by decide)
  have hF1 := Fr_puti hF ei1 (by decide)
  refine lv_iload_n hx hb dX9_fault_5 rfl (lv_at hl 1 rfl) ?_
  refine lv_if_ne (tgt := 16) hx hb dX9_fault_6 (by decide) (fun c2 => ?_) (fun c2 => ?_)
  ·
    have q2 : ¬ a_a.toInt = 0 := i_ne c2
    refine lv_iload_n hx hb dX9_fault_16 rfl (lv_at hl 1 rfl) ?_
    refine lv_iconst (v := 1) hx hb dX9_fault_17 (by decide) ?_
    refine lv_icmp_ne (tgt := 28) hx hb dX9_fault_18 (by decide) (fun c3 => ?_) (fun c3 => ?_)
    ·
      have q3 : ¬ a_a.toInt = 1 := i_ne c3
      refine lv_iconst (v := (-1)) hx hb dX9_fault_28 (by decide) ?_
      exact hret (-1) _ _ _ _ _ _ dX9_fault_29 hT hS ⟨hR1, hF1⟩
    ·
      have q3 : a_a.toInt = 1 := i_eq c3
      have h4 : rg 1 1 a_a := t_eqx 1 1 (rg_top a_a) (rg_k (by decide) : rg 1 1 1) (i_eq c3) (by decide)
      refine lv_aload_n hx hb dX9_fault_21 rfl (lv_at hl 0 rfl) ?_
      refine r_geti X hT 96 15 fk_9_27 rfl rfl (by decide) dX9_fault_22 ?_
      refine lv_goto (tgt := 29) hx hb dX9_fault_25 (by decide) ?_
      exact hret (i1 96 15) _ _ _ _ _ _ dX9_fault_29 hT hS ⟨hR1, hF1⟩
  ·
    have q2 : a_a.toInt = 0 := i_eq c2
    have h5 : rg 0 0 a_a := t_eqx 0 0 (rg_top a_a) (rg_k (by decide) : rg 0 0 0) (i_eq c2) (by decide)
    refine lv_aload_n hx hb dX9_fault_9 rfl (lv_at hl 0 rfl) ?_
    refine r_geti X hT 96 14 fk_9_162 rfl rfl (by decide) dX9_fault_10 ?_
    refine lv_goto (tgt := 29) hx hb dX9_fault_13 (by decide) ?_
    exact hret (i1 96 14) _ _ _ _ _ _ dX9_fault_29 hT hS ⟨hR1, hF1⟩
set_option maxRecDepth 100000 in
set_option maxHeartbeats 4000000 in
theorem m_X9_parts {l : Launch} {D : va_G} {h : Nat → Nat} {cz : Nat → ClassId} {z : EZ} {i : Nat → Nat → Int32} {g : Nat → Nat → Int64} (hR : Rg rA i) : DtI l yX9_parts cX9_parts 1 (some .int) ({ frames := 0, cells := 0, slots := 0, locals := 0 } : Room) D h cz z i g [.ref (h 96)] (fun r u => u = (i, g) ∧ rg 0 6 r) := by
  refine e_I pn_X9_parts (Nat.le_of_ble_eq_true rfl) ?_
  intro p e s m args below meth c ls Q X Y hret hT hl hS
  have hx := X.1
  have hb := X.2.1
  have hl : lv_has ls 1 [(0, .ref (h 96))] := hl
  refine lv_aload_n hx hb dX9_parts_0 rfl (lv_at hl 0 rfl) ?_
  refine r_getr X hT 96 17 103 fk_9_34 rfl rfl (by decide) dX9_parts_1 ?_
  refine lv_iconst (v := 3) hx hb dX9_parts_4 (by decide) ?_
  refine r_ialdc X hT 103 3 rfl (by decide) (v_in (rg_k (by decide) : rg 3 3 3) (by decide)) (by decide) dX9_parts_5 ?_
  exact hret (i 103 3) _ _ _ _ _ _ dX9_parts_6 hT hS ⟨rfl, (Rg_at hR 103 3 0 6 (by decide) rfl)⟩
set_option maxRecDepth 100000 in
set_option maxHeartbeats 4000000 in
theorem m_X9_isPart {l : Launch} {D : va_G} {h : Nat → Nat} {cz : Nat → ClassId} {z : EZ} {i : Nat → Nat → Int32} {g : Nat → Nat → Int64} (hR : Rg rA i) (a_a : Int64) : DtI l yX9_isPart cX9_isPart 3 (some .boolean) ({ frames := 1, cells := 0, slots := 0, locals := 25 } : Room) D h cz z i g [.ref (h 96), .long a_a] (fun r u => (u = (i, g) ∧ r = 1 ∧ rgL 0 5 a_a) ∨ (u = (i, g) ∧ r = 0)) := by
  refine e_Z (fun v u hq => (hq.elim (fun hq => (Or.inr hq.2.1)) (fun hq => (Or.inl hq.2)))) pn_X9_isPart (Nat.le_of_ble_eq_true rfl) ?_
  intro p e s m args below meth c ls Q X Y hret hT hl hS
  have hx := X.1
  have hb := X.2.1
  have hl : lv_has ls 3 [(0, .ref (h 96)), (1, .long a_a)] := hl
  refine lv_lload_n hx hb dX9_isPart_0 rfl (lv_at hl 1 rfl) ?_
  refine lv_lconst (v := 0) hx hb dX9_isPart_1 (by decide) ?_
  refine lv_aload_n hx hb dX9_isPart_2 rfl (lv_at hl 0 rfl) ?_
  refine e_Vi (As := []) (rest := [.long 0, .long a_a]) X Y hT hS (m_X9_parts hR) mk_X9_parts gm_1649 rfl rfl (by decide) hd_X9_parts ⟨rfl, rfl⟩ ⟨Nat.le_of_ble_eq_true rfl, Nat.le_of_ble_eq_true rfl⟩ hl.1 rfl (Nat.le_of_ble_eq_true rfl) dX9_isPart_3 ⟨Nat.zero_le _, Nat.zero_le _⟩ (fun r1 i1 g1 H locs hq hT hS => ?_)
  obtain ⟨eh1, hr1⟩ := hq
  rw [(Prod.mk.inj eh1).1, (Prod.mk.inj eh1).2] at hT
  refine q_i2l hx hb dX9_isPart_6 (fun y2 ey2 => ?_)
  obtain ⟨hy2, ay2⟩ := rg_i2l ey2 hr1
  refine lv_lconst (v := 1) hx hb dX9_isPart_7 (by decide) ?_
  refine q_lsub hx hb dX9_isPart_8 (fun y3 ey3 => ?_)
  obtain ⟨hy3, ay3⟩ := rgL_sub (-1) 5 ey3 hy2 (rgL_k (by decide) : rgL 1 1 1) (by decide)
  refine e_Si (As := [.long a_a, .long 0, .long y3]) (rest := []) X Y hT hS (m_in a_a (0) y3) sk_X9_in gm_1496 hd_X9_in ⟨rfl, rfl⟩ ⟨Nat.le_of_ble_eq_true rfl, Nat.le_of_ble_eq_true rfl⟩ hl.1 rfl (Nat.le_of_ble_eq_true rfl) dX9_isPart_9 ⟨Nat.zero_le _, Nat.zero_le _⟩ (fun r4 i4 g4 H locs hq hT hS => ?_)
  rcases hq with hq | hq
  ·
    obtain ⟨eh4, rfl, hf4_0⟩ := hq
    rw [(Prod.mk.inj eh4).1, (Prod.mk.inj eh4).2] at hT
    replace hf4_0 : 0 ≤ a_a.toInt ∧ a_a.toInt ≤ y3.toInt := hf4_0
    have h5 : rgL 0 5 a_a := ⟨by have := (rgL_top a_a).1; have := (rgL_top a_a).2; have := hy3.1; have := hy3.2; omega, by have := (rgL_top a_a).1; have := (rgL_top a_a).2; have := hy3.1; have := hy3.2; omega⟩
    exact hret 1 _ _ _ _ _ _ dX9_isPart_12 hT hS (Or.inl ⟨rfl, rfl, h5⟩)
  ·
    obtain ⟨eh4, rfl, hf4_0⟩ := hq
    rw [(Prod.mk.inj eh4).1, (Prod.mk.inj eh4).2] at hT
    replace hf4_0 : a_a.toInt < 0 ∨ y3.toInt < a_a.toInt := hf4_0
    exact hret 0 _ _ _ _ _ _ dX9_isPart_12 hT hS (Or.inr ⟨rfl, rfl⟩)
set_option maxRecDepth 100000 in
set_option maxHeartbeats 4000000 in
theorem m_X9_part {l : Launch} {D : va_G} {h : Nat → Nat} {cz : Nat → ClassId} {z : EZ} {i : Nat → Nat → Int32} {g : Nat → Nat → Int64} (hR : Rg rA i) (a_a : Int32) (a_b : Int32) : DtI l yX9_part cX9_part 3 (some .int) ({ frames := 2, cells := 0, slots := 0, locals := 47 } : Room) D h cz z i g [.ref (h 96), .int a_a, .int a_b] (fun r u => Rg rA u.1 ∧ Fr [96] [] i g u ∧ rg (-2) 60 r) := by
  refine e_I pn_X9_part (Nat.le_of_ble_eq_true rfl) ?_
  intro p e s m args below meth c ls Q X Y hret hT hl hS
  have hx := X.1
  have hb := X.2.1
  have hl : lv_has ls 3 [(0, .ref (h 96)), (1, .int a_a), (2, .int a_b)] := hl
  have hF : Fr [96] [] i g (i, g) := Fr_rf _ _ _ _
  refine lv_aload_n hx hb dX9_part_0 rfl (lv_at hl 0 rfl) ?_
  refine lv_iconst (v := 0) hx hb dX9_part_1 (by decide) ?_
  refine r_puti X hT hS 96 0 pk_9_83 rfl rfl rfl rfl (by decide) dX9_part_2 (fun H locs i1 ei1 hT hS => ?_)
  have hR1 := Rg_put hR ei1 (-2147483648) 2147483647 rfl (rg_k (by decide) : rg 0 0 0) (by decide)
  have hF1 := Fr_puti hF ei1 (by decide)
  refine lv_aload_n hx hb dX9_part_5 rfl (lv_at hl 0 rfl) ?_
  refine lv_iload_n hx hb dX9_part_6 rfl (lv_at hl 1 rfl) ?_
  refine q_i2l hx hb dX9_part_7 (fun y2 ey2 => ?_)
  obtain ⟨hy2, ay2⟩ := rg_i2l ey2 (rg_top a_a)
  refine e_Vi (As := [.long y2]) (rest := []) X Y hT hS (m_X9_isPart hR1 y2) mk_X9_isPart gm_1645 rfl rfl (by decide) hd_X9_isPart ⟨rfl, rfl⟩ ⟨Nat.le_of_ble_eq_true rfl, Nat.le_of_ble_eq_true rfl⟩ hl.1 rfl (Nat.le_of_ble_eq_true rfl) dX9_part_8 ⟨Nat.zero_le _, Nat.zero_le _⟩ (fun r3 i3 g3 H locs hq hT hS => ?_)
  rcases hq with hq | hq
  ·
    obtain ⟨eh3, rfl, hf3_0⟩ := hq
    rw [(Prod.mk.inj eh3).1, (Prod.mk.inj eh3).2] at hT
    have h4 : rgL 0 5 y2 := ⟨by have := hy2.1; have := hf3_0.1; omega, by have := hy2.2; have := hf3_0.2; omega⟩
    have h5 : rg 0 5 a_a := ⟨by have := h4.1; have := (rg_top a_a).1; have := ay2; omega, by have := h4.2; have := (rg_top a_a).2; have := ay2; omega⟩
    refine lv_if_eq (tgt := 39) hx hb dX9_part_11 (by decide) (fun c6 => (x_eq (rg_k (by decide) : rg 1 1 1) (rg_k (by decide) : rg 0 0 0) (i_eq c6) (by decide)).elim) (fun c6 => ?_)
    refine lv_iload_n hx hb dX9_part_14 rfl (lv_at hl 2 rfl) ?_
    refine q_i2l hx hb dX9_part_15 (fun y7 ey7 => ?_)
    obtain ⟨hy7, ay7⟩ := rg_i2l ey7 (rg_top a_b)
    refine lv_lconst (v := 0) hx hb dX9_part_16 (by decide) ?_
    refine lv_ldc2 (v := 2) hx hb X.2.2.2.1 (X.2.2.2.2.1 _ gm_1653) dX9_part_17 ?_
    refine e_Si (As := [.long y7, .long 0, .long 2]) (rest := []) X Y hT hS (m_in y7 (0) (2)) sk_X9_in gm_1496 hd_X9_in ⟨rfl, rfl⟩ ⟨Nat.le_of_ble_eq_true rfl, Nat.le_of_ble_eq_true rfl⟩ hl.1 rfl (Nat.le_of_ble_eq_true rfl) dX9_part_20 ⟨Nat.zero_le _, Nat.zero_le _⟩ (fun r8 i8 g8 H locs hq hT hS => ?_)
    rcases hq with hq | hq
    ·
      obtain ⟨eh8, rfl, hf8_0⟩ := hq
      rw [(Prod.mk.inj eh8).1, (Prod.mk.inj eh8).2] at hT
      replace hf8_0 : 0 ≤ y7.toInt ∧ y7.toInt ≤ 2 := hf8_0
      have h9 : rgL 0 2 y7 := ⟨by have := hy7.1; have := hy7.2; omega, by have := hy7.1; have := hy7.2; omega⟩
      have h10 : rg 0 2 a_b := ⟨by have := h9.1; have := (rg_top a_b).1; have := ay7; omega, by have := h9.2; have := (rg_top a_b).2; have := ay7; omega⟩
      refine lv_if_eq (tgt := 39) hx hb dX9_part_23 (by decide) (fun c11 => (x_eq (rg_k (by decide) : rg 1 1 1) (rg_k (by decide) : rg 0 0 0) (i_eq c11) (by decide)).elim) (fun c11 => ?_)
      refine lv_aload_n hx hb dX9_part_26 rfl (lv_at hl 0 rfl) ?_
      refine r_getr X hT 96 18 104 fk_9_37 rfl rfl (by decide) dX9_part_27 ?_
      refine lv_iconst (v := 3) hx hb dX9_part_30 (by decide) ?_
      refine lv_iload_n hx hb dX9_part_31 rfl (lv_at hl 1 rfl) ?_
      refine q_imul hx hb dX9_part_32 (fun x12 ex12 => ?_)
      obtain ⟨hx12, ax12⟩ := rg_mul 0 15 ex12 (rg_k (by decide) : rg 3 3 3) h5 (by decide)
      replace ax12 : x12.toInt = 3 * a_a.toInt := ax12
      refine lv_iload_n hx hb dX9_part_33 rfl (lv_at hl 2 rfl) ?_
      refine q_iadd hx hb dX9_part_34 (fun x13 ex13 => ?_)
      obtain ⟨hx13, ax13⟩ := rg_add 0 17 ex13 hx12 h10 (by decide)
      replace ax13 : x13.toInt = x12.toInt + a_b.toInt := ax13
      refine r_iald X hT 104 rfl (by decide) (v_in hx13 (by decide)) dX9_part_35 ?_
      refine lv_goto (tgt := 41) hx hb dX9_part_36 (by decide) ?_
      exact hret (i1 104 x13.toNatClampNeg) _ _ _ _ _ _ dX9_part_41 hT hS ⟨hR1, hF1, (rg_w (Rg_at hR1 104 x13.toNatClampNeg 0 60 (v_lt (v_in hx13 (by decide))) rfl) (by decide) : rg (-2) 60 (i1 104 x13.toNatClampNeg))⟩
    ·
      obtain ⟨eh8, rfl, hf8_0⟩ := hq
      rw [(Prod.mk.inj eh8).1, (Prod.mk.inj eh8).2] at hT
      replace hf8_0 : y7.toInt < 0 ∨ 2 < y7.toInt := hf8_0
      refine lv_if_eq (tgt := 39) hx hb dX9_part_23 (by decide) (fun c14 => ?_) (fun c14 => (x_ne (rg_k (by decide) : rg 0 0 0) (rg_k (by decide) : rg 0 0 0) (i_ne c14) (by decide)).elim)
      refine lv_bipush (v := (-2)) hx hb dX9_part_39 (by decide) ?_
      exact hret (-2) _ _ _ _ _ _ dX9_part_41 hT hS ⟨hR1, hF1, (rg_w (rg_k (by decide) : rg (-2) (-2) (-2)) (by decide) : rg (-2) 60 (-2))⟩
  ·
    obtain ⟨eh3, rfl⟩ := hq
    rw [(Prod.mk.inj eh3).1, (Prod.mk.inj eh3).2] at hT
    refine lv_if_eq (tgt := 39) hx hb dX9_part_11 (by decide) (fun c15 => ?_) (fun c15 => (x_ne (rg_k (by decide) : rg 0 0 0) (rg_k (by decide) : rg 0 0 0) (i_ne c15) (by decide)).elim)
    refine lv_bipush (v := (-2)) hx hb dX9_part_39 (by decide) ?_
    exact hret (-2) _ _ _ _ _ _ dX9_part_41 hT hS ⟨hR1, hF1, (rg_w (rg_k (by decide) : rg (-2) (-2) (-2)) (by decide) : rg (-2) 60 (-2))⟩
set_option maxRecDepth 100000 in
set_option maxHeartbeats 4000000 in
theorem m_X9_lays {l : Launch} {D : va_G} {h : Nat → Nat} {cz : Nat → ClassId} {z : EZ} {i : Nat → Nat → Int32} {g : Nat → Nat → Int64} (hR : Rg rA i) : DtV l yX9_lays cX9_lays 2 none ({ frames := 1, cells := 0, slots := 0, locals := 20 } : Room) D h cz z i g [.ref (h 96)] (fun u => Rg rA u.1 ∧ Fr [96, 109, 110] [] i g u) := by
  refine e_V pn_X9_lays (Nat.le_of_ble_eq_true rfl) ?_
  intro p e s m args below meth c ls Q X Y hret hT hl hS
  have hx := X.1
  have hb := X.2.1
  have hl : lv_has ls 2 [(0, .ref (h 96))] := hl
  have hF : Fr [96, 109, 110] [] i g (i, g) := Fr_rf _ _ _ _
  refine lv_aload_n hx hb dX9_lays_0 rfl (lv_at hl 0 rfl) ?_
  refine lv_aload_n hx hb dX9_lays_1 rfl (lv_at hl 0 rfl) ?_
  refine r_getr X hT 96 17 103 fk_9_34 rfl rfl (by decide) dX9_lays_2 ?_
  refine lv_iconst (v := 1) hx hb dX9_lays_5 (by decide) ?_
  refine r_ialdc X hT 103 1 rfl (by decide) (v_in (rg_k (by decide) : rg 1 1 1) (by decide)) (by decide) dX9_lays_6 ?_
  refine r_puti X hT hS 96 23 pk_9_260 rfl rfl rfl rfl (by decide) dX9_lays_7 (fun H locs i1 ei1 hT hS => ?_)
  have hR1 := Rg_put hR ei1 (-2147483648) 2147483647 rfl (Rg_at hR 103 1 0 3 (by decide) rfl) (by decide)
  have hF1 := Fr_puti hF ei1 (by decide)
  refine lv_aload_n hx hb dX9_lays_10 rfl (lv_at hl 0 rfl) ?_
  refine lv_iconst (v := 0) hx hb dX9_lays_11 (by decide) ?_
  refine r_puti X hT hS 96 24 pk_9_263 rfl rfl rfl rfl (by decide) dX9_lays_12 (fun H locs i2 ei2 hT hS => ?_)
  have hR2 := Rg_put hR1 ei2 (-2147483648) 2147483647 rfl (rg_k (by decide) : rg 0 0 0) (by decide)
  have hF2 := Fr_puti hF1 ei2 (by decide)
  refine lv_aload_n hx hb dX9_lays_15 rfl (lv_at hl 0 rfl) ?_
  refine lv_iconst (v := (-1)) hx hb dX9_lays_16 (by decide) ?_
  refine r_puti X hT hS 96 25 pk_9_266 rfl rfl rfl rfl (by decide) dX9_lays_17 (fun H locs i3 ei3 hT hS => ?_)
  have hR3 := Rg_put hR2 ei3 (-2147483648) 2147483647 rfl (rg_k (by decide) : rg (-1) (-1) (-1)) (by decide)
  have hF3 := Fr_puti hF2 ei3 (by decide)
  refine lv_aload_n hx hb dX9_lays_20 rfl (lv_at hl 0 rfl) ?_
  refine lv_iconst (v := 0) hx hb dX9_lays_21 (by decide) ?_
  refine r_puti X hT hS 96 26 pk_9_269 rfl rfl rfl rfl (by decide) dX9_lays_22 (fun H locs i4 ei4 hT hS => ?_)
  have hR4 := Rg_put hR3 ei4 (-2147483648) 2147483647 rfl (rg_k (by decide) : rg 0 0 0) (by decide)
  have hF4 := Fr_puti hF3 ei4 (by decide)
  refine lv_aload_n hx hb dX9_lays_25 rfl (lv_at hl 0 rfl) ?_
  refine lv_iconst (v := 0) hx hb dX9_lays_26 (by decide) ?_
  refine r_puti X hT hS 96 27 pk_9_272 rfl rfl rfl rfl (by decide) dX9_lays_27 (fun H locs i5 ei5 hT hS => ?_)
  have hR5 := Rg_put hR4 ei5 0 1 rfl (rg_k (by decide) : rg 0 0 0) (by decide)
  have hF5 := Fr_puti hF4 ei5 (by decide)
  refine lv_iconst (v := 0) hx hb dX9_lays_30 (by decide) ?_
  refine lv_istore_n (lv' := [(1, .int 0), (0, .ref (h 96))]) hx hb dX9_lays_31 rfl hl (by decide) rfl (fun ls hl => ?_)
  have L32_6 : ∀ (n8_ : Nat) (x32_1 : Int32) (i7 : Nat → Nat → Int32) (g7 : Nat → Nat → Int64) (H : Heap) (locs : List Loc) (ls : Array Slot), rg 0 6 x32_1 → Rg rA i7 → Fr [96, 109, 110] [] i g (i7, g7) → TH D h cz i7 g7 H → va_S (hA h) s.heap H locs → lv_has ls 2 [(0, .ref (h 96)), (1, .int x32_1)] → (6 - x32_1.toInt).toNat < n8_ → W p l e ({ frames := 1, cells := 0, slots := 0, locals := 20 } : Room) s m args below meth c H locs 0 0 Q (F0 m 32 ls []) := by
    intro n8_
    induction n8_ with
    | zero => intro x32_1 i7 g7 H locs ls hhx32_1 hR7 hF7 hT hS hl hm8_; exact absurd hm8_ (Nat.not_lt_zero _)
    | succ n8_ ih8_ =>
      intro x32_1 i7 g7 H locs ls hhx32_1 hR7 hF7 hT hS hl hm8_
      refine lv_iload_n hx hb dX9_lays_32 rfl (lv_at hl 1 rfl) ?_
      refine lv_aload_n hx hb dX9_lays_33 rfl (lv_at hl 0 rfl) ?_
      refine e_Vi (As := []) (rest := [.int x32_1]) X Y hT hS (m_X9_parts hR7) mk_X9_parts gm_1649 rfl rfl (by decide) hd_X9_parts ⟨rfl, rfl⟩ ⟨Nat.le_of_ble_eq_true rfl, Nat.le_of_ble_eq_true rfl⟩ hl.1 rfl (Nat.le_of_ble_eq_true rfl) dX9_lays_34 ⟨Nat.zero_le _, Nat.zero_le _⟩ (fun r9 i9 g9 H locs hq hT hS => ?_)
      obtain ⟨eh9, hr9⟩ := hq
      rw [(Prod.mk.inj eh9).1, (Prod.mk.inj eh9).2] at hT
      refine lv_icmp_ge (tgt := 62) hx hb dX9_lays_37 (by decide) (fun c10 => ?_) (fun c10 => ?_)
      ·
        have q10 : r9.toInt ≤ x32_1.toInt := i_le c10
        refine lv_iconst (v := 0) hx hb dX9_lays_62 (by decide) ?_
        refine lv_istore_n (lv' := [(1, .int 0), (0, .ref (h 96))]) hx hb dX9_lays_63 rfl hl (by decide) rfl (fun ls hl => ?_)
        have L64_11 : ∀ (n13_ : Nat) (x64_1_1 : Int32) (i12 : Nat → Nat → Int32) (g12 : Nat → Nat → Int64) (H : Heap) (locs : List Loc) (ls : Array Slot), rg 0 12 x64_1_1 → Rg rA i12 → Fr [96, 109, 110] [] i g (i12, g12) → TH D h cz i12 g12 H → va_S (hA h) s.heap H locs → lv_has ls 2 [(0, .ref (h 96)), (1, .int x64_1_1)] → (12 - x64_1_1.toInt).toNat < n13_ → W p l e ({ frames := 1, cells := 0, slots := 0, locals := 20 } : Room) s m args below meth c H locs 0 0 Q (F0 m 64 ls []) := by
          intro n13_
          induction n13_ with
          | zero => intro x64_1_1 i12 g12 H locs ls hhx64_1_1 hR12 hF12 hT hS hl hm13_; exact absurd hm13_ (Nat.not_lt_zero _)
          | succ n13_ ih13_ =>
            intro x64_1_1 i12 g12 H locs ls hhx64_1_1 hR12 hF12 hT hS hl hm13_
            refine lv_iload_n hx hb dX9_lays_64 rfl (lv_at hl 1 rfl) ?_
            refine lv_bipush (v := 12) hx hb dX9_lays_65 (by decide) ?_
            refine lv_icmp_ge (tgt := 83) hx hb dX9_lays_67 (by decide) (fun c14 => ?_) (fun c14 => ?_)
            ·
              have q14 : 12 ≤ x64_1_1.toInt := i_le c14
              have h15 : rg 12 12 x64_1_1 := t_ley 12 12 (rg_k (by decide) : rg 12 12 12) hhx64_1_1 (i_le c14) (by decide)
              exact hret _ _ _ _ _ _ dX9_lays_83 hT hS ⟨hR12, hF12⟩
            ·
              have q14 : x64_1_1.toInt < 12 := i_nle c14
              have h16 : rg 0 11 x64_1_1 := t_ltx 0 11 hhx64_1_1 (rg_k (by decide) : rg 12 12 12) (i_nle c14) (by decide)
              refine lv_aload_n hx hb dX9_lays_70 rfl (lv_at hl 0 rfl) ?_
              refine r_getr X hT 96 29 110 fk_9_56 rfl rfl (by decide) dX9_lays_71 ?_
              refine lv_iload_n hx hb dX9_lays_74 rfl (lv_at hl 1 rfl) ?_
              refine lv_iconst (v := 0) hx hb dX9_lays_75 (by decide) ?_
              refine r_iast X hT hS 110 rfl (by decide) (v_in h16 (by decide)) dX9_lays_76 (fun H locs i17 ei17 hT hS => ?_)
              have hR17 := Rg_put hR12 ei17 (-2147483648) 2147483647 rfl (rg_k (by decide) : rg 0 0 0) (by decide)
              have hF17 := Fr_puti hF12 ei17 (by decide)
              obtain ⟨x18, ex18⟩ : ∃ y : Int32, y = x64_1_1 + 1 := ⟨_, rfl⟩
              refine lv_iinc (v := x18) (lv' := [(1, .int x18), (0, .ref (h 96))]) hx hb dX9_lays_77 hl (k := 1) rfl (by rw [ex18]; rfl) (by decide) rfl (fun ls hl => ?_)
              obtain ⟨hx18, ax18⟩ := rg_add 1 12 ex18 h16 (rg_k (by decide) : rg 1 1 1) (by decide)
              replace ax18 : x18.toInt = x64_1_1.toInt + 1 := ax18
              refine lv_goto (tgt := 64) hx hb dX9_lays_80 (by decide) ?_
              exact ih13_ x18 i17 g12 _ _ _ (rg_w hx18 (by decide) : rg 0 12 x18) hR17 hF17 hT hS (lv_sub hl [1, 0] rfl) (m_up ax18 hx18 (by decide) hm13_)
        exact L64_11 _ (0) i7 g7 _ _ _ (rg_w (rg_k (by decide) : rg 0 0 0) (by decide) : rg 0 12 0) hR7 hF7 hT hS (lv_sub hl [1, 0] rfl) (Nat.lt_succ_self _)
      ·
        have q10 : x32_1.toInt < r9.toInt := i_nle c10
        have h19 : rg 0 5 x32_1 := t_ltx 0 5 hhx32_1 hr9 (i_nle c10) (by decide)
        have h20 : rg 1 6 r9 := t_lty 1 6 hhx32_1 hr9 (i_nle c10) (by decide)
        refine lv_aload_n hx hb dX9_lays_40 rfl (lv_at hl 0 rfl) ?_
        refine r_getr X hT 96 28 109 fk_9_53 rfl rfl (by decide) dX9_lays_41 ?_
        refine lv_iload_n hx hb dX9_lays_44 rfl (lv_at hl 1 rfl) ?_
        refine lv_aload_n hx hb dX9_lays_45 rfl (lv_at hl 0 rfl) ?_
        refine r_getr X hT 96 18 104 fk_9_37 rfl rfl (by decide) dX9_lays_46 ?_
        refine lv_iconst (v := 3) hx hb dX9_lays_49 (by decide) ?_
        refine lv_iload_n hx hb dX9_lays_50 rfl (lv_at hl 1 rfl) ?_
        refine q_imul hx hb dX9_lays_51 (fun x21 ex21 => ?_)
        obtain ⟨hx21, ax21⟩ := rg_mul 0 15 ex21 (rg_k (by decide) : rg 3 3 3) h19 (by decide)
        replace ax21 : x21.toInt = 3 * x32_1.toInt := ax21
        refine lv_iconst (v := 2) hx hb dX9_lays_52 (by decide) ?_
        refine q_iadd hx hb dX9_lays_53 (fun x22 ex22 => ?_)
        obtain ⟨hx22, ax22⟩ := rg_add 2 17 ex22 hx21 (rg_k (by decide) : rg 2 2 2) (by decide)
        replace ax22 : x22.toInt = x21.toInt + 2 := ax22
        refine r_iald X hT 104 rfl (by decide) (v_in hx22 (by decide)) dX9_lays_54 ?_
        refine r_iast X hT hS 109 rfl (by decide) (v_in h19 (by decide)) dX9_lays_55 (fun H locs i23 ei23 hT hS => ?_)
        have hR23 := Rg_put hR7 ei23 0 60 rfl (Rg_at hR7 104 x22.toNatClampNeg 0 60 (v_lt (v_in hx22 (by decide))) rfl) (by decide)
        have hF23 := Fr_puti hF7 ei23 (by decide)
        obtain ⟨x24, ex24⟩ : ∃ y : Int32, y = x32_1 + 1 := ⟨_, rfl⟩
        refine lv_iinc (v := x24) (lv' := [(1, .int x24), (0, .ref (h 96))]) hx hb dX9_lays_56 hl (k := 1) rfl (by rw [ex24]; rfl) (by decide) rfl (fun ls hl => ?_)
        obtain ⟨hx24, ax24⟩ := rg_add 1 6 ex24 h19 (rg_k (by decide) : rg 1 1 1) (by decide)
        replace ax24 : x24.toInt = x32_1.toInt + 1 := ax24
        refine lv_goto (tgt := 32) hx hb dX9_lays_59 (by decide) ?_
        exact ih8_ x24 i23 g7 _ _ _ (rg_w hx24 (by decide) : rg 0 6 x24) hR23 hF23 hT hS (lv_sub hl [1, 0] rfl) (m_up ax24 hx24 (by decide) hm8_)
  exact L32_6 _ (0) i5 g _ _ _ (rg_w (rg_k (by decide) : rg 0 0 0) (by decide) : rg 0 6 0) hR5 hF5 hT hS (lv_sub hl [1, 0] rfl) (Nat.lt_succ_self _)
set_option maxRecDepth 100000 in
set_option maxHeartbeats 4000000 in
theorem m_X9_nearOf {l : Launch} {D : va_G} {h : Nat → Nat} {cz : Nat → ClassId} {z : EZ} {i : Nat → Nat → Int32} {g : Nat → Nat → Int64} (hR : Rg rA i) (a_a : Int32) : DtI l yX9_nearOf cX9_nearOf 4 (some .int) ({ frames := 0, cells := 0, slots := 0, locals := 0 } : Room) D h cz z i g [.ref (h 96), .int a_a] (fun r u => u = (i, g) ∧ rg 0 255 r) := by
  refine e_I pn_X9_nearOf (Nat.le_of_ble_eq_true rfl) ?_
  intro p e s m args below meth c ls Q X Y hret hT hl hS
  have hx := X.1
  have hb := X.2.1
  have hl : lv_has ls 4 [(0, .ref (h 96)), (1, .int a_a)] := hl
  refine lv_iconst (v := 0) hx hb dX9_nearOf_0 (by decide) ?_
  refine lv_istore_n (lv' := [(2, .int 0), (0, .ref (h 96)), (1, .int a_a)]) hx hb dX9_nearOf_1 rfl hl (by decide) rfl (fun ls hl => ?_)
  refine lv_iconst (v := 0) hx hb dX9_nearOf_2 (by decide) ?_
  refine lv_istore_n (lv' := [(3, .int 0), (2, .int 0), (0, .ref (h 96)), (1, .int a_a)]) hx hb dX9_nearOf_3 rfl hl (by decide) rfl (fun ls hl => ?_)
  have L4_1 : ∀ (n2_ : Nat) (x4_2 : Int32) (x4_3 : Int32) (H : Heap) (locs : List Loc) (ls : Array Slot), rg 0 255 x4_2 → rg 0 10 x4_3 → TH D h cz i g H → va_S (hA h) s.heap H locs → lv_has ls 4 [(0, .ref (h 96)), (1, .int a_a), (2, .int x4_2), (3, .int x4_3)] → (10 - x4_3.toInt).toNat < n2_ → W p l e ({ frames := 0, cells := 0, slots := 0, locals := 0 } : Room) s m args below meth c H locs 0 0 Q (F0 m 4 ls []) := by
    intro n2_
    induction n2_ with
    | zero => intro x4_2 x4_3 H locs ls hhx4_2 hhx4_3 hT hS hl hm2_; exact absurd hm2_ (Nat.not_lt_zero _)
    | succ n2_ ih2_ =>
      intro x4_2 x4_3 H locs ls hhx4_2 hhx4_3 hT hS hl hm2_
      refine lv_iload_n hx hb dX9_nearOf_4 rfl (lv_at hl 3 rfl) ?_
      refine lv_aload_n hx hb dX9_nearOf_5 rfl (lv_at hl 0 rfl) ?_
      refine r_getr X hT 96 17 103 fk_9_34 rfl rfl (by decide) dX9_nearOf_6 ?_
      refine lv_iconst (v := 4) hx hb dX9_nearOf_9 (by decide) ?_
      refine r_ialdc X hT 103 4 rfl (by decide) (v_in (rg_k (by decide) : rg 4 4 4) (by decide)) (by decide) dX9_nearOf_10 ?_
      refine lv_icmp_ge (tgt := 85) hx hb dX9_nearOf_11 (by decide) (fun c3 => ?_) (fun c3 => ?_)
      ·
        have q3 : (i 103 4).toInt ≤ x4_3.toInt := i_le c3
        refine lv_iload_n hx hb dX9_nearOf_85 rfl (lv_at hl 2 rfl) ?_
        exact hret x4_2 _ _ _ _ _ _ dX9_nearOf_86 hT hS ⟨rfl, hhx4_2⟩
      ·
        have q3 : x4_3.toInt < (i 103 4).toInt := i_nle c3
        have h4 : rg 0 9 x4_3 := t_ltx 0 9 hhx4_3 (Rg_at hR 103 4 0 10 (by decide) rfl) (i_nle c3) (by decide)
        have h5 : rg 1 10 (i 103 4) := t_lty 1 10 hhx4_3 (Rg_at hR 103 4 0 10 (by decide) rfl) (i_nle c3) (by decide)
        refine lv_iload_n hx hb dX9_nearOf_14 rfl (lv_at hl 3 rfl) ?_
        refine lv_aload_n hx hb dX9_nearOf_15 rfl (lv_at hl 0 rfl) ?_
        refine r_geti X hT 96 25 fk_9_266 rfl rfl (by decide) dX9_nearOf_16 ?_
        refine lv_icmp_ne (tgt := 25) hx hb dX9_nearOf_19 (by decide) (fun c6 => ?_) (fun c6 => ?_)
        ·
          have q6 : ¬ x4_3.toInt = (i 96 25).toInt := i_ne c6
          refine lv_aload_n hx hb dX9_nearOf_25 rfl (lv_at hl 0 rfl) ?_
          refine r_getr X hT 96 19 105 fk_9_40 rfl rfl (by decide) dX9_nearOf_26 ?_
          refine lv_iconst (v := 2) hx hb dX9_nearOf_29 (by decide) ?_
          refine lv_iload_n hx hb dX9_nearOf_30 rfl (lv_at hl 3 rfl) ?_
          refine q_imul hx hb dX9_nearOf_31 (fun x7 ex7 => ?_)
          obtain ⟨hx7, ax7⟩ := rg_mul 0 18 ex7 (rg_k (by decide) : rg 2 2 2) h4 (by decide)
          replace ax7 : x7.toInt = 2 * x4_3.toInt := ax7
          refine r_iald X hT 105 rfl (by decide) (v_in hx7 (by decide)) dX9_nearOf_32 ?_
          refine lv_iload_n hx hb dX9_nearOf_33 rfl (lv_at hl 1 rfl) ?_
          have J52_9 : ∀ (x52_9_2 : Int32) (H : Heap) (locs : List Loc) (ls : Array Slot), rg 0 255 x52_9_2 → TH D h cz i g H → va_S (hA h) s.heap H locs → lv_has ls 4 [(0, .ref (h 96)), (1, .int a_a), (2, .int x52_9_2), (3, .int x4_3)] → W p l e ({ frames := 0, cells := 0, slots := 0, locals := 0 } : Room) s m args below meth c H locs 0 0 Q (F0 m 52 ls []) := by
            intro x52_9_2 H locs ls hhx52_9_2 hT hS hl
            refine lv_aload_n hx hb dX9_nearOf_52 rfl (lv_at hl 0 rfl) ?_
            refine r_getr X hT 96 19 105 fk_9_40 rfl rfl (by decide) dX9_nearOf_53 ?_
            refine lv_iconst (v := 2) hx hb dX9_nearOf_56 (by decide) ?_
            refine lv_iload_n hx hb dX9_nearOf_57 rfl (lv_at hl 3 rfl) ?_
            refine q_imul hx hb dX9_nearOf_58 (fun x10 ex10 => ?_)
            obtain ⟨hx10, ax10⟩ := rg_mul 0 18 ex10 (rg_k (by decide) : rg 2 2 2) h4 (by decide)
            replace ax10 : x10.toInt = 2 * x4_3.toInt := ax10
            refine lv_iconst (v := 1) hx hb dX9_nearOf_59 (by decide) ?_
            refine q_iadd hx hb dX9_nearOf_60 (fun x11 ex11 => ?_)
            obtain ⟨hx11, ax11⟩ := rg_add 1 19 ex11 hx10 (rg_k (by decide) : rg 1 1 1) (by decide)
            replace ax11 : x11.toInt = x10.toInt + 1 := ax11
            refine r_iald X hT 105 rfl (by decide) (v_in hx11 (by decide)) dX9_nearOf_61 ?_
            refine lv_iload_n hx hb dX9_nearOf_62 rfl (lv_at hl 1 rfl) ?_
            refine lv_icmp_ne (tgt := 79) hx hb dX9_nearOf_63 (by decide) (fun c12 => ?_) (fun c12 => ?_)
            ·
              have q12 : ¬ (i 105 x11.toNatClampNeg).toInt = a_a.toInt := i_ne c12
              obtain ⟨x13, ex13⟩ : ∃ y : Int32, y = x4_3 + 1 := ⟨_, rfl⟩
              refine lv_iinc (v := x13) (lv' := [(3, .int x13), (0, .ref (h 96)), (1, .int a_a), (2, .int x52_9_2)]) hx hb dX9_nearOf_79 hl (k := 3) rfl (by rw [ex13]; rfl) (by decide) rfl (fun ls hl => ?_)
              obtain ⟨hx13, ax13⟩ := rg_add 1 10 ex13 h4 (rg_k (by decide) : rg 1 1 1) (by decide)
              replace ax13 : x13.toInt = x4_3.toInt + 1 := ax13
              refine lv_goto (tgt := 4) hx hb dX9_nearOf_82 (by decide) ?_
              exact ih2_ x52_9_2 x13 _ _ _ hhx52_9_2 (rg_w hx13 (by decide) : rg 0 10 x13) hT hS (lv_sub hl [1, 2, 3, 0] rfl) (m_up ax13 hx13 (by decide) hm2_)
            ·
              have q12 : (i 105 x11.toNatClampNeg).toInt = a_a.toInt := i_eq c12
              have h14 : rg 0 5 a_a := t_eqy 0 5 (Rg_at hR 105 x11.toNatClampNeg 0 5 (v_lt (v_in hx11 (by decide))) rfl) (rg_top a_a) (i_eq c12) (by decide)
              refine lv_iload_n hx hb dX9_nearOf_66 rfl (lv_at hl 2 rfl) ?_
              refine lv_iconst (v := 1) hx hb dX9_nearOf_67 (by decide) ?_
              refine lv_aload_n hx hb dX9_nearOf_68 rfl (lv_at hl 0 rfl) ?_
              refine r_getr X hT 96 19 105 fk_9_40 rfl rfl (by decide) dX9_nearOf_69 ?_
              refine lv_iconst (v := 2) hx hb dX9_nearOf_72 (by decide) ?_
              refine lv_iload_n hx hb dX9_nearOf_73 rfl (lv_at hl 3 rfl) ?_
              refine q_imul hx hb dX9_nearOf_74 (fun x15 ex15 => ?_)
              obtain ⟨hx15, ax15⟩ := rg_mul 0 18 ex15 (rg_k (by decide) : rg 2 2 2) h4 (by decide)
              replace ax15 : x15.toInt = 2 * x4_3.toInt := ax15
              refine r_iald X hT 105 rfl (by decide) (v_in hx15 (by decide)) dX9_nearOf_75 ?_
              refine q_ishl hx hb dX9_nearOf_76 (fun x16 ex16 => ?_)
              have h17 : rg 1 32 x16 := rg_shl1 ex16 (Rg_at hR 105 x15.toNatClampNeg 0 5 (v_lt (v_in hx15 (by decide))) rfl) (by decide)
              refine q_ior hx hb dX9_nearOf_77 (fun x18 ex18 => ?_)
              have h19 : rg 0 255 x18 := rg_or8 ex18 hhx52_9_2 h17 (by decide)
              refine lv_istore_n (lv' := [(2, .int x18), (0, .ref (h 96)), (1, .int a_a), (3, .int x4_3)]) hx hb dX9_nearOf_78 rfl hl (by decide) rfl (fun ls hl => ?_)
              obtain ⟨x20, ex20⟩ : ∃ y : Int32, y = x4_3 + 1 := ⟨_, rfl⟩
              refine lv_iinc (v := x20) (lv' := [(3, .int x20), (2, .int x18), (0, .ref (h 96)), (1, .int a_a)]) hx hb dX9_nearOf_79 hl (k := 3) rfl (by rw [ex20]; rfl) (by decide) rfl (fun ls hl => ?_)
              obtain ⟨hx20, ax20⟩ := rg_add 1 10 ex20 h4 (rg_k (by decide) : rg 1 1 1) (by decide)
              replace ax20 : x20.toInt = x4_3.toInt + 1 := ax20
              refine lv_goto (tgt := 4) hx hb dX9_nearOf_82 (by decide) ?_
              exact ih2_ x18 x20 _ _ _ h19 (rg_w hx20 (by decide) : rg 0 10 x20) hT hS (lv_sub hl [2, 3, 1, 0] rfl) (m_up ax20 hx20 (by decide) hm2_)
          refine lv_icmp_ne (tgt := 52) hx hb dX9_nearOf_34 (by decide) (fun c8 => ?_) (fun c8 => ?_)
          ·
            have q8 : ¬ (i 105 x7.toNatClampNeg).toInt = a_a.toInt := i_ne c8
            exact J52_9 x4_2 _ _ _ hhx4_2 hT hS (lv_sub hl [0, 1, 2, 3] rfl)
          ·
            have q8 : (i 105 x7.toNatClampNeg).toInt = a_a.toInt := i_eq c8
            have h21 : rg 0 5 a_a := t_eqy 0 5 (Rg_at hR 105 x7.toNatClampNeg 0 5 (v_lt (v_in hx7 (by decide))) rfl) (rg_top a_a) (i_eq c8) (by decide)
            refine lv_iload_n hx hb dX9_nearOf_37 rfl (lv_at hl 2 rfl) ?_
            refine lv_iconst (v := 1) hx hb dX9_nearOf_38 (by decide) ?_
            refine lv_aload_n hx hb dX9_nearOf_39 rfl (lv_at hl 0 rfl) ?_
            refine r_getr X hT 96 19 105 fk_9_40 rfl rfl (by decide) dX9_nearOf_40 ?_
            refine lv_iconst (v := 2) hx hb dX9_nearOf_43 (by decide) ?_
            refine lv_iload_n hx hb dX9_nearOf_44 rfl (lv_at hl 3 rfl) ?_
            refine q_imul hx hb dX9_nearOf_45 (fun x22 ex22 => ?_)
            obtain ⟨hx22, ax22⟩ := rg_mul 0 18 ex22 (rg_k (by decide) : rg 2 2 2) h4 (by decide)
            replace ax22 : x22.toInt = 2 * x4_3.toInt := ax22
            refine lv_iconst (v := 1) hx hb dX9_nearOf_46 (by decide) ?_
            refine q_iadd hx hb dX9_nearOf_47 (fun x23 ex23 => ?_)
            obtain ⟨hx23, ax23⟩ := rg_add 1 19 ex23 hx22 (rg_k (by decide) : rg 1 1 1) (by decide)
            replace ax23 : x23.toInt = x22.toInt + 1 := ax23
            refine r_iald X hT 105 rfl (by decide) (v_in hx23 (by decide)) dX9_nearOf_48 ?_
            refine q_ishl hx hb dX9_nearOf_49 (fun x24 ex24 => ?_)
            have h25 : rg 1 32 x24 := rg_shl1 ex24 (Rg_at hR 105 x23.toNatClampNeg 0 5 (v_lt (v_in hx23 (by decide))) rfl) (by decide)
            refine q_ior hx hb dX9_nearOf_50 (fun x26 ex26 => ?_)
            have h27 : rg 0 255 x26 := rg_or8 ex26 hhx4_2 h25 (by decide)
            refine lv_istore_n (lv' := [(2, .int x26), (0, .ref (h 96)), (1, .int a_a), (3, .int x4_3)]) hx hb dX9_nearOf_51 rfl hl (by decide) rfl (fun ls hl => ?_)
            exact J52_9 x26 _ _ _ h27 hT hS (lv_sub hl [1, 2, 0, 3] rfl)
        ·
          have q6 : x4_3.toInt = (i 96 25).toInt := i_eq c6
          have h28 : rg 0 9 (i 96 25) := t_eqy 0 9 h4 (rg_top (i 96 25)) (i_eq c6) (by decide)
          refine lv_goto (tgt := 79) hx hb dX9_nearOf_22 (by decide) ?_
          obtain ⟨x29, ex29⟩ : ∃ y : Int32, y = x4_3 + 1 := ⟨_, rfl⟩
          refine lv_iinc (v := x29) (lv' := [(3, .int x29), (0, .ref (h 96)), (1, .int a_a), (2, .int x4_2)]) hx hb dX9_nearOf_79 hl (k := 3) rfl (by rw [ex29]; rfl) (by decide) rfl (fun ls hl => ?_)
          obtain ⟨hx29, ax29⟩ := rg_add 1 10 ex29 h4 (rg_k (by decide) : rg 1 1 1) (by decide)
          replace ax29 : x29.toInt = x4_3.toInt + 1 := ax29
          refine lv_goto (tgt := 4) hx hb dX9_nearOf_82 (by decide) ?_
          exact ih2_ x4_2 x29 _ _ _ hhx4_2 (rg_w hx29 (by decide) : rg 0 10 x29) hT hS (lv_sub hl [1, 2, 3, 0] rfl) (m_up ax29 hx29 (by decide) hm2_)
  exact L4_1 _ (0) (0) _ _ _ (rg_w (rg_k (by decide) : rg 0 0 0) (by decide) : rg 0 255 0) (rg_w (rg_k (by decide) : rg 0 0 0) (by decide) : rg 0 10 0) hT hS (lv_sub hl [2, 3, 1, 0] rfl) (Nat.lt_succ_self _)
set_option maxRecDepth 100000 in
set_option maxHeartbeats 4000000 in
theorem m_X9_near {l : Launch} {D : va_G} {h : Nat → Nat} {cz : Nat → ClassId} {z : EZ} {i : Nat → Nat → Int32} {g : Nat → Nat → Int64} (hR : Rg rA i) (a_a : Int32) : DtI l yX9_near cX9_near 2 (some .int) ({ frames := 2, cells := 0, slots := 0, locals := 47 } : Room) D h cz z i g [.ref (h 96), .int a_a] (fun r u => Rg rA u.1 ∧ Fr [96, 109, 110] [] i g u ∧ rg (-2) 255 r) := by
  refine e_I pn_X9_near (Nat.le_of_ble_eq_true rfl) ?_
  intro p e s m args below meth c ls Q X Y hret hT hl hS
  have hx := X.1
  have hb := X.2.1
  have hl : lv_has ls 2 [(0, .ref (h 96)), (1, .int a_a)] := hl
  have hF : Fr [96, 109, 110] [] i g (i, g) := Fr_rf _ _ _ _
  refine lv_aload_n hx hb dX9_near_0 rfl (lv_at hl 0 rfl) ?_
  refine lv_iconst (v := 0) hx hb dX9_near_1 (by decide) ?_
  refine r_puti X hT hS 96 0 pk_9_83 rfl rfl rfl rfl (by decide) dX9_near_2 (fun H locs i1 ei1 hT hS => ?_)
  have hR1 := Rg_put hR ei1 (-2147483648) 2147483647 rfl (rg_k (by decide) : rg 0 0 0) (by decide)
  have hF1 := Fr_puti hF ei1 (by decide)
  refine lv_aload_n hx hb dX9_near_5 rfl (lv_at hl 0 rfl) ?_
  refine lv_iload_n hx hb dX9_near_6 rfl (lv_at hl 1 rfl) ?_
  refine q_i2l hx hb dX9_near_7 (fun y2 ey2 => ?_)
  obtain ⟨hy2, ay2⟩ := rg_i2l ey2 (rg_top a_a)
  refine e_Vi (As := [.long y2]) (rest := []) X Y hT hS (m_X9_isPart hR1 y2) mk_X9_isPart gm_1645 rfl rfl (by decide) hd_X9_isPart ⟨rfl, rfl⟩ ⟨Nat.le_of_ble_eq_true rfl, Nat.le_of_ble_eq_true rfl⟩ hl.1 rfl (Nat.le_of_ble_eq_true rfl) dX9_near_8 ⟨Nat.zero_le _, Nat.zero_le _⟩ (fun r3 i3 g3 H locs hq hT hS => ?_)
  rcases hq with hq | hq
  ·
    obtain ⟨eh3, rfl, hf3_0⟩ := hq
    rw [(Prod.mk.inj eh3).1, (Prod.mk.inj eh3).2] at hT
    have h4 : rgL 0 5 y2 := ⟨by have := hy2.1; have := hf3_0.1; omega, by have := hy2.2; have := hf3_0.2; omega⟩
    have h5 : rg 0 5 a_a := ⟨by have := h4.1; have := (rg_top a_a).1; have := ay2; omega, by have := h4.2; have := (rg_top a_a).2; have := ay2; omega⟩
    refine lv_if_ne (tgt := 17) hx hb dX9_near_11 (by decide) (fun c6 => ?_) (fun c6 => (x_eq (rg_k (by decide) : rg 1 1 1) (rg_k (by decide) : rg 0 0 0) (i_eq c6) (by decide)).elim)
    refine lv_aload_n hx hb dX9_near_17 rfl (lv_at hl 0 rfl) ?_
    refine e_Vv (As := []) (rest := []) X Y hT hS (m_X9_lays hR1) mk_X9_lays gm_1658 rfl rfl (by decide) hd_X9_lays ⟨rfl, rfl⟩ ⟨Nat.le_of_ble_eq_true rfl, Nat.le_of_ble_eq_true rfl⟩ hl.1 rfl (Nat.le_of_ble_eq_true rfl) dX9_near_18 ⟨Nat.zero_le _, Nat.zero_le _⟩ (fun i7 g7 H locs hq hT hS => ?_)
    obtain ⟨hR7, hf7⟩ := hq
    have hF7 := Fr_tr hF1 hf7 (by decide)
    refine lv_aload_n hx hb dX9_near_21 rfl (lv_at hl 0 rfl) ?_
    refine lv_iload_n hx hb dX9_near_22 rfl (lv_at hl 1 rfl) ?_
    refine e_Vi (As := [.int a_a]) (rest := []) X Y hT hS (m_X9_nearOf hR7 a_a) mk_X9_nearOf gm_1662 rfl rfl (by decide) hd_X9_nearOf ⟨rfl, rfl⟩ ⟨Nat.le_of_ble_eq_true rfl, Nat.le_of_ble_eq_true rfl⟩ hl.1 rfl (Nat.le_of_ble_eq_true rfl) dX9_near_23 ⟨Nat.zero_le _, Nat.zero_le _⟩ (fun r8 i8 g8 H locs hq hT hS => ?_)
    obtain ⟨eh8, hr8⟩ := hq
    rw [(Prod.mk.inj eh8).1, (Prod.mk.inj eh8).2] at hT
    exact hret r8 _ _ _ _ _ _ dX9_near_26 hT hS ⟨hR7, hF7, (rg_w hr8 (by decide) : rg (-2) 255 r8)⟩
  ·
    obtain ⟨eh3, rfl⟩ := hq
    rw [(Prod.mk.inj eh3).1, (Prod.mk.inj eh3).2] at hT
    refine lv_if_ne (tgt := 17) hx hb dX9_near_11 (by decide) (fun c9 => (x_ne (rg_k (by decide) : rg 0 0 0) (rg_k (by decide) : rg 0 0 0) (i_ne c9) (by decide)).elim) (fun c9 => ?_)
    refine lv_bipush (v := (-2)) hx hb dX9_near_14 (by decide) ?_
    exact hret (-2) _ _ _ _ _ _ dX9_near_16 hT hS ⟨hR1, hF1, (rg_w (rg_k (by decide) : rg (-2) (-2) (-2)) (by decide) : rg (-2) 255 (-2))⟩
set_option maxRecDepth 100000 in
set_option maxHeartbeats 4000000 in
theorem m_X9_isBit {l : Launch} {D : va_G} {h : Nat → Nat} {cz : Nat → ClassId} {z : EZ} {i : Nat → Nat → Int32} {g : Nat → Nat → Int64} (a_a : Int32) (a_b : Int32) : DtI l yX9_isBit cX9_isBit 2 (some .boolean) ({ frames := 0, cells := 0, slots := 0, locals := 0 } : Room) D h cz z i g [.int a_a, .int a_b] (fun r u => (u = (i, g) ∧ r = 1 ∧ ((a_a >>> (a_b &&& 31)) &&& 1 = 1)) ∨ (u = (i, g) ∧ r = 0 ∧ (¬ ((a_a >>> (a_b &&& 31)) &&& 1 = 1)))) := by
  refine e_Z (fun v u hq => (hq.elim (fun hq => (Or.inr hq.2.1)) (fun hq => (Or.inl hq.2.1)))) pn_X9_isBit (Nat.le_of_ble_eq_true rfl) ?_
  intro p e s m args below meth c ls Q X Y hret hT hl hS
  have hx := X.1
  have hb := X.2.1
  have hl : lv_has ls 2 [(0, .int a_a), (1, .int a_b)] := hl
  refine lv_iload_n hx hb dX9_isBit_0 rfl (lv_at hl 0 rfl) ?_
  refine lv_iload_n hx hb dX9_isBit_1 rfl (lv_at hl 1 rfl) ?_
  refine q_ishr hx hb dX9_isBit_2 (fun x1 ex1 => ?_)
  refine lv_iconst (v := 1) hx hb dX9_isBit_3 (by decide) ?_
  refine q_iand hx hb dX9_isBit_4 (fun x2 ex2 => ?_)
  have h3 : rg 0 1 x2 := rg_andr ex2 (rg_k (by decide) : rg 1 1 1) (by decide)
  refine lv_iconst (v := 1) hx hb dX9_isBit_5 (by decide) ?_
  refine lv_icmp_ne (tgt := 13) hx hb dX9_isBit_6 (by decide) (fun c4 => ?_) (fun c4 => ?_)
  ·
    have q4 : ¬ x2.toInt = 1 := i_ne c4
    have h5 : rg 0 0 x2 := t_nehi 0 h3 (rg_k (by decide) : rg 1 1 1) (i_ne c4) (by decide)
    refine lv_iconst (v := 0) hx hb dX9_isBit_13 (by decide) ?_
    exact hret 0 _ _ _ _ _ _ dX9_isBit_14 hT hS (Or.inr ⟨rfl, rfl, (bit0 ex1 ex2 q4)⟩)
  ·
    have q4 : x2.toInt = 1 := i_eq c4
    have h6 : rg 1 1 x2 := t_eqx 1 1 h3 (rg_k (by decide) : rg 1 1 1) (i_eq c4) (by decide)
    refine lv_iconst (v := 1) hx hb dX9_isBit_9 (by decide) ?_
    refine lv_goto (tgt := 14) hx hb dX9_isBit_10 (by decide) ?_
    exact hret 1 _ _ _ _ _ _ dX9_isBit_14 hT hS (Or.inl ⟨rfl, rfl, (bit1 ex1 ex2 q4)⟩)
set_option maxRecDepth 100000 in
set_option maxHeartbeats 4000000 in
theorem m_X9_far {l : Launch} {D : va_G} {h : Nat → Nat} {cz : Nat → ClassId} {z : EZ} {i : Nat → Nat → Int32} {g : Nat → Nat → Int64} (hR : Rg rA i) (a_a : Int32) (a_b : Int32) : DtI l yX9_far cX9_far 7 (some .int) ({ frames := 2, cells := 0, slots := 0, locals := 47 } : Room) D h cz z i g [.ref (h 96), .int a_a, .int a_b] (fun r u => Rg rA u.1 ∧ Fr [96, 109, 110] [] i g u ∧ rg (-2) 5 r) := by
  refine e_I pn_X9_far (Nat.le_of_ble_eq_true rfl) ?_
  intro p e s m args below meth c ls Q X Y hret hT hl hS
  have hx := X.1
  have hb := X.2.1
  have hl : lv_has ls 7 [(0, .ref (h 96)), (1, .int a_a), (2, .int a_b)] := hl
  have hF : Fr [96, 109, 110] [] i g (i, g) := Fr_rf _ _ _ _
  refine lv_aload_n hx hb dX9_far_0 rfl (lv_at hl 0 rfl) ?_
  refine lv_iconst (v := 0) hx hb dX9_far_1 (by decide) ?_
  refine r_puti X hT hS 96 0 pk_9_83 rfl rfl rfl rfl (by decide) dX9_far_2 (fun H locs i1 ei1 hT hS => ?_)
  have hR1 := Rg_put hR ei1 (-2147483648) 2147483647 rfl (rg_k (by decide) : rg 0 0 0) (by decide)
  have hF1 := Fr_puti hF ei1 (by decide)
  refine lv_aload_n hx hb dX9_far_5 rfl (lv_at hl 0 rfl) ?_
  refine lv_iload_n hx hb dX9_far_6 rfl (lv_at hl 1 rfl) ?_
  refine q_i2l hx hb dX9_far_7 (fun y2 ey2 => ?_)
  obtain ⟨hy2, ay2⟩ := rg_i2l ey2 (rg_top a_a)
  refine e_Vi (As := [.long y2]) (rest := []) X Y hT hS (m_X9_isPart hR1 y2) mk_X9_isPart gm_1645 rfl rfl (by decide) hd_X9_isPart ⟨rfl, rfl⟩ ⟨Nat.le_of_ble_eq_true rfl, Nat.le_of_ble_eq_true rfl⟩ hl.1 rfl (Nat.le_of_ble_eq_true rfl) dX9_far_8 ⟨Nat.zero_le _, Nat.zero_le _⟩ (fun r3 i3 g3 H locs hq hT hS => ?_)
  rcases hq with hq | hq
  ·
    obtain ⟨eh3, rfl, hf3_0⟩ := hq
    rw [(Prod.mk.inj eh3).1, (Prod.mk.inj eh3).2] at hT
    have h4 : rgL 0 5 y2 := ⟨by have := hy2.1; have := hf3_0.1; omega, by have := hy2.2; have := hf3_0.2; omega⟩
    have h5 : rg 0 5 a_a := ⟨by have := h4.1; have := (rg_top a_a).1; have := ay2; omega, by have := h4.2; have := (rg_top a_a).2; have := ay2; omega⟩
    refine lv_if_eq (tgt := 23) hx hb dX9_far_11 (by decide) (fun c6 => (x_eq (rg_k (by decide) : rg 1 1 1) (rg_k (by decide) : rg 0 0 0) (i_eq c6) (by decide)).elim) (fun c6 => ?_)
    refine lv_aload_n hx hb dX9_far_14 rfl (lv_at hl 0 rfl) ?_
    refine lv_iload_n hx hb dX9_far_15 rfl (lv_at hl 2 rfl) ?_
    refine q_i2l hx hb dX9_far_16 (fun y7 ey7 => ?_)
    obtain ⟨hy7, ay7⟩ := rg_i2l ey7 (rg_top a_b)
    refine e_Vi (As := [.long y7]) (rest := []) X Y hT hS (m_X9_isPart hR1 y7) mk_X9_isPart gm_1645 rfl rfl (by decide) hd_X9_isPart ⟨rfl, rfl⟩ ⟨Nat.le_of_ble_eq_true rfl, Nat.le_of_ble_eq_true rfl⟩ hl.1 rfl (Nat.le_of_ble_eq_true rfl) dX9_far_17 ⟨Nat.zero_le _, Nat.zero_le _⟩ (fun r8 i8 g8 H locs hq hT hS => ?_)
    rcases hq with hq | hq
    ·
      obtain ⟨eh8, rfl, hf8_0⟩ := hq
      rw [(Prod.mk.inj eh8).1, (Prod.mk.inj eh8).2] at hT
      have h9 : rgL 0 5 y7 := ⟨by have := hy7.1; have := hf8_0.1; omega, by have := hy7.2; have := hf8_0.2; omega⟩
      have h10 : rg 0 5 a_b := ⟨by have := h9.1; have := (rg_top a_b).1; have := ay7; omega, by have := h9.2; have := (rg_top a_b).2; have := ay7; omega⟩
      refine lv_if_ne (tgt := 26) hx hb dX9_far_20 (by decide) (fun c11 => ?_) (fun c11 => (x_eq (rg_k (by decide) : rg 1 1 1) (rg_k (by decide) : rg 0 0 0) (i_eq c11) (by decide)).elim)
      refine lv_aload_n hx hb dX9_far_26 rfl (lv_at hl 0 rfl) ?_
      refine e_Vv (As := []) (rest := []) X Y hT hS (m_X9_lays hR1) mk_X9_lays gm_1658 rfl rfl (by decide) hd_X9_lays ⟨rfl, rfl⟩ ⟨Nat.le_of_ble_eq_true rfl, Nat.le_of_ble_eq_true rfl⟩ hl.1 rfl (Nat.le_of_ble_eq_true rfl) dX9_far_27 ⟨Nat.zero_le _, Nat.zero_le _⟩ (fun i12 g12 H locs hq hT hS => ?_)
      obtain ⟨hR12, hf12⟩ := hq
      have hF12 := Fr_tr hF1 hf12 (by decide)
      refine lv_iconst (v := 1) hx hb dX9_far_30 (by decide) ?_
      refine lv_iload_n hx hb dX9_far_31 rfl (lv_at hl 1 rfl) ?_
      refine q_ishl hx hb dX9_far_32 (fun x13 ex13 => ?_)
      have h14 : rg 1 32 x13 := rg_shl1 ex13 h5 (by decide)
      refine lv_istore_n (lv' := [(3, .int x13), (0, .ref (h 96)), (1, .int a_a), (2, .int a_b)]) hx hb dX9_far_33 rfl hl (by decide) rfl (fun ls hl => ?_)
      refine lv_iconst (v := 0) hx hb dX9_far_34 (by decide) ?_
      refine lv_istore (lv' := [(4, .int 0), (3, .int x13), (0, .ref (h 96)), (1, .int a_a), (2, .int a_b)]) hx hb dX9_far_35 hl (by decide) rfl (fun ls hl => ?_)
      have L37_15 : ∀ (n16_ : Nat) (x37_3 : Int32) (x37_4 : Int32) (H : Heap) (locs : List Loc) (ls : Array Slot), rg 0 255 x37_3 → rg 0 6 x37_4 → TH D h cz i12 g12 H → va_S (hA h) s.heap H locs → lv_has ls 7 [(0, .ref (h 96)), (2, .int a_b), (3, .int x37_3), (4, .int x37_4)] → (6 - x37_4.toInt).toNat < n16_ → W p l e ({ frames := 2, cells := 0, slots := 0, locals := 47 } : Room) s m args below meth c H locs 0 0 Q (F0 m 37 ls []) := by
        intro n16_
        induction n16_ with
        | zero => intro x37_3 x37_4 H locs ls hhx37_3 hhx37_4 hT hS hl hm16_; exact absurd hm16_ (Nat.not_lt_zero _)
        | succ n16_ ih16_ =>
          intro x37_3 x37_4 H locs ls hhx37_3 hhx37_4 hT hS hl hm16_
          refine lv_iload hx hb dX9_far_37 (lv_at hl 3 rfl) ?_
          refine lv_aload_n hx hb dX9_far_39 rfl (lv_at hl 0 rfl) ?_
          refine e_Vi (As := []) (rest := [.int x37_4]) X Y hT hS (m_X9_parts hR12) mk_X9_parts gm_1649 rfl rfl (by decide) hd_X9_parts ⟨rfl, rfl⟩ ⟨Nat.le_of_ble_eq_true rfl, Nat.le_of_ble_eq_true rfl⟩ hl.1 rfl (Nat.le_of_ble_eq_true rfl) dX9_far_40 ⟨Nat.zero_le _, Nat.zero_le _⟩ (fun r17 i17 g17 H locs hq hT hS => ?_)
          obtain ⟨eh17, hr17⟩ := hq
          rw [(Prod.mk.inj eh17).1, (Prod.mk.inj eh17).2] at hT
          refine lv_icmp_ge (tgt := 111) hx hb dX9_far_43 (by decide) (fun c18 => ?_) (fun c18 => ?_)
          ·
            have q18 : r17.toInt ≤ x37_4.toInt := i_le c18
            refine lv_iconst (v := (-1)) hx hb dX9_far_111 (by decide) ?_
            exact hret (-1) _ _ _ _ _ _ dX9_far_112 hT hS ⟨hR12, hF12, (rg_w (rg_k (by decide) : rg (-1) (-1) (-1)) (by decide) : rg (-2) 5 (-1))⟩
          ·
            have q18 : x37_4.toInt < r17.toInt := i_nle c18
            have h19 : rg 0 5 x37_4 := t_ltx 0 5 hhx37_4 hr17 (i_nle c18) (by decide)
            have h20 : rg 1 6 r17 := t_lty 1 6 hhx37_4 hr17 (i_nle c18) (by decide)
            refine lv_iload_n hx hb dX9_far_46 rfl (lv_at hl 2 rfl) ?_
            refine lv_iload_n hx hb dX9_far_47 rfl (lv_at hl 1 rfl) ?_
            refine e_Si (As := [.int x37_3, .int a_b]) (rest := []) X Y hT hS (m_X9_isBit x37_3 a_b) sk_X9_isBit gm_1670 hd_X9_isBit ⟨rfl, rfl⟩ ⟨Nat.le_of_ble_eq_true rfl, Nat.le_of_ble_eq_true rfl⟩ hl.1 rfl (Nat.le_of_ble_eq_true rfl) dX9_far_48 ⟨Nat.zero_le _, Nat.zero_le _⟩ (fun r21 i21 g21 H locs hq hT hS => ?_)
            rcases hq with hq | hq
            ·
              obtain ⟨eh21, rfl, hf21_0⟩ := hq
              rw [(Prod.mk.inj eh21).1, (Prod.mk.inj eh21).2] at hT
              replace hf21_0 : (((x37_3 : Int32) >>> ((a_b : Int32) &&& 31)) &&& 1 = 1) := hf21_0
              refine lv_if_eq (tgt := 57) hx hb dX9_far_51 (by decide) (fun c22 => (x_eq (rg_k (by decide) : rg 1 1 1) (rg_k (by decide) : rg 0 0 0) (i_eq c22) (by decide)).elim) (fun c22 => ?_)
              refine lv_iload hx hb dX9_far_54 (lv_at hl 3 rfl) ?_
              exact hret x37_4 _ _ _ _ _ _ dX9_far_56 hT hS ⟨hR12, hF12, (rg_w h19 (by decide) : rg (-2) 5 x37_4)⟩
            ·
              obtain ⟨eh21, rfl, hf21_0⟩ := hq
              rw [(Prod.mk.inj eh21).1, (Prod.mk.inj eh21).2] at hT
              replace hf21_0 : ¬ (((x37_3 : Int32) >>> ((a_b : Int32) &&& 31)) &&& 1 = 1) := hf21_0
              refine lv_if_eq (tgt := 57) hx hb dX9_far_51 (by decide) (fun c23 => ?_) (fun c23 => (x_ne (rg_k (by decide) : rg 0 0 0) (rg_k (by decide) : rg 0 0 0) (i_ne c23) (by decide)).elim)
              refine lv_iload_n hx hb dX9_far_57 rfl (lv_at hl 2 rfl) ?_
              refine lv_istore (lv' := [(5, .int x37_3), (0, .ref (h 96)), (2, .int a_b), (3, .int x37_3), (4, .int x37_4)]) hx hb dX9_far_58 hl (by decide) rfl (fun ls hl => ?_)
              refine lv_iconst (v := 0) hx hb dX9_far_60 (by decide) ?_
              refine lv_istore (lv' := [(6, .int 0), (5, .int x37_3), (0, .ref (h 96)), (2, .int a_b), (3, .int x37_3), (4, .int x37_4)]) hx hb dX9_far_61 hl (by decide) rfl (fun ls hl => ?_)
              have L63_24 : ∀ (n25_ : Nat) (x63_1_5 : Int32) (x63_1_6 : Int32) (H : Heap) (locs : List Loc) (ls : Array Slot), rg 0 255 x63_1_5 → rg 0 6 x63_1_6 → TH D h cz i12 g12 H → va_S (hA h) s.heap H locs → lv_has ls 7 [(0, .ref (h 96)), (2, .int a_b), (3, .int x37_3), (4, .int x37_4), (5, .int x63_1_5), (6, .int x63_1_6)] → (6 - x63_1_6.toInt).toNat < n25_ → W p l e ({ frames := 2, cells := 0, slots := 0, locals := 47 } : Room) s m args below meth c H locs 0 0 Q (F0 m 63 ls []) := by
                intro n25_
                induction n25_ with
                | zero => intro x63_1_5 x63_1_6 H locs ls hhx63_1_5 hhx63_1_6 hT hS hl hm25_; exact absurd hm25_ (Nat.not_lt_zero _)
                | succ n25_ ih25_ =>
                  intro x63_1_5 x63_1_6 H locs ls hhx63_1_5 hhx63_1_6 hT hS hl hm25_
                  refine lv_iload hx hb dX9_far_63 (lv_at hl 5 rfl) ?_
                  refine lv_aload_n hx hb dX9_far_65 rfl (lv_at hl 0 rfl) ?_
                  refine e_Vi (As := []) (rest := [.int x63_1_6]) X Y hT hS (m_X9_parts hR12) mk_X9_parts gm_1649 rfl rfl (by decide) hd_X9_parts ⟨rfl, rfl⟩ ⟨Nat.le_of_ble_eq_true rfl, Nat.le_of_ble_eq_true rfl⟩ hl.1 rfl (Nat.le_of_ble_eq_true rfl) dX9_far_66 ⟨Nat.zero_le _, Nat.zero_le _⟩ (fun r26 i26 g26 H locs hq hT hS => ?_)
                  obtain ⟨eh26, hr26⟩ := hq
                  rw [(Prod.mk.inj eh26).1, (Prod.mk.inj eh26).2] at hT
                  refine lv_icmp_ge (tgt := 102) hx hb dX9_far_69 (by decide) (fun c27 => ?_) (fun c27 => ?_)
                  ·
                    have q27 : r26.toInt ≤ x63_1_6.toInt := i_le c27
                    refine lv_iload hx hb dX9_far_102 (lv_at hl 4 rfl) ?_
                    refine lv_istore_n (lv' := [(3, .int x63_1_5), (0, .ref (h 96)), (2, .int a_b), (4, .int x37_4), (5, .int x63_1_5), (6, .int x63_1_6)]) hx hb dX9_far_104 rfl hl (by decide) rfl (fun ls hl => ?_)
                    obtain ⟨x28, ex28⟩ : ∃ y : Int32, y = x37_4 + 1 := ⟨_, rfl⟩
                    refine lv_iinc (v := x28) (lv' := [(4, .int x28), (3, .int x63_1_5), (0, .ref (h 96)), (2, .int a_b), (5, .int x63_1_5), (6, .int x63_1_6)]) hx hb dX9_far_105 hl (k := 3) rfl (by rw [ex28]; rfl) (by decide) rfl (fun ls hl => ?_)
                    obtain ⟨hx28, ax28⟩ := rg_add 1 6 ex28 h19 (rg_k (by decide) : rg 1 1 1) (by decide)
                    replace ax28 : x28.toInt = x37_4.toInt + 1 := ax28
                    refine lv_goto (tgt := 37) hx hb dX9_far_108 (by decide) ?_
                    exact ih16_ x63_1_5 x28 _ _ _ hhx63_1_5 (rg_w hx28 (by decide) : rg 0 6 x28) hT hS (lv_sub hl [2, 3, 1, 0] rfl) (m_up ax28 hx28 (by decide) hm16_)
                  ·
                    have q27 : x63_1_6.toInt < r26.toInt := i_nle c27
                    have h29 : rg 0 5 x63_1_6 := t_ltx 0 5 hhx63_1_6 hr26 (i_nle c27) (by decide)
                    have h30 : rg 1 6 r26 := t_lty 1 6 hhx63_1_6 hr26 (i_nle c27) (by decide)
                    refine lv_iload hx hb dX9_far_72 (lv_at hl 4 rfl) ?_
                    refine lv_iload_n hx hb dX9_far_74 rfl (lv_at hl 2 rfl) ?_
                    refine lv_iload hx hb dX9_far_75 (lv_at hl 5 rfl) ?_
                    refine e_Si (As := [.int x37_3, .int x63_1_6]) (rest := [.int x63_1_5]) X Y hT hS (m_X9_isBit x37_3 x63_1_6) sk_X9_isBit gm_1670 hd_X9_isBit ⟨rfl, rfl⟩ ⟨Nat.le_of_ble_eq_true rfl, Nat.le_of_ble_eq_true rfl⟩ hl.1 rfl (Nat.le_of_ble_eq_true rfl) dX9_far_77 ⟨Nat.zero_le _, Nat.zero_le _⟩ (fun r31 i31 g31 H locs hq hT hS => ?_)
                    rcases hq with hq | hq
                    ·
                      obtain ⟨eh31, rfl, hf31_0⟩ := hq
                      rw [(Prod.mk.inj eh31).1, (Prod.mk.inj eh31).2] at hT
                      replace hf31_0 : (((x37_3 : Int32) >>> ((x63_1_6 : Int32) &&& 31)) &&& 1 = 1) := hf31_0
                      refine lv_if_eq (tgt := 92) hx hb dX9_far_80 (by decide) (fun c32 => (x_eq (rg_k (by decide) : rg 1 1 1) (rg_k (by decide) : rg 0 0 0) (i_eq c32) (by decide)).elim) (fun c32 => ?_)
                      refine lv_aload_n hx hb dX9_far_83 rfl (lv_at hl 0 rfl) ?_
                      refine lv_iload hx hb dX9_far_84 (lv_at hl 5 rfl) ?_
                      refine e_Vi (As := [.int x63_1_6]) (rest := [.int x63_1_5]) X Y hT hS (m_X9_nearOf hR12 x63_1_6) mk_X9_nearOf gm_1662 rfl rfl (by decide) hd_X9_nearOf ⟨rfl, rfl⟩ ⟨Nat.le_of_ble_eq_true rfl, Nat.le_of_ble_eq_true rfl⟩ hl.1 rfl (Nat.le_of_ble_eq_true rfl) dX9_far_86 ⟨Nat.zero_le _, Nat.zero_le _⟩ (fun r33 i33 g33 H locs hq hT hS => ?_)
                      obtain ⟨eh33, hr33⟩ := hq
                      rw [(Prod.mk.inj eh33).1, (Prod.mk.inj eh33).2] at hT
                      refine lv_goto (tgt := 93) hx hb dX9_far_89 (by decide) ?_
                      refine q_ior hx hb dX9_far_93 (fun x34 ex34 => ?_)
                      have h35 : rg 0 255 x34 := rg_or8 ex34 hhx63_1_5 hr33 (by decide)
                      refine lv_istore (lv' := [(5, .int x34), (0, .ref (h 96)), (2, .int a_b), (3, .int x37_3), (4, .int x37_4), (6, .int x63_1_6)]) hx hb dX9_far_94 hl (by decide) rfl (fun ls hl => ?_)
                      obtain ⟨x36, ex36⟩ : ∃ y : Int32, y = x63_1_6 + 1 := ⟨_, rfl⟩
                      refine lv_iinc (v := x36) (lv' := [(6, .int x36), (5, .int x34), (0, .ref (h 96)), (2, .int a_b), (3, .int x37_3), (4, .int x37_4)]) hx hb dX9_far_96 hl (k := 5) rfl (by rw [ex36]; rfl) (by decide) rfl (fun ls hl => ?_)
                      obtain ⟨hx36, ax36⟩ := rg_add 1 6 ex36 h29 (rg_k (by decide) : rg 1 1 1) (by decide)
                      replace ax36 : x36.toInt = x63_1_6.toInt + 1 := ax36
                      refine lv_goto (tgt := 63) hx hb dX9_far_99 (by decide) ?_
                      exact ih25_ x34 x36 _ _ _ h35 (rg_w hx36 (by decide) : rg 0 6 x36) hT hS (lv_sub hl [2, 3, 4, 5, 1, 0] rfl) (m_up ax36 hx36 (by decide) hm25_)
                    ·
                      obtain ⟨eh31, rfl, hf31_0⟩ := hq
                      rw [(Prod.mk.inj eh31).1, (Prod.mk.inj eh31).2] at hT
                      replace hf31_0 : ¬ (((x37_3 : Int32) >>> ((x63_1_6 : Int32) &&& 31)) &&& 1 = 1) := hf31_0
                      refine lv_if_eq (tgt := 92) hx hb dX9_far_80 (by decide) (fun c37 => ?_) (fun c37 => (x_ne (rg_k (by decide) : rg 0 0 0) (rg_k (by decide) : rg 0 0 0) (i_ne c37) (by decide)).elim)
                      refine lv_iconst (v := 0) hx hb dX9_far_92 (by decide) ?_
                      refine q_ior hx hb dX9_far_93 (fun x38 ex38 => ?_)
                      have h39 : rg 0 255 x38 := rg_or8 ex38 hhx63_1_5 (rg_k (by decide) : rg 0 0 0) (by decide)
                      refine lv_istore (lv' := [(5, .int x38), (0, .ref (h 96)), (2, .int a_b), (3, .int x37_3), (4, .int x37_4), (6, .int x63_1_6)]) hx hb dX9_far_94 hl (by decide) rfl (fun ls hl => ?_)
                      obtain ⟨x40, ex40⟩ : ∃ y : Int32, y = x63_1_6 + 1 := ⟨_, rfl⟩
                      refine lv_iinc (v := x40) (lv' := [(6, .int x40), (5, .int x38), (0, .ref (h 96)), (2, .int a_b), (3, .int x37_3), (4, .int x37_4)]) hx hb dX9_far_96 hl (k := 5) rfl (by rw [ex40]; rfl) (by decide) rfl (fun ls hl => ?_)
                      obtain ⟨hx40, ax40⟩ := rg_add 1 6 ex40 h29 (rg_k (by decide) : rg 1 1 1) (by decide)
                      replace ax40 : x40.toInt = x63_1_6.toInt + 1 := ax40
                      refine lv_goto (tgt := 63) hx hb dX9_far_99 (by decide) ?_
                      exact ih25_ x38 x40 _ _ _ h39 (rg_w hx40 (by decide) : rg 0 6 x40) hT hS (lv_sub hl [2, 3, 4, 5, 1, 0] rfl) (m_up ax40 hx40 (by decide) hm25_)
              exact L63_24 _ x37_3 (0) _ _ _ hhx37_3 (rg_w (rg_k (by decide) : rg 0 0 0) (by decide) : rg 0 6 0) hT hS (lv_sub hl [2, 3, 4, 5, 1, 0] rfl) (Nat.lt_succ_self _)
      exact L37_15 _ x13 (0) _ _ _ (rg_w h14 (by decide) : rg 0 255 x13) (rg_w (rg_k (by decide) : rg 0 0 0) (by decide) : rg 0 6 0) hT hS (lv_sub hl [2, 4, 1, 0] rfl) (Nat.lt_succ_self _)
    ·
      obtain ⟨eh8, rfl⟩ := hq
      rw [(Prod.mk.inj eh8).1, (Prod.mk.inj eh8).2] at hT
      refine lv_if_ne (tgt := 26) hx hb dX9_far_20 (by decide) (fun c41 => (x_ne (rg_k (by decide) : rg 0 0 0) (rg_k (by decide) : rg 0 0 0) (i_ne c41) (by decide)).elim) (fun c41 => ?_)
      refine lv_bipush (v := (-2)) hx hb dX9_far_23 (by decide) ?_
      exact hret (-2) _ _ _ _ _ _ dX9_far_25 hT hS ⟨hR1, hF1, (rg_w (rg_k (by decide) : rg (-2) (-2) (-2)) (by decide) : rg (-2) 5 (-2))⟩
  ·
    obtain ⟨eh3, rfl⟩ := hq
    rw [(Prod.mk.inj eh3).1, (Prod.mk.inj eh3).2] at hT
    refine lv_if_eq (tgt := 23) hx hb dX9_far_11 (by decide) (fun c42 => ?_) (fun c42 => (x_ne (rg_k (by decide) : rg 0 0 0) (rg_k (by decide) : rg 0 0 0) (i_ne c42) (by decide)).elim)
    refine lv_bipush (v := (-2)) hx hb dX9_far_23 (by decide) ?_
    exact hret (-2) _ _ _ _ _ _ dX9_far_25 hT hS ⟨hR1, hF1, (rg_w (rg_k (by decide) : rg (-2) (-2) (-2)) (by decide) : rg (-2) 5 (-2))⟩
set_option maxRecDepth 100000 in
set_option maxHeartbeats 4000000 in
theorem m_X9_isTale {l : Launch} {D : va_G} {h : Nat → Nat} {cz : Nat → ClassId} {z : EZ} {i : Nat → Nat → Int32} {g : Nat → Nat → Int64} (hR : Rg rA i) : DtI l yX9_isTale cX9_isTale 1 (some .boolean) ({ frames := 0, cells := 0, slots := 0, locals := 0 } : Room) D h cz z i g [.ref (h 96)] (fun r u => u = (i, g) ∧ rg 0 1 r) := by
  refine e_Z (fun v u hq => (z01 hq.2)) pn_X9_isTale (Nat.le_of_ble_eq_true rfl) ?_
  intro p e s m args below meth c ls Q X Y hret hT hl hS
  have hx := X.1
  have hb := X.2.1
  have hl : lv_has ls 1 [(0, .ref (h 96))] := hl
  refine lv_aload_n hx hb dX9_isTale_0 rfl (lv_at hl 0 rfl) ?_
  refine r_getr X hT 96 16 102 fk_9_31 rfl rfl (by decide) dX9_isTale_1 ?_
  refine lv_iconst (v := 0) hx hb dX9_isTale_4 (by decide) ?_
  refine r_ialdc X hT 102 0 rfl (by decide) (v_in (rg_k (by decide) : rg 0 0 0) (by decide)) (by decide) dX9_isTale_5 ?_
  refine lv_if_le (tgt := 13) hx hb dX9_isTale_6 (by decide) (fun c1 => ?_) (fun c1 => ?_)
  ·
    have q1 : (i 102 0).toInt ≤ 0 := i_le c1
    have h2 : rg (-2147483648) 0 (i 102 0) := t_lex (-2147483648) 0 (rg_top (i 102 0)) (rg_k (by decide) : rg 0 0 0) (i_le c1) (by decide)
    refine lv_iconst (v := 0) hx hb dX9_isTale_13 (by decide) ?_
    exact hret 0 _ _ _ _ _ _ dX9_isTale_14 hT hS ⟨rfl, (rg_w (rg_k (by decide) : rg 0 0 0) (by decide) : rg 0 1 0)⟩
  ·
    have q1 : 0 < (i 102 0).toInt := i_nle c1
    have h3 : rg 1 2147483647 (i 102 0) := t_lty 1 2147483647 (rg_k (by decide) : rg 0 0 0) (rg_top (i 102 0)) (i_nle c1) (by decide)
    refine lv_iconst (v := 1) hx hb dX9_isTale_9 (by decide) ?_
    refine lv_goto (tgt := 14) hx hb dX9_isTale_10 (by decide) ?_
    exact hret 1 _ _ _ _ _ _ dX9_isTale_14 hT hS ⟨rfl, (rg_w (rg_k (by decide) : rg 1 1 1) (by decide) : rg 0 1 1)⟩
set_option maxRecDepth 100000 in
set_option maxHeartbeats 4000000 in
theorem m_X9_years {l : Launch} {D : va_G} {h : Nat → Nat} {cz : Nat → ClassId} {z : EZ} {i : Nat → Nat → Int32} {g : Nat → Nat → Int64} (hR : Rg rA i) : DtI l yX9_years cX9_years 1 (some .int) ({ frames := 0, cells := 0, slots := 0, locals := 0 } : Room) D h cz z i g [.ref (h 96)] (fun r u => u = (i, g) ∧ rg 0 12 r) := by
  refine e_I pn_X9_years (Nat.le_of_ble_eq_true rfl) ?_
  intro p e s m args below meth c ls Q X Y hret hT hl hS
  have hx := X.1
  have hb := X.2.1
  have hl : lv_has ls 1 [(0, .ref (h 96))] := hl
  refine lv_aload_n hx hb dX9_years_0 rfl (lv_at hl 0 rfl) ?_
  refine r_getr X hT 96 17 103 fk_9_34 rfl rfl (by decide) dX9_years_1 ?_
  refine lv_iconst (v := 0) hx hb dX9_years_4 (by decide) ?_
  refine r_ialdc X hT 103 0 rfl (by decide) (v_in (rg_k (by decide) : rg 0 0 0) (by decide)) (by decide) dX9_years_5 ?_
  exact hret (i 103 0) _ _ _ _ _ _ dX9_years_6 hT hS ⟨rfl, (Rg_at hR 103 0 0 12 (by decide) rfl)⟩
set_option maxRecDepth 100000 in
set_option maxHeartbeats 4000000 in
theorem m_X9_isYear {l : Launch} {D : va_G} {h : Nat → Nat} {cz : Nat → ClassId} {z : EZ} {i : Nat → Nat → Int32} {g : Nat → Nat → Int64} (hR : Rg rA i) (a_a : Int64) : DtI l yX9_isYear cX9_isYear 3 (some .boolean) ({ frames := 1, cells := 0, slots := 0, locals := 25 } : Room) D h cz z i g [.ref (h 96), .long a_a] (fun r u => (u = (i, g) ∧ r = 1 ∧ rgL 0 12 a_a) ∨ (u = (i, g) ∧ r = 0)) := by
  refine e_Z (fun v u hq => (hq.elim (fun hq => (Or.inr hq.2.1)) (fun hq => (Or.inl hq.2)))) pn_X9_isYear (Nat.le_of_ble_eq_true rfl) ?_
  intro p e s m args below meth c ls Q X Y hret hT hl hS
  have hx := X.1
  have hb := X.2.1
  have hl : lv_has ls 3 [(0, .ref (h 96)), (1, .long a_a)] := hl
  refine lv_aload_n hx hb dX9_isYear_0 rfl (lv_at hl 0 rfl) ?_
  refine e_Vi (As := []) (rest := []) X Y hT hS (m_X9_isTale hR) mk_X9_isTale gm_1685 rfl rfl (by decide) hd_X9_isTale ⟨rfl, rfl⟩ ⟨Nat.le_of_ble_eq_true rfl, Nat.le_of_ble_eq_true rfl⟩ hl.1 rfl (Nat.le_of_ble_eq_true rfl) dX9_isYear_1 ⟨Nat.zero_le _, Nat.zero_le _⟩ (fun r1 i1 g1 H locs hq hT hS => ?_)
  obtain ⟨eh1, hr1⟩ := hq
  rw [(Prod.mk.inj eh1).1, (Prod.mk.inj eh1).2] at hT
  refine lv_if_eq (tgt := 24) hx hb dX9_isYear_4 (by decide) (fun c2 => ?_) (fun c2 => ?_)
  ·
    have q2 : r1.toInt = 0 := i_eq c2
    have h3 : rg 0 0 r1 := t_eqx 0 0 hr1 (rg_k (by decide) : rg 0 0 0) (i_eq c2) (by decide)
    refine lv_iconst (v := 0) hx hb dX9_isYear_24 (by decide) ?_
    exact hret 0 _ _ _ _ _ _ dX9_isYear_25 hT hS (Or.inr ⟨rfl, rfl⟩)
  ·
    have q2 : ¬ r1.toInt = 0 := i_ne c2
    have h4 : rg 1 1 r1 := t_nelo 1 hr1 (rg_k (by decide) : rg 0 0 0) (i_ne c2) (by decide)
    refine lv_lload_n hx hb dX9_isYear_7 rfl (lv_at hl 1 rfl) ?_
    refine lv_lconst (v := 0) hx hb dX9_isYear_8 (by decide) ?_
    refine lv_aload_n hx hb dX9_isYear_9 rfl (lv_at hl 0 rfl) ?_
    refine e_Vi (As := []) (rest := [.long 0, .long a_a]) X Y hT hS (m_X9_years hR) mk_X9_years gm_1689 rfl rfl (by decide) hd_X9_years ⟨rfl, rfl⟩ ⟨Nat.le_of_ble_eq_true rfl, Nat.le_of_ble_eq_true rfl⟩ hl.1 rfl (Nat.le_of_ble_eq_true rfl) dX9_isYear_10 ⟨Nat.zero_le _, Nat.zero_le _⟩ (fun r5 i5 g5 H locs hq hT hS => ?_)
    obtain ⟨eh5, hr5⟩ := hq
    rw [(Prod.mk.inj eh5).1, (Prod.mk.inj eh5).2] at hT
    refine q_i2l hx hb dX9_isYear_13 (fun y6 ey6 => ?_)
    obtain ⟨hy6, ay6⟩ := rg_i2l ey6 hr5
    refine e_Si (As := [.long a_a, .long 0, .long y6]) (rest := []) X Y hT hS (m_in a_a (0) y6) sk_X9_in gm_1496 hd_X9_in ⟨rfl, rfl⟩ ⟨Nat.le_of_ble_eq_true rfl, Nat.le_of_ble_eq_true rfl⟩ hl.1 rfl (Nat.le_of_ble_eq_true rfl) dX9_isYear_14 ⟨Nat.zero_le _, Nat.zero_le _⟩ (fun r7 i7 g7 H locs hq hT hS => ?_)
    rcases hq with hq | hq
    ·
      obtain ⟨eh7, rfl, hf7_0⟩ := hq
      rw [(Prod.mk.inj eh7).1, (Prod.mk.inj eh7).2] at hT
      replace hf7_0 : 0 ≤ a_a.toInt ∧ a_a.toInt ≤ y6.toInt := hf7_0
      have h8 : rgL 0 12 a_a := ⟨by have := (rgL_top a_a).1; have := (rgL_top a_a).2; have := hy6.1; have := hy6.2; omega, by have := (rgL_top a_a).1; have := (rgL_top a_a).2; have := hy6.1; have := hy6.2; omega⟩
      refine lv_if_eq (tgt := 24) hx hb dX9_isYear_17 (by decide) (fun c9 => (x_eq (rg_k (by decide) : rg 1 1 1) (rg_k (by decide) : rg 0 0 0) (i_eq c9) (by decide)).elim) (fun c9 => ?_)
      refine lv_iconst (v := 1) hx hb dX9_isYear_20 (by decide) ?_
      refine lv_goto (tgt := 25) hx hb dX9_isYear_21 (by decide) ?_
      exact hret 1 _ _ _ _ _ _ dX9_isYear_25 hT hS (Or.inl ⟨rfl, rfl, h8⟩)
    ·
      obtain ⟨eh7, rfl, hf7_0⟩ := hq
      rw [(Prod.mk.inj eh7).1, (Prod.mk.inj eh7).2] at hT
      replace hf7_0 : a_a.toInt < 0 ∨ y6.toInt < a_a.toInt := hf7_0
      refine lv_if_eq (tgt := 24) hx hb dX9_isYear_17 (by decide) (fun c10 => ?_) (fun c10 => (x_ne (rg_k (by decide) : rg 0 0 0) (rg_k (by decide) : rg 0 0 0) (i_ne c10) (by decide)).elim)
      refine lv_iconst (v := 0) hx hb dX9_isYear_24 (by decide) ?_
      exact hret 0 _ _ _ _ _ _ dX9_isYear_25 hT hS (Or.inr ⟨rfl, rfl⟩)
set_option maxRecDepth 100000 in
set_option maxHeartbeats 4000000 in
theorem m_X9_isThen {l : Launch} {D : va_G} {h : Nat → Nat} {cz : Nat → ClassId} {z : EZ} {i : Nat → Nat → Int32} {g : Nat → Nat → Int64} (hR : Rg rA i) (a_a : Int32) (a_b : Int32) : DtI l yX9_isThen cX9_isThen 3 (some .boolean) ({ frames := 2, cells := 0, slots := 0, locals := 47 } : Room) D h cz z i g [.ref (h 96), .int a_a, .int a_b] (fun r u => (u = (i, g) ∧ r = 1 ∧ rg 0 5 a_a ∧ rg 0 12 a_b) ∨ (u = (i, g) ∧ r = 0)) := by
  refine e_Z (fun v u hq => (hq.elim (fun hq => (Or.inr hq.2.1)) (fun hq => (Or.inl hq.2)))) pn_X9_isThen (Nat.le_of_ble_eq_true rfl) ?_
  intro p e s m args below meth c ls Q X Y hret hT hl hS
  have hx := X.1
  have hb := X.2.1
  have hl : lv_has ls 3 [(0, .ref (h 96)), (1, .int a_a), (2, .int a_b)] := hl
  refine lv_aload_n hx hb dX9_isThen_0 rfl (lv_at hl 0 rfl) ?_
  refine lv_iload_n hx hb dX9_isThen_1 rfl (lv_at hl 1 rfl) ?_
  refine q_i2l hx hb dX9_isThen_2 (fun y1 ey1 => ?_)
  obtain ⟨hy1, ay1⟩ := rg_i2l ey1 (rg_top a_a)
  refine e_Vi (As := [.long y1]) (rest := []) X Y hT hS (m_X9_isPart hR y1) mk_X9_isPart gm_1645 rfl rfl (by decide) hd_X9_isPart ⟨rfl, rfl⟩ ⟨Nat.le_of_ble_eq_true rfl, Nat.le_of_ble_eq_true rfl⟩ hl.1 rfl (Nat.le_of_ble_eq_true rfl) dX9_isThen_3 ⟨Nat.zero_le _, Nat.zero_le _⟩ (fun r2 i2 g2 H locs hq hT hS => ?_)
  rcases hq with hq | hq
  ·
    obtain ⟨eh2, rfl, hf2_0⟩ := hq
    rw [(Prod.mk.inj eh2).1, (Prod.mk.inj eh2).2] at hT
    have h3 : rgL 0 5 y1 := ⟨by have := hy1.1; have := hf2_0.1; omega, by have := hy1.2; have := hf2_0.2; omega⟩
    have h4 : rg 0 5 a_a := ⟨by have := h3.1; have := (rg_top a_a).1; have := ay1; omega, by have := h3.2; have := (rg_top a_a).2; have := ay1; omega⟩
    refine lv_if_eq (tgt := 22) hx hb dX9_isThen_6 (by decide) (fun c5 => (x_eq (rg_k (by decide) : rg 1 1 1) (rg_k (by decide) : rg 0 0 0) (i_eq c5) (by decide)).elim) (fun c5 => ?_)
    refine lv_aload_n hx hb dX9_isThen_9 rfl (lv_at hl 0 rfl) ?_
    refine lv_iload_n hx hb dX9_isThen_10 rfl (lv_at hl 2 rfl) ?_
    refine q_i2l hx hb dX9_isThen_11 (fun y6 ey6 => ?_)
    obtain ⟨hy6, ay6⟩ := rg_i2l ey6 (rg_top a_b)
    refine e_Vi (As := [.long y6]) (rest := []) X Y hT hS (m_X9_isYear hR y6) mk_X9_isYear gm_1681 rfl rfl (by decide) hd_X9_isYear ⟨rfl, rfl⟩ ⟨Nat.le_of_ble_eq_true rfl, Nat.le_of_ble_eq_true rfl⟩ hl.1 rfl (Nat.le_of_ble_eq_true rfl) dX9_isThen_12 ⟨Nat.zero_le _, Nat.zero_le _⟩ (fun r7 i7 g7 H locs hq hT hS => ?_)
    rcases hq with hq | hq
    ·
      obtain ⟨eh7, rfl, hf7_0⟩ := hq
      rw [(Prod.mk.inj eh7).1, (Prod.mk.inj eh7).2] at hT
      have h8 : rgL 0 12 y6 := ⟨by have := hy6.1; have := hf7_0.1; omega, by have := hy6.2; have := hf7_0.2; omega⟩
      have h9 : rg 0 12 a_b := ⟨by have := h8.1; have := (rg_top a_b).1; have := ay6; omega, by have := h8.2; have := (rg_top a_b).2; have := ay6; omega⟩
      refine lv_if_eq (tgt := 22) hx hb dX9_isThen_15 (by decide) (fun c10 => (x_eq (rg_k (by decide) : rg 1 1 1) (rg_k (by decide) : rg 0 0 0) (i_eq c10) (by decide)).elim) (fun c10 => ?_)
      refine lv_iconst (v := 1) hx hb dX9_isThen_18 (by decide) ?_
      refine lv_goto (tgt := 23) hx hb dX9_isThen_19 (by decide) ?_
      exact hret 1 _ _ _ _ _ _ dX9_isThen_23 hT hS (Or.inl ⟨rfl, rfl, h4, h9⟩)
    ·
      obtain ⟨eh7, rfl⟩ := hq
      rw [(Prod.mk.inj eh7).1, (Prod.mk.inj eh7).2] at hT
      refine lv_if_eq (tgt := 22) hx hb dX9_isThen_15 (by decide) (fun c11 => ?_) (fun c11 => (x_ne (rg_k (by decide) : rg 0 0 0) (rg_k (by decide) : rg 0 0 0) (i_ne c11) (by decide)).elim)
      refine lv_iconst (v := 0) hx hb dX9_isThen_22 (by decide) ?_
      exact hret 0 _ _ _ _ _ _ dX9_isThen_23 hT hS (Or.inr ⟨rfl, rfl⟩)
  ·
    obtain ⟨eh2, rfl⟩ := hq
    rw [(Prod.mk.inj eh2).1, (Prod.mk.inj eh2).2] at hT
    refine lv_if_eq (tgt := 22) hx hb dX9_isThen_6 (by decide) (fun c12 => ?_) (fun c12 => (x_ne (rg_k (by decide) : rg 0 0 0) (rg_k (by decide) : rg 0 0 0) (i_ne c12) (by decide)).elim)
    refine lv_iconst (v := 0) hx hb dX9_isThen_22 (by decide) ?_
    exact hret 0 _ _ _ _ _ _ dX9_isThen_23 hT hS (Or.inr ⟨rfl, rfl⟩)
set_option maxRecDepth 100000 in
set_option maxHeartbeats 4000000 in
theorem m_X9_stiffAt {l : Launch} {D : va_G} {h : Nat → Nat} {cz : Nat → ClassId} {z : EZ} {i : Nat → Nat → Int32} {g : Nat → Nat → Int64} (hR : Rg rA i) (a_a : Int32) (a_b : Int32) (ha_a : rg 0 5 a_a) (ha_b : rg 0 12 a_b) : DtI l yX9_stiffAt cX9_stiffAt 3 (some .int) ({ frames := 0, cells := 0, slots := 0, locals := 0 } : Room) D h cz z i g [.ref (h 96), .int a_a, .int a_b] (fun r u => u = (i, g) ∧ rg 0 99 r) := by
  refine e_I pn_X9_stiffAt (Nat.le_of_ble_eq_true rfl) ?_
  intro p e s m args below meth c ls Q X Y hret hT hl hS
  have hx := X.1
  have hb := X.2.1
  have hl : lv_has ls 3 [(0, .ref (h 96)), (1, .int a_a), (2, .int a_b)] := hl
  refine lv_aload_n hx hb dX9_stiffAt_0 rfl (lv_at hl 0 rfl) ?_
  refine r_getr X hT 96 30 111 fk_9_59 rfl rfl (by decide) dX9_stiffAt_1 ?_
  refine lv_bipush (v := 6) hx hb dX9_stiffAt_4 (by decide) ?_
  refine lv_iload_n hx hb dX9_stiffAt_6 rfl (lv_at hl 2 rfl) ?_
  refine q_imul hx hb dX9_stiffAt_7 (fun x1 ex1 => ?_)
  obtain ⟨hx1, ax1⟩ := rg_mul 0 72 ex1 (rg_k (by decide) : rg 6 6 6) ha_b (by decide)
  replace ax1 : x1.toInt = 6 * a_b.toInt := ax1
  refine lv_iload_n hx hb dX9_stiffAt_8 rfl (lv_at hl 1 rfl) ?_
  refine q_iadd hx hb dX9_stiffAt_9 (fun x2 ex2 => ?_)
  obtain ⟨hx2, ax2⟩ := rg_add 0 77 ex2 hx1 ha_a (by decide)
  replace ax2 : x2.toInt = x1.toInt + a_a.toInt := ax2
  refine r_iald X hT 111 rfl (by decide) (v_in hx2 (by decide)) dX9_stiffAt_10 ?_
  exact hret (i 111 x2.toNatClampNeg) _ _ _ _ _ _ dX9_stiffAt_11 hT hS ⟨rfl, (Rg_at hR 111 x2.toNatClampNeg 0 99 (v_lt (v_in hx2 (by decide))) rfl)⟩
set_option maxRecDepth 100000 in
set_option maxHeartbeats 4000000 in
theorem m_X9_moreOf_0t0_m10t89 {l : Launch} {D : va_G} {h : Nat → Nat} {cz : Nat → ClassId} {z : EZ} {i : Nat → Nat → Int32} {g : Nat → Nat → Int64} (a_a : Int32) (a_b : Int32) (ha_a : rg 0 0 a_a) (ha_b : rg (-10) 89 a_b) : DtI l yX9_moreOf cX9_moreOf 2 (some .int) ({ frames := 0, cells := 0, slots := 0, locals := 0 } : Room) D h cz z i g [.int a_a, .int a_b] (fun r u => u = (i, g) ∧ rg 0 89 r) := by
  refine e_I pn_X9_moreOf (Nat.le_of_ble_eq_true rfl) ?_
  intro p e s m args below meth c ls Q X Y hret hT hl hS
  have hx := X.1
  have hb := X.2.1
  have hl : lv_has ls 2 [(0, .int a_a), (1, .int a_b)] := hl
  refine lv_iload_n hx hb dX9_moreOf_0 rfl (lv_at hl 0 rfl) ?_
  refine lv_iload_n hx hb dX9_moreOf_1 rfl (lv_at hl 1 rfl) ?_
  refine lv_icmp_le (tgt := 9) hx hb dX9_moreOf_2 (by decide) (fun c1 => ?_) (fun c1 => ?_)
  ·
    have q1 : a_a.toInt ≤ a_b.toInt := i_le c1
    have h2 : rg 0 89 a_b := t_ley 0 89 ha_a ha_b (i_le c1) (by decide)
    refine lv_iload_n hx hb dX9_moreOf_9 rfl (lv_at hl 1 rfl) ?_
    exact hret a_b _ _ _ _ _ _ dX9_moreOf_10 hT hS ⟨rfl, h2⟩
  ·
    have q1 : a_b.toInt < a_a.toInt := i_nle c1
    have h3 : rg (-10) (-1) a_b := t_ltx (-10) (-1) ha_b ha_a (i_nle c1) (by decide)
    refine lv_iload_n hx hb dX9_moreOf_5 rfl (lv_at hl 0 rfl) ?_
    refine lv_goto (tgt := 10) hx hb dX9_moreOf_6 (by decide) ?_
    exact hret a_a _ _ _ _ _ _ dX9_moreOf_10 hT hS ⟨rfl, (rg_w ha_a (by decide) : rg 0 89 a_a)⟩
set_option maxRecDepth 100000 in
set_option maxHeartbeats 4000000 in
theorem m_X9_airs {l : Launch} {D : va_G} {h : Nat → Nat} {cz : Nat → ClassId} {z : EZ} {i : Nat → Nat → Int32} {g : Nat → Nat → Int64} (hR : Rg rA i) (a_a : Int32) (ha_a : rg 0 11 a_a) : DtV l yX9_airs cX9_airs 4 none ({ frames := 1, cells := 0, slots := 0, locals := 21 } : Room) D h cz z i g [.ref (h 96), .int a_a] (fun u => Rg rA u.1 ∧ Fr [111] [] i g u) := by
  refine e_V pn_X9_airs (Nat.le_of_ble_eq_true rfl) ?_
  intro p e s m args below meth c ls Q X Y hret hT hl hS
  have hx := X.1
  have hb := X.2.1
  have hl : lv_has ls 4 [(0, .ref (h 96)), (1, .int a_a)] := hl
  have hF : Fr [111] [] i g (i, g) := Fr_rf _ _ _ _
  refine lv_iconst (v := 0) hx hb dX9_airs_0 (by decide) ?_
  refine lv_istore_n (lv' := [(2, .int 0), (0, .ref (h 96)), (1, .int a_a)]) hx hb dX9_airs_1 rfl hl (by decide) rfl (fun ls hl => ?_)
  have L2_1 : ∀ (n3_ : Nat) (x2_2 : Int32) (i2 : Nat → Nat → Int32) (g2 : Nat → Nat → Int64) (H : Heap) (locs : List Loc) (ls : Array Slot), rg 0 20 x2_2 → Rg rA i2 → Fr [111] [] i g (i2, g2) → TH D h cz i2 g2 H → va_S (hA h) s.heap H locs → lv_has ls 4 [(0, .ref (h 96)), (1, .int a_a), (2, .int x2_2)] → (20 - x2_2.toInt).toNat < n3_ → W p l e ({ frames := 1, cells := 0, slots := 0, locals := 21 } : Room) s m args below meth c H locs 0 0 Q (F0 m 2 ls []) := by
    intro n3_
    induction n3_ with
    | zero => intro x2_2 i2 g2 H locs ls hhx2_2 hR2 hF2 hT hS hl hm3_; exact absurd hm3_ (Nat.not_lt_zero _)
    | succ n3_ ih3_ =>
      intro x2_2 i2 g2 H locs ls hhx2_2 hR2 hF2 hT hS hl hm3_
      refine lv_iload_n hx hb dX9_airs_2 rfl (lv_at hl 2 rfl) ?_
      refine lv_aload_n hx hb dX9_airs_3 rfl (lv_at hl 0 rfl) ?_
      refine r_getr X hT 96 17 103 fk_9_34 rfl rfl (by decide) dX9_airs_4 ?_
      refine lv_bipush (v := 6) hx hb dX9_airs_7 (by decide) ?_
      refine r_ialdc X hT 103 6 rfl (by decide) (v_in (rg_k (by decide) : rg 6 6 6) (by decide)) (by decide) dX9_airs_9 ?_
      refine lv_icmp_ge (tgt := 102) hx hb dX9_airs_10 (by decide) (fun c4 => ?_) (fun c4 => ?_)
      ·
        have q4 : (i2 103 6).toInt ≤ x2_2.toInt := i_le c4
        exact hret _ _ _ _ _ _ dX9_airs_102 hT hS ⟨hR2, hF2⟩
      ·
        have q4 : x2_2.toInt < (i2 103 6).toInt := i_nle c4
        have h5 : rg 0 19 x2_2 := t_ltx 0 19 hhx2_2 (Rg_at hR2 103 6 0 20 (by decide) rfl) (i_nle c4) (by decide)
        have h6 : rg 1 20 (i2 103 6) := t_lty 1 20 hhx2_2 (Rg_at hR2 103 6 0 20 (by decide) rfl) (i_nle c4) (by decide)
        refine lv_aload_n hx hb dX9_airs_13 rfl (lv_at hl 0 rfl) ?_
        refine r_getr X hT 96 21 107 fk_9_46 rfl rfl (by decide) dX9_airs_14 ?_
        refine lv_iconst (v := 3) hx hb dX9_airs_17 (by decide) ?_
        refine lv_iload_n hx hb dX9_airs_18 rfl (lv_at hl 2 rfl) ?_
        refine q_imul hx hb dX9_airs_19 (fun x7 ex7 => ?_)
        obtain ⟨hx7, ax7⟩ := rg_mul 0 57 ex7 (rg_k (by decide) : rg 3 3 3) h5 (by decide)
        replace ax7 : x7.toInt = 3 * x2_2.toInt := ax7
        refine lv_iconst (v := 1) hx hb dX9_airs_20 (by decide) ?_
        refine q_iadd hx hb dX9_airs_21 (fun x8 ex8 => ?_)
        obtain ⟨hx8, ax8⟩ := rg_add 1 58 ex8 hx7 (rg_k (by decide) : rg 1 1 1) (by decide)
        replace ax8 : x8.toInt = x7.toInt + 1 := ax8
        refine r_iald X hT 107 rfl (by decide) (v_in hx8 (by decide)) dX9_airs_22 ?_
        have h9 : rg 0 5 (i2 107 x8.toNatClampNeg) := Rg_ata hR2 107 x8.toNatClampNeg 0 5 (v_lt (v_in hx8 (by decide))) (aff_at (m := 3) (a := 0) (n := 20) (c := 1) (by decide) (v := x2_2.toInt) ⟨by have := h5.1; omega, by have := h5.2; omega⟩ (by have := ax7; have := ax8; omega))
        refine lv_istore_n (lv' := [(3, .int (i2 107 x8.toNatClampNeg)), (0, .ref (h 96)), (1, .int a_a), (2, .int x2_2)]) hx hb dX9_airs_23 rfl hl (by decide) rfl (fun ls hl => ?_)
        refine lv_aload_n hx hb dX9_airs_24 rfl (lv_at hl 1 rfl) ?_
        refine r_getr X hT 96 21 107 fk_9_46 rfl rfl (by decide) dX9_airs_25 ?_
        refine lv_iconst (v := 3) hx hb dX9_airs_28 (by decide) ?_
        refine lv_iload_n hx hb dX9_airs_29 rfl (lv_at hl 3 rfl) ?_
        refine q_imul hx hb dX9_airs_30 (fun x10 ex10 => ?_)
        obtain ⟨hx10, ax10⟩ := rg_mul 0 57 ex10 (rg_k (by decide) : rg 3 3 3) h5 (by decide)
        replace ax10 : x10.toInt = 3 * x2_2.toInt := ax10
        refine r_iald X hT 107 rfl (by decide) (v_in hx10 (by decide)) dX9_airs_31 ?_
        have h11 : rg 0 1 (i2 107 x10.toNatClampNeg) := Rg_ata hR2 107 x10.toNatClampNeg 0 1 (v_lt (v_in hx10 (by decide))) (aff_at (m := 3) (a := 0) (n := 20) (c := 0) (by decide) (v := x2_2.toInt) ⟨by have := h5.1; omega, by have := h5.2; omega⟩ (by have := ax10; omega))
        refine lv_iconst (v := 1) hx hb dX9_airs_32 (by decide) ?_
        refine lv_icmp_ne (tgt := 96) hx hb dX9_airs_33 (by decide) (fun c12 => ?_) (fun c12 => ?_)
        ·
          have q12 : ¬ (i2 107 x10.toNatClampNeg).toInt = 1 := i_ne c12
          have h13 : rg 0 0 (i2 107 x10.toNatClampNeg) := t_nehi 0 h11 (rg_k (by decide) : rg 1 1 1) (i_ne c12) (by decide)
          obtain ⟨x14, ex14⟩ : ∃ y : Int32, y = x2_2 + 1 := ⟨_, rfl⟩
          refine lv_iinc (v := x14) (lv' := [(2, .int x14), (3, .int (i2 107 x8.toNatClampNeg)), (0, .ref (h 96)), (1, .int a_a)]) hx hb dX9_airs_96 hl (k := 3) rfl (by rw [ex14]; rfl) (by decide) rfl (fun ls hl => ?_)
          obtain ⟨hx14, ax14⟩ := rg_add 1 20 ex14 h5 (rg_k (by decide) : rg 1 1 1) (by decide)
          replace ax14 : x14.toInt = x2_2.toInt + 1 := ax14
          refine lv_goto (tgt := 2) hx hb dX9_airs_99 (by decide) ?_
          exact ih3_ x14 i2 g2 _ _ _ (rg_w hx14 (by decide) : rg 0 20 x14) hR2 hF2 hT hS (lv_sub hl [2, 3, 0] rfl) (m_up ax14 hx14 (by decide) hm3_)
        ·
          have q12 : (i2 107 x10.toNatClampNeg).toInt = 1 := i_eq c12
          have h15 : rg 1 1 (i2 107 x10.toNatClampNeg) := t_eqx 1 1 h11 (rg_k (by decide) : rg 1 1 1) (i_eq c12) (by decide)
          refine lv_aload_n hx hb dX9_airs_36 rfl (lv_at hl 1 rfl) ?_
          refine r_getr X hT 96 21 107 fk_9_46 rfl rfl (by decide) dX9_airs_37 ?_
          refine lv_iconst (v := 3) hx hb dX9_airs_40 (by decide) ?_
          refine lv_iload_n hx hb dX9_airs_41 rfl (lv_at hl 3 rfl) ?_
          refine q_imul hx hb dX9_airs_42 (fun x16 ex16 => ?_)
          obtain ⟨hx16, ax16⟩ := rg_mul 0 57 ex16 (rg_k (by decide) : rg 3 3 3) h5 (by decide)
          replace ax16 : x16.toInt = 3 * x2_2.toInt := ax16
          refine lv_iconst (v := 2) hx hb dX9_airs_43 (by decide) ?_
          refine q_iadd hx hb dX9_airs_44 (fun x17 ex17 => ?_)
          obtain ⟨hx17, ax17⟩ := rg_add 2 59 ex17 hx16 (rg_k (by decide) : rg 2 2 2) (by decide)
          replace ax17 : x17.toInt = x16.toInt + 2 := ax17
          refine r_iald X hT 107 rfl (by decide) (v_in hx17 (by decide)) dX9_airs_45 ?_
          have h18 : rg 0 11 (i2 107 x17.toNatClampNeg) := Rg_ata hR2 107 x17.toNatClampNeg 0 11 (v_lt (v_in hx17 (by decide))) (aff_at (m := 3) (a := 0) (n := 20) (c := 2) (by decide) (v := x2_2.toInt) ⟨by have := h5.1; omega, by have := h5.2; omega⟩ (by have := ax16; have := ax17; omega))
          refine lv_iload_n hx hb dX9_airs_46 rfl (lv_at hl 2 rfl) ?_
          refine lv_icmp_ne (tgt := 96) hx hb dX9_airs_47 (by decide) (fun c19 => ?_) (fun c19 => ?_)
          ·
            have q19 : ¬ (i2 107 x17.toNatClampNeg).toInt = a_a.toInt := i_ne c19
            obtain ⟨x20, ex20⟩ : ∃ y : Int32, y = x2_2 + 1 := ⟨_, rfl⟩
            refine lv_iinc (v := x20) (lv' := [(2, .int x20), (3, .int (i2 107 x8.toNatClampNeg)), (0, .ref (h 96)), (1, .int a_a)]) hx hb dX9_airs_96 hl (k := 3) rfl (by rw [ex20]; rfl) (by decide) rfl (fun ls hl => ?_)
            obtain ⟨hx20, ax20⟩ := rg_add 1 20 ex20 h5 (rg_k (by decide) : rg 1 1 1) (by decide)
            replace ax20 : x20.toInt = x2_2.toInt + 1 := ax20
            refine lv_goto (tgt := 2) hx hb dX9_airs_99 (by decide) ?_
            exact ih3_ x20 i2 g2 _ _ _ (rg_w hx20 (by decide) : rg 0 20 x20) hR2 hF2 hT hS (lv_sub hl [2, 3, 0] rfl) (m_up ax20 hx20 (by decide) hm3_)
          ·
            have q19 : (i2 107 x17.toNatClampNeg).toInt = a_a.toInt := i_eq c19
            refine lv_aload_n hx hb dX9_airs_50 rfl (lv_at hl 1 rfl) ?_
            refine r_geti X hT 96 36 fk_9_276 rfl rfl (by decide) dX9_airs_51 ?_
            refine lv_iload_n hx hb dX9_airs_54 rfl (lv_at hl 0 rfl) ?_
            refine e_Si (As := [.int (i2 96 36), .int (i2 107 x8.toNatClampNeg)]) (rest := []) X Y hT hS (m_X9_isBit (i2 96 36) (i2 107 x8.toNatClampNeg)) sk_X9_isBit gm_1670 hd_X9_isBit ⟨rfl, rfl⟩ ⟨Nat.le_of_ble_eq_true rfl, Nat.le_of_ble_eq_true rfl⟩ hl.1 rfl (Nat.le_of_ble_eq_true rfl) dX9_airs_55 ⟨Nat.zero_le _, Nat.zero_le _⟩ (fun r21 i21 g21 H locs hq hT hS => ?_)
            rcases hq with hq | hq
            ·
              obtain ⟨eh21, rfl, hf21_0⟩ := hq
              rw [(Prod.mk.inj eh21).1, (Prod.mk.inj eh21).2] at hT
              replace hf21_0 : ((((i2 96 36) : Int32) >>> (((i2 107 x8.toNatClampNeg) : Int32) &&& 31)) &&& 1 = 1) := hf21_0
              refine lv_if_ne (tgt := 96) hx hb dX9_airs_58 (by decide) (fun c22 => ?_) (fun c22 => (x_eq (rg_k (by decide) : rg 1 1 1) (rg_k (by decide) : rg 0 0 0) (i_eq c22) (by decide)).elim)
              obtain ⟨x23, ex23⟩ : ∃ y : Int32, y = x2_2 + 1 := ⟨_, rfl⟩
              refine lv_iinc (v := x23) (lv' := [(2, .int x23), (3, .int (i2 107 x8.toNatClampNeg)), (0, .ref (h 96)), (1, .int a_a)]) hx hb dX9_airs_96 hl (k := 3) rfl (by rw [ex23]; rfl) (by decide) rfl (fun ls hl => ?_)
              obtain ⟨hx23, ax23⟩ := rg_add 1 20 ex23 h5 (rg_k (by decide) : rg 1 1 1) (by decide)
              replace ax23 : x23.toInt = x2_2.toInt + 1 := ax23
              refine lv_goto (tgt := 2) hx hb dX9_airs_99 (by decide) ?_
              exact ih3_ x23 i2 g2 _ _ _ (rg_w hx23 (by decide) : rg 0 20 x23) hR2 hF2 hT hS (lv_sub hl [2, 3, 0] rfl) (m_up ax23 hx23 (by decide) hm3_)
            ·
              obtain ⟨eh21, rfl, hf21_0⟩ := hq
              rw [(Prod.mk.inj eh21).1, (Prod.mk.inj eh21).2] at hT
              replace hf21_0 : ¬ ((((i2 96 36) : Int32) >>> (((i2 107 x8.toNatClampNeg) : Int32) &&& 31)) &&& 1 = 1) := hf21_0
              refine lv_if_ne (tgt := 96) hx hb dX9_airs_58 (by decide) (fun c24 => (x_ne (rg_k (by decide) : rg 0 0 0) (rg_k (by decide) : rg 0 0 0) (i_ne c24) (by decide)).elim) (fun c24 => ?_)
              refine lv_aload_n hx hb dX9_airs_61 rfl (lv_at hl 1 rfl) ?_
              refine r_getr X hT 96 30 111 fk_9_59 rfl rfl (by decide) dX9_airs_62 ?_
              refine lv_bipush (v := 6) hx hb dX9_airs_65 (by decide) ?_
              refine lv_iload_n hx hb dX9_airs_67 rfl (lv_at hl 2 rfl) ?_
              refine q_imul hx hb dX9_airs_68 (fun x25 ex25 => ?_)
              obtain ⟨hx25, ax25⟩ := rg_mul 0 66 ex25 (rg_k (by decide) : rg 6 6 6) ha_a (by decide)
              replace ax25 : x25.toInt = 6 * a_a.toInt := ax25
              refine lv_bipush (v := 6) hx hb dX9_airs_69 (by decide) ?_
              refine q_iadd hx hb dX9_airs_71 (fun x26 ex26 => ?_)
              obtain ⟨hx26, ax26⟩ := rg_add 6 72 ex26 hx25 (rg_k (by decide) : rg 6 6 6) (by decide)
              replace ax26 : x26.toInt = x25.toInt + 6 := ax26
              refine lv_iload_n hx hb dX9_airs_72 rfl (lv_at hl 0 rfl) ?_
              refine q_iadd hx hb dX9_airs_73 (fun x27 ex27 => ?_)
              obtain ⟨hx27, ax27⟩ := rg_add 6 77 ex27 hx26 h9 (by decide)
              replace ax27 : x27.toInt = x26.toInt + (i2 107 x8.toNatClampNeg).toInt := ax27
              refine lv_iconst (v := 0) hx hb dX9_airs_74 (by decide) ?_
              refine lv_aload_n hx hb dX9_airs_75 rfl (lv_at hl 1 rfl) ?_
              refine r_getr X hT 96 30 111 fk_9_59 rfl rfl (by decide) dX9_airs_76 ?_
              refine lv_bipush (v := 6) hx hb dX9_airs_79 (by decide) ?_
              refine lv_iload_n hx hb dX9_airs_81 rfl (lv_at hl 2 rfl) ?_
              refine q_imul hx hb dX9_airs_82 (fun x28 ex28 => ?_)
              obtain ⟨hx28, ax28⟩ := rg_mul 0 66 ex28 (rg_k (by decide) : rg 6 6 6) ha_a (by decide)
              replace ax28 : x28.toInt = 6 * a_a.toInt := ax28
              refine lv_bipush (v := 6) hx hb dX9_airs_83 (by decide) ?_
              refine q_iadd hx hb dX9_airs_85 (fun x29 ex29 => ?_)
              obtain ⟨hx29, ax29⟩ := rg_add 6 72 ex29 hx28 (rg_k (by decide) : rg 6 6 6) (by decide)
              replace ax29 : x29.toInt = x28.toInt + 6 := ax29
              refine lv_iload_n hx hb dX9_airs_86 rfl (lv_at hl 0 rfl) ?_
              refine q_iadd hx hb dX9_airs_87 (fun x30 ex30 => ?_)
              obtain ⟨hx30, ax30⟩ := rg_add 6 77 ex30 hx29 h9 (by decide)
              replace ax30 : x30.toInt = x29.toInt + (i2 107 x8.toNatClampNeg).toInt := ax30
              refine r_iald X hT 111 rfl (by decide) (v_in hx30 (by decide)) dX9_airs_88 ?_
              refine lv_bipush (v := 10) hx hb dX9_airs_89 (by decide) ?_
              refine q_isub hx hb dX9_airs_91 (fun x31 ex31 => ?_)
              obtain ⟨hx31, ax31⟩ := rg_sub (-10) 89 ex31 (Rg_at hR2 111 x30.toNatClampNeg 0 99 (v_lt (v_in hx30 (by decide))) rfl) (rg_k (by decide) : rg 10 10 10) (by decide)
              replace ax31 : x31.toInt = (i2 111 x30.toNatClampNeg).toInt - 10 := ax31
              refine e_Si (As := [.int 0, .int x31]) (rest := [.int x27, .ref (h 111)]) X Y hT hS (m_X9_moreOf_0t0_m10t89 (0) x31 (rg_k (by decide) : rg 0 0 0) hx31) sk_X9_moreOf gm_1709 hd_X9_moreOf ⟨rfl, rfl⟩ ⟨Nat.le_of_ble_eq_true rfl, Nat.le_of_ble_eq_true rfl⟩ hl.1 rfl (Nat.le_of_ble_eq_true rfl) dX9_airs_92 ⟨Nat.zero_le _, Nat.zero_le _⟩ (fun r32 i32 g32 H locs hq hT hS => ?_)
              obtain ⟨eh32, hr32⟩ := hq
              rw [(Prod.mk.inj eh32).1, (Prod.mk.inj eh32).2] at hT
              refine r_iast X hT hS 111 rfl (by decide) (v_in hx27 (by decide)) dX9_airs_95 (fun H locs i33 ei33 hT hS => ?_)
              have hR33 := Rg_put hR2 ei33 0 99 rfl hr32 (by decide)
              have hF33 := Fr_puti hF2 ei33 (by decide)
              obtain ⟨x34, ex34⟩ : ∃ y : Int32, y = x2_2 + 1 := ⟨_, rfl⟩
              refine lv_iinc (v := x34) (lv' := [(2, .int x34), (3, .int (i2 107 x8.toNatClampNeg)), (0, .ref (h 96)), (1, .int a_a)]) hx hb dX9_airs_96 hl (k := 3) rfl (by rw [ex34]; rfl) (by decide) rfl (fun ls hl => ?_)
              obtain ⟨hx34, ax34⟩ := rg_add 1 20 ex34 h5 (rg_k (by decide) : rg 1 1 1) (by decide)
              replace ax34 : x34.toInt = x2_2.toInt + 1 := ax34
              refine lv_goto (tgt := 2) hx hb dX9_airs_99 (by decide) ?_
              exact ih3_ x34 i33 g2 _ _ _ (rg_w hx34 (by decide) : rg 0 20 x34) hR33 hF33 hT hS (lv_sub hl [2, 3, 0] rfl) (m_up ax34 hx34 (by decide) hm3_)
  exact L2_1 _ (0) i g _ _ _ (rg_w (rg_k (by decide) : rg 0 0 0) (by decide) : rg 0 20 0) hR hF hT hS (lv_sub hl [1, 2, 0] rfl) (Nat.lt_succ_self _)
set_option maxRecDepth 100000 in
set_option maxHeartbeats 4000000 in
theorem m_X9_moreOf_0t0_m99t60 {l : Launch} {D : va_G} {h : Nat → Nat} {cz : Nat → ClassId} {z : EZ} {i : Nat → Nat → Int32} {g : Nat → Nat → Int64} (a_a : Int32) (a_b : Int32) (ha_a : rg 0 0 a_a) (ha_b : rg (-99) 60 a_b) : DtI l yX9_moreOf cX9_moreOf 2 (some .int) ({ frames := 0, cells := 0, slots := 0, locals := 0 } : Room) D h cz z i g [.int a_a, .int a_b] (fun r u => u = (i, g) ∧ rg 0 60 r) := by
  refine e_I pn_X9_moreOf (Nat.le_of_ble_eq_true rfl) ?_
  intro p e s m args below meth c ls Q X Y hret hT hl hS
  have hx := X.1
  have hb := X.2.1
  have hl : lv_has ls 2 [(0, .int a_a), (1, .int a_b)] := hl
  refine lv_iload_n hx hb dX9_moreOf_0 rfl (lv_at hl 0 rfl) ?_
  refine lv_iload_n hx hb dX9_moreOf_1 rfl (lv_at hl 1 rfl) ?_
  refine lv_icmp_le (tgt := 9) hx hb dX9_moreOf_2 (by decide) (fun c1 => ?_) (fun c1 => ?_)
  ·
    have q1 : a_a.toInt ≤ a_b.toInt := i_le c1
    have h2 : rg 0 60 a_b := t_ley 0 60 ha_a ha_b (i_le c1) (by decide)
    refine lv_iload_n hx hb dX9_moreOf_9 rfl (lv_at hl 1 rfl) ?_
    exact hret a_b _ _ _ _ _ _ dX9_moreOf_10 hT hS ⟨rfl, h2⟩
  ·
    have q1 : a_b.toInt < a_a.toInt := i_nle c1
    have h3 : rg (-99) (-1) a_b := t_ltx (-99) (-1) ha_b ha_a (i_nle c1) (by decide)
    refine lv_iload_n hx hb dX9_moreOf_5 rfl (lv_at hl 0 rfl) ?_
    refine lv_goto (tgt := 10) hx hb dX9_moreOf_6 (by decide) ?_
    exact hret a_a _ _ _ _ _ _ dX9_moreOf_10 hT hS ⟨rfl, (rg_w ha_a (by decide) : rg 0 60 a_a)⟩
set_option maxRecDepth 100000 in
set_option maxHeartbeats 4000000 in
theorem m_X9_opens0 {l : Launch} {D : va_G} {h : Nat → Nat} {cz : Nat → ClassId} {z : EZ} {i : Nat → Nat → Int32} {g : Nat → Nat → Int64} (hR : Rg rA i) (a_a : Int32) (a_b : Int32) (a_c : Int32) (ha_a : rg 0 5 a_a) (ha_b : rg 0 11 a_b) : DtV l yX9_opens0 cX9_opens0 4 none ({ frames := 1, cells := 0, slots := 0, locals := 21 } : Room) D h cz z i g [.ref (h 96), .int a_a, .int a_b, .int a_c] (fun u => Rg rA u.1 ∧ Fr [96, 113, 114, 115] [] i g u ∧ (u.1 96 36 = i 96 36 ||| (1 <<< (a_a &&& 31)))) := by
  refine e_V pn_X9_opens0 (Nat.le_of_ble_eq_true rfl) ?_
  intro p e s m args below meth c ls Q X Y hret hT hl hS
  have hx := X.1
  have hb := X.2.1
  have hl : lv_has ls 4 [(0, .ref (h 96)), (1, .int a_a), (2, .int a_b), (3, .int a_c)] := hl
  have hF : Fr [96, 113, 114, 115] [] i g (i, g) := Fr_rf _ _ _ _
  refine lv_aload_n hx hb dX9_opens0_0 rfl (lv_at hl 0 rfl) ?_
  refine lv_dup hx hb dX9_opens0_1 rfl ?_
  refine r_geti X hT 96 36 fk_9_276 rfl rfl (by decide) dX9_opens0_2 ?_
  refine lv_iconst (v := 1) hx hb dX9_opens0_5 (by decide) ?_
  refine lv_iload_n hx hb dX9_opens0_6 rfl (lv_at hl 1 rfl) ?_
  refine q_ishl hx hb dX9_opens0_7 (fun x1 ex1 => ?_)
  have h2 : rg 1 32 x1 := rg_shl1 ex1 ha_a (by decide)
  refine q_ior hx hb dX9_opens0_8 (fun x3 ex3 => ?_)
  refine r_puti X hT hS 96 36 pk_9_276 rfl rfl rfl rfl (by decide) dX9_opens0_9 (fun H locs i4 ei4 hT hS => ?_)
  have hR4 := Rg_put hR ei4 (-2147483648) 2147483647 rfl (rg_top x3) (by decide)
  have hF4 := Fr_puti hF ei4 (by decide)
  refine lv_aload_n hx hb dX9_opens0_12 rfl (lv_at hl 0 rfl) ?_
  refine r_getr X hT 96 32 113 fk_9_65 rfl rfl (by decide) dX9_opens0_13 ?_
  refine lv_iload_n hx hb dX9_opens0_16 rfl (lv_at hl 1 rfl) ?_
  refine lv_iload_n hx hb dX9_opens0_17 rfl (lv_at hl 2 rfl) ?_
  refine r_iast X hT hS 113 rfl (by decide) (v_in ha_a (by decide)) dX9_opens0_18 (fun H locs i5 ei5 hT hS => ?_)
  have hR5 := Rg_put hR4 ei5 (-2147483648) 2147483647 rfl ha_b (by decide)
  have hF5 := Fr_puti hF4 ei5 (by decide)
  refine lv_aload_n hx hb dX9_opens0_19 rfl (lv_at hl 0 rfl) ?_
  refine r_getr X hT 96 33 114 fk_9_68 rfl rfl (by decide) dX9_opens0_20 ?_
  refine lv_iload_n hx hb dX9_opens0_23 rfl (lv_at hl 1 rfl) ?_
  refine lv_iload_n hx hb dX9_opens0_24 rfl (lv_at hl 3 rfl) ?_
  refine r_iast X hT hS 114 rfl (by decide) (v_in ha_a (by decide)) dX9_opens0_25 (fun H locs i6 ei6 hT hS => ?_)
  have hR6 := Rg_put hR5 ei6 (-2147483648) 2147483647 rfl (rg_top a_c) (by decide)
  have hF6 := Fr_puti hF5 ei6 (by decide)
  refine lv_aload_n hx hb dX9_opens0_26 rfl (lv_at hl 0 rfl) ?_
  refine r_getr X hT 96 34 115 fk_9_71 rfl rfl (by decide) dX9_opens0_27 ?_
  refine lv_iload_n hx hb dX9_opens0_30 rfl (lv_at hl 1 rfl) ?_
  refine lv_iconst (v := 0) hx hb dX9_opens0_31 (by decide) ?_
  refine lv_aload_n hx hb dX9_opens0_32 rfl (lv_at hl 0 rfl) ?_
  refine r_getr X hT 96 18 104 fk_9_37 rfl rfl (by decide) dX9_opens0_33 ?_
  refine lv_iconst (v := 3) hx hb dX9_opens0_36 (by decide) ?_
  refine lv_iload_n hx hb dX9_opens0_37 rfl (lv_at hl 1 rfl) ?_
  refine q_imul hx hb dX9_opens0_38 (fun x7 ex7 => ?_)
  obtain ⟨hx7, ax7⟩ := rg_mul 0 15 ex7 (rg_k (by decide) : rg 3 3 3) ha_a (by decide)
  replace ax7 : x7.toInt = 3 * a_a.toInt := ax7
  refine r_iald X hT 104 rfl (by decide) (v_in hx7 (by decide)) dX9_opens0_39 ?_
  refine lv_aload_n hx hb dX9_opens0_40 rfl (lv_at hl 0 rfl) ?_
  refine r_getr X hT 96 30 111 fk_9_59 rfl rfl (by decide) dX9_opens0_41 ?_
  refine lv_bipush (v := 6) hx hb dX9_opens0_44 (by decide) ?_
  refine lv_iload_n hx hb dX9_opens0_46 rfl (lv_at hl 2 rfl) ?_
  refine q_imul hx hb dX9_opens0_47 (fun x8 ex8 => ?_)
  obtain ⟨hx8, ax8⟩ := rg_mul 0 66 ex8 (rg_k (by decide) : rg 6 6 6) ha_b (by decide)
  replace ax8 : x8.toInt = 6 * a_b.toInt := ax8
  refine lv_bipush (v := 6) hx hb dX9_opens0_48 (by decide) ?_
  refine q_iadd hx hb dX9_opens0_50 (fun x9 ex9 => ?_)
  obtain ⟨hx9, ax9⟩ := rg_add 6 72 ex9 hx8 (rg_k (by decide) : rg 6 6 6) (by decide)
  replace ax9 : x9.toInt = x8.toInt + 6 := ax9
  refine lv_iload_n hx hb dX9_opens0_51 rfl (lv_at hl 1 rfl) ?_
  refine q_iadd hx hb dX9_opens0_52 (fun x10 ex10 => ?_)
  obtain ⟨hx10, ax10⟩ := rg_add 6 77 ex10 hx9 ha_a (by decide)
  replace ax10 : x10.toInt = x9.toInt + a_a.toInt := ax10
  refine r_iald X hT 111 rfl (by decide) (v_in hx10 (by decide)) dX9_opens0_53 ?_
  refine q_isub hx hb dX9_opens0_54 (fun x11 ex11 => ?_)
  obtain ⟨hx11, ax11⟩ := rg_sub (-99) 60 ex11 (Rg_at hR6 104 x7.toNatClampNeg 0 60 (v_lt (v_in hx7 (by decide))) rfl) (Rg_at hR6 111 x10.toNatClampNeg 0 99 (v_lt (v_in hx10 (by decide))) rfl) (by decide)
  replace ax11 : x11.toInt = (i6 104 x7.toNatClampNeg).toInt - (i6 111 x10.toNatClampNeg).toInt := ax11
  refine e_Si (As := [.int 0, .int x11]) (rest := [.int a_a, .ref (h 115)]) X Y hT hS (m_X9_moreOf_0t0_m99t60 (0) x11 (rg_k (by decide) : rg 0 0 0) hx11) sk_X9_moreOf gm_1709 hd_X9_moreOf ⟨rfl, rfl⟩ ⟨Nat.le_of_ble_eq_true rfl, Nat.le_of_ble_eq_true rfl⟩ hl.1 rfl (Nat.le_of_ble_eq_true rfl) dX9_opens0_55 ⟨Nat.zero_le _, Nat.zero_le _⟩ (fun r12 i12 g12 H locs hq hT hS => ?_)
  obtain ⟨eh12, hr12⟩ := hq
  rw [(Prod.mk.inj eh12).1, (Prod.mk.inj eh12).2] at hT
  refine r_iast X hT hS 115 rfl (by decide) (v_in ha_a (by decide)) dX9_opens0_58 (fun H locs i13 ei13 hT hS => ?_)
  have hR13 := Rg_put hR6 ei13 (-2147483648) 2147483647 rfl hr12 (by decide)
  have hF13 := Fr_puti hF6 ei13 (by decide)
  exact hret _ _ _ _ _ _ dX9_opens0_59 hT hS ⟨hR13, hF13, (by show i13 96 36 = i 96 36 ||| (1 <<< (a_a &&& 31)); rw [show i13 96 36 = x3 from (z_j ei13 (z_j ei6 (z_j ei5 (z_s ei4) (by decide)) (by decide)) (by decide)), ex3, ex1])⟩
