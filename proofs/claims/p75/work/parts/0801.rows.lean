set_option maxRecDepth 100000 in
set_option maxHeartbeats 4000000 in
theorem m_X3_takeKnife {l : Launch} {D : va_G} {h : Nat → Nat} {cz : Nat → ClassId} {z : EZ} {i : Nat → Nat → Int32} {g : Nat → Nat → Int64} (hR : Rg rA i) : DtI l yX3_takeKnife cX3_takeKnife 3 (some .boolean) ({ frames := 7, cells := 0, slots := 0, locals := 151 } : Room) D h cz z i g [.ref (h 14)] (fun r u => Rg rA u.1 ∧ Fr [3, 9, 10, 14] [] i g u ∧ rg 0 1 r) := by
  refine e_Z (fun v u hq => (z01 hq.2.2)) pn_X3_takeKnife (Nat.le_of_ble_eq_true rfl) ?_
  intro p e s m args below meth c ls Q X Y hret hT hl hS
  have hx := X.1
  have hb := X.2.1
  have hl : lv_has ls 3 [(0, .ref (h 14))] := hl
  have hF : Fr [3, 9, 10, 14] [] i g (i, g) := Fr_rf _ _ _ _
  refine lv_aload_n hx hb dX3_takeKnife_0 rfl (lv_at hl 0 rfl) ?_
  refine r_getr X hT 14 1 3 fk_3_19 rfl rfl (by decide) dX3_takeKnife_1 ?_
  refine r_geti X hT 3 15 fk_3_129 rfl rfl (by decide) dX3_takeKnife_4 ?_
  refine lv_bipush (v := 8) hx hb dX3_takeKnife_7 (by decide) ?_
  refine lv_icmp_lt (tgt := 18) hx hb dX3_takeKnife_9 (by decide) (fun c1 => ?_) (fun c1 => ?_)
  ·
    have q1 : (i 3 15).toInt < 8 := i_lt c1
    have h2 : rg 0 7 (i 3 15) := t_ltx 0 7 (Rg_at hR 3 15 0 8 (by decide) rfl) (rg_k (by decide) : rg 8 8 8) (i_lt c1) (by decide)
    refine lv_aload_n hx hb dX3_takeKnife_18 rfl (lv_at hl 0 rfl) ?_
    refine e_Vv (As := []) (rest := []) X Y hT hS (m_X3_advance hR) mk_X3_advance gm_517 rfl rfl (by decide) hd_X3_advance ⟨rfl, rfl⟩ ⟨Nat.le_of_ble_eq_true rfl, Nat.le_of_ble_eq_true rfl⟩ hl.1 rfl (Nat.le_of_ble_eq_true rfl) dX3_takeKnife_19 ⟨Nat.zero_le _, Nat.zero_le _⟩ (fun i3 g3 H locs hq hT hS => ?_)
    obtain ⟨hR3, hf3, hf3_0⟩ := hq
    have hF3 := Fr_tr hF hf3 (by decide)
    refine lv_aload_n hx hb dX3_takeKnife_22 rfl (lv_at hl 0 rfl) ?_
    refine lv_iconst (v := 0) hx hb dX3_takeKnife_23 (by decide) ?_
    refine lv_aload_n hx hb dX3_takeKnife_24 rfl (lv_at hl 0 rfl) ?_
    refine r_getr X hT 14 1 3 fk_3_19 rfl rfl (by decide) dX3_takeKnife_25 ?_
    refine r_geti X hT 3 13 fk_3_98 rfl rfl (by decide) dX3_takeKnife_28 ?_
    refine lv_iconst (v := 1) hx hb dX3_takeKnife_31 (by decide) ?_
    refine q_isub hx hb dX3_takeKnife_32 (fun x4 ex4 => ?_)
    obtain ⟨hx4, ax4⟩ := rg_sub (-1) 5 ex4 (Rg_at hR3 3 13 0 6 (by decide) rfl) (rg_k (by decide) : rg 1 1 1) (by decide)
    replace ax4 : x4.toInt = (i3 3 13).toInt - 1 := ax4
    refine e_Vi (As := [.int 0, .int x4]) (rest := []) X Y hT hS (m_X3_takeNumber hR3 (0) x4) mk_X3_takeNumber gm_605 rfl rfl (by decide) hd_X3_takeNumber ⟨rfl, rfl⟩ ⟨Nat.le_of_ble_eq_true rfl, Nat.le_of_ble_eq_true rfl⟩ hl.1 rfl (Nat.le_of_ble_eq_true rfl) dX3_takeKnife_33 ⟨Nat.zero_le _, Nat.zero_le _⟩ (fun r5 i5 g5 H locs hq hT hS => ?_)
    rcases hq with hq | hq
    ·
      obtain ⟨hR5, hf5, rfl, hf5_0⟩ := hq
      have hF5 := Fr_tr hF3 hf5 (by decide)
      have h6 : rg 1 3 (i5 14 6) := hf5_0
      refine lv_istore_n (lv' := [(1, .int (-1)), (0, .ref (h 14))]) hx hb dX3_takeKnife_36 rfl hl (by decide) rfl (fun ls hl => ?_)
      refine lv_aload_n hx hb dX3_takeKnife_37 rfl (lv_at hl 1 rfl) ?_
      refine va_ldcS hx hb X.2.2.2.1 Y.s10 dX3_takeKnife_38 ?_
      refine lv_iconst (v := 0) hx hb dX3_takeKnife_40 (by decide) ?_
      refine lv_bipush (v := 11) hx hb dX3_takeKnife_41 (by decide) ?_
      refine e_Vi (As := [.ref (z.1 10), .int 0, .int 11]) (rest := []) X Y hT hS (m_X3_takeNamed hR5 10 (by decide) (0) (11)) mk_X3_takeNamed gm_601 rfl rfl (by decide) hd_X3_takeNamed ⟨rfl, rfl⟩ ⟨Nat.le_of_ble_eq_true rfl, Nat.le_of_ble_eq_true rfl⟩ hl.1 rfl (Nat.le_of_ble_eq_true rfl) dX3_takeKnife_43 ⟨Nat.zero_le _, Nat.zero_le _⟩ (fun r7 i7 g7 H locs hq hT hS => ?_)
      rcases hq with hq | hq
      ·
        obtain ⟨hR7, hf7, rfl, hf7_0⟩ := hq
        have hF7 := Fr_tr hF5 hf7 (by decide)
        have h8 : rg 1 3 (i7 14 6) := hf7_0
        refine lv_istore_n (lv' := [(2, .int (-1)), (1, .int (-1)), (0, .ref (h 14))]) hx hb dX3_takeKnife_46 rfl hl (by decide) rfl (fun ls hl => ?_)
        refine lv_aload_n hx hb dX3_takeKnife_47 rfl (lv_at hl 2 rfl) ?_
        refine r_geti X hT 14 6 fk_3_28 rfl rfl (by decide) dX3_takeKnife_48 ?_
        refine lv_if_ne (tgt := 63) hx hb dX3_takeKnife_51 (by decide) (fun c9 => ?_) (fun c9 => (x_eq h8 (rg_k (by decide) : rg 0 0 0) (i_eq c9) (by decide)).elim)
        have q9 : ¬ (i7 14 6).toInt = 0 := i_ne c9
        refine lv_aload_n hx hb dX3_takeKnife_63 rfl (lv_at hl 2 rfl) ?_
        refine r_geti X hT 14 6 fk_3_28 rfl rfl (by decide) dX3_takeKnife_64 ?_
        refine lv_if_ne (tgt := 74) hx hb dX3_takeKnife_67 (by decide) (fun c10 => ?_) (fun c10 => (x_eq h8 (rg_k (by decide) : rg 0 0 0) (i_eq c10) (by decide)).elim)
        have q10 : ¬ (i7 14 6).toInt = 0 := i_ne c10
        refine lv_iconst (v := 0) hx hb dX3_takeKnife_74 (by decide) ?_
        exact hret 0 _ _ _ _ _ _ dX3_takeKnife_75 hT hS ⟨hR7, hF7, (rg_w (rg_k (by decide) : rg 0 0 0) (by decide) : rg 0 1 0)⟩
      ·
        obtain ⟨hR7, hf7, hf7_0, hf7_1, hf7_2⟩ := hq
        have hF7 := Fr_tr hF5 hf7 (by decide)
        exact (x_eq h6 (show rg 0 0 (i5 14 6) from hf7_0) rfl (by decide)).elim
    ·
      obtain ⟨hR5, hf5, hf5_0, hf5_1, hf5_2⟩ := hq
      have hF5 := Fr_tr hF3 hf5 (by decide)
      have e11 : (i3 14 6) = (i 14 6) := hf3_0
      have h12 : rg 0 3 (i3 14 6) := rg_of e11 (Rg_at hR 14 6 0 3 (by decide) rfl)
      have h13 : rg 0 0 (i3 14 6) := hf5_0
      have h14 : rg 0 0 (i 14 6) := rg_fo e11 h13
      have h15 : rg 0 0 (i5 14 6) := hf5_1
      replace hf5_2 : 0 ≤ r5.toInt ∧ r5.toInt ≤ x4.toInt := hf5_2
      have h16 : rg 0 5 r5 := ⟨by have := hx4.1; have := hx4.2; omega, by have := hx4.1; have := hx4.2; omega⟩
      refine lv_istore_n (lv' := [(1, .int r5), (0, .ref (h 14))]) hx hb dX3_takeKnife_36 rfl hl (by decide) rfl (fun ls hl => ?_)
      refine lv_aload_n hx hb dX3_takeKnife_37 rfl (lv_at hl 1 rfl) ?_
      refine va_ldcS hx hb X.2.2.2.1 Y.s10 dX3_takeKnife_38 ?_
      refine lv_iconst (v := 0) hx hb dX3_takeKnife_40 (by decide) ?_
      refine lv_bipush (v := 11) hx hb dX3_takeKnife_41 (by decide) ?_
      refine e_Vi (As := [.ref (z.1 10), .int 0, .int 11]) (rest := []) X Y hT hS (m_X3_takeNamed hR5 10 (by decide) (0) (11)) mk_X3_takeNamed gm_601 rfl rfl (by decide) hd_X3_takeNamed ⟨rfl, rfl⟩ ⟨Nat.le_of_ble_eq_true rfl, Nat.le_of_ble_eq_true rfl⟩ hl.1 rfl (Nat.le_of_ble_eq_true rfl) dX3_takeKnife_43 ⟨Nat.zero_le _, Nat.zero_le _⟩ (fun r17 i17 g17 H locs hq hT hS => ?_)
      rcases hq with hq | hq
      ·
        obtain ⟨hR17, hf17, rfl, hf17_0⟩ := hq
        have hF17 := Fr_tr hF5 hf17 (by decide)
        have h18 : rg 1 3 (i17 14 6) := hf17_0
        refine lv_istore_n (lv' := [(2, .int (-1)), (1, .int r5), (0, .ref (h 14))]) hx hb dX3_takeKnife_46 rfl hl (by decide) rfl (fun ls hl => ?_)
        refine lv_aload_n hx hb dX3_takeKnife_47 rfl (lv_at hl 2 rfl) ?_
        refine r_geti X hT 14 6 fk_3_28 rfl rfl (by decide) dX3_takeKnife_48 ?_
        refine lv_if_ne (tgt := 63) hx hb dX3_takeKnife_51 (by decide) (fun c19 => ?_) (fun c19 => (x_eq h18 (rg_k (by decide) : rg 0 0 0) (i_eq c19) (by decide)).elim)
        have q19 : ¬ (i17 14 6).toInt = 0 := i_ne c19
        refine lv_aload_n hx hb dX3_takeKnife_63 rfl (lv_at hl 2 rfl) ?_
        refine r_geti X hT 14 6 fk_3_28 rfl rfl (by decide) dX3_takeKnife_64 ?_
        refine lv_if_ne (tgt := 74) hx hb dX3_takeKnife_67 (by decide) (fun c20 => ?_) (fun c20 => (x_eq h18 (rg_k (by decide) : rg 0 0 0) (i_eq c20) (by decide)).elim)
        have q20 : ¬ (i17 14 6).toInt = 0 := i_ne c20
        refine lv_iconst (v := 0) hx hb dX3_takeKnife_74 (by decide) ?_
        exact hret 0 _ _ _ _ _ _ dX3_takeKnife_75 hT hS ⟨hR17, hF17, (rg_w (rg_k (by decide) : rg 0 0 0) (by decide) : rg 0 1 0)⟩
      ·
        obtain ⟨hR17, hf17, hf17_0, hf17_1, hf17_2⟩ := hq
        have hF17 := Fr_tr hF5 hf17 (by decide)
        have h21 : rg 0 0 (i17 14 6) := hf17_1
        replace hf17_2 : 0 ≤ r17.toInt ∧ r17.toInt ≤ 11 := hf17_2
        have h22 : rg 0 11 r17 := ⟨by omega, by omega⟩
        refine lv_istore_n (lv' := [(2, .int r17), (1, .int r5), (0, .ref (h 14))]) hx hb dX3_takeKnife_46 rfl hl (by decide) rfl (fun ls hl => ?_)
        refine lv_aload_n hx hb dX3_takeKnife_47 rfl (lv_at hl 2 rfl) ?_
        refine r_geti X hT 14 6 fk_3_28 rfl rfl (by decide) dX3_takeKnife_48 ?_
        refine lv_if_ne (tgt := 63) hx hb dX3_takeKnife_51 (by decide) (fun c23 => (x_ne h21 (rg_k (by decide) : rg 0 0 0) (i_ne c23) (by decide)).elim) (fun c23 => ?_)
        have q23 : (i17 14 6).toInt = 0 := i_eq c23
        refine lv_aload_n hx hb dX3_takeKnife_54 rfl (lv_at hl 2 rfl) ?_
        refine r_getr X hT 14 1 3 fk_3_19 rfl rfl (by decide) dX3_takeKnife_55 ?_
        refine lv_iload_n hx hb dX3_takeKnife_58 rfl (lv_at hl 1 rfl) ?_
        refine lv_iload_n hx hb dX3_takeKnife_59 rfl (lv_at hl 0 rfl) ?_
        refine e_Vv (As := [.int r5, .int r17]) (rest := []) X Y hT hS (m_X6_addKnife_3 hR17 r5 r17 h16 h22) mk_X6_addKnife gm_642 rfl rfl (by decide) hd_X6_addKnife ⟨rfl, rfl⟩ ⟨Nat.le_of_ble_eq_true rfl, Nat.le_of_ble_eq_true rfl⟩ hl.1 rfl (Nat.le_of_ble_eq_true rfl) dX3_takeKnife_60 ⟨Nat.zero_le _, Nat.zero_le _⟩ (fun i24 g24 H locs hq hT hS => ?_)
        obtain ⟨hR24, hf24⟩ := hq
        have hF24 := Fr_tr hF17 hf24 (by decide)
        refine lv_aload_n hx hb dX3_takeKnife_63 rfl (lv_at hl 2 rfl) ?_
        refine r_geti X hT 14 6 fk_3_28 rfl rfl (by decide) dX3_takeKnife_64 ?_
        have e25 : (i24 14 6) = (i17 14 6) := (z_F hf24 rfl (by decide))
        have h26 : rg 0 0 (i24 14 6) := rg_of e25 h21
        refine lv_if_ne (tgt := 74) hx hb dX3_takeKnife_67 (by decide) (fun c27 => (x_ne h26 (rg_k (by decide) : rg 0 0 0) (i_ne c27) (by decide)).elim) (fun c27 => ?_)
        have q27 : (i24 14 6).toInt = 0 := i_eq c27
        refine lv_iconst (v := 1) hx hb dX3_takeKnife_70 (by decide) ?_
        refine lv_goto (tgt := 75) hx hb dX3_takeKnife_71 (by decide) ?_
        exact hret 1 _ _ _ _ _ _ dX3_takeKnife_75 hT hS ⟨hR24, hF24, (rg_w (rg_k (by decide) : rg 1 1 1) (by decide) : rg 0 1 1)⟩
  ·
    have q1 : 8 ≤ (i 3 15).toInt := i_nlt c1
    have h28 : rg 8 8 (i 3 15) := t_ley 8 8 (rg_k (by decide) : rg 8 8 8) (Rg_at hR 3 15 0 8 (by decide) rfl) (i_nlt c1) (by decide)
    refine lv_aload_n hx hb dX3_takeKnife_12 rfl (lv_at hl 0 rfl) ?_
    refine lv_iconst (v := 3) hx hb dX3_takeKnife_13 (by decide) ?_
    refine e_Vi (As := [.int 3]) (rest := []) X Y hT hS (m_X3_refuse hR (3) (rg_w (rg_k (by decide) : rg 3 3 3) (by decide) : rg 1 3 3)) mk_X3_refuse gm_596 rfl rfl (by decide) hd_X3_refuse ⟨rfl, rfl⟩ ⟨Nat.le_of_ble_eq_true rfl, Nat.le_of_ble_eq_true rfl⟩ hl.1 rfl (Nat.le_of_ble_eq_true rfl) dX3_takeKnife_14 ⟨Nat.zero_le _, Nat.zero_le _⟩ (fun r29 i29 g29 H locs hq hT hS => ?_)
    obtain ⟨hR29, hf29, rfl, hf29_0⟩ := hq
    have hF29 := Fr_tr hF hf29 (by decide)
    have h30 : rg 1 3 (i29 14 6) := hf29_0
    exact hret 0 _ _ _ _ _ _ dX3_takeKnife_17 hT hS ⟨hR29, hF29, (rg_w (rg_k (by decide) : rg 0 0 0) (by decide) : rg 0 1 0)⟩
set_option maxRecDepth 100000 in
set_option maxHeartbeats 4000000 in
theorem m_X3_takeHead {l : Launch} {D : va_G} {h : Nat → Nat} {cz : Nat → ClassId} {z : EZ} {i : Nat → Nat → Int32} {g : Nat → Nat → Int64} (hR : Rg rA i) : DtI l yX3_takeHead cX3_takeHead 1 (some .boolean) ({ frames := 7, cells := 0, slots := 0, locals := 151 } : Room) D h cz z i g [.ref (h 14)] (fun r u => Rg rA u.1 ∧ Fr [3, 14] [] i g u ∧ rg 0 1 r) := by
  refine e_Z (fun v u hq => (z01 hq.2.2)) pn_X3_takeHead (Nat.le_of_ble_eq_true rfl) ?_
  intro p e s m args below meth c ls Q X Y hret hT hl hS
  have hx := X.1
  have hb := X.2.1
  have hl : lv_has ls 1 [(0, .ref (h 14))] := hl
  have hF : Fr [3, 14] [] i g (i, g) := Fr_rf _ _ _ _
  refine lv_aload_n hx hb dX3_takeHead_0 rfl (lv_at hl 0 rfl) ?_
  refine va_ldcS hx hb X.2.2.2.1 Y.s0 dX3_takeHead_1 ?_
  refine e_Vv (As := [.ref (z.1 0)]) (rest := []) X Y hT hS (m_X3_takeWord hR 0 (by decide)) mk_X3_takeWord gm_540 rfl rfl (by decide) hd_X3_takeWord ⟨rfl, rfl⟩ ⟨Nat.le_of_ble_eq_true rfl, Nat.le_of_ble_eq_true rfl⟩ hl.1 rfl (Nat.le_of_ble_eq_true rfl) dX3_takeHead_3 ⟨Nat.zero_le _, Nat.zero_le _⟩ (fun i1 g1 H locs hq hT hS => ?_)
  rcases hq with hq | hq
  ·
    obtain ⟨hR1, hf1, hf1_0, hf1_1⟩ := hq
    have hF1 := Fr_tr hF hf1 (by decide)
    have h2 : rg 0 0 (i 14 6) := hf1_0
    have h3 : rg 0 0 (i1 14 6) := hf1_1
    refine lv_aload_n hx hb dX3_takeHead_6 rfl (lv_at hl 0 rfl) ?_
    refine r_getr X hT 14 1 3 fk_3_19 rfl rfl (by decide) dX3_takeHead_7 ?_
    refine lv_aload_n hx hb dX3_takeHead_10 rfl (lv_at hl 0 rfl) ?_
    refine va_ldcS hx hb X.2.2.2.1 Y.s1 dX3_takeHead_11 ?_
    refine lv_iconst (v := 1) hx hb dX3_takeHead_13 (by decide) ?_
    refine lv_bipush (v := 12) hx hb dX3_takeHead_14 (by decide) ?_
    refine e_Vi (As := [.ref (z.1 1), .int 1, .int 12]) (rest := [.ref (h 3)]) X Y hT hS (m_X3_takeNamed hR1 1 (by decide) (1) (12)) mk_X3_takeNamed gm_601 rfl rfl (by decide) hd_X3_takeNamed ⟨rfl, rfl⟩ ⟨Nat.le_of_ble_eq_true rfl, Nat.le_of_ble_eq_true rfl⟩ hl.1 rfl (Nat.le_of_ble_eq_true rfl) dX3_takeHead_16 ⟨Nat.zero_le _, Nat.zero_le _⟩ (fun r4 i4 g4 H locs hq hT hS => ?_)
    rcases hq with hq | hq
    ·
      obtain ⟨hR4, hf4, rfl, hf4_0⟩ := hq
      have hF4 := Fr_tr hF1 hf4 (by decide)
      have h5 : rg 1 3 (i4 14 6) := hf4_0
      refine r_puti X hT hS 3 10 pk_3_88 rfl rfl rfl rfl (by decide) dX3_takeHead_19 (fun H locs i6 ei6 hT hS => ?_)
      have hR6 := Rg_put hR4 ei6 (-1) 12 rfl (rg_k (by decide) : rg (-1) (-1) (-1)) (by decide)
      have hF6 := Fr_puti hF4 ei6 (by decide)
      refine lv_aload_n hx hb dX3_takeHead_22 rfl (lv_at hl 0 rfl) ?_
      refine r_getr X hT 14 1 3 fk_3_19 rfl rfl (by decide) dX3_takeHead_23 ?_
      refine lv_aload_n hx hb dX3_takeHead_26 rfl (lv_at hl 0 rfl) ?_
      refine va_ldcS hx hb X.2.2.2.1 Y.s2 dX3_takeHead_27 ?_
      refine lv_iconst (v := 0) hx hb dX3_takeHead_29 (by decide) ?_
      refine lv_iconst (v := 3) hx hb dX3_takeHead_30 (by decide) ?_
      refine e_Vi (As := [.ref (z.1 2), .int 0, .int 3]) (rest := [.ref (h 3)]) X Y hT hS (m_X3_takeNamed hR6 2 (by decide) (0) (3)) mk_X3_takeNamed gm_601 rfl rfl (by decide) hd_X3_takeNamed ⟨rfl, rfl⟩ ⟨Nat.le_of_ble_eq_true rfl, Nat.le_of_ble_eq_true rfl⟩ hl.1 rfl (Nat.le_of_ble_eq_true rfl) dX3_takeHead_31 ⟨Nat.zero_le _, Nat.zero_le _⟩ (fun r7 i7 g7 H locs hq hT hS => ?_)
      rcases hq with hq | hq
      ·
        obtain ⟨hR7, hf7, rfl, hf7_0⟩ := hq
        have hF7 := Fr_tr hF6 hf7 (by decide)
        have h8 : rg 1 3 (i7 14 6) := hf7_0
        refine r_puti X hT hS 3 11 pk_3_92 rfl rfl rfl rfl (by decide) dX3_takeHead_34 (fun H locs i9 ei9 hT hS => ?_)
        have hR9 := Rg_put hR7 ei9 (-2147483648) 2147483647 rfl (rg_k (by decide) : rg (-1) (-1) (-1)) (by decide)
        have hF9 := Fr_puti hF7 ei9 (by decide)
        refine lv_aload_n hx hb dX3_takeHead_37 rfl (lv_at hl 0 rfl) ?_
        refine r_getr X hT 14 1 3 fk_3_19 rfl rfl (by decide) dX3_takeHead_38 ?_
        refine lv_aload_n hx hb dX3_takeHead_41 rfl (lv_at hl 0 rfl) ?_
        refine va_ldcS hx hb X.2.2.2.1 Y.s3 dX3_takeHead_42 ?_
        refine lv_iconst (v := 0) hx hb dX3_takeHead_44 (by decide) ?_
        refine lv_bipush (v := 10) hx hb dX3_takeHead_45 (by decide) ?_
        refine e_Vi (As := [.ref (z.1 3), .int 0, .int 10]) (rest := [.ref (h 3)]) X Y hT hS (m_X3_takeNamed hR9 3 (by decide) (0) (10)) mk_X3_takeNamed gm_601 rfl rfl (by decide) hd_X3_takeNamed ⟨rfl, rfl⟩ ⟨Nat.le_of_ble_eq_true rfl, Nat.le_of_ble_eq_true rfl⟩ hl.1 rfl (Nat.le_of_ble_eq_true rfl) dX3_takeHead_47 ⟨Nat.zero_le _, Nat.zero_le _⟩ (fun r10 i10 g10 H locs hq hT hS => ?_)
        rcases hq with hq | hq
        ·
          obtain ⟨hR10, hf10, rfl, hf10_0⟩ := hq
          have hF10 := Fr_tr hF9 hf10 (by decide)
          have h11 : rg 1 3 (i10 14 6) := hf10_0
          refine r_puti X hT hS 3 12 pk_3_96 rfl rfl rfl rfl (by decide) dX3_takeHead_50 (fun H locs i12 ei12 hT hS => ?_)
          have hR12 := Rg_put hR10 ei12 (-2147483648) 2147483647 rfl (rg_k (by decide) : rg (-1) (-1) (-1)) (by decide)
          have hF12 := Fr_puti hF10 ei12 (by decide)
          refine lv_aload_n hx hb dX3_takeHead_53 rfl (lv_at hl 0 rfl) ?_
          refine r_geti X hT 14 6 fk_3_28 rfl rfl (by decide) dX3_takeHead_54 ?_
          have e13 : (i12 14 6) = (i10 14 6) := (z_j ei12 rfl (by decide))
          have h14 : rg 1 3 (i12 14 6) := rg_of e13 h11
          refine lv_if_ne (tgt := 64) hx hb dX3_takeHead_57 (by decide) (fun c15 => ?_) (fun c15 => (x_eq h14 (rg_k (by decide) : rg 0 0 0) (i_eq c15) (by decide)).elim)
          have q15 : ¬ (i12 14 6).toInt = 0 := i_ne c15
          refine lv_iconst (v := 0) hx hb dX3_takeHead_64 (by decide) ?_
          exact hret 0 _ _ _ _ _ _ dX3_takeHead_65 hT hS ⟨hR12, hF12, (rg_w (rg_k (by decide) : rg 0 0 0) (by decide) : rg 0 1 0)⟩
        ·
          obtain ⟨hR10, hf10, hf10_0, hf10_1, hf10_2⟩ := hq
          have hF10 := Fr_tr hF9 hf10 (by decide)
          have e16 : (i9 14 6) = (i7 14 6) := (z_j ei9 rfl (by decide))
          have h17 : rg 1 3 (i9 14 6) := rg_of e16 h8
          exact (x_eq h17 (show rg 0 0 (i9 14 6) from hf10_0) rfl (by decide)).elim
      ·
        obtain ⟨hR7, hf7, hf7_0, hf7_1, hf7_2⟩ := hq
        have hF7 := Fr_tr hF6 hf7 (by decide)
        have e18 : (i6 14 6) = (i4 14 6) := (z_j ei6 rfl (by decide))
        have h19 : rg 1 3 (i6 14 6) := rg_of e18 h5
        exact (x_eq h19 (show rg 0 0 (i6 14 6) from hf7_0) rfl (by decide)).elim
    ·
      obtain ⟨hR4, hf4, hf4_0, hf4_1, hf4_2⟩ := hq
      have hF4 := Fr_tr hF1 hf4 (by decide)
      have h20 : rg 0 0 (i4 14 6) := hf4_1
      replace hf4_2 : 1 ≤ r4.toInt ∧ r4.toInt ≤ 12 := hf4_2
      have h21 : rg 1 12 r4 := ⟨by omega, by omega⟩
      refine r_puti X hT hS 3 10 pk_3_88 rfl rfl rfl rfl (by decide) dX3_takeHead_19 (fun H locs i22 ei22 hT hS => ?_)
      have hR22 := Rg_put hR4 ei22 (-1) 12 rfl h21 (by decide)
      have hF22 := Fr_puti hF4 ei22 (by decide)
      refine lv_aload_n hx hb dX3_takeHead_22 rfl (lv_at hl 0 rfl) ?_
      refine r_getr X hT 14 1 3 fk_3_19 rfl rfl (by decide) dX3_takeHead_23 ?_
      refine lv_aload_n hx hb dX3_takeHead_26 rfl (lv_at hl 0 rfl) ?_
      refine va_ldcS hx hb X.2.2.2.1 Y.s2 dX3_takeHead_27 ?_
      refine lv_iconst (v := 0) hx hb dX3_takeHead_29 (by decide) ?_
      refine lv_iconst (v := 3) hx hb dX3_takeHead_30 (by decide) ?_
      refine e_Vi (As := [.ref (z.1 2), .int 0, .int 3]) (rest := [.ref (h 3)]) X Y hT hS (m_X3_takeNamed hR22 2 (by decide) (0) (3)) mk_X3_takeNamed gm_601 rfl rfl (by decide) hd_X3_takeNamed ⟨rfl, rfl⟩ ⟨Nat.le_of_ble_eq_true rfl, Nat.le_of_ble_eq_true rfl⟩ hl.1 rfl (Nat.le_of_ble_eq_true rfl) dX3_takeHead_31 ⟨Nat.zero_le _, Nat.zero_le _⟩ (fun r23 i23 g23 H locs hq hT hS => ?_)
      rcases hq with hq | hq
      ·
        obtain ⟨hR23, hf23, rfl, hf23_0⟩ := hq
        have hF23 := Fr_tr hF22 hf23 (by decide)
        have h24 : rg 1 3 (i23 14 6) := hf23_0
        refine r_puti X hT hS 3 11 pk_3_92 rfl rfl rfl rfl (by decide) dX3_takeHead_34 (fun H locs i25 ei25 hT hS => ?_)
        have hR25 := Rg_put hR23 ei25 (-2147483648) 2147483647 rfl (rg_k (by decide) : rg (-1) (-1) (-1)) (by decide)
        have hF25 := Fr_puti hF23 ei25 (by decide)
        refine lv_aload_n hx hb dX3_takeHead_37 rfl (lv_at hl 0 rfl) ?_
        refine r_getr X hT 14 1 3 fk_3_19 rfl rfl (by decide) dX3_takeHead_38 ?_
        refine lv_aload_n hx hb dX3_takeHead_41 rfl (lv_at hl 0 rfl) ?_
        refine va_ldcS hx hb X.2.2.2.1 Y.s3 dX3_takeHead_42 ?_
        refine lv_iconst (v := 0) hx hb dX3_takeHead_44 (by decide) ?_
        refine lv_bipush (v := 10) hx hb dX3_takeHead_45 (by decide) ?_
        refine e_Vi (As := [.ref (z.1 3), .int 0, .int 10]) (rest := [.ref (h 3)]) X Y hT hS (m_X3_takeNamed hR25 3 (by decide) (0) (10)) mk_X3_takeNamed gm_601 rfl rfl (by decide) hd_X3_takeNamed ⟨rfl, rfl⟩ ⟨Nat.le_of_ble_eq_true rfl, Nat.le_of_ble_eq_true rfl⟩ hl.1 rfl (Nat.le_of_ble_eq_true rfl) dX3_takeHead_47 ⟨Nat.zero_le _, Nat.zero_le _⟩ (fun r26 i26 g26 H locs hq hT hS => ?_)
        rcases hq with hq | hq
        ·
          obtain ⟨hR26, hf26, rfl, hf26_0⟩ := hq
          have hF26 := Fr_tr hF25 hf26 (by decide)
          have h27 : rg 1 3 (i26 14 6) := hf26_0
          refine r_puti X hT hS 3 12 pk_3_96 rfl rfl rfl rfl (by decide) dX3_takeHead_50 (fun H locs i28 ei28 hT hS => ?_)
          have hR28 := Rg_put hR26 ei28 (-2147483648) 2147483647 rfl (rg_k (by decide) : rg (-1) (-1) (-1)) (by decide)
          have hF28 := Fr_puti hF26 ei28 (by decide)
          refine lv_aload_n hx hb dX3_takeHead_53 rfl (lv_at hl 0 rfl) ?_
          refine r_geti X hT 14 6 fk_3_28 rfl rfl (by decide) dX3_takeHead_54 ?_
          have e29 : (i28 14 6) = (i26 14 6) := (z_j ei28 rfl (by decide))
          have h30 : rg 1 3 (i28 14 6) := rg_of e29 h27
          refine lv_if_ne (tgt := 64) hx hb dX3_takeHead_57 (by decide) (fun c31 => ?_) (fun c31 => (x_eq h30 (rg_k (by decide) : rg 0 0 0) (i_eq c31) (by decide)).elim)
          have q31 : ¬ (i28 14 6).toInt = 0 := i_ne c31
          refine lv_iconst (v := 0) hx hb dX3_takeHead_64 (by decide) ?_
          exact hret 0 _ _ _ _ _ _ dX3_takeHead_65 hT hS ⟨hR28, hF28, (rg_w (rg_k (by decide) : rg 0 0 0) (by decide) : rg 0 1 0)⟩
        ·
          obtain ⟨hR26, hf26, hf26_0, hf26_1, hf26_2⟩ := hq
          have hF26 := Fr_tr hF25 hf26 (by decide)
          have e32 : (i25 14 6) = (i23 14 6) := (z_j ei25 rfl (by decide))
          have h33 : rg 1 3 (i25 14 6) := rg_of e32 h24
          exact (x_eq h33 (show rg 0 0 (i25 14 6) from hf26_0) rfl (by decide)).elim
      ·
        obtain ⟨hR23, hf23, hf23_0, hf23_1, hf23_2⟩ := hq
        have hF23 := Fr_tr hF22 hf23 (by decide)
        have e34 : (i22 14 6) = (i4 14 6) := (z_j ei22 rfl (by decide))
        have h35 : rg 0 0 (i22 14 6) := rg_of e34 h20
        have h36 : rg 0 0 (i23 14 6) := hf23_1
        replace hf23_2 : 0 ≤ r23.toInt ∧ r23.toInt ≤ 3 := hf23_2
        have h37 : rg 0 3 r23 := ⟨by omega, by omega⟩
        refine r_puti X hT hS 3 11 pk_3_92 rfl rfl rfl rfl (by decide) dX3_takeHead_34 (fun H locs i38 ei38 hT hS => ?_)
        have hR38 := Rg_put hR23 ei38 (-2147483648) 2147483647 rfl h37 (by decide)
        have hF38 := Fr_puti hF23 ei38 (by decide)
        refine lv_aload_n hx hb dX3_takeHead_37 rfl (lv_at hl 0 rfl) ?_
        refine r_getr X hT 14 1 3 fk_3_19 rfl rfl (by decide) dX3_takeHead_38 ?_
        refine lv_aload_n hx hb dX3_takeHead_41 rfl (lv_at hl 0 rfl) ?_
        refine va_ldcS hx hb X.2.2.2.1 Y.s3 dX3_takeHead_42 ?_
        refine lv_iconst (v := 0) hx hb dX3_takeHead_44 (by decide) ?_
        refine lv_bipush (v := 10) hx hb dX3_takeHead_45 (by decide) ?_
        refine e_Vi (As := [.ref (z.1 3), .int 0, .int 10]) (rest := [.ref (h 3)]) X Y hT hS (m_X3_takeNamed hR38 3 (by decide) (0) (10)) mk_X3_takeNamed gm_601 rfl rfl (by decide) hd_X3_takeNamed ⟨rfl, rfl⟩ ⟨Nat.le_of_ble_eq_true rfl, Nat.le_of_ble_eq_true rfl⟩ hl.1 rfl (Nat.le_of_ble_eq_true rfl) dX3_takeHead_47 ⟨Nat.zero_le _, Nat.zero_le _⟩ (fun r39 i39 g39 H locs hq hT hS => ?_)
        rcases hq with hq | hq
        ·
          obtain ⟨hR39, hf39, rfl, hf39_0⟩ := hq
          have hF39 := Fr_tr hF38 hf39 (by decide)
          have h40 : rg 1 3 (i39 14 6) := hf39_0
          refine r_puti X hT hS 3 12 pk_3_96 rfl rfl rfl rfl (by decide) dX3_takeHead_50 (fun H locs i41 ei41 hT hS => ?_)
          have hR41 := Rg_put hR39 ei41 (-2147483648) 2147483647 rfl (rg_k (by decide) : rg (-1) (-1) (-1)) (by decide)
          have hF41 := Fr_puti hF39 ei41 (by decide)
          refine lv_aload_n hx hb dX3_takeHead_53 rfl (lv_at hl 0 rfl) ?_
          refine r_geti X hT 14 6 fk_3_28 rfl rfl (by decide) dX3_takeHead_54 ?_
          have e42 : (i41 14 6) = (i39 14 6) := (z_j ei41 rfl (by decide))
          have h43 : rg 1 3 (i41 14 6) := rg_of e42 h40
          refine lv_if_ne (tgt := 64) hx hb dX3_takeHead_57 (by decide) (fun c44 => ?_) (fun c44 => (x_eq h43 (rg_k (by decide) : rg 0 0 0) (i_eq c44) (by decide)).elim)
          have q44 : ¬ (i41 14 6).toInt = 0 := i_ne c44
          refine lv_iconst (v := 0) hx hb dX3_takeHead_64 (by decide) ?_
          exact hret 0 _ _ _ _ _ _ dX3_takeHead_65 hT hS ⟨hR41, hF41, (rg_w (rg_k (by decide) : rg 0 0 0) (by decide) : rg 0 1 0)⟩
        ·
          obtain ⟨hR39, hf39, hf39_0, hf39_1, hf39_2⟩ := hq
          have hF39 := Fr_tr hF38 hf39 (by decide)
          have e45 : (i38 14 6) = (i23 14 6) := (z_j ei38 rfl (by decide))
          have h46 : rg 0 0 (i38 14 6) := rg_of e45 h36
          have h47 : rg 0 0 (i39 14 6) := hf39_1
          replace hf39_2 : 0 ≤ r39.toInt ∧ r39.toInt ≤ 10 := hf39_2
          have h48 : rg 0 10 r39 := ⟨by omega, by omega⟩
          refine r_puti X hT hS 3 12 pk_3_96 rfl rfl rfl rfl (by decide) dX3_takeHead_50 (fun H locs i49 ei49 hT hS => ?_)
          have hR49 := Rg_put hR39 ei49 (-2147483648) 2147483647 rfl h48 (by decide)
          have hF49 := Fr_puti hF39 ei49 (by decide)
          refine lv_aload_n hx hb dX3_takeHead_53 rfl (lv_at hl 0 rfl) ?_
          refine r_geti X hT 14 6 fk_3_28 rfl rfl (by decide) dX3_takeHead_54 ?_
          have e50 : (i49 14 6) = (i39 14 6) := (z_j ei49 rfl (by decide))
          have h51 : rg 0 0 (i49 14 6) := rg_of e50 h47
          refine lv_if_ne (tgt := 64) hx hb dX3_takeHead_57 (by decide) (fun c52 => (x_ne h51 (rg_k (by decide) : rg 0 0 0) (i_ne c52) (by decide)).elim) (fun c52 => ?_)
          have q52 : (i49 14 6).toInt = 0 := i_eq c52
          refine lv_iconst (v := 1) hx hb dX3_takeHead_60 (by decide) ?_
          refine lv_goto (tgt := 65) hx hb dX3_takeHead_61 (by decide) ?_
          exact hret 1 _ _ _ _ _ _ dX3_takeHead_65 hT hS ⟨hR49, hF49, (rg_w (rg_k (by decide) : rg 1 1 1) (by decide) : rg 0 1 1)⟩
  ·
    obtain ⟨hR1, hf1, hf1_0⟩ := hq
    have hF1 := Fr_tr hF hf1 (by decide)
    have h53 : rg 1 3 (i1 14 6) := hf1_0
    refine lv_aload_n hx hb dX3_takeHead_6 rfl (lv_at hl 0 rfl) ?_
    refine r_getr X hT 14 1 3 fk_3_19 rfl rfl (by decide) dX3_takeHead_7 ?_
    refine lv_aload_n hx hb dX3_takeHead_10 rfl (lv_at hl 0 rfl) ?_
    refine va_ldcS hx hb X.2.2.2.1 Y.s1 dX3_takeHead_11 ?_
    refine lv_iconst (v := 1) hx hb dX3_takeHead_13 (by decide) ?_
    refine lv_bipush (v := 12) hx hb dX3_takeHead_14 (by decide) ?_
    refine e_Vi (As := [.ref (z.1 1), .int 1, .int 12]) (rest := [.ref (h 3)]) X Y hT hS (m_X3_takeNamed hR1 1 (by decide) (1) (12)) mk_X3_takeNamed gm_601 rfl rfl (by decide) hd_X3_takeNamed ⟨rfl, rfl⟩ ⟨Nat.le_of_ble_eq_true rfl, Nat.le_of_ble_eq_true rfl⟩ hl.1 rfl (Nat.le_of_ble_eq_true rfl) dX3_takeHead_16 ⟨Nat.zero_le _, Nat.zero_le _⟩ (fun r54 i54 g54 H locs hq hT hS => ?_)
    rcases hq with hq | hq
    ·
      obtain ⟨hR54, hf54, rfl, hf54_0⟩ := hq
      have hF54 := Fr_tr hF1 hf54 (by decide)
      have h55 : rg 1 3 (i54 14 6) := hf54_0
      refine r_puti X hT hS 3 10 pk_3_88 rfl rfl rfl rfl (by decide) dX3_takeHead_19 (fun H locs i56 ei56 hT hS => ?_)
      have hR56 := Rg_put hR54 ei56 (-1) 12 rfl (rg_k (by decide) : rg (-1) (-1) (-1)) (by decide)
      have hF56 := Fr_puti hF54 ei56 (by decide)
      refine lv_aload_n hx hb dX3_takeHead_22 rfl (lv_at hl 0 rfl) ?_
      refine r_getr X hT 14 1 3 fk_3_19 rfl rfl (by decide) dX3_takeHead_23 ?_
      refine lv_aload_n hx hb dX3_takeHead_26 rfl (lv_at hl 0 rfl) ?_
      refine va_ldcS hx hb X.2.2.2.1 Y.s2 dX3_takeHead_27 ?_
      refine lv_iconst (v := 0) hx hb dX3_takeHead_29 (by decide) ?_
      refine lv_iconst (v := 3) hx hb dX3_takeHead_30 (by decide) ?_
      refine e_Vi (As := [.ref (z.1 2), .int 0, .int 3]) (rest := [.ref (h 3)]) X Y hT hS (m_X3_takeNamed hR56 2 (by decide) (0) (3)) mk_X3_takeNamed gm_601 rfl rfl (by decide) hd_X3_takeNamed ⟨rfl, rfl⟩ ⟨Nat.le_of_ble_eq_true rfl, Nat.le_of_ble_eq_true rfl⟩ hl.1 rfl (Nat.le_of_ble_eq_true rfl) dX3_takeHead_31 ⟨Nat.zero_le _, Nat.zero_le _⟩ (fun r57 i57 g57 H locs hq hT hS => ?_)
      rcases hq with hq | hq
      ·
        obtain ⟨hR57, hf57, rfl, hf57_0⟩ := hq
        have hF57 := Fr_tr hF56 hf57 (by decide)
        have h58 : rg 1 3 (i57 14 6) := hf57_0
        refine r_puti X hT hS 3 11 pk_3_92 rfl rfl rfl rfl (by decide) dX3_takeHead_34 (fun H locs i59 ei59 hT hS => ?_)
        have hR59 := Rg_put hR57 ei59 (-2147483648) 2147483647 rfl (rg_k (by decide) : rg (-1) (-1) (-1)) (by decide)
        have hF59 := Fr_puti hF57 ei59 (by decide)
        refine lv_aload_n hx hb dX3_takeHead_37 rfl (lv_at hl 0 rfl) ?_
        refine r_getr X hT 14 1 3 fk_3_19 rfl rfl (by decide) dX3_takeHead_38 ?_
        refine lv_aload_n hx hb dX3_takeHead_41 rfl (lv_at hl 0 rfl) ?_
        refine va_ldcS hx hb X.2.2.2.1 Y.s3 dX3_takeHead_42 ?_
        refine lv_iconst (v := 0) hx hb dX3_takeHead_44 (by decide) ?_
        refine lv_bipush (v := 10) hx hb dX3_takeHead_45 (by decide) ?_
        refine e_Vi (As := [.ref (z.1 3), .int 0, .int 10]) (rest := [.ref (h 3)]) X Y hT hS (m_X3_takeNamed hR59 3 (by decide) (0) (10)) mk_X3_takeNamed gm_601 rfl rfl (by decide) hd_X3_takeNamed ⟨rfl, rfl⟩ ⟨Nat.le_of_ble_eq_true rfl, Nat.le_of_ble_eq_true rfl⟩ hl.1 rfl (Nat.le_of_ble_eq_true rfl) dX3_takeHead_47 ⟨Nat.zero_le _, Nat.zero_le _⟩ (fun r60 i60 g60 H locs hq hT hS => ?_)
        rcases hq with hq | hq
        ·
          obtain ⟨hR60, hf60, rfl, hf60_0⟩ := hq
          have hF60 := Fr_tr hF59 hf60 (by decide)
          have h61 : rg 1 3 (i60 14 6) := hf60_0
          refine r_puti X hT hS 3 12 pk_3_96 rfl rfl rfl rfl (by decide) dX3_takeHead_50 (fun H locs i62 ei62 hT hS => ?_)
          have hR62 := Rg_put hR60 ei62 (-2147483648) 2147483647 rfl (rg_k (by decide) : rg (-1) (-1) (-1)) (by decide)
          have hF62 := Fr_puti hF60 ei62 (by decide)
          refine lv_aload_n hx hb dX3_takeHead_53 rfl (lv_at hl 0 rfl) ?_
          refine r_geti X hT 14 6 fk_3_28 rfl rfl (by decide) dX3_takeHead_54 ?_
          have e63 : (i62 14 6) = (i60 14 6) := (z_j ei62 rfl (by decide))
          have h64 : rg 1 3 (i62 14 6) := rg_of e63 h61
          refine lv_if_ne (tgt := 64) hx hb dX3_takeHead_57 (by decide) (fun c65 => ?_) (fun c65 => (x_eq h64 (rg_k (by decide) : rg 0 0 0) (i_eq c65) (by decide)).elim)
          have q65 : ¬ (i62 14 6).toInt = 0 := i_ne c65
          refine lv_iconst (v := 0) hx hb dX3_takeHead_64 (by decide) ?_
          exact hret 0 _ _ _ _ _ _ dX3_takeHead_65 hT hS ⟨hR62, hF62, (rg_w (rg_k (by decide) : rg 0 0 0) (by decide) : rg 0 1 0)⟩
        ·
          obtain ⟨hR60, hf60, hf60_0, hf60_1, hf60_2⟩ := hq
          have hF60 := Fr_tr hF59 hf60 (by decide)
          have e66 : (i59 14 6) = (i57 14 6) := (z_j ei59 rfl (by decide))
          have h67 : rg 1 3 (i59 14 6) := rg_of e66 h58
          exact (x_eq h67 (show rg 0 0 (i59 14 6) from hf60_0) rfl (by decide)).elim
      ·
        obtain ⟨hR57, hf57, hf57_0, hf57_1, hf57_2⟩ := hq
        have hF57 := Fr_tr hF56 hf57 (by decide)
        have e68 : (i56 14 6) = (i54 14 6) := (z_j ei56 rfl (by decide))
        have h69 : rg 1 3 (i56 14 6) := rg_of e68 h55
        exact (x_eq h69 (show rg 0 0 (i56 14 6) from hf57_0) rfl (by decide)).elim
    ·
      obtain ⟨hR54, hf54, hf54_0, hf54_1, hf54_2⟩ := hq
      have hF54 := Fr_tr hF1 hf54 (by decide)
      exact (x_eq h53 (show rg 0 0 (i1 14 6) from hf54_0) rfl (by decide)).elim
set_option maxRecDepth 100000 in
set_option maxHeartbeats 4000000 in
theorem m_X3_takeSign_14 {l : Launch} {D : va_G} {h : Nat → Nat} {cz : Nat → ClassId} {z : EZ} {i : Nat → Nat → Int32} {g : Nat → Nat → Int64} (hR : Rg rA i) : DtI l yX3_takeSign cX3_takeSign 1 (some .boolean) ({ frames := 2, cells := 0, slots := 0, locals := 62 } : Room) D h cz z i g [.ref (h 14)] (fun r u => Rg rA u.1 ∧ Fr [14] [] i g u ∧ rg 0 1 r) := by
  refine e_Z (fun v u hq => (z01 hq.2.2)) pn_X3_takeSign (Nat.le_of_ble_eq_true rfl) ?_
  intro p e s m args below meth c ls Q X Y hret hT hl hS
  have hx := X.1
  have hb := X.2.1
  have hl : lv_has ls 1 [(0, .ref (h 14))] := hl
  have hF : Fr [14] [] i g (i, g) := Fr_rf _ _ _ _
  refine lv_aload_n hx hb dX3_takeSign_0 rfl (lv_at hl 0 rfl) ?_
  refine r_geti X hT 14 2 fk_3_37 rfl rfl (by decide) dX3_takeSign_1 ?_
  refine lv_iconst (v := 3) hx hb dX3_takeSign_4 (by decide) ?_
  refine lv_icmp_eq (tgt := 14) hx hb dX3_takeSign_5 (by decide) (fun c1 => ?_) (fun c1 => ?_)
  ·
    have q1 : (i 14 2).toInt = 3 := i_eq c1
    have h2 : rg 3 3 (i 14 2) := t_eqx 3 3 (rg_top (i 14 2)) (rg_k (by decide) : rg 3 3 3) (i_eq c1) (by decide)
    refine lv_aload_n hx hb dX3_takeSign_14 rfl (lv_at hl 0 rfl) ?_
    refine e_Vv (As := []) (rest := []) X Y hT hS (m_X3_advance hR) mk_X3_advance gm_517 rfl rfl (by decide) hd_X3_advance ⟨rfl, rfl⟩ ⟨Nat.le_of_ble_eq_true rfl, Nat.le_of_ble_eq_true rfl⟩ hl.1 rfl (Nat.le_of_ble_eq_true rfl) dX3_takeSign_15 ⟨Nat.zero_le _, Nat.zero_le _⟩ (fun i3 g3 H locs hq hT hS => ?_)
    obtain ⟨hR3, hf3, hf3_0⟩ := hq
    have hF3 := Fr_tr hF hf3 (by decide)
    refine lv_iconst (v := 1) hx hb dX3_takeSign_18 (by decide) ?_
    exact hret 1 _ _ _ _ _ _ dX3_takeSign_19 hT hS ⟨hR3, hF3, (rg_w (rg_k (by decide) : rg 1 1 1) (by decide) : rg 0 1 1)⟩
  ·
    have q1 : ¬ (i 14 2).toInt = 3 := i_ne c1
    refine lv_aload_n hx hb dX3_takeSign_8 rfl (lv_at hl 0 rfl) ?_
    refine lv_iconst (v := 1) hx hb dX3_takeSign_9 (by decide) ?_
    refine e_Vi (As := [.int 1]) (rest := []) X Y hT hS (m_X3_refuse hR (1) (rg_w (rg_k (by decide) : rg 1 1 1) (by decide) : rg 1 3 1)) mk_X3_refuse gm_596 rfl rfl (by decide) hd_X3_refuse ⟨rfl, rfl⟩ ⟨Nat.le_of_ble_eq_true rfl, Nat.le_of_ble_eq_true rfl⟩ hl.1 rfl (Nat.le_of_ble_eq_true rfl) dX3_takeSign_10 ⟨Nat.zero_le _, Nat.zero_le _⟩ (fun r4 i4 g4 H locs hq hT hS => ?_)
    obtain ⟨hR4, hf4, rfl, hf4_0⟩ := hq
    have hF4 := Fr_tr hF hf4 (by decide)
    have h5 : rg 1 3 (i4 14 6) := hf4_0
    exact hret 0 _ _ _ _ _ _ dX3_takeSign_13 hT hS ⟨hR4, hF4, (rg_w (rg_k (by decide) : rg 0 0 0) (by decide) : rg 0 1 0)⟩
set_option maxRecDepth 100000 in
set_option maxHeartbeats 4000000 in
theorem m_X3_takeLine_14 {l : Launch} {D : va_G} {h : Nat → Nat} {cz : Nat → ClassId} {z : EZ} {i : Nat → Nat → Int32} {g : Nat → Nat → Int64} (hR : Rg rA i) : DtI l yX3_takeLine cX3_takeLine 2 (some .boolean) ({ frames := 8, cells := 0, slots := 0, locals := 174 } : Room) D h cz z i g [.ref (h 14)] (fun r u => Rg rA u.1 ∧ Fr [3, 4, 5, 6, 7, 8, 9, 10, 14] [] i g u ∧ rg 0 1 r) := by
  refine e_Z (fun v u hq => (z01 hq.2.2)) pn_X3_takeLine (Nat.le_of_ble_eq_true rfl) ?_
  intro p e s m args below meth c ls Q X Y hret hT hl hS
  have hx := X.1
  have hb := X.2.1
  have hl : lv_has ls 2 [(0, .ref (h 14))] := hl
  have hF : Fr [3, 4, 5, 6, 7, 8, 9, 10, 14] [] i g (i, g) := Fr_rf _ _ _ _
  refine lv_aload_n hx hb dX3_takeLine_0 rfl (lv_at hl 0 rfl) ?_
  refine r_getr X hT 14 1 3 fk_3_19 rfl rfl (by decide) dX3_takeLine_1 ?_
  refine r_geti X hT 3 17 fk_3_44 rfl rfl (by decide) dX3_takeLine_4 ?_
  have J75_2 : ∀ (x75_2_1 : Int32) (i3 : Nat → Nat → Int32) (g3 : Nat → Nat → Int64) (H : Heap) (locs : List Loc) (ls : Array Slot), rg 0 1 x75_2_1 → Rg rA i3 → Fr [3, 4, 5, 6, 7, 8, 9, 10, 14] [] i g (i3, g3) → TH D h cz i3 g3 H → va_S (hA h) s.heap H locs → lv_has ls 2 [(0, .ref (h 14)), (1, .int x75_2_1)] → W p l e ({ frames := 8, cells := 0, slots := 0, locals := 174 } : Room) s m args below meth c H locs 0 0 Q (F0 m 75 ls []) := by
    intro x75_2_1 i3 g3 H locs ls hhx75_2_1 hR3 hF3 hT hS hl
    refine lv_iload_n hx hb dX3_takeLine_75 rfl (lv_at hl 1 rfl) ?_
    refine lv_if_eq (tgt := 90) hx hb dX3_takeLine_76 (by decide) (fun c4 => ?_) (fun c4 => ?_)
    ·
      have q4 : x75_2_1.toInt = 0 := i_eq c4
      have h5 : rg 0 0 x75_2_1 := t_eqx 0 0 hhx75_2_1 (rg_k (by decide) : rg 0 0 0) (i_eq c4) (by decide)
      refine lv_iconst (v := 0) hx hb dX3_takeLine_90 (by decide) ?_
      exact hret 0 _ _ _ _ _ _ dX3_takeLine_91 hT hS ⟨hR3, hF3, (rg_w (rg_k (by decide) : rg 0 0 0) (by decide) : rg 0 1 0)⟩
    ·
      have q4 : ¬ x75_2_1.toInt = 0 := i_ne c4
      have h6 : rg 1 1 x75_2_1 := t_nelo 1 hhx75_2_1 (rg_k (by decide) : rg 0 0 0) (i_ne c4) (by decide)
      refine lv_aload_n hx hb dX3_takeLine_79 rfl (lv_at hl 0 rfl) ?_
      refine e_Vi (As := []) (rest := []) X Y hT hS (m_X3_takeSign_14 hR3) mk_X3_takeSign gm_646 rfl rfl (by decide) hd_X3_takeSign ⟨rfl, rfl⟩ ⟨Nat.le_of_ble_eq_true rfl, Nat.le_of_ble_eq_true rfl⟩ hl.1 rfl (Nat.le_of_ble_eq_true rfl) dX3_takeLine_80 ⟨Nat.zero_le _, Nat.zero_le _⟩ (fun r7 i7 g7 H locs hq hT hS => ?_)
      obtain ⟨hR7, hf7, hr7⟩ := hq
      have hF7 := Fr_tr hF3 hf7 (by decide)
      refine lv_if_eq (tgt := 90) hx hb dX3_takeLine_83 (by decide) (fun c8 => ?_) (fun c8 => ?_)
      ·
        have q8 : r7.toInt = 0 := i_eq c8
        have h9 : rg 0 0 r7 := t_eqx 0 0 hr7 (rg_k (by decide) : rg 0 0 0) (i_eq c8) (by decide)
        refine lv_iconst (v := 0) hx hb dX3_takeLine_90 (by decide) ?_
        exact hret 0 _ _ _ _ _ _ dX3_takeLine_91 hT hS ⟨hR7, hF7, (rg_w (rg_k (by decide) : rg 0 0 0) (by decide) : rg 0 1 0)⟩
      ·
        have q8 : ¬ r7.toInt = 0 := i_ne c8
        have h10 : rg 1 1 r7 := t_nelo 1 hr7 (rg_k (by decide) : rg 0 0 0) (i_ne c8) (by decide)
        refine lv_iconst (v := 1) hx hb dX3_takeLine_86 (by decide) ?_
        refine lv_goto (tgt := 91) hx hb dX3_takeLine_87 (by decide) ?_
        exact hret 1 _ _ _ _ _ _ dX3_takeLine_91 hT hS ⟨hR7, hF7, (rg_w (rg_k (by decide) : rg 1 1 1) (by decide) : rg 0 1 1)⟩
  refine lv_if_ne (tgt := 18) hx hb dX3_takeLine_7 (by decide) (fun c1 => ?_) (fun c1 => ?_)
  ·
    have q1 : ¬ (i 3 17).toInt = 0 := i_ne c1
    refine lv_aload_n hx hb dX3_takeLine_18 rfl (lv_at hl 0 rfl) ?_
    refine va_ldcS hx hb X.2.2.2.1 Y.s4 dX3_takeLine_19 ?_
    refine e_Vi (As := [.ref (z.1 4)]) (rest := []) X Y hT hS (m_X3_isWord hR 4 (by decide)) mk_X3_isWord gm_544 rfl rfl (by decide) hd_X3_isWord ⟨rfl, rfl⟩ ⟨Nat.le_of_ble_eq_true rfl, Nat.le_of_ble_eq_true rfl⟩ hl.1 rfl (Nat.le_of_ble_eq_true rfl) dX3_takeLine_21 ⟨Nat.zero_le _, Nat.zero_le _⟩ (fun r11 i11 g11 H locs hq hT hS => ?_)
    rcases hq with hq | hq
    ·
      obtain ⟨eh11, rfl, hf11_0⟩ := hq
      rw [(Prod.mk.inj eh11).1, (Prod.mk.inj eh11).2] at hT
      have h12 : rg 0 0 (i 14 6) := hf11_0
      refine lv_if_eq (tgt := 35) hx hb dX3_takeLine_24 (by decide) (fun c13 => (x_eq (rg_k (by decide) : rg 1 1 1) (rg_k (by decide) : rg 0 0 0) (i_eq c13) (by decide)).elim) (fun c13 => ?_)
      refine lv_aload_n hx hb dX3_takeLine_27 rfl (lv_at hl 0 rfl) ?_
      refine e_Vi (As := []) (rest := []) X Y hT hS (m_X3_takePart hR) mk_X3_takePart gm_612 rfl rfl (by decide) hd_X3_takePart ⟨rfl, rfl⟩ ⟨Nat.le_of_ble_eq_true rfl, Nat.le_of_ble_eq_true rfl⟩ hl.1 rfl (Nat.le_of_ble_eq_true rfl) dX3_takeLine_28 ⟨Nat.zero_le _, Nat.zero_le _⟩ (fun r14 i14 g14 H locs hq hT hS => ?_)
      obtain ⟨hR14, hf14, hr14⟩ := hq
      have hF14 := Fr_tr hF hf14 (by decide)
      refine lv_istore_n (lv' := [(1, .int r14), (0, .ref (h 14))]) hx hb dX3_takeLine_31 rfl hl (by decide) rfl (fun ls hl => ?_)
      refine lv_goto (tgt := 75) hx hb dX3_takeLine_32 (by decide) ?_
      exact J75_2 r14 i14 g14 _ _ _ hr14 hR14 hF14 hT hS (lv_sub hl [1, 0] rfl)
    ·
      obtain ⟨eh11, rfl⟩ := hq
      rw [(Prod.mk.inj eh11).1, (Prod.mk.inj eh11).2] at hT
      refine lv_if_eq (tgt := 35) hx hb dX3_takeLine_24 (by decide) (fun c15 => ?_) (fun c15 => (x_ne (rg_k (by decide) : rg 0 0 0) (rg_k (by decide) : rg 0 0 0) (i_ne c15) (by decide)).elim)
      refine lv_aload_n hx hb dX3_takeLine_35 rfl (lv_at hl 0 rfl) ?_
      refine va_ldcS hx hb X.2.2.2.1 Y.s8 dX3_takeLine_36 ?_
      refine e_Vi (As := [.ref (z.1 8)]) (rest := []) X Y hT hS (m_X3_isWord hR 8 (by decide)) mk_X3_isWord gm_544 rfl rfl (by decide) hd_X3_isWord ⟨rfl, rfl⟩ ⟨Nat.le_of_ble_eq_true rfl, Nat.le_of_ble_eq_true rfl⟩ hl.1 rfl (Nat.le_of_ble_eq_true rfl) dX3_takeLine_38 ⟨Nat.zero_le _, Nat.zero_le _⟩ (fun r16 i16 g16 H locs hq hT hS => ?_)
      rcases hq with hq | hq
      ·
        obtain ⟨eh16, rfl, hf16_0⟩ := hq
        rw [(Prod.mk.inj eh16).1, (Prod.mk.inj eh16).2] at hT
        have h17 : rg 0 0 (i 14 6) := hf16_0
        refine lv_if_eq (tgt := 52) hx hb dX3_takeLine_41 (by decide) (fun c18 => (x_eq (rg_k (by decide) : rg 1 1 1) (rg_k (by decide) : rg 0 0 0) (i_eq c18) (by decide)).elim) (fun c18 => ?_)
        refine lv_aload_n hx hb dX3_takeLine_44 rfl (lv_at hl 0 rfl) ?_
        refine e_Vi (As := []) (rest := []) X Y hT hS (m_X3_takeFold hR) mk_X3_takeFold gm_624 rfl rfl (by decide) hd_X3_takeFold ⟨rfl, rfl⟩ ⟨Nat.le_of_ble_eq_true rfl, Nat.le_of_ble_eq_true rfl⟩ hl.1 rfl (Nat.le_of_ble_eq_true rfl) dX3_takeLine_45 ⟨Nat.zero_le _, Nat.zero_le _⟩ (fun r19 i19 g19 H locs hq hT hS => ?_)
        obtain ⟨hR19, hf19, hr19⟩ := hq
        have hF19 := Fr_tr hF hf19 (by decide)
        refine lv_istore_n (lv' := [(1, .int r19), (0, .ref (h 14))]) hx hb dX3_takeLine_48 rfl hl (by decide) rfl (fun ls hl => ?_)
        refine lv_goto (tgt := 75) hx hb dX3_takeLine_49 (by decide) ?_
        exact J75_2 r19 i19 g19 _ _ _ hr19 hR19 hF19 hT hS (lv_sub hl [1, 0] rfl)
      ·
        obtain ⟨eh16, rfl⟩ := hq
        rw [(Prod.mk.inj eh16).1, (Prod.mk.inj eh16).2] at hT
        refine lv_if_eq (tgt := 52) hx hb dX3_takeLine_41 (by decide) (fun c20 => ?_) (fun c20 => (x_ne (rg_k (by decide) : rg 0 0 0) (rg_k (by decide) : rg 0 0 0) (i_ne c20) (by decide)).elim)
        refine lv_aload_n hx hb dX3_takeLine_52 rfl (lv_at hl 0 rfl) ?_
        refine va_ldcS hx hb X.2.2.2.1 Y.s9 dX3_takeLine_53 ?_
        refine e_Vi (As := [.ref (z.1 9)]) (rest := []) X Y hT hS (m_X3_isWord hR 9 (by decide)) mk_X3_isWord gm_544 rfl rfl (by decide) hd_X3_isWord ⟨rfl, rfl⟩ ⟨Nat.le_of_ble_eq_true rfl, Nat.le_of_ble_eq_true rfl⟩ hl.1 rfl (Nat.le_of_ble_eq_true rfl) dX3_takeLine_55 ⟨Nat.zero_le _, Nat.zero_le _⟩ (fun r21 i21 g21 H locs hq hT hS => ?_)
        rcases hq with hq | hq
        ·
          obtain ⟨eh21, rfl, hf21_0⟩ := hq
          rw [(Prod.mk.inj eh21).1, (Prod.mk.inj eh21).2] at hT
          have h22 : rg 0 0 (i 14 6) := hf21_0
          refine lv_if_eq (tgt := 69) hx hb dX3_takeLine_58 (by decide) (fun c23 => (x_eq (rg_k (by decide) : rg 1 1 1) (rg_k (by decide) : rg 0 0 0) (i_eq c23) (by decide)).elim) (fun c23 => ?_)
          refine lv_aload_n hx hb dX3_takeLine_61 rfl (lv_at hl 0 rfl) ?_
          refine e_Vi (As := []) (rest := []) X Y hT hS (m_X3_takeKnife hR) mk_X3_takeKnife gm_637 rfl rfl (by decide) hd_X3_takeKnife ⟨rfl, rfl⟩ ⟨Nat.le_of_ble_eq_true rfl, Nat.le_of_ble_eq_true rfl⟩ hl.1 rfl (Nat.le_of_ble_eq_true rfl) dX3_takeLine_62 ⟨Nat.zero_le _, Nat.zero_le _⟩ (fun r24 i24 g24 H locs hq hT hS => ?_)
          obtain ⟨hR24, hf24, hr24⟩ := hq
          have hF24 := Fr_tr hF hf24 (by decide)
          refine lv_istore_n (lv' := [(1, .int r24), (0, .ref (h 14))]) hx hb dX3_takeLine_65 rfl hl (by decide) rfl (fun ls hl => ?_)
          refine lv_goto (tgt := 75) hx hb dX3_takeLine_66 (by decide) ?_
          exact J75_2 r24 i24 g24 _ _ _ hr24 hR24 hF24 hT hS (lv_sub hl [1, 0] rfl)
        ·
          obtain ⟨eh21, rfl⟩ := hq
          rw [(Prod.mk.inj eh21).1, (Prod.mk.inj eh21).2] at hT
          refine lv_if_eq (tgt := 69) hx hb dX3_takeLine_58 (by decide) (fun c25 => ?_) (fun c25 => (x_ne (rg_k (by decide) : rg 0 0 0) (rg_k (by decide) : rg 0 0 0) (i_ne c25) (by decide)).elim)
          refine lv_aload_n hx hb dX3_takeLine_69 rfl (lv_at hl 0 rfl) ?_
          refine lv_iconst (v := 1) hx hb dX3_takeLine_70 (by decide) ?_
          refine e_Vi (As := [.int 1]) (rest := []) X Y hT hS (m_X3_refuse hR (1) (rg_w (rg_k (by decide) : rg 1 1 1) (by decide) : rg 1 3 1)) mk_X3_refuse gm_596 rfl rfl (by decide) hd_X3_refuse ⟨rfl, rfl⟩ ⟨Nat.le_of_ble_eq_true rfl, Nat.le_of_ble_eq_true rfl⟩ hl.1 rfl (Nat.le_of_ble_eq_true rfl) dX3_takeLine_71 ⟨Nat.zero_le _, Nat.zero_le _⟩ (fun r26 i26 g26 H locs hq hT hS => ?_)
          obtain ⟨hR26, hf26, rfl, hf26_0⟩ := hq
          have hF26 := Fr_tr hF hf26 (by decide)
          have h27 : rg 1 3 (i26 14 6) := hf26_0
          refine lv_istore_n (lv' := [(1, .int 0), (0, .ref (h 14))]) hx hb dX3_takeLine_74 rfl hl (by decide) rfl (fun ls hl => ?_)
          exact J75_2 (0) i26 g26 _ _ _ (rg_w (rg_k (by decide) : rg 0 0 0) (by decide) : rg 0 1 0) hR26 hF26 hT hS (lv_sub hl [1, 0] rfl)
  ·
    have q1 : (i 3 17).toInt = 0 := i_eq c1
    have h28 : rg 0 0 (i 3 17) := t_eqx 0 0 (rg_top (i 3 17)) (rg_k (by decide) : rg 0 0 0) (i_eq c1) (by decide)
    refine lv_aload_n hx hb dX3_takeLine_10 rfl (lv_at hl 0 rfl) ?_
    refine e_Vi (As := []) (rest := []) X Y hT hS (m_X3_takeHead hR) mk_X3_takeHead gm_535 rfl rfl (by decide) hd_X3_takeHead ⟨rfl, rfl⟩ ⟨Nat.le_of_ble_eq_true rfl, Nat.le_of_ble_eq_true rfl⟩ hl.1 rfl (Nat.le_of_ble_eq_true rfl) dX3_takeLine_11 ⟨Nat.zero_le _, Nat.zero_le _⟩ (fun r29 i29 g29 H locs hq hT hS => ?_)
    obtain ⟨hR29, hf29, hr29⟩ := hq
    have hF29 := Fr_tr hF hf29 (by decide)
    refine lv_istore_n (lv' := [(1, .int r29), (0, .ref (h 14))]) hx hb dX3_takeLine_14 rfl hl (by decide) rfl (fun ls hl => ?_)
    refine lv_goto (tgt := 75) hx hb dX3_takeLine_15 (by decide) ?_
    exact J75_2 r29 i29 g29 _ _ _ hr29 hR29 hF29 hT hS (lv_sub hl [1, 0] rfl)
set_option maxRecDepth 100000 in
set_option maxHeartbeats 4000000 in
theorem m_X3_parse_14 {l : Launch} {D : va_G} {h : Nat → Nat} {cz : Nat → ClassId} {z : EZ} {i : Nat → Nat → Int32} {g : Nat → Nat → Int64} (hR : Rg rA i) : DtI l yX3_parse cX3_parse 2 (some .boolean) ({ frames := 9, cells := 0, slots := 0, locals := 195 } : Room) D h cz z i g [.ref (h 14)] (fun r u => Rg rA u.1 ∧ Fr [3, 4, 5, 6, 7, 8, 9, 10, 14] [] i g u ∧ rg 0 1 r) := by
  refine e_Z (fun v u hq => (z01 hq.2.2)) pn_X3_parse (Nat.le_of_ble_eq_true rfl) ?_
  intro p e s m args below meth c ls Q X Y hret hT hl hS
  have hx := X.1
  have hb := X.2.1
  have hl : lv_has ls 2 [(0, .ref (h 14))] := hl
  have hF : Fr [3, 4, 5, 6, 7, 8, 9, 10, 14] [] i g (i, g) := Fr_rf _ _ _ _
  refine lv_aload_n hx hb dX3_parse_0 rfl (lv_at hl 0 rfl) ?_
  refine r_getr X hT 14 1 3 fk_3_19 rfl rfl (by decide) dX3_parse_1 ?_
  refine e_Vv (As := []) (rest := []) X Y hT hS (m_X6_clear_3 hR) mk_X6_clear gm_513 rfl rfl (by decide) hd_X6_clear ⟨rfl, rfl⟩ ⟨Nat.le_of_ble_eq_true rfl, Nat.le_of_ble_eq_true rfl⟩ hl.1 rfl (Nat.le_of_ble_eq_true rfl) dX3_parse_4 ⟨Nat.zero_le _, Nat.zero_le _⟩ (fun i1 g1 H locs hq hT hS => ?_)
  obtain ⟨hR1, hf1⟩ := hq
  have hF1 := Fr_tr hF hf1 (by decide)
  refine lv_aload_n hx hb dX3_parse_7 rfl (lv_at hl 0 rfl) ?_
  refine lv_iconst (v := 0) hx hb dX3_parse_8 (by decide) ?_
  refine r_puti X hT hS 14 6 pk_3_28 rfl rfl rfl rfl (by decide) dX3_parse_9 (fun H locs i2 ei2 hT hS => ?_)
  have hR2 := Rg_put hR1 ei2 0 3 rfl (rg_k (by decide) : rg 0 0 0) (by decide)
  have hF2 := Fr_puti hF1 ei2 (by decide)
  refine lv_aload_n hx hb dX3_parse_12 rfl (lv_at hl 0 rfl) ?_
  refine lv_iconst (v := (-1)) hx hb dX3_parse_13 (by decide) ?_
  refine r_puti X hT hS 14 7 pk_3_9 rfl rfl rfl rfl (by decide) dX3_parse_14 (fun H locs i3 ei3 hT hS => ?_)
  have hR3 := Rg_put hR2 ei3 (-2147483648) 2147483647 rfl (rg_k (by decide) : rg (-1) (-1) (-1)) (by decide)
  have hF3 := Fr_puti hF2 ei3 (by decide)
  refine lv_aload_n hx hb dX3_parse_17 rfl (lv_at hl 0 rfl) ?_
  refine lv_iconst (v := 0) hx hb dX3_parse_18 (by decide) ?_
  refine r_puti X hT hS 14 4 pk_3_31 rfl rfl rfl rfl (by decide) dX3_parse_19 (fun H locs i4 ei4 hT hS => ?_)
  have hR4 := Rg_put hR3 ei4 (-2147483648) 2147483647 rfl (rg_k (by decide) : rg 0 0 0) (by decide)
  have hF4 := Fr_puti hF3 ei4 (by decide)
  refine lv_aload_n hx hb dX3_parse_22 rfl (lv_at hl 0 rfl) ?_
  refine e_Vv (As := []) (rest := []) X Y hT hS (m_X3_advance hR4) mk_X3_advance gm_517 rfl rfl (by decide) hd_X3_advance ⟨rfl, rfl⟩ ⟨Nat.le_of_ble_eq_true rfl, Nat.le_of_ble_eq_true rfl⟩ hl.1 rfl (Nat.le_of_ble_eq_true rfl) dX3_parse_23 ⟨Nat.zero_le _, Nat.zero_le _⟩ (fun i5 g5 H locs hq hT hS => ?_)
  obtain ⟨hR5, hf5, hf5_0⟩ := hq
  have hF5 := Fr_tr hF4 hf5 (by decide)
  have e6 : (i4 14 6) = 0 := (z_k ei4 (z_k ei3 (z_s ei2) (by decide)) (by decide))
  have h7 : rg 0 0 (i4 14 6) := rg_of e6 (rg_k (by decide) : rg 0 0 0)
  refine lv_iconst (v := 0) hx hb dX3_parse_26 (by decide) ?_
  refine lv_istore_n (lv' := [(1, .int 0), (0, .ref (h 14))]) hx hb dX3_parse_27 rfl hl (by decide) rfl (fun ls hl => ?_)
  have L28_8 : ∀ (n10_ : Nat) (x28_1 : Int32) (i9 : Nat → Nat → Int32) (g9 : Nat → Nat → Int64) (H : Heap) (locs : List Loc) (ls : Array Slot), rg 0 700 x28_1 → Rg rA i9 → Fr [3, 4, 5, 6, 7, 8, 9, 10, 14] [] i g (i9, g9) → TH D h cz i9 g9 H → va_S (hA h) s.heap H locs → lv_has ls 2 [(0, .ref (h 14)), (1, .int x28_1)] → (700 - x28_1.toInt).toNat < n10_ → W p l e ({ frames := 9, cells := 0, slots := 0, locals := 195 } : Room) s m args below meth c H locs 0 0 Q (F0 m 28 ls []) := by
    intro n10_
    induction n10_ with
    | zero => intro x28_1 i9 g9 H locs ls hhx28_1 hR9 hF9 hT hS hl hm10_; exact absurd hm10_ (Nat.not_lt_zero _)
    | succ n10_ ih10_ =>
      intro x28_1 i9 g9 H locs ls hhx28_1 hR9 hF9 hT hS hl hm10_
      refine lv_iload_n hx hb dX3_parse_28 rfl (lv_at hl 1 rfl) ?_
      refine lv_sipush (v := 700) hx hb dX3_parse_29 (by decide) ?_
      refine lv_icmp_ge (tgt := 70) hx hb dX3_parse_32 (by decide) (fun c11 => ?_) (fun c11 => ?_)
      ·
        have q11 : 700 ≤ x28_1.toInt := i_le c11
        have h12 : rg 700 700 x28_1 := t_ley 700 700 (rg_k (by decide) : rg 700 700 700) hhx28_1 (i_le c11) (by decide)
        refine lv_iconst (v := 1) hx hb dX3_parse_70 (by decide) ?_
        exact hret 1 _ _ _ _ _ _ dX3_parse_71 hT hS ⟨hR9, hF9, (rg_w (rg_k (by decide) : rg 1 1 1) (by decide) : rg 0 1 1)⟩
      ·
        have q11 : x28_1.toInt < 700 := i_nle c11
        have h13 : rg 0 699 x28_1 := t_ltx 0 699 hhx28_1 (rg_k (by decide) : rg 700 700 700) (i_nle c11) (by decide)
        refine lv_aload_n hx hb dX3_parse_35 rfl (lv_at hl 0 rfl) ?_
        refine r_geti X hT 14 2 fk_3_37 rfl rfl (by decide) dX3_parse_36 ?_
        refine lv_if_eq (tgt := 70) hx hb dX3_parse_39 (by decide) (fun c14 => ?_) (fun c14 => ?_)
        ·
          have q14 : (i9 14 2).toInt = 0 := i_eq c14
          have h15 : rg 0 0 (i9 14 2) := t_eqx 0 0 (rg_top (i9 14 2)) (rg_k (by decide) : rg 0 0 0) (i_eq c14) (by decide)
          refine lv_iconst (v := 1) hx hb dX3_parse_70 (by decide) ?_
          exact hret 1 _ _ _ _ _ _ dX3_parse_71 hT hS ⟨hR9, hF9, (rg_w (rg_k (by decide) : rg 1 1 1) (by decide) : rg 0 1 1)⟩
        ·
          have q14 : ¬ (i9 14 2).toInt = 0 := i_ne c14
          refine lv_aload_n hx hb dX3_parse_42 rfl (lv_at hl 0 rfl) ?_
          refine e_Vi (As := []) (rest := []) X Y hT hS (m_X3_takeLine_14 hR9) mk_X3_takeLine gm_531 rfl rfl (by decide) hd_X3_takeLine ⟨rfl, rfl⟩ ⟨Nat.le_of_ble_eq_true rfl, Nat.le_of_ble_eq_true rfl⟩ hl.1 rfl (Nat.le_of_ble_eq_true rfl) dX3_parse_43 ⟨Nat.zero_le _, Nat.zero_le _⟩ (fun r16 i16 g16 H locs hq hT hS => ?_)
          obtain ⟨hR16, hf16, hr16⟩ := hq
          have hF16 := Fr_tr hF9 hf16 (by decide)
          refine lv_if_ne (tgt := 51) hx hb dX3_parse_46 (by decide) (fun c17 => ?_) (fun c17 => ?_)
          ·
            have q17 : ¬ r16.toInt = 0 := i_ne c17
            have h18 : rg 1 1 r16 := t_nelo 1 hr16 (rg_k (by decide) : rg 0 0 0) (i_ne c17) (by decide)
            refine lv_aload_n hx hb dX3_parse_51 rfl (lv_at hl 0 rfl) ?_
            refine r_getr X hT 14 1 3 fk_3_19 rfl rfl (by decide) dX3_parse_52 ?_
            refine lv_dup hx hb dX3_parse_55 rfl ?_
            refine r_geti X hT 3 17 fk_3_44 rfl rfl (by decide) dX3_parse_56 ?_
            refine lv_iconst (v := 1) hx hb dX3_parse_59 (by decide) ?_
            refine q_iadd hx hb dX3_parse_60 (fun x19 ex19 => ?_)
            refine r_puti X hT hS 3 17 pk_3_44 rfl rfl rfl rfl (by decide) dX3_parse_61 (fun H locs i20 ei20 hT hS => ?_)
            have hR20 := Rg_put hR16 ei20 (-2147483648) 2147483647 rfl (rg_top x19) (by decide)
            have hF20 := Fr_puti hF16 ei20 (by decide)
            obtain ⟨x21, ex21⟩ : ∃ y : Int32, y = x28_1 + 1 := ⟨_, rfl⟩
            refine lv_iinc (v := x21) (lv' := [(1, .int x21), (0, .ref (h 14))]) hx hb dX3_parse_64 hl (k := 1) rfl (by rw [ex21]; rfl) (by decide) rfl (fun ls hl => ?_)
            obtain ⟨hx21, ax21⟩ := rg_add 1 700 ex21 h13 (rg_k (by decide) : rg 1 1 1) (by decide)
            replace ax21 : x21.toInt = x28_1.toInt + 1 := ax21
            refine lv_goto (tgt := 28) hx hb dX3_parse_67 (by decide) ?_
            exact ih10_ x21 i20 g16 _ _ _ (rg_w hx21 (by decide) : rg 0 700 x21) hR20 hF20 hT hS (lv_sub hl [1, 0] rfl) (m_up ax21 hx21 (by decide) hm10_)
          ·
            have q17 : r16.toInt = 0 := i_eq c17
            have h22 : rg 0 0 r16 := t_eqx 0 0 hr16 (rg_k (by decide) : rg 0 0 0) (i_eq c17) (by decide)
            refine lv_iconst (v := 0) hx hb dX3_parse_49 (by decide) ?_
            exact hret 0 _ _ _ _ _ _ dX3_parse_50 hT hS ⟨hR16, hF16, (rg_w (rg_k (by decide) : rg 0 0 0) (by decide) : rg 0 1 0)⟩
  exact L28_8 _ (0) i5 g5 _ _ _ (rg_w (rg_k (by decide) : rg 0 0 0) (by decide) : rg 0 700 0) hR5 hF5 hT hS (lv_sub hl [1, 0] rfl) (Nat.lt_succ_self _)
set_option maxRecDepth 100000 in
set_option maxHeartbeats 4000000 in
theorem m_X6_become_15_3 {l : Launch} {D : va_G} {h : Nat → Nat} {cz : Nat → ClassId} {z : EZ} {i : Nat → Nat → Int32} {g : Nat → Nat → Int64} (hR : Rg rA i) : DtV l yX6_become cX6_become 2 none ({ frames := 1, cells := 0, slots := 0, locals := 40 } : Room) D h cz z i g [.ref (h 15), .ref (h 3)] (fun u => Rg rA u.1 ∧ Fr [15, 16, 17, 18, 19, 20, 21, 22, 23, 24, 25] [] i g u) := by
  refine e_V pn_X6_become (Nat.le_of_ble_eq_true rfl) ?_
  intro p e s m args below meth c ls Q X Y hret hT hl hS
  have hx := X.1
  have hb := X.2.1
  have hl : lv_has ls 2 [(0, .ref (h 15)), (1, .ref (h 3))] := hl
  have hF : Fr [15, 16, 17, 18, 19, 20, 21, 22, 23, 24, 25] [] i g (i, g) := Fr_rf _ _ _ _
  refine lv_aload_n hx hb dX6_become_0 rfl (lv_at hl 0 rfl) ?_
  refine lv_aload_n hx hb dX6_become_1 rfl (lv_at hl 1 rfl) ?_
  refine r_geti X hT 3 10 fk_6_42 rfl rfl (by decide) dX6_become_2 ?_
  refine r_puti X hT hS 15 10 pk_6_42 rfl rfl rfl rfl (by decide) dX6_become_5 (fun H locs i1 ei1 hT hS => ?_)
  have hR1 := Rg_put hR ei1 (-1) 12 rfl (Rg_at hR 3 10 (-1) 12 (by decide) rfl) (by decide)
  have hF1 := Fr_puti hF ei1 (by decide)
  refine lv_aload_n hx hb dX6_become_8 rfl (lv_at hl 0 rfl) ?_
  refine lv_aload_n hx hb dX6_become_9 rfl (lv_at hl 1 rfl) ?_
  refine r_geti X hT 3 11 fk_6_46 rfl rfl (by decide) dX6_become_10 ?_
  refine r_puti X hT hS 15 11 pk_6_46 rfl rfl rfl rfl (by decide) dX6_become_13 (fun H locs i2 ei2 hT hS => ?_)
  have hR2 := Rg_put hR1 ei2 (-2147483648) 2147483647 rfl (rg_top (i1 3 11)) (by decide)
  have hF2 := Fr_puti hF1 ei2 (by decide)
  refine lv_aload_n hx hb dX6_become_16 rfl (lv_at hl 0 rfl) ?_
  refine lv_aload_n hx hb dX6_become_17 rfl (lv_at hl 1 rfl) ?_
  refine r_geti X hT 3 12 fk_6_49 rfl rfl (by decide) dX6_become_18 ?_
  refine r_puti X hT hS 15 12 pk_6_49 rfl rfl rfl rfl (by decide) dX6_become_21 (fun H locs i3 ei3 hT hS => ?_)
  have hR3 := Rg_put hR2 ei3 (-2147483648) 2147483647 rfl (rg_top (i2 3 12)) (by decide)
  have hF3 := Fr_puti hF2 ei3 (by decide)
  refine lv_aload_n hx hb dX6_become_24 rfl (lv_at hl 0 rfl) ?_
  refine lv_aload_n hx hb dX6_become_25 rfl (lv_at hl 1 rfl) ?_
  refine r_geti X hT 3 13 fk_6_52 rfl rfl (by decide) dX6_become_26 ?_
  refine r_puti X hT hS 15 13 pk_6_52 rfl rfl rfl rfl (by decide) dX6_become_29 (fun H locs i4 ei4 hT hS => ?_)
  have hR4 := Rg_put hR3 ei4 0 6 rfl (Rg_at hR3 3 13 0 6 (by decide) rfl) (by decide)
  have hF4 := Fr_puti hF3 ei4 (by decide)
  refine lv_aload_n hx hb dX6_become_32 rfl (lv_at hl 0 rfl) ?_
  refine lv_aload_n hx hb dX6_become_33 rfl (lv_at hl 1 rfl) ?_
  refine r_geti X hT 3 14 fk_6_55 rfl rfl (by decide) dX6_become_34 ?_
  refine r_puti X hT hS 15 14 pk_6_55 rfl rfl rfl rfl (by decide) dX6_become_37 (fun H locs i5 ei5 hT hS => ?_)
  have hR5 := Rg_put hR4 ei5 0 10 rfl (Rg_at hR4 3 14 0 10 (by decide) rfl) (by decide)
  have hF5 := Fr_puti hF4 ei5 (by decide)
  refine lv_aload_n hx hb dX6_become_40 rfl (lv_at hl 0 rfl) ?_
  refine lv_aload_n hx hb dX6_become_41 rfl (lv_at hl 1 rfl) ?_
  refine r_geti X hT 3 15 fk_6_58 rfl rfl (by decide) dX6_become_42 ?_
  refine r_puti X hT hS 15 15 pk_6_58 rfl rfl rfl rfl (by decide) dX6_become_45 (fun H locs i6 ei6 hT hS => ?_)
  have hR6 := Rg_put hR5 ei6 0 8 rfl (Rg_at hR5 3 15 0 8 (by decide) rfl) (by decide)
  have hF6 := Fr_puti hF5 ei6 (by decide)
  refine lv_aload_n hx hb dX6_become_48 rfl (lv_at hl 0 rfl) ?_
  refine lv_aload_n hx hb dX6_become_49 rfl (lv_at hl 1 rfl) ?_
  refine r_geti X hT 3 16 fk_6_61 rfl rfl (by decide) dX6_become_50 ?_
  refine r_puti X hT hS 15 16 pk_6_61 rfl rfl rfl rfl (by decide) dX6_become_53 (fun H locs i7 ei7 hT hS => ?_)
  have hR7 := Rg_put hR6 ei7 0 20 rfl (Rg_at hR6 3 16 0 20 (by decide) rfl) (by decide)
  have hF7 := Fr_puti hF6 ei7 (by decide)
  refine lv_aload_n hx hb dX6_become_56 rfl (lv_at hl 0 rfl) ?_
  refine lv_aload_n hx hb dX6_become_57 rfl (lv_at hl 1 rfl) ?_
  refine r_geti X hT 3 17 fk_6_64 rfl rfl (by decide) dX6_become_58 ?_
  refine r_puti X hT hS 15 17 pk_6_64 rfl rfl rfl rfl (by decide) dX6_become_61 (fun H locs i8 ei8 hT hS => ?_)
  have hR8 := Rg_put hR7 ei8 (-2147483648) 2147483647 rfl (rg_top (i7 3 17)) (by decide)
  have hF8 := Fr_puti hF7 ei8 (by decide)
  refine lv_aload_n hx hb dX6_become_64 rfl (lv_at hl 1 rfl) ?_
  refine r_getr X hT 3 0 4 fk_6_9 rfl rfl (by decide) dX6_become_65 ?_
  refine lv_iconst (v := 0) hx hb dX6_become_68 (by decide) ?_
  refine lv_aload_n hx hb dX6_become_69 rfl (lv_at hl 0 rfl) ?_
  refine r_getr X hT 15 0 16 fk_6_9 rfl rfl (by decide) dX6_become_70 ?_
  refine lv_iconst (v := 0) hx hb dX6_become_73 (by decide) ?_
  refine lv_bipush (v := 6) hx hb dX6_become_74 (by decide) ?_
  refine r_copyi X hT hS hl.1 4 16 rfl rfl (by decide) (by decide) gm_654 gm_656 gm_655 gm_123 (rg_k (by decide) : rg 0 0 0) (rg_k (by decide) : rg 0 0 0) (rg_k (by decide) : rg 6 6 6) (by decide) (Nat.le_of_ble_eq_true rfl) (by decide +kernel) dX6_become_76 (fun H locs i9 ei9 hT hS => ?_)
  have hR9 := Rg_cpy hR8 ei9 0 60 0 60 (fun _ => rfl) (fun _ => rfl) (by decide) (by decide)
  have hF9 := Fr_cpy hF8 ei9 (by decide)
  refine lv_aload_n hx hb dX6_become_79 rfl (lv_at hl 1 rfl) ?_
  refine r_getr X hT 3 1 5 fk_6_15 rfl rfl (by decide) dX6_become_80 ?_
  refine lv_iconst (v := 0) hx hb dX6_become_83 (by decide) ?_
  refine lv_aload_n hx hb dX6_become_84 rfl (lv_at hl 0 rfl) ?_
  refine r_getr X hT 15 1 17 fk_6_15 rfl rfl (by decide) dX6_become_85 ?_
  refine lv_iconst (v := 0) hx hb dX6_become_88 (by decide) ?_
  refine lv_bipush (v := 6) hx hb dX6_become_89 (by decide) ?_
  refine r_copyi X hT hS hl.1 5 17 rfl rfl (by decide) (by decide) gm_654 gm_656 gm_655 gm_123 (rg_k (by decide) : rg 0 0 0) (rg_k (by decide) : rg 0 0 0) (rg_k (by decide) : rg 6 6 6) (by decide) (Nat.le_of_ble_eq_true rfl) (by decide +kernel) dX6_become_91 (fun H locs i10 ei10 hT hS => ?_)
  have hR10 := Rg_cpy hR9 ei10 0 9 0 9 (fun _ => rfl) (fun _ => rfl) (by decide) (by decide)
  have hF10 := Fr_cpy hF9 ei10 (by decide)
  refine lv_aload_n hx hb dX6_become_94 rfl (lv_at hl 1 rfl) ?_
  refine r_getr X hT 3 2 6 fk_6_18 rfl rfl (by decide) dX6_become_95 ?_
  refine lv_iconst (v := 0) hx hb dX6_become_98 (by decide) ?_
  refine lv_aload_n hx hb dX6_become_99 rfl (lv_at hl 0 rfl) ?_
  refine r_getr X hT 15 2 18 fk_6_18 rfl rfl (by decide) dX6_become_100 ?_
  refine lv_iconst (v := 0) hx hb dX6_become_103 (by decide) ?_
  refine lv_bipush (v := 6) hx hb dX6_become_104 (by decide) ?_
  refine r_copyi X hT hS hl.1 6 18 rfl rfl (by decide) (by decide) gm_654 gm_656 gm_655 gm_123 (rg_k (by decide) : rg 0 0 0) (rg_k (by decide) : rg 0 0 0) (rg_k (by decide) : rg 6 6 6) (by decide) (Nat.le_of_ble_eq_true rfl) (by decide +kernel) dX6_become_106 (fun H locs i11 ei11 hT hS => ?_)
  have hR11 := Rg_cpy hR10 ei11 0 60 0 60 (fun _ => rfl) (fun _ => rfl) (by decide) (by decide)
  have hF11 := Fr_cpy hF10 ei11 (by decide)
  refine lv_aload_n hx hb dX6_become_109 rfl (lv_at hl 1 rfl) ?_
  refine r_getr X hT 3 3 7 fk_6_21 rfl rfl (by decide) dX6_become_110 ?_
  refine lv_iconst (v := 0) hx hb dX6_become_113 (by decide) ?_
  refine lv_aload_n hx hb dX6_become_114 rfl (lv_at hl 0 rfl) ?_
  refine r_getr X hT 15 3 19 fk_6_21 rfl rfl (by decide) dX6_become_115 ?_
  refine lv_iconst (v := 0) hx hb dX6_become_118 (by decide) ?_
  refine lv_bipush (v := 10) hx hb dX6_become_119 (by decide) ?_
  refine r_copyi X hT hS hl.1 7 19 rfl rfl (by decide) (by decide) gm_654 gm_656 gm_655 gm_123 (rg_k (by decide) : rg 0 0 0) (rg_k (by decide) : rg 0 0 0) (rg_k (by decide) : rg 10 10 10) (by decide) (Nat.le_of_ble_eq_true rfl) (by decide +kernel) dX6_become_121 (fun H locs i12 ei12 hT hS => ?_)
  have hR12 := Rg_cpy hR11 ei12 0 5 0 5 (fun _ => rfl) (fun _ => rfl) (by decide) (by decide)
  have hF12 := Fr_cpy hF11 ei12 (by decide)
  refine lv_aload_n hx hb dX6_become_124 rfl (lv_at hl 1 rfl) ?_
  refine r_getr X hT 3 4 8 fk_6_24 rfl rfl (by decide) dX6_become_125 ?_
  refine lv_iconst (v := 0) hx hb dX6_become_128 (by decide) ?_
  refine lv_aload_n hx hb dX6_become_129 rfl (lv_at hl 0 rfl) ?_
  refine r_getr X hT 15 4 20 fk_6_24 rfl rfl (by decide) dX6_become_130 ?_
  refine lv_iconst (v := 0) hx hb dX6_become_133 (by decide) ?_
  refine lv_bipush (v := 10) hx hb dX6_become_134 (by decide) ?_
  refine r_copyi X hT hS hl.1 8 20 rfl rfl (by decide) (by decide) gm_654 gm_656 gm_655 gm_123 (rg_k (by decide) : rg 0 0 0) (rg_k (by decide) : rg 0 0 0) (rg_k (by decide) : rg 10 10 10) (by decide) (Nat.le_of_ble_eq_true rfl) (by decide +kernel) dX6_become_136 (fun H locs i13 ei13 hT hS => ?_)
  have hR13 := Rg_cpy hR12 ei13 0 5 0 5 (fun _ => rfl) (fun _ => rfl) (by decide) (by decide)
  have hF13 := Fr_cpy hF12 ei13 (by decide)
  refine lv_aload_n hx hb dX6_become_139 rfl (lv_at hl 1 rfl) ?_
  refine r_getr X hT 3 5 9 fk_6_27 rfl rfl (by decide) dX6_become_140 ?_
  refine lv_iconst (v := 0) hx hb dX6_become_143 (by decide) ?_
  refine lv_aload_n hx hb dX6_become_144 rfl (lv_at hl 0 rfl) ?_
  refine r_getr X hT 15 5 21 fk_6_27 rfl rfl (by decide) dX6_become_145 ?_
  refine lv_iconst (v := 0) hx hb dX6_become_148 (by decide) ?_
  refine lv_bipush (v := 8) hx hb dX6_become_149 (by decide) ?_
  refine r_copyi X hT hS hl.1 9 21 rfl rfl (by decide) (by decide) gm_654 gm_656 gm_655 gm_123 (rg_k (by decide) : rg 0 0 0) (rg_k (by decide) : rg 0 0 0) (rg_k (by decide) : rg 8 8 8) (by decide) (Nat.le_of_ble_eq_true rfl) (by decide +kernel) dX6_become_151 (fun H locs i14 ei14 hT hS => ?_)
  have hR14 := Rg_cpy hR13 ei14 0 5 0 5 (fun _ => rfl) (fun _ => rfl) (by decide) (by decide)
  have hF14 := Fr_cpy hF13 ei14 (by decide)
  refine lv_aload_n hx hb dX6_become_154 rfl (lv_at hl 1 rfl) ?_
  refine r_getr X hT 3 6 10 fk_6_30 rfl rfl (by decide) dX6_become_155 ?_
  refine lv_iconst (v := 0) hx hb dX6_become_158 (by decide) ?_
  refine lv_aload_n hx hb dX6_become_159 rfl (lv_at hl 0 rfl) ?_
  refine r_getr X hT 15 6 22 fk_6_30 rfl rfl (by decide) dX6_become_160 ?_
  refine lv_iconst (v := 0) hx hb dX6_become_163 (by decide) ?_
  refine lv_bipush (v := 8) hx hb dX6_become_164 (by decide) ?_
  refine r_copyi X hT hS hl.1 10 22 rfl rfl (by decide) (by decide) gm_654 gm_656 gm_655 gm_123 (rg_k (by decide) : rg 0 0 0) (rg_k (by decide) : rg 0 0 0) (rg_k (by decide) : rg 8 8 8) (by decide) (Nat.le_of_ble_eq_true rfl) (by decide +kernel) dX6_become_166 (fun H locs i15 ei15 hT hS => ?_)
  have hR15 := Rg_cpy hR14 ei15 0 11 0 11 (fun _ => rfl) (fun _ => rfl) (by decide) (by decide)
  have hF15 := Fr_cpy hF14 ei15 (by decide)
  refine lv_aload_n hx hb dX6_become_169 rfl (lv_at hl 1 rfl) ?_
  refine r_getr X hT 3 7 11 fk_6_33 rfl rfl (by decide) dX6_become_170 ?_
  refine lv_iconst (v := 0) hx hb dX6_become_173 (by decide) ?_
  refine lv_aload_n hx hb dX6_become_174 rfl (lv_at hl 0 rfl) ?_
  refine r_getr X hT 15 7 23 fk_6_33 rfl rfl (by decide) dX6_become_175 ?_
  refine lv_iconst (v := 0) hx hb dX6_become_178 (by decide) ?_
  refine lv_bipush (v := 20) hx hb dX6_become_179 (by decide) ?_
  refine r_copyi X hT hS hl.1 11 23 rfl rfl (by decide) (by decide) gm_654 gm_656 gm_655 gm_123 (rg_k (by decide) : rg 0 0 0) (rg_k (by decide) : rg 0 0 0) (rg_k (by decide) : rg 20 20 20) (by decide) (Nat.le_of_ble_eq_true rfl) (by decide +kernel) dX6_become_181 (fun H locs i16 ei16 hT hS => ?_)
  have hR16 := Rg_cpy hR15 ei16 0 1 0 1 (fun _ => rfl) (fun _ => rfl) (by decide) (by decide)
  have hF16 := Fr_cpy hF15 ei16 (by decide)
  refine lv_aload_n hx hb dX6_become_184 rfl (lv_at hl 1 rfl) ?_
  refine r_getr X hT 3 8 12 fk_6_36 rfl rfl (by decide) dX6_become_185 ?_
  refine lv_iconst (v := 0) hx hb dX6_become_188 (by decide) ?_
  refine lv_aload_n hx hb dX6_become_189 rfl (lv_at hl 0 rfl) ?_
  refine r_getr X hT 15 8 24 fk_6_36 rfl rfl (by decide) dX6_become_190 ?_
  refine lv_iconst (v := 0) hx hb dX6_become_193 (by decide) ?_
  refine lv_bipush (v := 20) hx hb dX6_become_194 (by decide) ?_
  refine r_copyi X hT hS hl.1 12 24 rfl rfl (by decide) (by decide) gm_654 gm_656 gm_655 gm_123 (rg_k (by decide) : rg 0 0 0) (rg_k (by decide) : rg 0 0 0) (rg_k (by decide) : rg 20 20 20) (by decide) (Nat.le_of_ble_eq_true rfl) (by decide +kernel) dX6_become_196 (fun H locs i17 ei17 hT hS => ?_)
  have hR17 := Rg_cpy hR16 ei17 0 5 0 5 (fun _ => rfl) (fun _ => rfl) (by decide) (by decide)
  have hF17 := Fr_cpy hF16 ei17 (by decide)
  refine lv_aload_n hx hb dX6_become_199 rfl (lv_at hl 1 rfl) ?_
  refine r_getr X hT 3 9 13 fk_6_39 rfl rfl (by decide) dX6_become_200 ?_
  refine lv_iconst (v := 0) hx hb dX6_become_203 (by decide) ?_
  refine lv_aload_n hx hb dX6_become_204 rfl (lv_at hl 0 rfl) ?_
  refine r_getr X hT 15 9 25 fk_6_39 rfl rfl (by decide) dX6_become_205 ?_
  refine lv_iconst (v := 0) hx hb dX6_become_208 (by decide) ?_
  refine lv_bipush (v := 20) hx hb dX6_become_209 (by decide) ?_
  refine r_copyi X hT hS hl.1 13 25 rfl rfl (by decide) (by decide) gm_654 gm_656 gm_655 gm_123 (rg_k (by decide) : rg 0 0 0) (rg_k (by decide) : rg 0 0 0) (rg_k (by decide) : rg 20 20 20) (by decide) (Nat.le_of_ble_eq_true rfl) (by decide +kernel) dX6_become_211 (fun H locs i18 ei18 hT hS => ?_)
  have hR18 := Rg_cpy hR17 ei18 0 11 0 11 (fun _ => rfl) (fun _ => rfl) (by decide) (by decide)
  have hF18 := Fr_cpy hF17 ei18 (by decide)
  exact hret _ _ _ _ _ _ dX6_become_214 hT hS ⟨hR18, hF18⟩
set_option maxRecDepth 100000 in
set_option maxHeartbeats 4000000 in
theorem m_X8_forgetAnswers {l : Launch} {D : va_G} {h : Nat → Nat} {cz : Nat → ClassId} {z : EZ} {i : Nat → Nat → Int32} {g : Nat → Nat → Int64} (hR : Rg rA i) : DtV l yX8_forgetAnswers cX8_forgetAnswers 1 none ({ frames := 0, cells := 0, slots := 0, locals := 0 } : Room) D h cz z i g [.ref (h 0)] (fun u => Rg rA u.1 ∧ Fr [0] [] i g u) := by
  refine e_V pn_X8_forgetAnswers (Nat.le_of_ble_eq_true rfl) ?_
  intro p e s m args below meth c ls Q X Y hret hT hl hS
  have hx := X.1
  have hb := X.2.1
  have hl : lv_has ls 1 [(0, .ref (h 0))] := hl
  have hF : Fr [0] [] i g (i, g) := Fr_rf _ _ _ _
  refine lv_aload_n hx hb dX8_forgetAnswers_0 rfl (lv_at hl 0 rfl) ?_
  refine lv_iconst (v := 1) hx hb dX8_forgetAnswers_1 (by decide) ?_
  refine r_puti X hT hS 0 12 pk_8_87 rfl rfl rfl rfl (by decide) dX8_forgetAnswers_2 (fun H locs i1 ei1 hT hS => ?_)
  have hR1 := Rg_put hR ei1 0 1 rfl (rg_k (by decide) : rg 1 1 1) (by decide)
  have hF1 := Fr_puti hF ei1 (by decide)
  refine lv_aload_n hx hb dX8_forgetAnswers_5 rfl (lv_at hl 0 rfl) ?_
  refine lv_iconst (v := 1) hx hb dX8_forgetAnswers_6 (by decide) ?_
  refine r_puti X hT hS 0 13 pk_8_91 rfl rfl rfl rfl (by decide) dX8_forgetAnswers_7 (fun H locs i2 ei2 hT hS => ?_)
  have hR2 := Rg_put hR1 ei2 0 1 rfl (rg_k (by decide) : rg 1 1 1) (by decide)
  have hF2 := Fr_puti hF1 ei2 (by decide)
  refine lv_aload_n hx hb dX8_forgetAnswers_10 rfl (lv_at hl 0 rfl) ?_
  refine lv_iconst (v := 0) hx hb dX8_forgetAnswers_11 (by decide) ?_
  refine r_puti X hT hS 0 14 pk_8_94 rfl rfl rfl rfl (by decide) dX8_forgetAnswers_12 (fun H locs i3 ei3 hT hS => ?_)
  have hR3 := Rg_put hR2 ei3 (-2147483648) 2147483647 rfl (rg_k (by decide) : rg 0 0 0) (by decide)
  have hF3 := Fr_puti hF2 ei3 (by decide)
  exact hret _ _ _ _ _ _ dX8_forgetAnswers_15 hT hS ⟨hR3, hF3⟩
set_option maxRecDepth 100000 in
set_option maxHeartbeats 4000000 in
theorem m_X8_tale {l : Launch} {D : va_G} {h : Nat → Nat} {cz : Nat → ClassId} {z : EZ} {i : Nat → Nat → Int32} {g : Nat → Nat → Int64} (hR : Rg rA i) : DtI l yX8_tale cX8_tale 1 (some .int) ({ frames := 10, cells := 0, slots := 0, locals := 216 } : Room) D h cz z i g [.ref (h 0)] (fun r u => Rg rA u.1 ∧ Fr [0, 1, 3, 4, 5, 6, 7, 8, 9, 10, 14, 15, 16, 17, 18, 19, 20, 21, 22, 23, 24, 25] [] i g u) := by
  refine e_I pn_X8_tale (Nat.le_of_ble_eq_true rfl) ?_
  intro p e s m args below meth c ls Q X Y hret hT hl hS
  have hx := X.1
  have hb := X.2.1
  have hl : lv_has ls 1 [(0, .ref (h 0))] := hl
  have hF : Fr [0, 1, 3, 4, 5, 6, 7, 8, 9, 10, 14, 15, 16, 17, 18, 19, 20, 21, 22, 23, 24, 25] [] i g (i, g) := Fr_rf _ _ _ _
  refine lv_aload_n hx hb dX8_tale_0 rfl (lv_at hl 0 rfl) ?_
  refine r_getr X hT 0 2 14 fk_8_28 rfl rfl (by decide) dX8_tale_1 ?_
  refine e_Vi (As := []) (rest := []) X Y hT hS (m_X3_parse_14 hR) mk_X3_parse gm_509 rfl rfl (by decide) hd_X3_parse ⟨rfl, rfl⟩ ⟨Nat.le_of_ble_eq_true rfl, Nat.le_of_ble_eq_true rfl⟩ hl.1 rfl (Nat.le_of_ble_eq_true rfl) dX8_tale_4 ⟨Nat.zero_le _, Nat.zero_le _⟩ (fun r1 i1 g1 H locs hq hT hS => ?_)
  obtain ⟨hR1, hf1, hr1⟩ := hq
  have hF1 := Fr_tr hF hf1 (by decide)
  refine lv_if_ne (tgt := 13) hx hb dX8_tale_7 (by decide) (fun c2 => ?_) (fun c2 => ?_)
  ·
    have q2 : ¬ r1.toInt = 0 := i_ne c2
    have h3 : rg 1 1 r1 := t_nelo 1 hr1 (rg_k (by decide) : rg 0 0 0) (i_ne c2) (by decide)
    refine lv_aload_n hx hb dX8_tale_13 rfl (lv_at hl 0 rfl) ?_
    refine r_getr X hT 0 3 15 fk_8_32 rfl rfl (by decide) dX8_tale_14 ?_
    refine lv_aload_n hx hb dX8_tale_17 rfl (lv_at hl 0 rfl) ?_
    refine r_getr X hT 0 1 3 fk_8_19 rfl rfl (by decide) dX8_tale_18 ?_
    refine e_Vv (As := [.ref (h 3)]) (rest := []) X Y hT hS (m_X6_become_15_3 hR1) mk_X6_become gm_650 rfl rfl (by decide) hd_X6_become ⟨rfl, rfl⟩ ⟨Nat.le_of_ble_eq_true rfl, Nat.le_of_ble_eq_true rfl⟩ hl.1 rfl (Nat.le_of_ble_eq_true rfl) dX8_tale_21 ⟨Nat.zero_le _, Nat.zero_le _⟩ (fun i4 g4 H locs hq hT hS => ?_)
    obtain ⟨hR4, hf4⟩ := hq
    have hF4 := Fr_tr hF1 hf4 (by decide)
    refine lv_aload_n hx hb dX8_tale_24 rfl (lv_at hl 0 rfl) ?_
    refine r_getr X hT 0 0 1 fk_8_10 rfl rfl (by decide) dX8_tale_25 ?_
    refine lv_iconst (v := 0) hx hb dX8_tale_28 (by decide) ?_
    refine r_puti X hT hS 1 1 pk_8_106 rfl rfl rfl rfl (by decide) dX8_tale_29 (fun H locs i5 ei5 hT hS => ?_)
    have hR5 := Rg_put hR4 ei5 0 700 rfl (rg_k (by decide) : rg 0 0 0) (by decide)
    have hF5 := Fr_puti hF4 ei5 (by decide)
    refine lv_aload_n hx hb dX8_tale_32 rfl (lv_at hl 0 rfl) ?_
    refine e_Vv (As := []) (rest := []) X Y hT hS (m_X8_forgetAnswers hR5) mk_X8_forgetAnswers gm_657 rfl rfl (by decide) hd_X8_forgetAnswers ⟨rfl, rfl⟩ ⟨Nat.le_of_ble_eq_true rfl, Nat.le_of_ble_eq_true rfl⟩ hl.1 rfl (Nat.le_of_ble_eq_true rfl) dX8_tale_33 ⟨Nat.zero_le _, Nat.zero_le _⟩ (fun i6 g6 H locs hq hT hS => ?_)
    obtain ⟨hR6, hf6⟩ := hq
    have hF6 := Fr_tr hF5 hf6 (by decide)
    refine lv_aload_n hx hb dX8_tale_36 rfl (lv_at hl 0 rfl) ?_
    refine r_getr X hT 0 3 15 fk_8_32 rfl rfl (by decide) dX8_tale_37 ?_
    refine r_geti X hT 15 17 fk_8_118 rfl rfl (by decide) dX8_tale_40 ?_
    exact hret (i6 15 17) _ _ _ _ _ _ dX8_tale_43 hT hS ⟨hR6, hF6⟩
  ·
    have q2 : r1.toInt = 0 := i_eq c2
    have h7 : rg 0 0 r1 := t_eqx 0 0 hr1 (rg_k (by decide) : rg 0 0 0) (i_eq c2) (by decide)
    refine lv_bipush (v := (-4)) hx hb dX8_tale_10 (by decide) ?_
    exact hret (-4) _ _ _ _ _ _ dX8_tale_12 hT hS ⟨hR1, hF1⟩
set_option maxRecDepth 100000 in
set_option maxHeartbeats 4000000 in
theorem m_X8_fault {l : Launch} {D : va_G} {h : Nat → Nat} {cz : Nat → ClassId} {z : EZ} {i : Nat → Nat → Int32} {g : Nat → Nat → Int64} (hR : Rg rA i) (a_a : Int32) : DtI l yX8_fault cX8_fault 2 (some .int) ({ frames := 0, cells := 0, slots := 0, locals := 0 } : Room) D h cz z i g [.ref (h 0), .int a_a] (fun r u => u = (i, g)) := by
  refine e_I pn_X8_fault (Nat.le_of_ble_eq_true rfl) ?_
  intro p e s m args below meth c ls Q X Y hret hT hl hS
  have hx := X.1
  have hb := X.2.1
  have hl : lv_has ls 2 [(0, .ref (h 0)), (1, .int a_a)] := hl
  refine lv_iload_n hx hb dX8_fault_0 rfl (lv_at hl 1 rfl) ?_
  by_cases c1 : a_a.toInt = 0
  ·
    refine lv_lookup (tgt := 28) (off := 27) hx hb dX8_fault_1 rfl (by rw [c1]; rfl) (by decide) ?_
    have h2 : rg 0 0 a_a := ⟨by omega, by omega⟩
    refine lv_aload_n hx hb dX8_fault_28 rfl (lv_at hl 0 rfl) ?_
    refine r_getr X hT 0 2 14 fk_8_28 rfl rfl (by decide) dX8_fault_29 ?_
    refine r_geti X hT 14 6 fk_8_121 rfl rfl (by decide) dX8_fault_32 ?_
    exact hret (i 14 6) _ _ _ _ _ _ dX8_fault_35 hT hS rfl
  ·
    by_cases c3 : a_a.toInt = 1
    ·
      refine lv_lookup (tgt := 36) (off := 35) hx hb dX8_fault_1 rfl (by rw [c3]; rfl) (by decide) ?_
      have h4 : rg 1 1 a_a := ⟨by omega, by omega⟩
      refine lv_aload_n hx hb dX8_fault_36 rfl (lv_at hl 0 rfl) ?_
      refine r_getr X hT 0 2 14 fk_8_28 rfl rfl (by decide) dX8_fault_37 ?_
      refine r_geti X hT 14 7 fk_8_124 rfl rfl (by decide) dX8_fault_40 ?_
      exact hret (i 14 7) _ _ _ _ _ _ dX8_fault_43 hT hS rfl
    ·
      refine lv_lookup (tgt := 44) (off := 43) hx hb dX8_fault_1 rfl (by simp [Op.lookupswitch.offset, Ne.symm c1, Ne.symm c3]) (by decide) ?_
      refine lv_iconst (v := (-1)) hx hb dX8_fault_44 (by decide) ?_
      exact hret (-1) _ _ _ _ _ _ dX8_fault_45 hT hS rfl
set_option maxRecDepth 100000 in
set_option maxHeartbeats 4000000 in
theorem m_X6_hasPart_15 {l : Launch} {D : va_G} {h : Nat → Nat} {cz : Nat → ClassId} {z : EZ} {i : Nat → Nat → Int32} {g : Nat → Nat → Int64} (hR : Rg rA i) (a_a : Int32) : DtI l yX6_hasPart cX6_hasPart 2 (some .boolean) ({ frames := 0, cells := 0, slots := 0, locals := 0 } : Room) D h cz z i g [.ref (h 15), .int a_a] (fun r u => (u = (i, g) ∧ r = 1 ∧ rg 0 5 a_a) ∨ (u = (i, g) ∧ r = 0)) := by
  refine e_Z (fun v u hq => (hq.elim (fun hq => (Or.inr hq.2.1)) (fun hq => (Or.inl hq.2)))) pn_X6_hasPart (Nat.le_of_ble_eq_true rfl) ?_
  intro p e s m args below meth c ls Q X Y hret hT hl hS
  have hx := X.1
  have hb := X.2.1
  have hl : lv_has ls 2 [(0, .ref (h 15)), (1, .int a_a)] := hl
  refine lv_iload_n hx hb dX6_hasPart_0 rfl (lv_at hl 1 rfl) ?_
  refine lv_if_lt (tgt := 16) hx hb dX6_hasPart_1 (by decide) (fun c1 => ?_) (fun c1 => ?_)
  ·
    have q1 : a_a.toInt < 0 := i_lt c1
    have h2 : rg (-2147483648) (-1) a_a := t_ltx (-2147483648) (-1) (rg_top a_a) (rg_k (by decide) : rg 0 0 0) (i_lt c1) (by decide)
    refine lv_iconst (v := 0) hx hb dX6_hasPart_16 (by decide) ?_
    exact hret 0 _ _ _ _ _ _ dX6_hasPart_17 hT hS (Or.inr ⟨rfl, rfl⟩)
  ·
    have q1 : 0 ≤ a_a.toInt := i_nlt c1
    have h3 : rg 0 2147483647 a_a := t_ley 0 2147483647 (rg_k (by decide) : rg 0 0 0) (rg_top a_a) (i_nlt c1) (by decide)
    refine lv_iload_n hx hb dX6_hasPart_4 rfl (lv_at hl 1 rfl) ?_
    refine lv_aload_n hx hb dX6_hasPart_5 rfl (lv_at hl 0 rfl) ?_
    refine r_geti X hT 15 13 fk_6_52 rfl rfl (by decide) dX6_hasPart_6 ?_
    refine lv_icmp_ge (tgt := 16) hx hb dX6_hasPart_9 (by decide) (fun c4 => ?_) (fun c4 => ?_)
    ·
      have q4 : (i 15 13).toInt ≤ a_a.toInt := i_le c4
      refine lv_iconst (v := 0) hx hb dX6_hasPart_16 (by decide) ?_
      exact hret 0 _ _ _ _ _ _ dX6_hasPart_17 hT hS (Or.inr ⟨rfl, rfl⟩)
    ·
      have q4 : a_a.toInt < (i 15 13).toInt := i_nle c4
      have h5 : rg 0 5 a_a := t_ltx 0 5 h3 (Rg_at hR 15 13 0 6 (by decide) rfl) (i_nle c4) (by decide)
      have h6 : rg 1 6 (i 15 13) := t_lty 1 6 h3 (Rg_at hR 15 13 0 6 (by decide) rfl) (i_nle c4) (by decide)
      refine lv_iconst (v := 1) hx hb dX6_hasPart_12 (by decide) ?_
      refine lv_goto (tgt := 17) hx hb dX6_hasPart_13 (by decide) ?_
      exact hret 1 _ _ _ _ _ _ dX6_hasPart_17 hT hS (Or.inl ⟨rfl, rfl, h5⟩)
set_option maxRecDepth 100000 in
set_option maxHeartbeats 4000000 in
theorem m_X8_part {l : Launch} {D : va_G} {h : Nat → Nat} {cz : Nat → ClassId} {z : EZ} {i : Nat → Nat → Int32} {g : Nat → Nat → Int64} (hR : Rg rA i) (a_a : Int32) (a_b : Int32) : DtI l yX8_part cX8_part 3 (some .int) ({ frames := 1, cells := 0, slots := 0, locals := 21 } : Room) D h cz z i g [.ref (h 0), .int a_a, .int a_b] (fun r u => u = (i, g) ∧ rg (-2) 60 r) := by
  refine e_I pn_X8_part (Nat.le_of_ble_eq_true rfl) ?_
  intro p e s m args below meth c ls Q X Y hret hT hl hS
  have hx := X.1
  have hb := X.2.1
  have hl : lv_has ls 3 [(0, .ref (h 0)), (1, .int a_a), (2, .int a_b)] := hl
  refine lv_aload_n hx hb dX8_part_0 rfl (lv_at hl 0 rfl) ?_
  refine r_getr X hT 0 3 15 fk_8_32 rfl rfl (by decide) dX8_part_1 ?_
  refine lv_iload_n hx hb dX8_part_4 rfl (lv_at hl 1 rfl) ?_
  refine e_Vi (As := [.int a_a]) (rest := []) X Y hT hS (m_X6_hasPart_15 hR a_a) mk_X6_hasPart gm_669 rfl rfl (by decide) hd_X6_hasPart ⟨rfl, rfl⟩ ⟨Nat.le_of_ble_eq_true rfl, Nat.le_of_ble_eq_true rfl⟩ hl.1 rfl (Nat.le_of_ble_eq_true rfl) dX8_part_5 ⟨Nat.zero_le _, Nat.zero_le _⟩ (fun r1 i1 g1 H locs hq hT hS => ?_)
  rcases hq with hq | hq
  ·
    obtain ⟨eh1, rfl, hf1_0⟩ := hq
    rw [(Prod.mk.inj eh1).1, (Prod.mk.inj eh1).2] at hT
    have h2 : rg 0 5 a_a := ⟨by have := (rg_top a_a).1; have := hf1_0.1; omega, by have := (rg_top a_a).2; have := hf1_0.2; omega⟩
    refine lv_if_ne (tgt := 14) hx hb dX8_part_8 (by decide) (fun c3 => ?_) (fun c3 => (x_eq (rg_k (by decide) : rg 1 1 1) (rg_k (by decide) : rg 0 0 0) (i_eq c3) (by decide)).elim)
    refine lv_iload_n hx hb dX8_part_14 rfl (lv_at hl 2 rfl) ?_
    rcases Int.lt_or_le a_b.toInt 0 with c4 | c4
    ·
      refine lv_tableOut (tgt := 70) hx hb dX8_part_15 (Or.inl c4) (by decide) ?_
      refine lv_bipush (v := (-2)) hx hb dX8_part_70 (by decide) ?_
      exact hret (-2) _ _ _ _ _ _ dX8_part_72 hT hS ⟨rfl, (rg_w (rg_k (by decide) : rg (-2) (-2) (-2)) (by decide) : rg (-2) 60 (-2))⟩
    ·
      rcases Int.lt_or_le 2 a_b.toInt with d4 | d4
      ·
        refine lv_tableOut (tgt := 70) hx hb dX8_part_15 (Or.inr d4) (by decide) ?_
        refine lv_bipush (v := (-2)) hx hb dX8_part_70 (by decide) ?_
        exact hret (-2) _ _ _ _ _ _ dX8_part_72 hT hS ⟨rfl, (rg_w (rg_k (by decide) : rg (-2) (-2) (-2)) (by decide) : rg (-2) 60 (-2))⟩
      ·
        rcases (show a_b.toInt = 0 ∨ a_b.toInt = 1 ∨ a_b.toInt = 2 by omega) with f4 | f4 | f4
        ·
          refine lv_tableIn (tgt := 40) (off := 25) hx hb dX8_part_15 (by omega) (by omega) (by rw [f4]; rfl) (by decide) ?_
          have h5 : rg 0 0 a_b := ⟨by omega, by omega⟩
          refine lv_aload_n hx hb dX8_part_40 rfl (lv_at hl 0 rfl) ?_
          refine r_getr X hT 0 3 15 fk_8_32 rfl rfl (by decide) dX8_part_41 ?_
          refine r_getr X hT 15 0 16 fk_8_131 rfl rfl (by decide) dX8_part_44 ?_
          refine lv_iload_n hx hb dX8_part_47 rfl (lv_at hl 1 rfl) ?_
          refine r_iald X hT 16 rfl (by decide) (v_in h2 (by decide)) dX8_part_48 ?_
          exact hret (i 16 a_a.toNatClampNeg) _ _ _ _ _ _ dX8_part_49 hT hS ⟨rfl, (rg_w (Rg_at hR 16 a_a.toNatClampNeg 0 60 (v_lt (v_in h2 (by decide))) rfl) (by decide) : rg (-2) 60 (i 16 a_a.toNatClampNeg))⟩
        ·
          refine lv_tableIn (tgt := 50) (off := 35) hx hb dX8_part_15 (by omega) (by omega) (by rw [f4]; rfl) (by decide) ?_
          have h6 : rg 1 1 a_b := ⟨by omega, by omega⟩
          refine lv_aload_n hx hb dX8_part_50 rfl (lv_at hl 0 rfl) ?_
          refine r_getr X hT 0 3 15 fk_8_32 rfl rfl (by decide) dX8_part_51 ?_
          refine r_getr X hT 15 1 17 fk_8_135 rfl rfl (by decide) dX8_part_54 ?_
          refine lv_iload_n hx hb dX8_part_57 rfl (lv_at hl 1 rfl) ?_
          refine r_iald X hT 17 rfl (by decide) (v_in h2 (by decide)) dX8_part_58 ?_
          exact hret (i 17 a_a.toNatClampNeg) _ _ _ _ _ _ dX8_part_59 hT hS ⟨rfl, (rg_w (Rg_at hR 17 a_a.toNatClampNeg 0 9 (v_lt (v_in h2 (by decide))) rfl) (by decide) : rg (-2) 60 (i 17 a_a.toNatClampNeg))⟩
        ·
          refine lv_tableIn (tgt := 60) (off := 45) hx hb dX8_part_15 (by omega) (by omega) (by rw [f4]; rfl) (by decide) ?_
          have h7 : rg 2 2 a_b := ⟨by omega, by omega⟩
          refine lv_aload_n hx hb dX8_part_60 rfl (lv_at hl 0 rfl) ?_
          refine r_getr X hT 0 3 15 fk_8_32 rfl rfl (by decide) dX8_part_61 ?_
          refine r_getr X hT 15 2 18 fk_8_138 rfl rfl (by decide) dX8_part_64 ?_
          refine lv_iload_n hx hb dX8_part_67 rfl (lv_at hl 1 rfl) ?_
          refine r_iald X hT 18 rfl (by decide) (v_in h2 (by decide)) dX8_part_68 ?_
          exact hret (i 18 a_a.toNatClampNeg) _ _ _ _ _ _ dX8_part_69 hT hS ⟨rfl, (rg_w (Rg_at hR 18 a_a.toNatClampNeg 0 60 (v_lt (v_in h2 (by decide))) rfl) (by decide) : rg (-2) 60 (i 18 a_a.toNatClampNeg))⟩
  ·
    obtain ⟨eh1, rfl⟩ := hq
    rw [(Prod.mk.inj eh1).1, (Prod.mk.inj eh1).2] at hT
    refine lv_if_ne (tgt := 14) hx hb dX8_part_8 (by decide) (fun c8 => (x_ne (rg_k (by decide) : rg 0 0 0) (rg_k (by decide) : rg 0 0 0) (i_ne c8) (by decide)).elim) (fun c8 => ?_)
    refine lv_bipush (v := (-2)) hx hb dX8_part_11 (by decide) ?_
    exact hret (-2) _ _ _ _ _ _ dX8_part_13 hT hS ⟨rfl, (rg_w (rg_k (by decide) : rg (-2) (-2) (-2)) (by decide) : rg (-2) 60 (-2))⟩
set_option maxRecDepth 100000 in
set_option maxHeartbeats 4000000 in
theorem m_X6_neighbours_15 {l : Launch} {D : va_G} {h : Nat → Nat} {cz : Nat → ClassId} {z : EZ} {i : Nat → Nat → Int32} {g : Nat → Nat → Int64} (hR : Rg rA i) (a_a : Int32) (a_b : Int32) : DtI l yX6_neighbours cX6_neighbours 5 (some .int) ({ frames := 0, cells := 0, slots := 0, locals := 0 } : Room) D h cz z i g [.ref (h 15), .int a_a, .int a_b] (fun r u => u = (i, g) ∧ rg 0 255 r) := by
  refine e_I pn_X6_neighbours (Nat.le_of_ble_eq_true rfl) ?_
  intro p e s m args below meth c ls Q X Y hret hT hl hS
  have hx := X.1
  have hb := X.2.1
  have hl : lv_has ls 5 [(0, .ref (h 15)), (1, .int a_a), (2, .int a_b)] := hl
  refine lv_iconst (v := 0) hx hb dX6_neighbours_0 (by decide) ?_
  refine lv_istore_n (lv' := [(3, .int 0), (0, .ref (h 15)), (1, .int a_a), (2, .int a_b)]) hx hb dX6_neighbours_1 rfl hl (by decide) rfl (fun ls hl => ?_)
  refine lv_iconst (v := 0) hx hb dX6_neighbours_2 (by decide) ?_
  refine lv_istore (lv' := [(4, .int 0), (3, .int 0), (0, .ref (h 15)), (1, .int a_a), (2, .int a_b)]) hx hb dX6_neighbours_3 hl (by decide) rfl (fun ls hl => ?_)
  have L5_1 : ∀ (n2_ : Nat) (x5_3 : Int32) (x5_4 : Int32) (H : Heap) (locs : List Loc) (ls : Array Slot), rg 0 255 x5_3 → rg 0 10 x5_4 → TH D h cz i g H → va_S (hA h) s.heap H locs → lv_has ls 5 [(0, .ref (h 15)), (1, .int a_a), (2, .int a_b), (3, .int x5_3), (4, .int x5_4)] → (10 - x5_4.toInt).toNat < n2_ → W p l e ({ frames := 0, cells := 0, slots := 0, locals := 0 } : Room) s m args below meth c H locs 0 0 Q (F0 m 5 ls []) := by
    intro n2_
    induction n2_ with
    | zero => intro x5_3 x5_4 H locs ls hhx5_3 hhx5_4 hT hS hl hm2_; exact absurd hm2_ (Nat.not_lt_zero _)
    | succ n2_ ih2_ =>
      intro x5_3 x5_4 H locs ls hhx5_3 hhx5_4 hT hS hl hm2_
      refine lv_iload hx hb dX6_neighbours_5 (lv_at hl 4 rfl) ?_
      refine lv_aload_n hx hb dX6_neighbours_7 rfl (lv_at hl 0 rfl) ?_
      refine r_geti X hT 15 14 fk_6_55 rfl rfl (by decide) dX6_neighbours_8 ?_
      refine lv_icmp_ge (tgt := 78) hx hb dX6_neighbours_11 (by decide) (fun c3 => ?_) (fun c3 => ?_)
      ·
        have q3 : (i 15 14).toInt ≤ x5_4.toInt := i_le c3
        refine lv_iload_n hx hb dX6_neighbours_78 rfl (lv_at hl 3 rfl) ?_
        exact hret x5_3 _ _ _ _ _ _ dX6_neighbours_79 hT hS ⟨rfl, hhx5_3⟩
      ·
        have q3 : x5_4.toInt < (i 15 14).toInt := i_nle c3
        have h4 : rg 0 9 x5_4 := t_ltx 0 9 hhx5_4 (Rg_at hR 15 14 0 10 (by decide) rfl) (i_nle c3) (by decide)
        have h5 : rg 1 10 (i 15 14) := t_lty 1 10 hhx5_4 (Rg_at hR 15 14 0 10 (by decide) rfl) (i_nle c3) (by decide)
        refine lv_iload hx hb dX6_neighbours_14 (lv_at hl 4 rfl) ?_
        refine lv_iload_n hx hb dX6_neighbours_16 rfl (lv_at hl 2 rfl) ?_
        have J43_7 : ∀ (x43_7_3 : Int32) (H : Heap) (locs : List Loc) (ls : Array Slot), rg 0 255 x43_7_3 → TH D h cz i g H → va_S (hA h) s.heap H locs → lv_has ls 5 [(0, .ref (h 15)), (1, .int a_a), (2, .int a_b), (3, .int x43_7_3), (4, .int x5_4)] → W p l e ({ frames := 0, cells := 0, slots := 0, locals := 0 } : Room) s m args below meth c H locs 0 0 Q (F0 m 43 ls []) := by
          intro x43_7_3 H locs ls hhx43_7_3 hT hS hl
          refine lv_iload hx hb dX6_neighbours_43 (lv_at hl 4 rfl) ?_
          refine lv_iload_n hx hb dX6_neighbours_45 rfl (lv_at hl 2 rfl) ?_
          refine lv_icmp_eq (tgt := 72) hx hb dX6_neighbours_46 (by decide) (fun c8 => ?_) (fun c8 => ?_)
          ·
            have q8 : x5_4.toInt = a_b.toInt := i_eq c8
            have h9 : rg 0 9 a_b := t_eqy 0 9 h4 (rg_top a_b) (i_eq c8) (by decide)
            obtain ⟨x10, ex10⟩ : ∃ y : Int32, y = x5_4 + 1 := ⟨_, rfl⟩
            refine lv_iinc (v := x10) (lv' := [(4, .int x10), (0, .ref (h 15)), (1, .int a_a), (2, .int a_b), (3, .int x43_7_3)]) hx hb dX6_neighbours_72 hl (k := 4) rfl (by rw [ex10]; rfl) (by decide) rfl (fun ls hl => ?_)
            obtain ⟨hx10, ax10⟩ := rg_add 1 10 ex10 h4 (rg_k (by decide) : rg 1 1 1) (by decide)
            replace ax10 : x10.toInt = x5_4.toInt + 1 := ax10
            refine lv_goto (tgt := 5) hx hb dX6_neighbours_75 (by decide) ?_
            exact ih2_ x43_7_3 x10 _ _ _ hhx43_7_3 (rg_w hx10 (by decide) : rg 0 10 x10) hT hS (lv_sub hl [1, 2, 3, 4, 0] rfl) (m_up ax10 hx10 (by decide) hm2_)
          ·
            have q8 : ¬ x5_4.toInt = a_b.toInt := i_ne c8
            refine lv_aload_n hx hb dX6_neighbours_49 rfl (lv_at hl 0 rfl) ?_
            refine r_getr X hT 15 4 20 fk_6_24 rfl rfl (by decide) dX6_neighbours_50 ?_
            refine lv_iload hx hb dX6_neighbours_53 (lv_at hl 4 rfl) ?_
            refine r_iald X hT 20 rfl (by decide) (v_in h4 (by decide)) dX6_neighbours_55 ?_
            refine lv_iload_n hx hb dX6_neighbours_56 rfl (lv_at hl 1 rfl) ?_
            refine lv_icmp_ne (tgt := 72) hx hb dX6_neighbours_57 (by decide) (fun c11 => ?_) (fun c11 => ?_)
            ·
              have q11 : ¬ (i 20 x5_4.toNatClampNeg).toInt = a_a.toInt := i_ne c11
              obtain ⟨x12, ex12⟩ : ∃ y : Int32, y = x5_4 + 1 := ⟨_, rfl⟩
              refine lv_iinc (v := x12) (lv' := [(4, .int x12), (0, .ref (h 15)), (1, .int a_a), (2, .int a_b), (3, .int x43_7_3)]) hx hb dX6_neighbours_72 hl (k := 4) rfl (by rw [ex12]; rfl) (by decide) rfl (fun ls hl => ?_)
              obtain ⟨hx12, ax12⟩ := rg_add 1 10 ex12 h4 (rg_k (by decide) : rg 1 1 1) (by decide)
              replace ax12 : x12.toInt = x5_4.toInt + 1 := ax12
              refine lv_goto (tgt := 5) hx hb dX6_neighbours_75 (by decide) ?_
              exact ih2_ x43_7_3 x12 _ _ _ hhx43_7_3 (rg_w hx12 (by decide) : rg 0 10 x12) hT hS (lv_sub hl [1, 2, 3, 4, 0] rfl) (m_up ax12 hx12 (by decide) hm2_)
            ·
              have q11 : (i 20 x5_4.toNatClampNeg).toInt = a_a.toInt := i_eq c11
              have h13 : rg 0 5 a_a := t_eqy 0 5 (Rg_at hR 20 x5_4.toNatClampNeg 0 5 (v_lt (v_in h4 (by decide))) rfl) (rg_top a_a) (i_eq c11) (by decide)
              refine lv_iload_n hx hb dX6_neighbours_60 rfl (lv_at hl 3 rfl) ?_
              refine lv_iconst (v := 1) hx hb dX6_neighbours_61 (by decide) ?_
              refine lv_aload_n hx hb dX6_neighbours_62 rfl (lv_at hl 0 rfl) ?_
              refine r_getr X hT 15 3 19 fk_6_21 rfl rfl (by decide) dX6_neighbours_63 ?_
              refine lv_iload hx hb dX6_neighbours_66 (lv_at hl 4 rfl) ?_
              refine r_iald X hT 19 rfl (by decide) (v_in h4 (by decide)) dX6_neighbours_68 ?_
              refine q_ishl hx hb dX6_neighbours_69 (fun x14 ex14 => ?_)
              have h15 : rg 1 32 x14 := rg_shl1 ex14 (Rg_at hR 19 x5_4.toNatClampNeg 0 5 (v_lt (v_in h4 (by decide))) rfl) (by decide)
              refine q_ior hx hb dX6_neighbours_70 (fun x16 ex16 => ?_)
              have h17 : rg 0 255 x16 := rg_or8 ex16 hhx43_7_3 h15 (by decide)
              refine lv_istore_n (lv' := [(3, .int x16), (0, .ref (h 15)), (1, .int a_a), (2, .int a_b), (4, .int x5_4)]) hx hb dX6_neighbours_71 rfl hl (by decide) rfl (fun ls hl => ?_)
              obtain ⟨x18, ex18⟩ : ∃ y : Int32, y = x5_4 + 1 := ⟨_, rfl⟩
              refine lv_iinc (v := x18) (lv' := [(4, .int x18), (3, .int x16), (0, .ref (h 15)), (1, .int a_a), (2, .int a_b)]) hx hb dX6_neighbours_72 hl (k := 4) rfl (by rw [ex18]; rfl) (by decide) rfl (fun ls hl => ?_)
              obtain ⟨hx18, ax18⟩ := rg_add 1 10 ex18 h4 (rg_k (by decide) : rg 1 1 1) (by decide)
              replace ax18 : x18.toInt = x5_4.toInt + 1 := ax18
              refine lv_goto (tgt := 5) hx hb dX6_neighbours_75 (by decide) ?_
              exact ih2_ x16 x18 _ _ _ h17 (rg_w hx18 (by decide) : rg 0 10 x18) hT hS (lv_sub hl [2, 3, 4, 1, 0] rfl) (m_up ax18 hx18 (by decide) hm2_)
        refine lv_icmp_eq (tgt := 43) hx hb dX6_neighbours_17 (by decide) (fun c6 => ?_) (fun c6 => ?_)
        ·
          have q6 : x5_4.toInt = a_b.toInt := i_eq c6
          have h19 : rg 0 9 a_b := t_eqy 0 9 h4 (rg_top a_b) (i_eq c6) (by decide)
          exact J43_7 x5_3 _ _ _ hhx5_3 hT hS (lv_sub hl [0, 1, 2, 3, 4] rfl)
        ·
          have q6 : ¬ x5_4.toInt = a_b.toInt := i_ne c6
          refine lv_aload_n hx hb dX6_neighbours_20 rfl (lv_at hl 0 rfl) ?_
          refine r_getr X hT 15 3 19 fk_6_21 rfl rfl (by decide) dX6_neighbours_21 ?_
          refine lv_iload hx hb dX6_neighbours_24 (lv_at hl 4 rfl) ?_
          refine r_iald X hT 19 rfl (by decide) (v_in h4 (by decide)) dX6_neighbours_26 ?_
          refine lv_iload_n hx hb dX6_neighbours_27 rfl (lv_at hl 1 rfl) ?_
          refine lv_icmp_ne (tgt := 43) hx hb dX6_neighbours_28 (by decide) (fun c20 => ?_) (fun c20 => ?_)
          ·
            have q20 : ¬ (i 19 x5_4.toNatClampNeg).toInt = a_a.toInt := i_ne c20
            exact J43_7 x5_3 _ _ _ hhx5_3 hT hS (lv_sub hl [0, 1, 2, 3, 4] rfl)
          ·
            have q20 : (i 19 x5_4.toNatClampNeg).toInt = a_a.toInt := i_eq c20
            have h21 : rg 0 5 a_a := t_eqy 0 5 (Rg_at hR 19 x5_4.toNatClampNeg 0 5 (v_lt (v_in h4 (by decide))) rfl) (rg_top a_a) (i_eq c20) (by decide)
            refine lv_iload_n hx hb dX6_neighbours_31 rfl (lv_at hl 3 rfl) ?_
            refine lv_iconst (v := 1) hx hb dX6_neighbours_32 (by decide) ?_
            refine lv_aload_n hx hb dX6_neighbours_33 rfl (lv_at hl 0 rfl) ?_
            refine r_getr X hT 15 4 20 fk_6_24 rfl rfl (by decide) dX6_neighbours_34 ?_
            refine lv_iload hx hb dX6_neighbours_37 (lv_at hl 4 rfl) ?_
            refine r_iald X hT 20 rfl (by decide) (v_in h4 (by decide)) dX6_neighbours_39 ?_
            refine q_ishl hx hb dX6_neighbours_40 (fun x22 ex22 => ?_)
            have h23 : rg 1 32 x22 := rg_shl1 ex22 (Rg_at hR 20 x5_4.toNatClampNeg 0 5 (v_lt (v_in h4 (by decide))) rfl) (by decide)
            refine q_ior hx hb dX6_neighbours_41 (fun x24 ex24 => ?_)
            have h25 : rg 0 255 x24 := rg_or8 ex24 hhx5_3 h23 (by decide)
            refine lv_istore_n (lv' := [(3, .int x24), (0, .ref (h 15)), (1, .int a_a), (2, .int a_b), (4, .int x5_4)]) hx hb dX6_neighbours_42 rfl hl (by decide) rfl (fun ls hl => ?_)
            exact J43_7 x24 _ _ _ h25 hT hS (lv_sub hl [1, 2, 3, 0, 4] rfl)
  exact L5_1 _ (0) (0) _ _ _ (rg_w (rg_k (by decide) : rg 0 0 0) (by decide) : rg 0 255 0) (rg_w (rg_k (by decide) : rg 0 0 0) (by decide) : rg 0 10 0) hT hS (lv_sub hl [2, 3, 4, 1, 0] rfl) (Nat.lt_succ_self _)
set_option maxRecDepth 100000 in
set_option maxHeartbeats 4000000 in
theorem m_X8_near {l : Launch} {D : va_G} {h : Nat → Nat} {cz : Nat → ClassId} {z : EZ} {i : Nat → Nat → Int32} {g : Nat → Nat → Int64} (hR : Rg rA i) (a_a : Int32) : DtI l yX8_near cX8_near 2 (some .int) ({ frames := 1, cells := 0, slots := 0, locals := 24 } : Room) D h cz z i g [.ref (h 0), .int a_a] (fun r u => u = (i, g) ∧ rg (-2) 255 r) := by
  refine e_I pn_X8_near (Nat.le_of_ble_eq_true rfl) ?_
  intro p e s m args below meth c ls Q X Y hret hT hl hS
  have hx := X.1
  have hb := X.2.1
  have hl : lv_has ls 2 [(0, .ref (h 0)), (1, .int a_a)] := hl
  refine lv_aload_n hx hb dX8_near_0 rfl (lv_at hl 0 rfl) ?_
  refine r_getr X hT 0 3 15 fk_8_32 rfl rfl (by decide) dX8_near_1 ?_
  refine lv_iload_n hx hb dX8_near_4 rfl (lv_at hl 1 rfl) ?_
  refine e_Vi (As := [.int a_a]) (rest := []) X Y hT hS (m_X6_hasPart_15 hR a_a) mk_X6_hasPart gm_669 rfl rfl (by decide) hd_X6_hasPart ⟨rfl, rfl⟩ ⟨Nat.le_of_ble_eq_true rfl, Nat.le_of_ble_eq_true rfl⟩ hl.1 rfl (Nat.le_of_ble_eq_true rfl) dX8_near_5 ⟨Nat.zero_le _, Nat.zero_le _⟩ (fun r1 i1 g1 H locs hq hT hS => ?_)
  rcases hq with hq | hq
  ·
    obtain ⟨eh1, rfl, hf1_0⟩ := hq
    rw [(Prod.mk.inj eh1).1, (Prod.mk.inj eh1).2] at hT
    have h2 : rg 0 5 a_a := ⟨by have := (rg_top a_a).1; have := hf1_0.1; omega, by have := (rg_top a_a).2; have := hf1_0.2; omega⟩
    refine lv_if_eq (tgt := 23) hx hb dX8_near_8 (by decide) (fun c3 => (x_eq (rg_k (by decide) : rg 1 1 1) (rg_k (by decide) : rg 0 0 0) (i_eq c3) (by decide)).elim) (fun c3 => ?_)
    refine lv_aload_n hx hb dX8_near_11 rfl (lv_at hl 0 rfl) ?_
    refine r_getr X hT 0 3 15 fk_8_32 rfl rfl (by decide) dX8_near_12 ?_
    refine lv_iload_n hx hb dX8_near_15 rfl (lv_at hl 1 rfl) ?_
    refine lv_iconst (v := (-1)) hx hb dX8_near_16 (by decide) ?_
    refine e_Vi (As := [.int a_a, .int (-1)]) (rest := []) X Y hT hS (m_X6_neighbours_15 hR a_a ((-1))) mk_X6_neighbours gm_677 rfl rfl (by decide) hd_X6_neighbours ⟨rfl, rfl⟩ ⟨Nat.le_of_ble_eq_true rfl, Nat.le_of_ble_eq_true rfl⟩ hl.1 rfl (Nat.le_of_ble_eq_true rfl) dX8_near_17 ⟨Nat.zero_le _, Nat.zero_le _⟩ (fun r4 i4 g4 H locs hq hT hS => ?_)
    obtain ⟨eh4, hr4⟩ := hq
    rw [(Prod.mk.inj eh4).1, (Prod.mk.inj eh4).2] at hT
    refine lv_goto (tgt := 25) hx hb dX8_near_20 (by decide) ?_
    exact hret r4 _ _ _ _ _ _ dX8_near_25 hT hS ⟨rfl, (rg_w hr4 (by decide) : rg (-2) 255 r4)⟩
  ·
    obtain ⟨eh1, rfl⟩ := hq
    rw [(Prod.mk.inj eh1).1, (Prod.mk.inj eh1).2] at hT
    refine lv_if_eq (tgt := 23) hx hb dX8_near_8 (by decide) (fun c5 => ?_) (fun c5 => (x_ne (rg_k (by decide) : rg 0 0 0) (rg_k (by decide) : rg 0 0 0) (i_ne c5) (by decide)).elim)
    refine lv_bipush (v := (-2)) hx hb dX8_near_23 (by decide) ?_
    exact hret (-2) _ _ _ _ _ _ dX8_near_25 hT hS ⟨rfl, (rg_w (rg_k (by decide) : rg (-2) (-2) (-2)) (by decide) : rg (-2) 255 (-2))⟩
set_option maxRecDepth 100000 in
set_option maxHeartbeats 4000000 in
theorem m_X8_hasBit {l : Launch} {D : va_G} {h : Nat → Nat} {cz : Nat → ClassId} {z : EZ} {i : Nat → Nat → Int32} {g : Nat → Nat → Int64} (a_a : Int32) (a_b : Int32) : DtI l yX8_hasBit cX8_hasBit 2 (some .boolean) ({ frames := 0, cells := 0, slots := 0, locals := 0 } : Room) D h cz z i g [.int a_a, .int a_b] (fun r u => u = (i, g) ∧ rg 0 1 r) := by
  refine e_Z (fun v u hq => (z01 hq.2)) pn_X8_hasBit (Nat.le_of_ble_eq_true rfl) ?_
  intro p e s m args below meth c ls Q X Y hret hT hl hS
  have hx := X.1
  have hb := X.2.1
  have hl : lv_has ls 2 [(0, .int a_a), (1, .int a_b)] := hl
  refine lv_iload_n hx hb dX8_hasBit_0 rfl (lv_at hl 0 rfl) ?_
  refine lv_iload_n hx hb dX8_hasBit_1 rfl (lv_at hl 1 rfl) ?_
  refine q_ishr hx hb dX8_hasBit_2 (fun x1 ex1 => ?_)
  refine lv_iconst (v := 1) hx hb dX8_hasBit_3 (by decide) ?_
  refine q_iand hx hb dX8_hasBit_4 (fun x2 ex2 => ?_)
  have h3 : rg 0 1 x2 := rg_andr ex2 (rg_k (by decide) : rg 1 1 1) (by decide)
  refine lv_iconst (v := 1) hx hb dX8_hasBit_5 (by decide) ?_
  refine lv_icmp_ne (tgt := 13) hx hb dX8_hasBit_6 (by decide) (fun c4 => ?_) (fun c4 => ?_)
  ·
    have q4 : ¬ x2.toInt = 1 := i_ne c4
    have h5 : rg 0 0 x2 := t_nehi 0 h3 (rg_k (by decide) : rg 1 1 1) (i_ne c4) (by decide)
    refine lv_iconst (v := 0) hx hb dX8_hasBit_13 (by decide) ?_
    exact hret 0 _ _ _ _ _ _ dX8_hasBit_14 hT hS ⟨rfl, (rg_w (rg_k (by decide) : rg 0 0 0) (by decide) : rg 0 1 0)⟩
  ·
    have q4 : x2.toInt = 1 := i_eq c4
    have h6 : rg 1 1 x2 := t_eqx 1 1 h3 (rg_k (by decide) : rg 1 1 1) (i_eq c4) (by decide)
    refine lv_iconst (v := 1) hx hb dX8_hasBit_9 (by decide) ?_
    refine lv_goto (tgt := 14) hx hb dX8_hasBit_10 (by decide) ?_
    exact hret 1 _ _ _ _ _ _ dX8_hasBit_14 hT hS ⟨rfl, (rg_w (rg_k (by decide) : rg 1 1 1) (by decide) : rg 0 1 1)⟩
set_option maxRecDepth 100000 in
set_option maxHeartbeats 4000000 in
theorem m_X6_spread_15 {l : Launch} {D : va_G} {h : Nat → Nat} {cz : Nat → ClassId} {z : EZ} {i : Nat → Nat → Int32} {g : Nat → Nat → Int64} (hR : Rg rA i) (a_a : Int32) : DtI l yX6_spread cX6_spread 4 (some .int) ({ frames := 1, cells := 0, slots := 0, locals := 24 } : Room) D h cz z i g [.ref (h 15), .int a_a] (fun r u => u = (i, g)) := by
  refine e_I pn_X6_spread (Nat.le_of_ble_eq_true rfl) ?_
  intro p e s m args below meth c ls Q X Y hret hT hl hS
  have hx := X.1
  have hb := X.2.1
  have hl : lv_has ls 4 [(0, .ref (h 15)), (1, .int a_a)] := hl
  refine lv_iload_n hx hb dX6_spread_0 rfl (lv_at hl 1 rfl) ?_
  refine lv_istore_n (lv' := [(2, .int a_a), (0, .ref (h 15)), (1, .int a_a)]) hx hb dX6_spread_1 rfl hl (by decide) rfl (fun ls hl => ?_)
  refine lv_iconst (v := 0) hx hb dX6_spread_2 (by decide) ?_
  refine lv_istore_n (lv' := [(3, .int 0), (2, .int a_a), (0, .ref (h 15)), (1, .int a_a)]) hx hb dX6_spread_3 rfl hl (by decide) rfl (fun ls hl => ?_)
  have L4_1 : ∀ (n2_ : Nat) (x4_2 : Int32) (x4_3 : Int32) (H : Heap) (locs : List Loc) (ls : Array Slot), rg 0 6 x4_3 → TH D h cz i g H → va_S (hA h) s.heap H locs → lv_has ls 4 [(0, .ref (h 15)), (1, .int a_a), (2, .int x4_2), (3, .int x4_3)] → (6 - x4_3.toInt).toNat < n2_ → W p l e ({ frames := 1, cells := 0, slots := 0, locals := 24 } : Room) s m args below meth c H locs 0 0 Q (F0 m 4 ls []) := by
    intro n2_
    induction n2_ with
    | zero => intro x4_2 x4_3 H locs ls hhx4_3 hT hS hl hm2_; exact absurd hm2_ (Nat.not_lt_zero _)
    | succ n2_ ih2_ =>
      intro x4_2 x4_3 H locs ls hhx4_3 hT hS hl hm2_
      refine lv_iload_n hx hb dX6_spread_4 rfl (lv_at hl 3 rfl) ?_
      refine lv_aload_n hx hb dX6_spread_5 rfl (lv_at hl 0 rfl) ?_
      refine r_geti X hT 15 13 fk_6_52 rfl rfl (by decide) dX6_spread_6 ?_
      refine lv_icmp_ge (tgt := 35) hx hb dX6_spread_9 (by decide) (fun c3 => ?_) (fun c3 => ?_)
      ·
        have q3 : (i 15 13).toInt ≤ x4_3.toInt := i_le c3
        refine lv_iload_n hx hb dX6_spread_35 rfl (lv_at hl 2 rfl) ?_
        exact hret x4_2 _ _ _ _ _ _ dX6_spread_36 hT hS rfl
      ·
        have q3 : x4_3.toInt < (i 15 13).toInt := i_nle c3
        have h4 : rg 0 5 x4_3 := t_ltx 0 5 hhx4_3 (Rg_at hR 15 13 0 6 (by decide) rfl) (i_nle c3) (by decide)
        have h5 : rg 1 6 (i 15 13) := t_lty 1 6 hhx4_3 (Rg_at hR 15 13 0 6 (by decide) rfl) (i_nle c3) (by decide)
        refine lv_iload_n hx hb dX6_spread_12 rfl (lv_at hl 1 rfl) ?_
        refine lv_iload_n hx hb dX6_spread_13 rfl (lv_at hl 3 rfl) ?_
        refine e_Ni (As := [.int a_a, .int x4_3]) (rest := []) X Y hT hS (m_X8_hasBit a_a x4_3) sk_X8_hasBit Y.n0 hd_X8_hasBit ⟨rfl, rfl⟩ ⟨Nat.le_of_ble_eq_true rfl, Nat.le_of_ble_eq_true rfl⟩ hl.1 rfl (Nat.le_of_ble_eq_true rfl) dX6_spread_14 ⟨Nat.zero_le _, Nat.zero_le _⟩ (fun r6 i6 g6 H locs hq hT hS => ?_)
        obtain ⟨eh6, hr6⟩ := hq
        rw [(Prod.mk.inj eh6).1, (Prod.mk.inj eh6).2] at hT
        refine lv_if_eq (tgt := 29) hx hb dX6_spread_17 (by decide) (fun c7 => ?_) (fun c7 => ?_)
        ·
          have q7 : r6.toInt = 0 := i_eq c7
          have h8 : rg 0 0 r6 := t_eqx 0 0 hr6 (rg_k (by decide) : rg 0 0 0) (i_eq c7) (by decide)
          obtain ⟨x9, ex9⟩ : ∃ y : Int32, y = x4_3 + 1 := ⟨_, rfl⟩
          refine lv_iinc (v := x9) (lv' := [(3, .int x9), (0, .ref (h 15)), (1, .int a_a), (2, .int x4_2)]) hx hb dX6_spread_29 hl (k := 3) rfl (by rw [ex9]; rfl) (by decide) rfl (fun ls hl => ?_)
          obtain ⟨hx9, ax9⟩ := rg_add 1 6 ex9 h4 (rg_k (by decide) : rg 1 1 1) (by decide)
          replace ax9 : x9.toInt = x4_3.toInt + 1 := ax9
          refine lv_goto (tgt := 4) hx hb dX6_spread_32 (by decide) ?_
          exact ih2_ x4_2 x9 _ _ _ (rg_w hx9 (by decide) : rg 0 6 x9) hT hS (lv_sub hl [1, 2, 3, 0] rfl) (m_up ax9 hx9 (by decide) hm2_)
        ·
          have q7 : ¬ r6.toInt = 0 := i_ne c7
          have h10 : rg 1 1 r6 := t_nelo 1 hr6 (rg_k (by decide) : rg 0 0 0) (i_ne c7) (by decide)
          refine lv_iload_n hx hb dX6_spread_20 rfl (lv_at hl 2 rfl) ?_
          refine lv_aload_n hx hb dX6_spread_21 rfl (lv_at hl 0 rfl) ?_
          refine lv_iload_n hx hb dX6_spread_22 rfl (lv_at hl 3 rfl) ?_
          refine lv_iconst (v := (-1)) hx hb dX6_spread_23 (by decide) ?_
          refine e_Vi (As := [.int x4_3, .int (-1)]) (rest := [.int x4_2]) X Y hT hS (m_X6_neighbours_15 hR x4_3 ((-1))) mk_X6_neighbours gm_693 rfl rfl (by decide) hd_X6_neighbours ⟨rfl, rfl⟩ ⟨Nat.le_of_ble_eq_true rfl, Nat.le_of_ble_eq_true rfl⟩ hl.1 rfl (Nat.le_of_ble_eq_true rfl) dX6_spread_24 ⟨Nat.zero_le _, Nat.zero_le _⟩ (fun r11 i11 g11 H locs hq hT hS => ?_)
          obtain ⟨eh11, hr11⟩ := hq
          rw [(Prod.mk.inj eh11).1, (Prod.mk.inj eh11).2] at hT
          refine q_ior hx hb dX6_spread_27 (fun x12 ex12 => ?_)
          refine lv_istore_n (lv' := [(2, .int x12), (0, .ref (h 15)), (1, .int a_a), (3, .int x4_3)]) hx hb dX6_spread_28 rfl hl (by decide) rfl (fun ls hl => ?_)
          obtain ⟨x13, ex13⟩ : ∃ y : Int32, y = x4_3 + 1 := ⟨_, rfl⟩
          refine lv_iinc (v := x13) (lv' := [(3, .int x13), (2, .int x12), (0, .ref (h 15)), (1, .int a_a)]) hx hb dX6_spread_29 hl (k := 3) rfl (by rw [ex13]; rfl) (by decide) rfl (fun ls hl => ?_)
          obtain ⟨hx13, ax13⟩ := rg_add 1 6 ex13 h4 (rg_k (by decide) : rg 1 1 1) (by decide)
          replace ax13 : x13.toInt = x4_3.toInt + 1 := ax13
          refine lv_goto (tgt := 4) hx hb dX6_spread_32 (by decide) ?_
          exact ih2_ x12 x13 _ _ _ (rg_w hx13 (by decide) : rg 0 6 x13) hT hS (lv_sub hl [2, 3, 1, 0] rfl) (m_up ax13 hx13 (by decide) hm2_)
  exact L4_1 _ a_a (0) _ _ _ (rg_w (rg_k (by decide) : rg 0 0 0) (by decide) : rg 0 6 0) hT hS (lv_sub hl [2, 3, 1, 0] rfl) (Nat.lt_succ_self _)
set_option maxRecDepth 100000 in
set_option maxHeartbeats 4000000 in
theorem m_X8_far {l : Launch} {D : va_G} {h : Nat → Nat} {cz : Nat → ClassId} {z : EZ} {i : Nat → Nat → Int32} {g : Nat → Nat → Int64} (hR : Rg rA i) (a_a : Int32) (a_b : Int32) : DtI l yX8_far cX8_far 5 (some .int) ({ frames := 2, cells := 0, slots := 0, locals := 47 } : Room) D h cz z i g [.ref (h 0), .int a_a, .int a_b] (fun r u => u = (i, g) ∧ rg (-2) 5 r) := by
  refine e_I pn_X8_far (Nat.le_of_ble_eq_true rfl) ?_
  intro p e s m args below meth c ls Q X Y hret hT hl hS
  have hx := X.1
  have hb := X.2.1
  have hl : lv_has ls 5 [(0, .ref (h 0)), (1, .int a_a), (2, .int a_b)] := hl
  refine lv_aload_n hx hb dX8_far_0 rfl (lv_at hl 0 rfl) ?_
  refine r_getr X hT 0 3 15 fk_8_32 rfl rfl (by decide) dX8_far_1 ?_
  refine lv_iload_n hx hb dX8_far_4 rfl (lv_at hl 1 rfl) ?_
  refine e_Vi (As := [.int a_a]) (rest := []) X Y hT hS (m_X6_hasPart_15 hR a_a) mk_X6_hasPart gm_669 rfl rfl (by decide) hd_X6_hasPart ⟨rfl, rfl⟩ ⟨Nat.le_of_ble_eq_true rfl, Nat.le_of_ble_eq_true rfl⟩ hl.1 rfl (Nat.le_of_ble_eq_true rfl) dX8_far_5 ⟨Nat.zero_le _, Nat.zero_le _⟩ (fun r1 i1 g1 H locs hq hT hS => ?_)
  rcases hq with hq | hq
  ·
    obtain ⟨eh1, rfl, hf1_0⟩ := hq
    rw [(Prod.mk.inj eh1).1, (Prod.mk.inj eh1).2] at hT
    have h2 : rg 0 5 a_a := ⟨by have := (rg_top a_a).1; have := hf1_0.1; omega, by have := (rg_top a_a).2; have := hf1_0.2; omega⟩
    refine lv_if_eq (tgt := 22) hx hb dX8_far_8 (by decide) (fun c3 => (x_eq (rg_k (by decide) : rg 1 1 1) (rg_k (by decide) : rg 0 0 0) (i_eq c3) (by decide)).elim) (fun c3 => ?_)
    refine lv_aload_n hx hb dX8_far_11 rfl (lv_at hl 0 rfl) ?_
    refine r_getr X hT 0 3 15 fk_8_32 rfl rfl (by decide) dX8_far_12 ?_
    refine lv_iload_n hx hb dX8_far_15 rfl (lv_at hl 2 rfl) ?_
    refine e_Vi (As := [.int a_b]) (rest := []) X Y hT hS (m_X6_hasPart_15 hR a_b) mk_X6_hasPart gm_669 rfl rfl (by decide) hd_X6_hasPart ⟨rfl, rfl⟩ ⟨Nat.le_of_ble_eq_true rfl, Nat.le_of_ble_eq_true rfl⟩ hl.1 rfl (Nat.le_of_ble_eq_true rfl) dX8_far_16 ⟨Nat.zero_le _, Nat.zero_le _⟩ (fun r4 i4 g4 H locs hq hT hS => ?_)
    rcases hq with hq | hq
    ·
      obtain ⟨eh4, rfl, hf4_0⟩ := hq
      rw [(Prod.mk.inj eh4).1, (Prod.mk.inj eh4).2] at hT
      have h5 : rg 0 5 a_b := ⟨by have := (rg_top a_b).1; have := hf4_0.1; omega, by have := (rg_top a_b).2; have := hf4_0.2; omega⟩
      refine lv_if_ne (tgt := 25) hx hb dX8_far_19 (by decide) (fun c6 => ?_) (fun c6 => (x_eq (rg_k (by decide) : rg 1 1 1) (rg_k (by decide) : rg 0 0 0) (i_eq c6) (by decide)).elim)
      refine lv_iconst (v := 1) hx hb dX8_far_25 (by decide) ?_
      refine lv_iload_n hx hb dX8_far_26 rfl (lv_at hl 1 rfl) ?_
      refine q_ishl hx hb dX8_far_27 (fun x7 ex7 => ?_)
      have h8 : rg 1 32 x7 := rg_shl1 ex7 h2 (by decide)
      refine lv_istore_n (lv' := [(3, .int x7), (0, .ref (h 0)), (1, .int a_a), (2, .int a_b)]) hx hb dX8_far_28 rfl hl (by decide) rfl (fun ls hl => ?_)
      refine lv_iconst (v := 0) hx hb dX8_far_29 (by decide) ?_
      refine lv_istore (lv' := [(4, .int 0), (3, .int x7), (0, .ref (h 0)), (1, .int a_a), (2, .int a_b)]) hx hb dX8_far_30 hl (by decide) rfl (fun ls hl => ?_)
      have L32_9 : ∀ (n10_ : Nat) (x32_3 : Int32) (x32_4 : Int32) (H : Heap) (locs : List Loc) (ls : Array Slot), rg 0 6 x32_4 → TH D h cz i g H → va_S (hA h) s.heap H locs → lv_has ls 5 [(0, .ref (h 0)), (2, .int a_b), (3, .int x32_3), (4, .int x32_4)] → (6 - x32_4.toInt).toNat < n10_ → W p l e ({ frames := 2, cells := 0, slots := 0, locals := 47 } : Room) s m args below meth c H locs 0 0 Q (F0 m 32 ls []) := by
        intro n10_
        induction n10_ with
        | zero => intro x32_3 x32_4 H locs ls hhx32_4 hT hS hl hm10_; exact absurd hm10_ (Nat.not_lt_zero _)
        | succ n10_ ih10_ =>
          intro x32_3 x32_4 H locs ls hhx32_4 hT hS hl hm10_
          refine lv_iload hx hb dX8_far_32 (lv_at hl 3 rfl) ?_
          refine lv_bipush (v := 6) hx hb dX8_far_34 (by decide) ?_
          refine lv_icmp_ge (tgt := 65) hx hb dX8_far_36 (by decide) (fun c11 => ?_) (fun c11 => ?_)
          ·
            have q11 : 6 ≤ x32_4.toInt := i_le c11
            have h12 : rg 6 6 x32_4 := t_ley 6 6 (rg_k (by decide) : rg 6 6 6) hhx32_4 (i_le c11) (by decide)
            refine lv_iconst (v := (-1)) hx hb dX8_far_65 (by decide) ?_
            exact hret (-1) _ _ _ _ _ _ dX8_far_66 hT hS ⟨rfl, (rg_w (rg_k (by decide) : rg (-1) (-1) (-1)) (by decide) : rg (-2) 5 (-1))⟩
          ·
            have q11 : x32_4.toInt < 6 := i_nle c11
            have h13 : rg 0 5 x32_4 := t_ltx 0 5 hhx32_4 (rg_k (by decide) : rg 6 6 6) (i_nle c11) (by decide)
            refine lv_iload_n hx hb dX8_far_39 rfl (lv_at hl 2 rfl) ?_
            refine lv_iload_n hx hb dX8_far_40 rfl (lv_at hl 1 rfl) ?_
            refine e_Si (As := [.int x32_3, .int a_b]) (rest := []) X Y hT hS (m_X8_hasBit x32_3 a_b) sk_X8_hasBit gm_685 hd_X8_hasBit ⟨rfl, rfl⟩ ⟨Nat.le_of_ble_eq_true rfl, Nat.le_of_ble_eq_true rfl⟩ hl.1 rfl (Nat.le_of_ble_eq_true rfl) dX8_far_41 ⟨Nat.zero_le _, Nat.zero_le _⟩ (fun r14 i14 g14 H locs hq hT hS => ?_)
            obtain ⟨eh14, hr14⟩ := hq
            rw [(Prod.mk.inj eh14).1, (Prod.mk.inj eh14).2] at hT
            refine lv_if_eq (tgt := 50) hx hb dX8_far_44 (by decide) (fun c15 => ?_) (fun c15 => ?_)
            ·
              have q15 : r14.toInt = 0 := i_eq c15
              have h16 : rg 0 0 r14 := t_eqx 0 0 hr14 (rg_k (by decide) : rg 0 0 0) (i_eq c15) (by decide)
              refine lv_aload_n hx hb dX8_far_50 rfl (lv_at hl 0 rfl) ?_
              refine r_getr X hT 0 3 15 fk_8_32 rfl rfl (by decide) dX8_far_51 ?_
              refine lv_iload_n hx hb dX8_far_54 rfl (lv_at hl 2 rfl) ?_
              refine e_Vi (As := [.int x32_3]) (rest := []) X Y hT hS (m_X6_spread_15 hR x32_3) mk_X6_spread gm_688 rfl rfl (by decide) hd_X6_spread ⟨rfl, rfl⟩ ⟨Nat.le_of_ble_eq_true rfl, Nat.le_of_ble_eq_true rfl⟩ hl.1 rfl (Nat.le_of_ble_eq_true rfl) dX8_far_55 ⟨Nat.zero_le _, Nat.zero_le _⟩ (fun r17 i17 g17 H locs hq hT hS => ?_)
              have eh17 := hq
              rw [(Prod.mk.inj eh17).1, (Prod.mk.inj eh17).2] at hT
              refine lv_istore_n (lv' := [(3, .int r17), (0, .ref (h 0)), (2, .int a_b), (4, .int x32_4)]) hx hb dX8_far_58 rfl hl (by decide) rfl (fun ls hl => ?_)
              obtain ⟨x18, ex18⟩ : ∃ y : Int32, y = x32_4 + 1 := ⟨_, rfl⟩
              refine lv_iinc (v := x18) (lv' := [(4, .int x18), (3, .int r17), (0, .ref (h 0)), (2, .int a_b)]) hx hb dX8_far_59 hl (k := 3) rfl (by rw [ex18]; rfl) (by decide) rfl (fun ls hl => ?_)
              obtain ⟨hx18, ax18⟩ := rg_add 1 6 ex18 h13 (rg_k (by decide) : rg 1 1 1) (by decide)
              replace ax18 : x18.toInt = x32_4.toInt + 1 := ax18
              refine lv_goto (tgt := 32) hx hb dX8_far_62 (by decide) ?_
              exact ih10_ r17 x18 _ _ _ (rg_w hx18 (by decide) : rg 0 6 x18) hT hS (lv_sub hl [2, 3, 1, 0] rfl) (m_up ax18 hx18 (by decide) hm10_)
            ·
              have q15 : ¬ r14.toInt = 0 := i_ne c15
              have h19 : rg 1 1 r14 := t_nelo 1 hr14 (rg_k (by decide) : rg 0 0 0) (i_ne c15) (by decide)
              refine lv_iload hx hb dX8_far_47 (lv_at hl 3 rfl) ?_
              exact hret x32_4 _ _ _ _ _ _ dX8_far_49 hT hS ⟨rfl, (rg_w h13 (by decide) : rg (-2) 5 x32_4)⟩
      exact L32_9 _ x7 (0) _ _ _ (rg_w (rg_k (by decide) : rg 0 0 0) (by decide) : rg 0 6 0) hT hS (lv_sub hl [2, 4, 1, 0] rfl) (Nat.lt_succ_self _)
    ·
      obtain ⟨eh4, rfl⟩ := hq
      rw [(Prod.mk.inj eh4).1, (Prod.mk.inj eh4).2] at hT
      refine lv_if_ne (tgt := 25) hx hb dX8_far_19 (by decide) (fun c20 => (x_ne (rg_k (by decide) : rg 0 0 0) (rg_k (by decide) : rg 0 0 0) (i_ne c20) (by decide)).elim) (fun c20 => ?_)
      refine lv_bipush (v := (-2)) hx hb dX8_far_22 (by decide) ?_
      exact hret (-2) _ _ _ _ _ _ dX8_far_24 hT hS ⟨rfl, (rg_w (rg_k (by decide) : rg (-2) (-2) (-2)) (by decide) : rg (-2) 5 (-2))⟩
  ·
    obtain ⟨eh1, rfl⟩ := hq
    rw [(Prod.mk.inj eh1).1, (Prod.mk.inj eh1).2] at hT
    refine lv_if_eq (tgt := 22) hx hb dX8_far_8 (by decide) (fun c21 => ?_) (fun c21 => (x_ne (rg_k (by decide) : rg 0 0 0) (rg_k (by decide) : rg 0 0 0) (i_ne c21) (by decide)).elim)
    refine lv_bipush (v := (-2)) hx hb dX8_far_22 (by decide) ?_
    exact hret (-2) _ _ _ _ _ _ dX8_far_24 hT hS ⟨rfl, (rg_w (rg_k (by decide) : rg (-2) (-2) (-2)) (by decide) : rg (-2) 5 (-2))⟩
set_option maxRecDepth 100000 in
set_option maxHeartbeats 4000000 in
theorem m_X6_isTold_15 {l : Launch} {D : va_G} {h : Nat → Nat} {cz : Nat → ClassId} {z : EZ} {i : Nat → Nat → Int32} {g : Nat → Nat → Int64} (hR : Rg rA i) : DtI l yX6_isTold cX6_isTold 1 (some .boolean) ({ frames := 0, cells := 0, slots := 0, locals := 0 } : Room) D h cz z i g [.ref (h 15)] (fun r u => u = (i, g) ∧ rg 0 1 r) := by
  refine e_Z (fun v u hq => (z01 hq.2)) pn_X6_isTold (Nat.le_of_ble_eq_true rfl) ?_
  intro p e s m args below meth c ls Q X Y hret hT hl hS
  have hx := X.1
  have hb := X.2.1
  have hl : lv_has ls 1 [(0, .ref (h 15))] := hl
  refine lv_aload_n hx hb dX6_isTold_0 rfl (lv_at hl 0 rfl) ?_
  refine r_geti X hT 15 17 fk_6_64 rfl rfl (by decide) dX6_isTold_1 ?_
  refine lv_if_le (tgt := 11) hx hb dX6_isTold_4 (by decide) (fun c1 => ?_) (fun c1 => ?_)
  ·
    have q1 : (i 15 17).toInt ≤ 0 := i_le c1
    have h2 : rg (-2147483648) 0 (i 15 17) := t_lex (-2147483648) 0 (rg_top (i 15 17)) (rg_k (by decide) : rg 0 0 0) (i_le c1) (by decide)
    refine lv_iconst (v := 0) hx hb dX6_isTold_11 (by decide) ?_
    exact hret 0 _ _ _ _ _ _ dX6_isTold_12 hT hS ⟨rfl, (rg_w (rg_k (by decide) : rg 0 0 0) (by decide) : rg 0 1 0)⟩
  ·
    have q1 : 0 < (i 15 17).toInt := i_nle c1
    have h3 : rg 1 2147483647 (i 15 17) := t_lty 1 2147483647 (rg_k (by decide) : rg 0 0 0) (rg_top (i 15 17)) (i_nle c1) (by decide)
    refine lv_iconst (v := 1) hx hb dX6_isTold_7 (by decide) ?_
    refine lv_goto (tgt := 12) hx hb dX6_isTold_8 (by decide) ?_
    exact hret 1 _ _ _ _ _ _ dX6_isTold_12 hT hS ⟨rfl, (rg_w (rg_k (by decide) : rg 1 1 1) (by decide) : rg 0 1 1)⟩
set_option maxRecDepth 100000 in
set_option maxHeartbeats 4000000 in
theorem m_X6_hasYear_15 {l : Launch} {D : va_G} {h : Nat → Nat} {cz : Nat → ClassId} {z : EZ} {i : Nat → Nat → Int32} {g : Nat → Nat → Int64} (hR : Rg rA i) (a_a : Int32) : DtI l yX6_hasYear cX6_hasYear 2 (some .boolean) ({ frames := 1, cells := 0, slots := 0, locals := 20 } : Room) D h cz z i g [.ref (h 15), .int a_a] (fun r u => (u = (i, g) ∧ r = 1 ∧ rg 0 12 a_a) ∨ (u = (i, g) ∧ r = 0)) := by
  refine e_Z (fun v u hq => (hq.elim (fun hq => (Or.inr hq.2.1)) (fun hq => (Or.inl hq.2)))) pn_X6_hasYear (Nat.le_of_ble_eq_true rfl) ?_
  intro p e s m args below meth c ls Q X Y hret hT hl hS
  have hx := X.1
  have hb := X.2.1
  have hl : lv_has ls 2 [(0, .ref (h 15)), (1, .int a_a)] := hl
  refine lv_aload_n hx hb dX6_hasYear_0 rfl (lv_at hl 0 rfl) ?_
  refine e_Vi (As := []) (rest := []) X Y hT hS (m_X6_isTold_15 hR) mk_X6_isTold gm_735 rfl rfl (by decide) hd_X6_isTold ⟨rfl, rfl⟩ ⟨Nat.le_of_ble_eq_true rfl, Nat.le_of_ble_eq_true rfl⟩ hl.1 rfl (Nat.le_of_ble_eq_true rfl) dX6_hasYear_1 ⟨Nat.zero_le _, Nat.zero_le _⟩ (fun r1 i1 g1 H locs hq hT hS => ?_)
  obtain ⟨eh1, hr1⟩ := hq
  rw [(Prod.mk.inj eh1).1, (Prod.mk.inj eh1).2] at hT
  refine lv_if_eq (tgt := 23) hx hb dX6_hasYear_4 (by decide) (fun c2 => ?_) (fun c2 => ?_)
  ·
    have q2 : r1.toInt = 0 := i_eq c2
    have h3 : rg 0 0 r1 := t_eqx 0 0 hr1 (rg_k (by decide) : rg 0 0 0) (i_eq c2) (by decide)
    refine lv_iconst (v := 0) hx hb dX6_hasYear_23 (by decide) ?_
    exact hret 0 _ _ _ _ _ _ dX6_hasYear_24 hT hS (Or.inr ⟨rfl, rfl⟩)
  ·
    have q2 : ¬ r1.toInt = 0 := i_ne c2
    have h4 : rg 1 1 r1 := t_nelo 1 hr1 (rg_k (by decide) : rg 0 0 0) (i_ne c2) (by decide)
    refine lv_iload_n hx hb dX6_hasYear_7 rfl (lv_at hl 1 rfl) ?_
    refine lv_if_lt (tgt := 23) hx hb dX6_hasYear_8 (by decide) (fun c5 => ?_) (fun c5 => ?_)
    ·
      have q5 : a_a.toInt < 0 := i_lt c5
      have h6 : rg (-2147483648) (-1) a_a := t_ltx (-2147483648) (-1) (rg_top a_a) (rg_k (by decide) : rg 0 0 0) (i_lt c5) (by decide)
      refine lv_iconst (v := 0) hx hb dX6_hasYear_23 (by decide) ?_
      exact hret 0 _ _ _ _ _ _ dX6_hasYear_24 hT hS (Or.inr ⟨rfl, rfl⟩)
    ·
      have q5 : 0 ≤ a_a.toInt := i_nlt c5
      have h7 : rg 0 2147483647 a_a := t_ley 0 2147483647 (rg_k (by decide) : rg 0 0 0) (rg_top a_a) (i_nlt c5) (by decide)
      refine lv_iload_n hx hb dX6_hasYear_11 rfl (lv_at hl 1 rfl) ?_
      refine lv_aload_n hx hb dX6_hasYear_12 rfl (lv_at hl 0 rfl) ?_
      refine r_geti X hT 15 10 fk_6_42 rfl rfl (by decide) dX6_hasYear_13 ?_
      refine lv_icmp_gt (tgt := 23) hx hb dX6_hasYear_16 (by decide) (fun c8 => ?_) (fun c8 => ?_)
      ·
        have q8 : (i 15 10).toInt < a_a.toInt := i_lt c8
        refine lv_iconst (v := 0) hx hb dX6_hasYear_23 (by decide) ?_
        exact hret 0 _ _ _ _ _ _ dX6_hasYear_24 hT hS (Or.inr ⟨rfl, rfl⟩)
      ·
        have q8 : a_a.toInt ≤ (i 15 10).toInt := i_nlt c8
        have h9 : rg 0 12 a_a := t_lex 0 12 h7 (Rg_at hR 15 10 (-1) 12 (by decide) rfl) (i_nlt c8) (by decide)
        have h10 : rg 0 12 (i 15 10) := t_ley 0 12 h7 (Rg_at hR 15 10 (-1) 12 (by decide) rfl) (i_nlt c8) (by decide)
        refine lv_iconst (v := 1) hx hb dX6_hasYear_19 (by decide) ?_
        refine lv_goto (tgt := 24) hx hb dX6_hasYear_20 (by decide) ?_
        exact hret 1 _ _ _ _ _ _ dX6_hasYear_24 hT hS (Or.inl ⟨rfl, rfl, h9⟩)
set_option maxRecDepth 100000 in
set_option maxHeartbeats 4000000 in
theorem m_X8_hasPartAndYear {l : Launch} {D : va_G} {h : Nat → Nat} {cz : Nat → ClassId} {z : EZ} {i : Nat → Nat → Int32} {g : Nat → Nat → Int64} (hR : Rg rA i) (a_a : Int32) (a_b : Int32) : DtI l yX8_hasPartAndYear cX8_hasPartAndYear 3 (some .boolean) ({ frames := 2, cells := 0, slots := 0, locals := 41 } : Room) D h cz z i g [.ref (h 0), .int a_a, .int a_b] (fun r u => (u = (i, g) ∧ r = 1 ∧ rg 0 5 a_a ∧ rg 0 12 a_b) ∨ (u = (i, g) ∧ r = 0)) := by
  refine e_Z (fun v u hq => (hq.elim (fun hq => (Or.inr hq.2.1)) (fun hq => (Or.inl hq.2)))) pn_X8_hasPartAndYear (Nat.le_of_ble_eq_true rfl) ?_
  intro p e s m args below meth c ls Q X Y hret hT hl hS
  have hx := X.1
  have hb := X.2.1
  have hl : lv_has ls 3 [(0, .ref (h 0)), (1, .int a_a), (2, .int a_b)] := hl
  refine lv_aload_n hx hb dX8_hasPartAndYear_0 rfl (lv_at hl 0 rfl) ?_
  refine r_getr X hT 0 3 15 fk_8_32 rfl rfl (by decide) dX8_hasPartAndYear_1 ?_
  refine lv_iload_n hx hb dX8_hasPartAndYear_4 rfl (lv_at hl 1 rfl) ?_
  refine e_Vi (As := [.int a_a]) (rest := []) X Y hT hS (m_X6_hasPart_15 hR a_a) mk_X6_hasPart gm_669 rfl rfl (by decide) hd_X6_hasPart ⟨rfl, rfl⟩ ⟨Nat.le_of_ble_eq_true rfl, Nat.le_of_ble_eq_true rfl⟩ hl.1 rfl (Nat.le_of_ble_eq_true rfl) dX8_hasPartAndYear_5 ⟨Nat.zero_le _, Nat.zero_le _⟩ (fun r1 i1 g1 H locs hq hT hS => ?_)
  rcases hq with hq | hq
  ·
    obtain ⟨eh1, rfl, hf1_0⟩ := hq
    rw [(Prod.mk.inj eh1).1, (Prod.mk.inj eh1).2] at hT
    have h2 : rg 0 5 a_a := ⟨by have := (rg_top a_a).1; have := hf1_0.1; omega, by have := (rg_top a_a).2; have := hf1_0.2; omega⟩
    refine lv_if_eq (tgt := 26) hx hb dX8_hasPartAndYear_8 (by decide) (fun c3 => (x_eq (rg_k (by decide) : rg 1 1 1) (rg_k (by decide) : rg 0 0 0) (i_eq c3) (by decide)).elim) (fun c3 => ?_)
    refine lv_aload_n hx hb dX8_hasPartAndYear_11 rfl (lv_at hl 0 rfl) ?_
    refine r_getr X hT 0 3 15 fk_8_32 rfl rfl (by decide) dX8_hasPartAndYear_12 ?_
    refine lv_iload_n hx hb dX8_hasPartAndYear_15 rfl (lv_at hl 2 rfl) ?_
    refine e_Vi (As := [.int a_b]) (rest := []) X Y hT hS (m_X6_hasYear_15 hR a_b) mk_X6_hasYear gm_731 rfl rfl (by decide) hd_X6_hasYear ⟨rfl, rfl⟩ ⟨Nat.le_of_ble_eq_true rfl, Nat.le_of_ble_eq_true rfl⟩ hl.1 rfl (Nat.le_of_ble_eq_true rfl) dX8_hasPartAndYear_16 ⟨Nat.zero_le _, Nat.zero_le _⟩ (fun r4 i4 g4 H locs hq hT hS => ?_)
    rcases hq with hq | hq
    ·
      obtain ⟨eh4, rfl, hf4_0⟩ := hq
      rw [(Prod.mk.inj eh4).1, (Prod.mk.inj eh4).2] at hT
      have h5 : rg 0 12 a_b := ⟨by have := (rg_top a_b).1; have := hf4_0.1; omega, by have := (rg_top a_b).2; have := hf4_0.2; omega⟩
      refine lv_if_eq (tgt := 26) hx hb dX8_hasPartAndYear_19 (by decide) (fun c6 => (x_eq (rg_k (by decide) : rg 1 1 1) (rg_k (by decide) : rg 0 0 0) (i_eq c6) (by decide)).elim) (fun c6 => ?_)
      refine lv_iconst (v := 1) hx hb dX8_hasPartAndYear_22 (by decide) ?_
      refine lv_goto (tgt := 27) hx hb dX8_hasPartAndYear_23 (by decide) ?_
      exact hret 1 _ _ _ _ _ _ dX8_hasPartAndYear_27 hT hS (Or.inl ⟨rfl, rfl, h2, h5⟩)
    ·
      obtain ⟨eh4, rfl⟩ := hq
      rw [(Prod.mk.inj eh4).1, (Prod.mk.inj eh4).2] at hT
      refine lv_if_eq (tgt := 26) hx hb dX8_hasPartAndYear_19 (by decide) (fun c7 => ?_) (fun c7 => (x_ne (rg_k (by decide) : rg 0 0 0) (rg_k (by decide) : rg 0 0 0) (i_ne c7) (by decide)).elim)
      refine lv_iconst (v := 0) hx hb dX8_hasPartAndYear_26 (by decide) ?_
      exact hret 0 _ _ _ _ _ _ dX8_hasPartAndYear_27 hT hS (Or.inr ⟨rfl, rfl⟩)
  ·
    obtain ⟨eh1, rfl⟩ := hq
    rw [(Prod.mk.inj eh1).1, (Prod.mk.inj eh1).2] at hT
    refine lv_if_eq (tgt := 26) hx hb dX8_hasPartAndYear_8 (by decide) (fun c8 => ?_) (fun c8 => (x_ne (rg_k (by decide) : rg 0 0 0) (rg_k (by decide) : rg 0 0 0) (i_ne c8) (by decide)).elim)
    refine lv_iconst (v := 0) hx hb dX8_hasPartAndYear_26 (by decide) ?_
    exact hret 0 _ _ _ _ _ _ dX8_hasPartAndYear_27 hT hS (Or.inr ⟨rfl, rfl⟩)
set_option maxRecDepth 100000 in
set_option maxHeartbeats 4000000 in
theorem m_J7_fill_53178_67_0 {l : Launch} {D : va_G} {h : Nat → Nat} {cz : Nat → ClassId} {z : EZ} {i : Nat → Nat → Int32} {g : Nat → Nat → Int64} (hR : Rg rA i) (a_b : Int32) (ha_b : rg 0 0 a_b) : DtV l yJ7_fill_53178 cJ7_fill_53178 4 none ({ frames := 0, cells := 0, slots := 0, locals := 0 } : Room) D h cz z i g [.ref (h 67), .int a_b] (fun u => Rg rA u.1 ∧ Fr [67] [] i g u ∧ (∀ k : Nat, k < 72 → u.1 67 k = a_b)) := by
  refine e_V pn_J7_fill_53178 (Nat.le_of_ble_eq_true rfl) ?_
  intro p e s m args below meth c ls Q X Y hret hT hl hS
  have hx := X.1
  have hb := X.2.1
  have hl : lv_has ls 4 [(0, .ref (h 67)), (1, .int a_b)] := hl
  have hF : Fr [67] [] i g (i, g) := Fr_rf _ _ _ _
  refine lv_iconst (v := 0) hx hb dJ7_fill_53178_0 (by decide) ?_
  refine lv_istore_n (lv' := [(2, .int 0), (0, .ref (h 67)), (1, .int a_b)]) hx hb dJ7_fill_53178_1 rfl hl (by decide) rfl (fun ls hl => ?_)
  refine lv_aload_n hx hb dJ7_fill_53178_2 rfl (lv_at hl 1 rfl) ?_
  refine r_alen (v := 72) X hT 67 rfl (by decide) (by decide) (by decide) dJ7_fill_53178_3 ?_
  refine lv_istore_n (lv' := [(3, .int 72), (2, .int 0), (0, .ref (h 67)), (1, .int a_b)]) hx hb dJ7_fill_53178_4 rfl hl (by decide) rfl (fun ls hl => ?_)
  have L5_1 : ∀ (n3_ : Nat) (x5_2 : Int32) (i2 : Nat → Nat → Int32) (g2 : Nat → Nat → Int64) (H : Heap) (locs : List Loc) (ls : Array Slot), rg 0 99 x5_2 → Rg rA i2 → Fr [67] [] i g (i2, g2) → (∀ k : Nat, (k : Int) < x5_2.toInt → i2 67 k = a_b) → TH D h cz i2 g2 H → va_S (hA h) s.heap H locs → lv_has ls 4 [(0, .ref (h 67)), (1, .int a_b), (2, .int x5_2), (3, .int 72)] → (99 - x5_2.toInt).toNat < n3_ → W p l e ({ frames := 0, cells := 0, slots := 0, locals := 0 } : Room) s m args below meth c H locs 0 0 Q (F0 m 5 ls []) := by
    intro n3_
    induction n3_ with
    | zero => intro x5_2 i2 g2 H locs ls hhx5_2 hR2 hF2 hfl hT hS hl hm3_; exact absurd hm3_ (Nat.not_lt_zero _)
    | succ n3_ ih3_ =>
      intro x5_2 i2 g2 H locs ls hhx5_2 hR2 hF2 hfl hT hS hl hm3_
      refine lv_iload_n hx hb dJ7_fill_53178_5 rfl (lv_at hl 2 rfl) ?_
      refine lv_iload_n hx hb dJ7_fill_53178_6 rfl (lv_at hl 3 rfl) ?_
      refine lv_icmp_ge (tgt := 20) hx hb dJ7_fill_53178_7 (by decide) (fun c4 => ?_) (fun c4 => ?_)
      ·
        have q4 : 72 ≤ x5_2.toInt := i_le c4
        have h5 : rg 72 99 x5_2 := t_ley 72 99 (rg_k (by decide) : rg 72 72 72) hhx5_2 (i_le c4) (by decide)
        exact hret _ _ _ _ _ _ dJ7_fill_53178_20 hT hS ⟨hR2, hF2, (fun k hk => hfl k (by have := q4; omega))⟩
      ·
        have q4 : x5_2.toInt < 72 := i_nle c4
        have h6 : rg 0 71 x5_2 := t_ltx 0 71 hhx5_2 (rg_k (by decide) : rg 72 72 72) (i_nle c4) (by decide)
        refine lv_aload_n hx hb dJ7_fill_53178_10 rfl (lv_at hl 0 rfl) ?_
        refine lv_iload_n hx hb dJ7_fill_53178_11 rfl (lv_at hl 2 rfl) ?_
        refine lv_iload_n hx hb dJ7_fill_53178_12 rfl (lv_at hl 1 rfl) ?_
        refine r_iast X hT hS 67 rfl (by decide) (v_in h6 (by decide)) dJ7_fill_53178_13 (fun H locs i7 ei7 hT hS => ?_)
        have hR7 := Rg_put hR2 ei7 0 20 rfl ha_b (by decide)
        have hF7 := Fr_puti hF2 ei7 (by decide)
        obtain ⟨x8, ex8⟩ : ∃ y : Int32, y = x5_2 + 1 := ⟨_, rfl⟩
        refine lv_iinc (v := x8) (lv' := [(2, .int x8), (0, .ref (h 67)), (1, .int a_b), (3, .int 72)]) hx hb dJ7_fill_53178_14 hl (k := 2) rfl (by rw [ex8]; rfl) (by decide) rfl (fun ls hl => ?_)
        obtain ⟨hx8, ax8⟩ := rg_add 1 72 ex8 h6 (rg_k (by decide) : rg 1 1 1) (by decide)
        replace ax8 : x8.toInt = x5_2.toInt + 1 := ax8
        refine lv_goto (tgt := 5) hx hb dJ7_fill_53178_17 (by decide) ?_
        exact ih3_ x8 i7 g2 _ _ _ (rg_w hx8 (by decide) : rg 0 99 x8) hR7 hF7 (fill_st hfl hhx5_2 ei7 ax8) hT hS (lv_sub hl [1, 2, 0, 3] rfl) (m_up ax8 hx8 (by decide) hm3_)
  exact L5_1 _ (0) i g _ _ _ (rg_w (rg_k (by decide) : rg 0 0 0) (by decide) : rg 0 99 0) hR hF (fun k hk => absurd hk (by have : (0 : Int32).toInt = 0 := rfl; omega)) hT hS (lv_sub hl [2, 3, 1, 0] rfl) (Nat.lt_succ_self _)
set_option maxRecDepth 100000 in
set_option maxHeartbeats 4000000 in
theorem m_X0_begin_65 {l : Launch} {D : va_G} {h : Nat → Nat} {cz : Nat → ClassId} {z : EZ} {i : Nat → Nat → Int32} {g : Nat → Nat → Int64} (hR : Rg rA i) (a_a : Int32) : DtV l yX0_begin cX0_begin 3 none ({ frames := 1, cells := 0, slots := 0, locals := 24 } : Room) D h cz z i g [.ref (h 65), .int a_a] (fun u => Rg rA u.1 ∧ Fr [65, 66, 67] [] i g u) := by
  refine e_V pn_X0_begin (Nat.le_of_ble_eq_true rfl) ?_
  intro p e s m args below meth c ls Q X Y hret hT hl hS
  have hx := X.1
  have hb := X.2.1
  have hl : lv_has ls 3 [(0, .ref (h 65)), (1, .int a_a)] := hl
  have hF : Fr [65, 66, 67] [] i g (i, g) := Fr_rf _ _ _ _
  refine lv_aload_n hx hb dX0_begin_0 rfl (lv_at hl 0 rfl) ?_
  refine lv_aload_n hx hb dX0_begin_1 rfl (lv_at hl 0 rfl) ?_
  refine r_getr X hT 65 0 15 fk_0_30 rfl rfl (by decide) dX0_begin_2 ?_
  refine r_geti X hT 15 11 fk_0_34 rfl rfl (by decide) dX0_begin_5 ?_
  refine r_puti X hT hS 65 7 pk_0_40 rfl rfl rfl rfl (by decide) dX0_begin_8 (fun H locs i1 ei1 hT hS => ?_)
  have hR1 := Rg_put hR ei1 (-2147483648) 2147483647 rfl (rg_top (i 15 11)) (by decide)
  have hF1 := Fr_puti hF ei1 (by decide)
  refine lv_aload_n hx hb dX0_begin_11 rfl (lv_at hl 0 rfl) ?_
  refine lv_iconst (v := 0) hx hb dX0_begin_12 (by decide) ?_
  refine r_puti X hT hS 65 8 pk_0_41 rfl rfl rfl rfl (by decide) dX0_begin_13 (fun H locs i2 ei2 hT hS => ?_)
  have hR2 := Rg_put hR1 ei2 (-2147483648) 2147483647 rfl (rg_k (by decide) : rg 0 0 0) (by decide)
  have hF2 := Fr_puti hF1 ei2 (by decide)
  refine lv_iconst (v := 0) hx hb dX0_begin_16 (by decide) ?_
  refine lv_istore_n (lv' := [(2, .int 0), (0, .ref (h 65)), (1, .int a_a)]) hx hb dX0_begin_17 rfl hl (by decide) rfl (fun ls hl => ?_)
  have L18_3 : ∀ (n5_ : Nat) (x18_2 : Int32) (i4 : Nat → Nat → Int32) (g4 : Nat → Nat → Int64) (H : Heap) (locs : List Loc) (ls : Array Slot), rg 0 6 x18_2 → Rg rA i4 → Fr [65, 66, 67] [] i g (i4, g4) → TH D h cz i4 g4 H → va_S (hA h) s.heap H locs → lv_has ls 3 [(0, .ref (h 65)), (1, .int a_a), (2, .int x18_2)] → (6 - x18_2.toInt).toNat < n5_ → W p l e ({ frames := 1, cells := 0, slots := 0, locals := 24 } : Room) s m args below meth c H locs 0 0 Q (F0 m 18 ls []) := by
    intro n5_
    induction n5_ with
    | zero => intro x18_2 i4 g4 H locs ls hhx18_2 hR4 hF4 hT hS hl hm5_; exact absurd hm5_ (Nat.not_lt_zero _)
    | succ n5_ ih5_ =>
      intro x18_2 i4 g4 H locs ls hhx18_2 hR4 hF4 hT hS hl hm5_
      refine lv_iload_n hx hb dX0_begin_18 rfl (lv_at hl 2 rfl) ?_
      refine lv_aload_n hx hb dX0_begin_19 rfl (lv_at hl 0 rfl) ?_
      refine r_getr X hT 65 0 15 fk_0_30 rfl rfl (by decide) dX0_begin_20 ?_
      refine r_geti X hT 15 13 fk_0_44 rfl rfl (by decide) dX0_begin_23 ?_
      refine lv_icmp_ge (tgt := 50) hx hb dX0_begin_26 (by decide) (fun c6 => ?_) (fun c6 => ?_)
      ·
        have q6 : (i4 15 13).toInt ≤ x18_2.toInt := i_le c6
        refine lv_aload_n hx hb dX0_begin_50 rfl (lv_at hl 0 rfl) ?_
        refine r_getr X hT 65 2 67 fk_0_15 rfl rfl (by decide) dX0_begin_51 ?_
        refine lv_iconst (v := 0) hx hb dX0_begin_54 (by decide) ?_
        refine e_Sv (As := [.ref (h 67), .int 0]) (rest := []) X Y hT hS (m_J7_fill_53178_67_0 hR4 (0) (rg_k (by decide) : rg 0 0 0)) sk_J7_fill_53178 gm_745 hd_J7_fill_53178 ⟨rfl, rfl⟩ ⟨Nat.le_of_ble_eq_true rfl, Nat.le_of_ble_eq_true rfl⟩ hl.1 rfl (Nat.le_of_ble_eq_true rfl) dX0_begin_55 ⟨Nat.zero_le _, Nat.zero_le _⟩ (fun i7 g7 H locs hq hT hS => ?_)
        obtain ⟨hR7, hf7, hf7_0⟩ := hq
        have hF7 := Fr_tr hF4 hf7 (by decide)
        refine lv_iconst (v := 0) hx hb dX0_begin_58 (by decide) ?_
        refine lv_istore_n (lv' := [(2, .int 0), (0, .ref (h 65)), (1, .int a_a)]) hx hb dX0_begin_59 rfl hl (by decide) rfl (fun ls hl => ?_)
        have L60_8 : ∀ (n10_ : Nat) (x60_1_2 : Int32) (i9 : Nat → Nat → Int32) (g9 : Nat → Nat → Int64) (H : Heap) (locs : List Loc) (ls : Array Slot), rg 0 20 x60_1_2 → Rg rA i9 → Fr [65, 66, 67] [] i g (i9, g9) → (∀ k : Nat, k < 72 → (i9 67 k).toInt ≤ x60_1_2.toInt) → TH D h cz i9 g9 H → va_S (hA h) s.heap H locs → lv_has ls 3 [(0, .ref (h 65)), (2, .int x60_1_2)] → (20 - x60_1_2.toInt).toNat < n10_ → W p l e ({ frames := 1, cells := 0, slots := 0, locals := 24 } : Room) s m args below meth c H locs 0 0 Q (F0 m 60 ls []) := by
          intro n10_
          induction n10_ with
          | zero => intro x60_1_2 i9 g9 H locs ls hhx60_1_2 hR9 hF9 har hT hS hl hm10_; exact absurd hm10_ (Nat.not_lt_zero _)
          | succ n10_ ih10_ =>
            intro x60_1_2 i9 g9 H locs ls hhx60_1_2 hR9 hF9 har hT hS hl hm10_
            refine lv_iload_n hx hb dX0_begin_60 rfl (lv_at hl 1 rfl) ?_
            refine lv_aload_n hx hb dX0_begin_61 rfl (lv_at hl 0 rfl) ?_
            refine r_getr X hT 65 0 15 fk_0_30 rfl rfl (by decide) dX0_begin_62 ?_
            refine r_geti X hT 15 16 fk_0_57 rfl rfl (by decide) dX0_begin_65 ?_
            refine lv_icmp_ge (tgt := 121) hx hb dX0_begin_68 (by decide) (fun c11 => ?_) (fun c11 => ?_)
            ·
              have q11 : (i9 15 16).toInt ≤ x60_1_2.toInt := i_le c11
              exact hret _ _ _ _ _ _ dX0_begin_121 hT hS ⟨hR9, hF9⟩
            ·
              have q11 : x60_1_2.toInt < (i9 15 16).toInt := i_nle c11
              have h12 : rg 0 19 x60_1_2 := t_ltx 0 19 hhx60_1_2 (Rg_at hR9 15 16 0 20 (by decide) rfl) (i_nle c11) (by decide)
              have h13 : rg 1 20 (i9 15 16) := t_lty 1 20 hhx60_1_2 (Rg_at hR9 15 16 0 20 (by decide) rfl) (i_nle c11) (by decide)
              refine lv_aload_n hx hb dX0_begin_71 rfl (lv_at hl 0 rfl) ?_
              refine r_getr X hT 65 0 15 fk_0_30 rfl rfl (by decide) dX0_begin_72 ?_
              refine r_getr X hT 15 7 23 fk_0_60 rfl rfl (by decide) dX0_begin_75 ?_
              refine lv_iload_n hx hb dX0_begin_78 rfl (lv_at hl 1 rfl) ?_
              refine r_iald X hT 23 rfl (by decide) (v_in h12 (by decide)) dX0_begin_79 ?_
              refine lv_iconst (v := 1) hx hb dX0_begin_80 (by decide) ?_
              refine lv_icmp_ne (tgt := 115) hx hb dX0_begin_81 (by decide) (fun c14 => ?_) (fun c14 => ?_)
              ·
                have q14 : ¬ (i9 23 x60_1_2.toNatClampNeg).toInt = 1 := i_ne c14
                have h15 : rg 0 0 (i9 23 x60_1_2.toNatClampNeg) := t_nehi 0 (Rg_at hR9 23 x60_1_2.toNatClampNeg 0 1 (v_lt (v_in h12 (by decide))) rfl) (rg_k (by decide) : rg 1 1 1) (i_ne c14) (by decide)
                obtain ⟨x16, ex16⟩ : ∃ y : Int32, y = x60_1_2 + 1 := ⟨_, rfl⟩
                refine lv_iinc (v := x16) (lv' := [(2, .int x16), (0, .ref (h 65))]) hx hb dX0_begin_115 hl (k := 1) rfl (by rw [ex16]; rfl) (by decide) rfl (fun ls hl => ?_)
                obtain ⟨hx16, ax16⟩ := rg_add 1 20 ex16 h12 (rg_k (by decide) : rg 1 1 1) (by decide)
                replace ax16 : x16.toInt = x60_1_2.toInt + 1 := ax16
                refine lv_goto (tgt := 60) hx hb dX0_begin_118 (by decide) ?_
                exact ih10_ x16 i9 g9 _ _ _ (rg_w hx16 (by decide) : rg 0 20 x16) hR9 hF9 (fun k hk => by have := har k hk; have := ax16; omega) hT hS (lv_sub hl [1, 0] rfl) (m_up ax16 hx16 (by decide) hm10_)
              ·
                have q14 : (i9 23 x60_1_2.toNatClampNeg).toInt = 1 := i_eq c14
                have h17 : rg 1 1 (i9 23 x60_1_2.toNatClampNeg) := t_eqx 1 1 (Rg_at hR9 23 x60_1_2.toNatClampNeg 0 1 (v_lt (v_in h12 (by decide))) rfl) (rg_k (by decide) : rg 1 1 1) (i_eq c14) (by decide)
                refine lv_aload_n hx hb dX0_begin_84 rfl (lv_at hl 0 rfl) ?_
                refine r_getr X hT 65 2 67 fk_0_15 rfl rfl (by decide) dX0_begin_85 ?_
                refine lv_aload_n hx hb dX0_begin_88 rfl (lv_at hl 0 rfl) ?_
                refine r_getr X hT 65 0 15 fk_0_30 rfl rfl (by decide) dX0_begin_89 ?_
                refine r_getr X hT 15 9 25 fk_0_63 rfl rfl (by decide) dX0_begin_92 ?_
                refine lv_iload_n hx hb dX0_begin_95 rfl (lv_at hl 1 rfl) ?_
                refine r_iald X hT 25 rfl (by decide) (v_in h12 (by decide)) dX0_begin_96 ?_
                refine lv_bipush (v := 6) hx hb dX0_begin_97 (by decide) ?_
                refine q_imul hx hb dX0_begin_99 (fun x18 ex18 => ?_)
                obtain ⟨hx18, ax18⟩ := rg_mul 0 66 ex18 (Rg_at hR9 25 x60_1_2.toNatClampNeg 0 11 (v_lt (v_in h12 (by decide))) rfl) (rg_k (by decide) : rg 6 6 6) (by decide)
                replace ax18 : x18.toInt = (i9 25 x60_1_2.toNatClampNeg).toInt * 6 := ax18
                refine lv_aload_n hx hb dX0_begin_100 rfl (lv_at hl 0 rfl) ?_
                refine r_getr X hT 65 0 15 fk_0_30 rfl rfl (by decide) dX0_begin_101 ?_
                refine r_getr X hT 15 8 24 fk_0_66 rfl rfl (by decide) dX0_begin_104 ?_
                refine lv_iload_n hx hb dX0_begin_107 rfl (lv_at hl 1 rfl) ?_
                refine r_iald X hT 24 rfl (by decide) (v_in h12 (by decide)) dX0_begin_108 ?_
                refine q_iadd hx hb dX0_begin_109 (fun x19 ex19 => ?_)
                obtain ⟨hx19, ax19⟩ := rg_add 0 71 ex19 hx18 (Rg_at hR9 24 x60_1_2.toNatClampNeg 0 5 (v_lt (v_in h12 (by decide))) rfl) (by decide)
                replace ax19 : x19.toInt = x18.toInt + (i9 24 x60_1_2.toNatClampNeg).toInt := ax19
                refine lv_dup2_11 hx hb dX0_begin_110 rfl rfl ?_
                refine r_iald X hT 67 rfl (by decide) (v_in hx19 (by decide)) dX0_begin_111 ?_
                have h20 : rg 0 19 (i9 67 x19.toNatClampNeg) := ⟨by have := (Rg_at hR9 67 x19.toNatClampNeg 0 20 (v_lt (v_in hx19 (by decide))) rfl).1; omega, by have := har x19.toNatClampNeg (v_lt (v_in hx19 (by decide) : vp_in x19 72)); have := h12.2; omega⟩
                refine lv_iconst (v := 1) hx hb dX0_begin_112 (by decide) ?_
                refine q_iadd hx hb dX0_begin_113 (fun x21 ex21 => ?_)
                obtain ⟨hx21, ax21⟩ := rg_add 1 20 ex21 h20 (rg_k (by decide) : rg 1 1 1) (by decide)
                replace ax21 : x21.toInt = (i9 67 x19.toNatClampNeg).toInt + 1 := ax21
                refine r_iast X hT hS 67 rfl (by decide) (v_in hx19 (by decide)) dX0_begin_114 (fun H locs i22 ei22 hT hS => ?_)
                have hR22 := Rg_put hR9 ei22 0 20 rfl hx21 (by decide)
                have hF22 := Fr_puti hF9 ei22 (by decide)
                obtain ⟨x23, ex23⟩ : ∃ y : Int32, y = x60_1_2 + 1 := ⟨_, rfl⟩
                refine lv_iinc (v := x23) (lv' := [(2, .int x23), (0, .ref (h 65))]) hx hb dX0_begin_115 hl (k := 1) rfl (by rw [ex23]; rfl) (by decide) rfl (fun ls hl => ?_)
                obtain ⟨hx23, ax23⟩ := rg_add 1 20 ex23 h12 (rg_k (by decide) : rg 1 1 1) (by decide)
                replace ax23 : x23.toInt = x60_1_2.toInt + 1 := ax23
                refine lv_goto (tgt := 60) hx hb dX0_begin_118 (by decide) ?_
                exact ih10_ x23 i22 g9 _ _ _ (rg_w hx23 (by decide) : rg 0 20 x23) hR22 hF22 (air_st har ei22 (by have := har x19.toNatClampNeg (v_lt (v_in hx19 (by decide) : vp_in x19 72)); have := ax21; omega) ax23) hT hS (lv_sub hl [1, 0] rfl) (m_up ax23 hx23 (by decide) hm10_)
        exact L60_8 _ (0) i7 g7 _ _ _ (rg_w (rg_k (by decide) : rg 0 0 0) (by decide) : rg 0 20 0) hR7 hF7 (fun k hk => by rw [show i7 67 k = 0 from hf7_0 k hk]; exact Int.le_refl _) hT hS (lv_sub hl [1, 0] rfl) (Nat.lt_succ_self _)
      ·
        have q6 : x18_2.toInt < (i4 15 13).toInt := i_nle c6
        have h24 : rg 0 5 x18_2 := t_ltx 0 5 hhx18_2 (Rg_at hR4 15 13 0 6 (by decide) rfl) (i_nle c6) (by decide)
        have h25 : rg 1 6 (i4 15 13) := t_lty 1 6 hhx18_2 (Rg_at hR4 15 13 0 6 (by decide) rfl) (i_nle c6) (by decide)
        refine lv_aload_n hx hb dX0_begin_29 rfl (lv_at hl 0 rfl) ?_
        refine r_getr X hT 65 1 66 fk_0_9 rfl rfl (by decide) dX0_begin_30 ?_
        refine lv_iload_n hx hb dX0_begin_33 rfl (lv_at hl 2 rfl) ?_
        refine lv_aload_n hx hb dX0_begin_34 rfl (lv_at hl 0 rfl) ?_
        refine r_getr X hT 65 0 15 fk_0_30 rfl rfl (by decide) dX0_begin_35 ?_
        refine lv_iload_n hx hb dX0_begin_38 rfl (lv_at hl 2 rfl) ?_
        refine lv_iload_n hx hb dX0_begin_39 rfl (lv_at hl 1 rfl) ?_
        refine e_Vi (As := [.int x18_2, .int a_a]) (rest := [.int x18_2, .ref (h 66)]) X Y hT hS (m_X6_neighbours_15 hR4 x18_2 a_a) mk_X6_neighbours gm_744 rfl rfl (by decide) hd_X6_neighbours ⟨rfl, rfl⟩ ⟨Nat.le_of_ble_eq_true rfl, Nat.le_of_ble_eq_true rfl⟩ hl.1 rfl (Nat.le_of_ble_eq_true rfl) dX0_begin_40 ⟨Nat.zero_le _, Nat.zero_le _⟩ (fun r26 i26 g26 H locs hq hT hS => ?_)
        obtain ⟨eh26, hr26⟩ := hq
        rw [(Prod.mk.inj eh26).1, (Prod.mk.inj eh26).2] at hT
        refine r_iast X hT hS 66 rfl (by decide) (v_in h24 (by decide)) dX0_begin_43 (fun H locs i27 ei27 hT hS => ?_)
        have hR27 := Rg_put hR4 ei27 (-2147483648) 2147483647 rfl hr26 (by decide)
        have hF27 := Fr_puti hF4 ei27 (by decide)
        obtain ⟨x28, ex28⟩ : ∃ y : Int32, y = x18_2 + 1 := ⟨_, rfl⟩
        refine lv_iinc (v := x28) (lv' := [(2, .int x28), (0, .ref (h 65)), (1, .int a_a)]) hx hb dX0_begin_44 hl (k := 2) rfl (by rw [ex28]; rfl) (by decide) rfl (fun ls hl => ?_)
        obtain ⟨hx28, ax28⟩ := rg_add 1 6 ex28 h24 (rg_k (by decide) : rg 1 1 1) (by decide)
        replace ax28 : x28.toInt = x18_2.toInt + 1 := ax28
        refine lv_goto (tgt := 18) hx hb dX0_begin_47 (by decide) ?_
        exact ih5_ x28 i27 g4 _ _ _ (rg_w hx28 (by decide) : rg 0 6 x28) hR27 hF27 hT hS (lv_sub hl [1, 2, 0] rfl) (m_up ax28 hx28 (by decide) hm5_)
  exact L18_3 _ (0) i2 g _ _ _ (rg_w (rg_k (by decide) : rg 0 0 0) (by decide) : rg 0 6 0) hR2 hF2 hT hS (lv_sub hl [1, 2, 0] rfl) (Nat.lt_succ_self _)
set_option maxRecDepth 100000 in
set_option maxHeartbeats 4000000 in
theorem m_X6_everyKnife_15 {l : Launch} {D : va_G} {h : Nat → Nat} {cz : Nat → ClassId} {z : EZ} {i : Nat → Nat → Int32} {g : Nat → Nat → Int64} (hR : Rg rA i) : DtI l yX6_everyKnife cX6_everyKnife 1 (some .int) ({ frames := 0, cells := 0, slots := 0, locals := 0 } : Room) D h cz z i g [.ref (h 15)] (fun r u => u = (i, g) ∧ rg 0 255 r) := by
  refine e_I pn_X6_everyKnife (Nat.le_of_ble_eq_true rfl) ?_
  intro p e s m args below meth c ls Q X Y hret hT hl hS
  have hx := X.1
  have hb := X.2.1
  have hl : lv_has ls 1 [(0, .ref (h 15))] := hl
  refine lv_iconst (v := 1) hx hb dX6_everyKnife_0 (by decide) ?_
  refine lv_aload_n hx hb dX6_everyKnife_1 rfl (lv_at hl 0 rfl) ?_
  refine r_geti X hT 15 15 fk_6_58 rfl rfl (by decide) dX6_everyKnife_2 ?_
  refine q_ishl hx hb dX6_everyKnife_5 (fun x1 ex1 => ?_)
  have h2 : rg 1 256 x1 := rg_shl1 ex1 (Rg_at hR 15 15 0 8 (by decide) rfl) (by decide)
  refine lv_iconst (v := 1) hx hb dX6_everyKnife_6 (by decide) ?_
  refine q_isub hx hb dX6_everyKnife_7 (fun x3 ex3 => ?_)
  obtain ⟨hx3, ax3⟩ := rg_sub 0 255 ex3 h2 (rg_k (by decide) : rg 1 1 1) (by decide)
  replace ax3 : x3.toInt = x1.toInt - 1 := ax3
  exact hret x3 _ _ _ _ _ _ dX6_everyKnife_8 hT hS ⟨rfl, hx3⟩
set_option maxRecDepth 100000 in
set_option maxHeartbeats 4000000 in
theorem m_J7_fill_53178_68_0 {l : Launch} {D : va_G} {h : Nat → Nat} {cz : Nat → ClassId} {z : EZ} {i : Nat → Nat → Int32} {g : Nat → Nat → Int64} (hR : Rg rA i) (a_b : Int32) (ha_b : rg 0 0 a_b) : DtV l yJ7_fill_53178 cJ7_fill_53178 4 none ({ frames := 0, cells := 0, slots := 0, locals := 0 } : Room) D h cz z i g [.ref (h 68), .int a_b] (fun u => Rg rA u.1 ∧ Fr [68] [] i g u ∧ (∀ k : Nat, k < 12 → u.1 68 k = a_b)) := by
  refine e_V pn_J7_fill_53178 (Nat.le_of_ble_eq_true rfl) ?_
  intro p e s m args below meth c ls Q X Y hret hT hl hS
  have hx := X.1
  have hb := X.2.1
  have hl : lv_has ls 4 [(0, .ref (h 68)), (1, .int a_b)] := hl
  have hF : Fr [68] [] i g (i, g) := Fr_rf _ _ _ _
  refine lv_iconst (v := 0) hx hb dJ7_fill_53178_0 (by decide) ?_
  refine lv_istore_n (lv' := [(2, .int 0), (0, .ref (h 68)), (1, .int a_b)]) hx hb dJ7_fill_53178_1 rfl hl (by decide) rfl (fun ls hl => ?_)
  refine lv_aload_n hx hb dJ7_fill_53178_2 rfl (lv_at hl 1 rfl) ?_
  refine r_alen (v := 12) X hT 68 rfl (by decide) (by decide) (by decide) dJ7_fill_53178_3 ?_
  refine lv_istore_n (lv' := [(3, .int 12), (2, .int 0), (0, .ref (h 68)), (1, .int a_b)]) hx hb dJ7_fill_53178_4 rfl hl (by decide) rfl (fun ls hl => ?_)
  have L5_1 : ∀ (n3_ : Nat) (x5_2 : Int32) (i2 : Nat → Nat → Int32) (g2 : Nat → Nat → Int64) (H : Heap) (locs : List Loc) (ls : Array Slot), rg 0 12 x5_2 → Rg rA i2 → Fr [68] [] i g (i2, g2) → (∀ k : Nat, (k : Int) < x5_2.toInt → i2 68 k = a_b) → TH D h cz i2 g2 H → va_S (hA h) s.heap H locs → lv_has ls 4 [(0, .ref (h 68)), (1, .int a_b), (2, .int x5_2), (3, .int 12)] → (12 - x5_2.toInt).toNat < n3_ → W p l e ({ frames := 0, cells := 0, slots := 0, locals := 0 } : Room) s m args below meth c H locs 0 0 Q (F0 m 5 ls []) := by
    intro n3_
    induction n3_ with
    | zero => intro x5_2 i2 g2 H locs ls hhx5_2 hR2 hF2 hfl hT hS hl hm3_; exact absurd hm3_ (Nat.not_lt_zero _)
    | succ n3_ ih3_ =>
      intro x5_2 i2 g2 H locs ls hhx5_2 hR2 hF2 hfl hT hS hl hm3_
      refine lv_iload_n hx hb dJ7_fill_53178_5 rfl (lv_at hl 2 rfl) ?_
      refine lv_iload_n hx hb dJ7_fill_53178_6 rfl (lv_at hl 3 rfl) ?_
      refine lv_icmp_ge (tgt := 20) hx hb dJ7_fill_53178_7 (by decide) (fun c4 => ?_) (fun c4 => ?_)
      ·
        have q4 : 12 ≤ x5_2.toInt := i_le c4
        have h5 : rg 12 12 x5_2 := t_ley 12 12 (rg_k (by decide) : rg 12 12 12) hhx5_2 (i_le c4) (by decide)
        exact hret _ _ _ _ _ _ dJ7_fill_53178_20 hT hS ⟨hR2, hF2, (fun k hk => hfl k (by have := q4; omega))⟩
      ·
        have q4 : x5_2.toInt < 12 := i_nle c4
        have h6 : rg 0 11 x5_2 := t_ltx 0 11 hhx5_2 (rg_k (by decide) : rg 12 12 12) (i_nle c4) (by decide)
        refine lv_aload_n hx hb dJ7_fill_53178_10 rfl (lv_at hl 0 rfl) ?_
        refine lv_iload_n hx hb dJ7_fill_53178_11 rfl (lv_at hl 2 rfl) ?_
        refine lv_iload_n hx hb dJ7_fill_53178_12 rfl (lv_at hl 1 rfl) ?_
        refine r_iast X hT hS 68 rfl (by decide) (v_in h6 (by decide)) dJ7_fill_53178_13 (fun H locs i7 ei7 hT hS => ?_)
        have hR7 := Rg_put hR2 ei7 (-2147483648) 2147483647 rfl ha_b (by decide)
        have hF7 := Fr_puti hF2 ei7 (by decide)
        obtain ⟨x8, ex8⟩ : ∃ y : Int32, y = x5_2 + 1 := ⟨_, rfl⟩
        refine lv_iinc (v := x8) (lv' := [(2, .int x8), (0, .ref (h 68)), (1, .int a_b), (3, .int 12)]) hx hb dJ7_fill_53178_14 hl (k := 2) rfl (by rw [ex8]; rfl) (by decide) rfl (fun ls hl => ?_)
        obtain ⟨hx8, ax8⟩ := rg_add 1 12 ex8 h6 (rg_k (by decide) : rg 1 1 1) (by decide)
        replace ax8 : x8.toInt = x5_2.toInt + 1 := ax8
        refine lv_goto (tgt := 5) hx hb dJ7_fill_53178_17 (by decide) ?_
        exact ih3_ x8 i7 g2 _ _ _ (rg_w hx8 (by decide) : rg 0 12 x8) hR7 hF7 (fill_st hfl hhx5_2 ei7 ax8) hT hS (lv_sub hl [1, 2, 0, 3] rfl) (m_up ax8 hx8 (by decide) hm3_)
  exact L5_1 _ (0) i g _ _ _ (rg_w (rg_k (by decide) : rg 0 0 0) (by decide) : rg 0 12 0) hR hF (fun k hk => absurd hk (by have : (0 : Int32).toInt = 0 := rfl; omega)) hT hS (lv_sub hl [2, 3, 1, 0] rfl) (Nat.lt_succ_self _)
set_option maxRecDepth 100000 in
set_option maxHeartbeats 4000000 in
theorem m_J7_fill_53178_70_m1 {l : Launch} {D : va_G} {h : Nat → Nat} {cz : Nat → ClassId} {z : EZ} {i : Nat → Nat → Int32} {g : Nat → Nat → Int64} (hR : Rg rA i) (a_b : Int32) (ha_b : rg (-1) (-1) a_b) : DtV l yJ7_fill_53178 cJ7_fill_53178 4 none ({ frames := 0, cells := 0, slots := 0, locals := 0 } : Room) D h cz z i g [.ref (h 70), .int a_b] (fun u => Rg rA u.1 ∧ Fr [70] [] i g u ∧ (∀ k : Nat, k < 6 → u.1 70 k = a_b)) := by
  refine e_V pn_J7_fill_53178 (Nat.le_of_ble_eq_true rfl) ?_
  intro p e s m args below meth c ls Q X Y hret hT hl hS
  have hx := X.1
  have hb := X.2.1
  have hl : lv_has ls 4 [(0, .ref (h 70)), (1, .int a_b)] := hl
  have hF : Fr [70] [] i g (i, g) := Fr_rf _ _ _ _
  refine lv_iconst (v := 0) hx hb dJ7_fill_53178_0 (by decide) ?_
  refine lv_istore_n (lv' := [(2, .int 0), (0, .ref (h 70)), (1, .int a_b)]) hx hb dJ7_fill_53178_1 rfl hl (by decide) rfl (fun ls hl => ?_)
  refine lv_aload_n hx hb dJ7_fill_53178_2 rfl (lv_at hl 1 rfl) ?_
  refine r_alen (v := 6) X hT 70 rfl (by decide) (by decide) (by decide) dJ7_fill_53178_3 ?_
  refine lv_istore_n (lv' := [(3, .int 6), (2, .int 0), (0, .ref (h 70)), (1, .int a_b)]) hx hb dJ7_fill_53178_4 rfl hl (by decide) rfl (fun ls hl => ?_)
  have L5_1 : ∀ (n3_ : Nat) (x5_2 : Int32) (i2 : Nat → Nat → Int32) (g2 : Nat → Nat → Int64) (H : Heap) (locs : List Loc) (ls : Array Slot), rg 0 6 x5_2 → Rg rA i2 → Fr [70] [] i g (i2, g2) → (∀ k : Nat, (k : Int) < x5_2.toInt → i2 70 k = a_b) → TH D h cz i2 g2 H → va_S (hA h) s.heap H locs → lv_has ls 4 [(0, .ref (h 70)), (1, .int a_b), (2, .int x5_2), (3, .int 6)] → (6 - x5_2.toInt).toNat < n3_ → W p l e ({ frames := 0, cells := 0, slots := 0, locals := 0 } : Room) s m args below meth c H locs 0 0 Q (F0 m 5 ls []) := by
    intro n3_
    induction n3_ with
    | zero => intro x5_2 i2 g2 H locs ls hhx5_2 hR2 hF2 hfl hT hS hl hm3_; exact absurd hm3_ (Nat.not_lt_zero _)
    | succ n3_ ih3_ =>
      intro x5_2 i2 g2 H locs ls hhx5_2 hR2 hF2 hfl hT hS hl hm3_
      refine lv_iload_n hx hb dJ7_fill_53178_5 rfl (lv_at hl 2 rfl) ?_
      refine lv_iload_n hx hb dJ7_fill_53178_6 rfl (lv_at hl 3 rfl) ?_
      refine lv_icmp_ge (tgt := 20) hx hb dJ7_fill_53178_7 (by decide) (fun c4 => ?_) (fun c4 => ?_)
      ·
        have q4 : 6 ≤ x5_2.toInt := i_le c4
        have h5 : rg 6 6 x5_2 := t_ley 6 6 (rg_k (by decide) : rg 6 6 6) hhx5_2 (i_le c4) (by decide)
        exact hret _ _ _ _ _ _ dJ7_fill_53178_20 hT hS ⟨hR2, hF2, (fun k hk => hfl k (by have := q4; omega))⟩
      ·
        have q4 : x5_2.toInt < 6 := i_nle c4
        have h6 : rg 0 5 x5_2 := t_ltx 0 5 hhx5_2 (rg_k (by decide) : rg 6 6 6) (i_nle c4) (by decide)
        refine lv_aload_n hx hb dJ7_fill_53178_10 rfl (lv_at hl 0 rfl) ?_
        refine lv_iload_n hx hb dJ7_fill_53178_11 rfl (lv_at hl 2 rfl) ?_
        refine lv_iload_n hx hb dJ7_fill_53178_12 rfl (lv_at hl 1 rfl) ?_
        refine r_iast X hT hS 70 rfl (by decide) (v_in h6 (by decide)) dJ7_fill_53178_13 (fun H locs i7 ei7 hT hS => ?_)
        have hR7 := Rg_put hR2 ei7 (-2147483648) 2147483647 rfl ha_b (by decide)
        have hF7 := Fr_puti hF2 ei7 (by decide)
        obtain ⟨x8, ex8⟩ : ∃ y : Int32, y = x5_2 + 1 := ⟨_, rfl⟩
        refine lv_iinc (v := x8) (lv' := [(2, .int x8), (0, .ref (h 70)), (1, .int a_b), (3, .int 6)]) hx hb dJ7_fill_53178_14 hl (k := 2) rfl (by rw [ex8]; rfl) (by decide) rfl (fun ls hl => ?_)
        obtain ⟨hx8, ax8⟩ := rg_add 1 6 ex8 h6 (rg_k (by decide) : rg 1 1 1) (by decide)
        replace ax8 : x8.toInt = x5_2.toInt + 1 := ax8
        refine lv_goto (tgt := 5) hx hb dJ7_fill_53178_17 (by decide) ?_
        exact ih3_ x8 i7 g2 _ _ _ (rg_w hx8 (by decide) : rg 0 6 x8) hR7 hF7 (fill_st hfl hhx5_2 ei7 ax8) hT hS (lv_sub hl [1, 2, 0, 3] rfl) (m_up ax8 hx8 (by decide) hm3_)
  exact L5_1 _ (0) i g _ _ _ (rg_w (rg_k (by decide) : rg 0 0 0) (by decide) : rg 0 6 0) hR hF (fun k hk => absurd hk (by have : (0 : Int32).toInt = 0 := rfl; omega)) hT hS (lv_sub hl [2, 3, 1, 0] rfl) (Nat.lt_succ_self _)
set_option maxRecDepth 100000 in
set_option maxHeartbeats 4000000 in
theorem m_X0_settle_65 {l : Launch} {D : va_G} {h : Nat → Nat} {cz : Nat → ClassId} {z : EZ} {i : Nat → Nat → Int32} {g : Nat → Nat → Int64} (hR : Rg rA i) (a_a : Int32) : DtI l yX0_settle cX0_settle 4 (some .int) ({ frames := 1, cells := 0, slots := 0, locals := 21 } : Room) D h cz z i g [.ref (h 65), .int a_a] (fun r u => u = (i, g)) := by
  refine e_I pn_X0_settle (Nat.le_of_ble_eq_true rfl) ?_
  intro p e s m args below meth c ls Q X Y hret hT hl hS
  have hx := X.1
  have hb := X.2.1
  have hl : lv_has ls 4 [(0, .ref (h 65)), (1, .int a_a)] := hl
  refine lv_iload_n hx hb dX0_settle_0 rfl (lv_at hl 1 rfl) ?_
  refine lv_istore_n (lv' := [(2, .int a_a), (0, .ref (h 65)), (1, .int a_a)]) hx hb dX0_settle_1 rfl hl (by decide) rfl (fun ls hl => ?_)
  refine lv_iconst (v := 0) hx hb dX0_settle_2 (by decide) ?_
  refine lv_istore_n (lv' := [(3, .int 0), (2, .int a_a), (0, .ref (h 65)), (1, .int a_a)]) hx hb dX0_settle_3 rfl hl (by decide) rfl (fun ls hl => ?_)
  have L4_1 : ∀ (n2_ : Nat) (x4_2 : Int32) (x4_3 : Int32) (H : Heap) (locs : List Loc) (ls : Array Slot), rg 0 6 x4_3 → TH D h cz i g H → va_S (hA h) s.heap H locs → lv_has ls 4 [(0, .ref (h 65)), (1, .int a_a), (2, .int x4_2), (3, .int x4_3)] → (6 - x4_3.toInt).toNat < n2_ → W p l e ({ frames := 1, cells := 0, slots := 0, locals := 21 } : Room) s m args below meth c H locs 0 0 Q (F0 m 4 ls []) := by
    intro n2_
    induction n2_ with
    | zero => intro x4_2 x4_3 H locs ls hhx4_3 hT hS hl hm2_; exact absurd hm2_ (Nat.not_lt_zero _)
    | succ n2_ ih2_ =>
      intro x4_2 x4_3 H locs ls hhx4_3 hT hS hl hm2_
      refine lv_iload_n hx hb dX0_settle_4 rfl (lv_at hl 3 rfl) ?_
      refine lv_aload_n hx hb dX0_settle_5 rfl (lv_at hl 0 rfl) ?_
      refine r_getr X hT 65 0 15 fk_0_30 rfl rfl (by decide) dX0_settle_6 ?_
      refine r_geti X hT 15 13 fk_0_44 rfl rfl (by decide) dX0_settle_9 ?_
      refine lv_icmp_ge (tgt := 62) hx hb dX0_settle_12 (by decide) (fun c3 => ?_) (fun c3 => ?_)
      ·
        have q3 : (i 15 13).toInt ≤ x4_3.toInt := i_le c3
        refine lv_iload_n hx hb dX0_settle_62 rfl (lv_at hl 2 rfl) ?_
        exact hret x4_2 _ _ _ _ _ _ dX0_settle_63 hT hS rfl
      ·
        have q3 : x4_3.toInt < (i 15 13).toInt := i_nle c3
        have h4 : rg 0 5 x4_3 := t_ltx 0 5 hhx4_3 (Rg_at hR 15 13 0 6 (by decide) rfl) (i_nle c3) (by decide)
        have h5 : rg 1 6 (i 15 13) := t_lty 1 6 hhx4_3 (Rg_at hR 15 13 0 6 (by decide) rfl) (i_nle c3) (by decide)
        refine lv_iload_n hx hb dX0_settle_15 rfl (lv_at hl 1 rfl) ?_
        refine lv_aload_n hx hb dX0_settle_16 rfl (lv_at hl 0 rfl) ?_
        refine r_geti X hT 65 8 fk_0_41 rfl rfl (by decide) dX0_settle_17 ?_
        refine q_ior hx hb dX0_settle_20 (fun x6 ex6 => ?_)
        refine lv_iload_n hx hb dX0_settle_21 rfl (lv_at hl 3 rfl) ?_
        refine e_Ni (As := [.int x6, .int x4_3]) (rest := []) X Y hT hS (m_X8_hasBit x6 x4_3) sk_X8_hasBit Y.n1 hd_X8_hasBit ⟨rfl, rfl⟩ ⟨Nat.le_of_ble_eq_true rfl, Nat.le_of_ble_eq_true rfl⟩ hl.1 rfl (Nat.le_of_ble_eq_true rfl) dX0_settle_22 ⟨Nat.zero_le _, Nat.zero_le _⟩ (fun r7 i7 g7 H locs hq hT hS => ?_)
        obtain ⟨eh7, hr7⟩ := hq
        rw [(Prod.mk.inj eh7).1, (Prod.mk.inj eh7).2] at hT
        refine lv_if_ne (tgt := 56) hx hb dX0_settle_25 (by decide) (fun c8 => ?_) (fun c8 => ?_)
        ·
          have q8 : ¬ r7.toInt = 0 := i_ne c8
          have h9 : rg 1 1 r7 := t_nelo 1 hr7 (rg_k (by decide) : rg 0 0 0) (i_ne c8) (by decide)
          obtain ⟨x10, ex10⟩ : ∃ y : Int32, y = x4_3 + 1 := ⟨_, rfl⟩
          refine lv_iinc (v := x10) (lv' := [(3, .int x10), (0, .ref (h 65)), (1, .int a_a), (2, .int x4_2)]) hx hb dX0_settle_56 hl (k := 3) rfl (by rw [ex10]; rfl) (by decide) rfl (fun ls hl => ?_)
          obtain ⟨hx10, ax10⟩ := rg_add 1 6 ex10 h4 (rg_k (by decide) : rg 1 1 1) (by decide)
          replace ax10 : x10.toInt = x4_3.toInt + 1 := ax10
          refine lv_goto (tgt := 4) hx hb dX0_settle_59 (by decide) ?_
          exact ih2_ x4_2 x10 _ _ _ (rg_w hx10 (by decide) : rg 0 6 x10) hT hS (lv_sub hl [1, 2, 3, 0] rfl) (m_up ax10 hx10 (by decide) hm2_)
        ·
          have q8 : r7.toInt = 0 := i_eq c8
          have h11 : rg 0 0 r7 := t_eqx 0 0 hr7 (rg_k (by decide) : rg 0 0 0) (i_eq c8) (by decide)
          refine lv_aload_n hx hb dX0_settle_28 rfl (lv_at hl 0 rfl) ?_
          refine r_getr X hT 65 1 66 fk_0_9 rfl rfl (by decide) dX0_settle_29 ?_
          refine lv_iload_n hx hb dX0_settle_32 rfl (lv_at hl 3 rfl) ?_
          refine r_iald X hT 66 rfl (by decide) (v_in h4 (by decide)) dX0_settle_33 ?_
          refine lv_if_eq (tgt := 56) hx hb dX0_settle_34 (by decide) (fun c12 => ?_) (fun c12 => ?_)
          ·
            have q12 : (i 66 x4_3.toNatClampNeg).toInt = 0 := i_eq c12
            have h13 : rg 0 0 (i 66 x4_3.toNatClampNeg) := t_eqx 0 0 (rg_top (i 66 x4_3.toNatClampNeg)) (rg_k (by decide) : rg 0 0 0) (i_eq c12) (by decide)
            obtain ⟨x14, ex14⟩ : ∃ y : Int32, y = x4_3 + 1 := ⟨_, rfl⟩
            refine lv_iinc (v := x14) (lv' := [(3, .int x14), (0, .ref (h 65)), (1, .int a_a), (2, .int x4_2)]) hx hb dX0_settle_56 hl (k := 3) rfl (by rw [ex14]; rfl) (by decide) rfl (fun ls hl => ?_)
            obtain ⟨hx14, ax14⟩ := rg_add 1 6 ex14 h4 (rg_k (by decide) : rg 1 1 1) (by decide)
            replace ax14 : x14.toInt = x4_3.toInt + 1 := ax14
            refine lv_goto (tgt := 4) hx hb dX0_settle_59 (by decide) ?_
            exact ih2_ x4_2 x14 _ _ _ (rg_w hx14 (by decide) : rg 0 6 x14) hT hS (lv_sub hl [1, 2, 3, 0] rfl) (m_up ax14 hx14 (by decide) hm2_)
          ·
            have q12 : ¬ (i 66 x4_3.toNatClampNeg).toInt = 0 := i_ne c12
            refine lv_aload_n hx hb dX0_settle_37 rfl (lv_at hl 0 rfl) ?_
            refine r_getr X hT 65 1 66 fk_0_9 rfl rfl (by decide) dX0_settle_38 ?_
            refine lv_iload_n hx hb dX0_settle_41 rfl (lv_at hl 3 rfl) ?_
            refine r_iald X hT 66 rfl (by decide) (v_in h4 (by decide)) dX0_settle_42 ?_
            refine lv_iload_n hx hb dX0_settle_43 rfl (lv_at hl 1 rfl) ?_
            refine lv_iconst (v := (-1)) hx hb dX0_settle_44 (by decide) ?_
            refine q_ixor hx hb dX0_settle_45 (fun x15 ex15 => ?_)
            refine q_iand hx hb dX0_settle_46 (fun x16 ex16 => ?_)
            refine lv_if_ne (tgt := 56) hx hb dX0_settle_47 (by decide) (fun c17 => ?_) (fun c17 => ?_)
            ·
              have q17 : ¬ x16.toInt = 0 := i_ne c17
              obtain ⟨x18, ex18⟩ : ∃ y : Int32, y = x4_3 + 1 := ⟨_, rfl⟩
              refine lv_iinc (v := x18) (lv' := [(3, .int x18), (0, .ref (h 65)), (1, .int a_a), (2, .int x4_2)]) hx hb dX0_settle_56 hl (k := 3) rfl (by rw [ex18]; rfl) (by decide) rfl (fun ls hl => ?_)
              obtain ⟨hx18, ax18⟩ := rg_add 1 6 ex18 h4 (rg_k (by decide) : rg 1 1 1) (by decide)
              replace ax18 : x18.toInt = x4_3.toInt + 1 := ax18
              refine lv_goto (tgt := 4) hx hb dX0_settle_59 (by decide) ?_
              exact ih2_ x4_2 x18 _ _ _ (rg_w hx18 (by decide) : rg 0 6 x18) hT hS (lv_sub hl [1, 2, 3, 0] rfl) (m_up ax18 hx18 (by decide) hm2_)
            ·
              have q17 : x16.toInt = 0 := i_eq c17
              have h19 : rg 0 0 x16 := t_eqx 0 0 (rg_top x16) (rg_k (by decide) : rg 0 0 0) (i_eq c17) (by decide)
              refine lv_iload_n hx hb dX0_settle_50 rfl (lv_at hl 2 rfl) ?_
              refine lv_iconst (v := 1) hx hb dX0_settle_51 (by decide) ?_
              refine lv_iload_n hx hb dX0_settle_52 rfl (lv_at hl 3 rfl) ?_
              refine q_ishl hx hb dX0_settle_53 (fun x20 ex20 => ?_)
              have h21 : rg 1 32 x20 := rg_shl1 ex20 h4 (by decide)
              refine q_ior hx hb dX0_settle_54 (fun x22 ex22 => ?_)
              refine lv_istore_n (lv' := [(2, .int x22), (0, .ref (h 65)), (1, .int a_a), (3, .int x4_3)]) hx hb dX0_settle_55 rfl hl (by decide) rfl (fun ls hl => ?_)
              obtain ⟨x23, ex23⟩ : ∃ y : Int32, y = x4_3 + 1 := ⟨_, rfl⟩
              refine lv_iinc (v := x23) (lv' := [(3, .int x23), (2, .int x22), (0, .ref (h 65)), (1, .int a_a)]) hx hb dX0_settle_56 hl (k := 3) rfl (by rw [ex23]; rfl) (by decide) rfl (fun ls hl => ?_)
              obtain ⟨hx23, ax23⟩ := rg_add 1 6 ex23 h4 (rg_k (by decide) : rg 1 1 1) (by decide)
              replace ax23 : x23.toInt = x4_3.toInt + 1 := ax23
              refine lv_goto (tgt := 4) hx hb dX0_settle_59 (by decide) ?_
              exact ih2_ x22 x23 _ _ _ (rg_w hx23 (by decide) : rg 0 6 x23) hT hS (lv_sub hl [2, 3, 1, 0] rfl) (m_up ax23 hx23 (by decide) hm2_)
  exact L4_1 _ a_a (0) _ _ _ (rg_w (rg_k (by decide) : rg 0 0 0) (by decide) : rg 0 6 0) hT hS (lv_sub hl [2, 3, 1, 0] rfl) (Nat.lt_succ_self _)
set_option maxRecDepth 100000 in
set_option maxHeartbeats 4000000 in
theorem m_X0_noteOpenings_65 {l : Launch} {D : va_G} {h : Nat → Nat} {cz : Nat → ClassId} {z : EZ} {i : Nat → Nat → Int32} {g : Nat → Nat → Int64} (hR : Rg rA i) (a_a : Int32) (a_b : Int32) : DtV l yX0_noteOpenings cX0_noteOpenings 4 none ({ frames := 1, cells := 0, slots := 0, locals := 21 } : Room) D h cz z i g [.ref (h 65), .int a_a, .int a_b] (fun u => Rg rA u.1 ∧ Fr [70] [] i g u) := by
  refine e_V pn_X0_noteOpenings (Nat.le_of_ble_eq_true rfl) ?_
  intro p e s m args below meth c ls Q X Y hret hT hl hS
  have hx := X.1
  have hb := X.2.1
  have hl : lv_has ls 4 [(0, .ref (h 65)), (1, .int a_a), (2, .int a_b)] := hl
  have hF : Fr [70] [] i g (i, g) := Fr_rf _ _ _ _
  refine lv_iconst (v := 0) hx hb dX0_noteOpenings_0 (by decide) ?_
  refine lv_istore_n (lv' := [(3, .int 0), (0, .ref (h 65)), (1, .int a_a), (2, .int a_b)]) hx hb dX0_noteOpenings_1 rfl hl (by decide) rfl (fun ls hl => ?_)
  have L2_1 : ∀ (n3_ : Nat) (x2_3 : Int32) (i2 : Nat → Nat → Int32) (g2 : Nat → Nat → Int64) (H : Heap) (locs : List Loc) (ls : Array Slot), rg 0 6 x2_3 → Rg rA i2 → Fr [70] [] i g (i2, g2) → TH D h cz i2 g2 H → va_S (hA h) s.heap H locs → lv_has ls 4 [(0, .ref (h 65)), (1, .int a_a), (2, .int a_b), (3, .int x2_3)] → (6 - x2_3.toInt).toNat < n3_ → W p l e ({ frames := 1, cells := 0, slots := 0, locals := 21 } : Room) s m args below meth c H locs 0 0 Q (F0 m 2 ls []) := by
    intro n3_
    induction n3_ with
    | zero => intro x2_3 i2 g2 H locs ls hhx2_3 hR2 hF2 hT hS hl hm3_; exact absurd hm3_ (Nat.not_lt_zero _)
    | succ n3_ ih3_ =>
      intro x2_3 i2 g2 H locs ls hhx2_3 hR2 hF2 hT hS hl hm3_
      refine lv_iload_n hx hb dX0_noteOpenings_2 rfl (lv_at hl 3 rfl) ?_
      refine lv_aload_n hx hb dX0_noteOpenings_3 rfl (lv_at hl 0 rfl) ?_
      refine r_getr X hT 65 0 15 fk_0_30 rfl rfl (by decide) dX0_noteOpenings_4 ?_
      refine r_geti X hT 15 13 fk_0_44 rfl rfl (by decide) dX0_noteOpenings_7 ?_
      refine lv_icmp_ge (tgt := 38) hx hb dX0_noteOpenings_10 (by decide) (fun c4 => ?_) (fun c4 => ?_)
      ·
        have q4 : (i2 15 13).toInt ≤ x2_3.toInt := i_le c4
        exact hret _ _ _ _ _ _ dX0_noteOpenings_38 hT hS ⟨hR2, hF2⟩
      ·
        have q4 : x2_3.toInt < (i2 15 13).toInt := i_nle c4
        have h5 : rg 0 5 x2_3 := t_ltx 0 5 hhx2_3 (Rg_at hR2 15 13 0 6 (by decide) rfl) (i_nle c4) (by decide)
        have h6 : rg 1 6 (i2 15 13) := t_lty 1 6 hhx2_3 (Rg_at hR2 15 13 0 6 (by decide) rfl) (i_nle c4) (by decide)
        refine lv_iload_n hx hb dX0_noteOpenings_13 rfl (lv_at hl 1 rfl) ?_
        refine lv_if_eq (tgt := 38) hx hb dX0_noteOpenings_14 (by decide) (fun c7 => ?_) (fun c7 => ?_)
        ·
          have q7 : a_a.toInt = 0 := i_eq c7
          have h8 : rg 0 0 a_a := t_eqx 0 0 (rg_top a_a) (rg_k (by decide) : rg 0 0 0) (i_eq c7) (by decide)
          exact hret _ _ _ _ _ _ dX0_noteOpenings_38 hT hS ⟨hR2, hF2⟩
        ·
          have q7 : ¬ a_a.toInt = 0 := i_ne c7
          refine lv_iload_n hx hb dX0_noteOpenings_17 rfl (lv_at hl 1 rfl) ?_
          refine lv_iload_n hx hb dX0_noteOpenings_18 rfl (lv_at hl 3 rfl) ?_
          refine e_Ni (As := [.int a_a, .int x2_3]) (rest := []) X Y hT hS (m_X8_hasBit a_a x2_3) sk_X8_hasBit Y.n1 hd_X8_hasBit ⟨rfl, rfl⟩ ⟨Nat.le_of_ble_eq_true rfl, Nat.le_of_ble_eq_true rfl⟩ hl.1 rfl (Nat.le_of_ble_eq_true rfl) dX0_noteOpenings_19 ⟨Nat.zero_le _, Nat.zero_le _⟩ (fun r9 i9 g9 H locs hq hT hS => ?_)
          obtain ⟨eh9, hr9⟩ := hq
          rw [(Prod.mk.inj eh9).1, (Prod.mk.inj eh9).2] at hT
          refine lv_if_eq (tgt := 32) hx hb dX0_noteOpenings_22 (by decide) (fun c10 => ?_) (fun c10 => ?_)
          ·
            have q10 : r9.toInt = 0 := i_eq c10
            have h11 : rg 0 0 r9 := t_eqx 0 0 hr9 (rg_k (by decide) : rg 0 0 0) (i_eq c10) (by decide)
            obtain ⟨x12, ex12⟩ : ∃ y : Int32, y = x2_3 + 1 := ⟨_, rfl⟩
            refine lv_iinc (v := x12) (lv' := [(3, .int x12), (0, .ref (h 65)), (1, .int a_a), (2, .int a_b)]) hx hb dX0_noteOpenings_32 hl (k := 3) rfl (by rw [ex12]; rfl) (by decide) rfl (fun ls hl => ?_)
            obtain ⟨hx12, ax12⟩ := rg_add 1 6 ex12 h5 (rg_k (by decide) : rg 1 1 1) (by decide)
            replace ax12 : x12.toInt = x2_3.toInt + 1 := ax12
            refine lv_goto (tgt := 2) hx hb dX0_noteOpenings_35 (by decide) ?_
            exact ih3_ x12 i2 g2 _ _ _ (rg_w hx12 (by decide) : rg 0 6 x12) hR2 hF2 hT hS (lv_sub hl [1, 2, 3, 0] rfl) (m_up ax12 hx12 (by decide) hm3_)
          ·
            have q10 : ¬ r9.toInt = 0 := i_ne c10
            have h13 : rg 1 1 r9 := t_nelo 1 hr9 (rg_k (by decide) : rg 0 0 0) (i_ne c10) (by decide)
            refine lv_aload_n hx hb dX0_noteOpenings_25 rfl (lv_at hl 0 rfl) ?_
            refine r_getr X hT 65 5 70 fk_0_24 rfl rfl (by decide) dX0_noteOpenings_26 ?_
            refine lv_iload_n hx hb dX0_noteOpenings_29 rfl (lv_at hl 3 rfl) ?_
            refine lv_iload_n hx hb dX0_noteOpenings_30 rfl (lv_at hl 2 rfl) ?_
            refine r_iast X hT hS 70 rfl (by decide) (v_in h5 (by decide)) dX0_noteOpenings_31 (fun H locs i14 ei14 hT hS => ?_)
            have hR14 := Rg_put hR2 ei14 (-2147483648) 2147483647 rfl (rg_top a_b) (by decide)
            have hF14 := Fr_puti hF2 ei14 (by decide)
            obtain ⟨x15, ex15⟩ : ∃ y : Int32, y = x2_3 + 1 := ⟨_, rfl⟩
            refine lv_iinc (v := x15) (lv' := [(3, .int x15), (0, .ref (h 65)), (1, .int a_a), (2, .int a_b)]) hx hb dX0_noteOpenings_32 hl (k := 3) rfl (by rw [ex15]; rfl) (by decide) rfl (fun ls hl => ?_)
            obtain ⟨hx15, ax15⟩ := rg_add 1 6 ex15 h5 (rg_k (by decide) : rg 1 1 1) (by decide)
            replace ax15 : x15.toInt = x2_3.toInt + 1 := ax15
            refine lv_goto (tgt := 2) hx hb dX0_noteOpenings_35 (by decide) ?_
            exact ih3_ x15 i14 g2 _ _ _ (rg_w hx15 (by decide) : rg 0 6 x15) hR14 hF14 hT hS (lv_sub hl [1, 2, 3, 0] rfl) (m_up ax15 hx15 (by decide) hm3_)
  exact L2_1 _ (0) i g _ _ _ (rg_w (rg_k (by decide) : rg 0 0 0) (by decide) : rg 0 6 0) hR hF hT hS (lv_sub hl [1, 2, 3, 0] rfl) (Nat.lt_succ_self _)
