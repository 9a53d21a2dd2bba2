set_option maxRecDepth 100000 in
set_option maxHeartbeats 4000000 in
theorem m_X7_hasRoomForFive_1 {l : Launch} {D : va_G} {h : Nat → Nat} {cz : Nat → ClassId} {z : EZ} {i : Nat → Nat → Int32} {g : Nat → Nat → Int64} (hR : Rg rA i) : DtI l yX7_hasRoomForFive cX7_hasRoomForFive 1 (some .boolean) ({ frames := 0, cells := 0, slots := 0, locals := 0 } : Room) D h cz z i g [.ref (h 1)] (fun r u => u = (i, g) ∧ rg 0 1 r) := by
  refine e_Z (fun v u hq => (z01 hq.2)) pn_X7_hasRoomForFive (Nat.le_of_ble_eq_true rfl) ?_
  intro p e s m args below meth c ls Q X Y hret hT hl hS
  have hx := X.1
  have hb := X.2.1
  have hl : lv_has ls 1 [(0, .ref (h 1))] := hl
  refine lv_aload_n hx hb dX7_hasRoomForFive_0 rfl (lv_at hl 0 rfl) ?_
  refine r_geti X hT 1 1 fk_7_15 rfl rfl (by decide) dX7_hasRoomForFive_1 ?_
  refine lv_bipush (v := 20) hx hb dX7_hasRoomForFive_4 (by decide) ?_
  refine q_iadd hx hb dX7_hasRoomForFive_6 (fun x1 ex1 => ?_)
  obtain ⟨hx1, ax1⟩ := rg_add 20 720 ex1 (Rg_at hR 1 1 0 700 (by decide) rfl) (rg_k (by decide) : rg 20 20 20) (by decide)
  replace ax1 : x1.toInt = (i 1 1).toInt + 20 := ax1
  refine lv_sipush (v := 700) hx hb dX7_hasRoomForFive_7 (by decide) ?_
  refine lv_icmp_gt (tgt := 17) hx hb dX7_hasRoomForFive_10 (by decide) (fun c2 => ?_) (fun c2 => ?_)
  ·
    have q2 : 700 < x1.toInt := i_lt c2
    have h3 : rg 701 720 x1 := t_lty 701 720 (rg_k (by decide) : rg 700 700 700) hx1 (i_lt c2) (by decide)
    have h4 : rg 681 700 (i 1 1) := ⟨by have := h3.1; have := (Rg_at hR 1 1 0 700 (by decide) rfl).1; have := ax1; omega, by have := h3.2; have := (Rg_at hR 1 1 0 700 (by decide) rfl).2; have := ax1; omega⟩
    refine lv_iconst (v := 0) hx hb dX7_hasRoomForFive_17 (by decide) ?_
    exact hret 0 _ _ _ _ _ _ dX7_hasRoomForFive_18 hT hS ⟨rfl, (rg_w (rg_k (by decide) : rg 0 0 0) (by decide) : rg 0 1 0)⟩
  ·
    have q2 : x1.toInt ≤ 700 := i_nlt c2
    have h5 : rg 20 700 x1 := t_lex 20 700 hx1 (rg_k (by decide) : rg 700 700 700) (i_nlt c2) (by decide)
    have h6 : rg 0 680 (i 1 1) := ⟨by have := h5.1; have := (Rg_at hR 1 1 0 700 (by decide) rfl).1; have := ax1; omega, by have := h5.2; have := (Rg_at hR 1 1 0 700 (by decide) rfl).2; have := ax1; omega⟩
    refine lv_iconst (v := 1) hx hb dX7_hasRoomForFive_13 (by decide) ?_
    refine lv_goto (tgt := 18) hx hb dX7_hasRoomForFive_14 (by decide) ?_
    exact hret 1 _ _ _ _ _ _ dX7_hasRoomForFive_18 hT hS ⟨rfl, (rg_w (rg_k (by decide) : rg 1 1 1) (by decide) : rg 0 1 1)⟩
set_option maxRecDepth 100000 in
set_option maxHeartbeats 4000000 in
theorem m_X7_append_1 {l : Launch} {D : va_G} {h : Nat → Nat} {cz : Nat → ClassId} {z : EZ} {i : Nat → Nat → Int32} {g : Nat → Nat → Int64} (hR : Rg rA i) (a_a : Int32) : DtV l yX7_append cX7_append 3 none ({ frames := 0, cells := 0, slots := 0, locals := 0 } : Room) D h cz z i g [.ref (h 1), .int a_a] (fun u => Rg rA u.1 ∧ Fr [1, 2] [] i g u) := by
  refine e_V pn_X7_append (Nat.le_of_ble_eq_true rfl) ?_
  intro p e s m args below meth c ls Q X Y hret hT hl hS
  have hx := X.1
  have hb := X.2.1
  have hl : lv_has ls 3 [(0, .ref (h 1)), (1, .int a_a)] := hl
  have hF : Fr [1, 2] [] i g (i, g) := Fr_rf _ _ _ _
  refine lv_bipush (v := 24) hx hb dX7_append_0 (by decide) ?_
  refine lv_istore_n (lv' := [(2, .int 24), (0, .ref (h 1)), (1, .int a_a)]) hx hb dX7_append_2 rfl hl (by decide) rfl (fun ls hl => ?_)
  have L3_1 : ∀ (n3_ : Nat) (x3_2 : Int32) (i2 : Nat → Nat → Int32) (g2 : Nat → Nat → Int64) (H : Heap) (locs : List Loc) (ls : Array Slot), rg (-8) 24 x3_2 → Rg rA i2 → Fr [1, 2] [] i g (i2, g2) → TH D h cz i2 g2 H → va_S (hA h) s.heap H locs → lv_has ls 3 [(0, .ref (h 1)), (1, .int a_a), (2, .int x3_2)] → (x3_2.toInt - (-8)).toNat < n3_ → W p l e ({ frames := 0, cells := 0, slots := 0, locals := 0 } : Room) s m args below meth c H locs 0 0 Q (F0 m 3 ls []) := by
    intro n3_
    induction n3_ with
    | zero => intro x3_2 i2 g2 H locs ls hhx3_2 hR2 hF2 hT hS hl hm3_; exact absurd hm3_ (Nat.not_lt_zero _)
    | succ n3_ ih3_ =>
      intro x3_2 i2 g2 H locs ls hhx3_2 hR2 hF2 hT hS hl hm3_
      refine lv_iload_n hx hb dX7_append_3 rfl (lv_at hl 2 rfl) ?_
      refine lv_if_lt (tgt := 46) hx hb dX7_append_4 (by decide) (fun c4 => ?_) (fun c4 => ?_)
      ·
        have q4 : x3_2.toInt < 0 := i_lt c4
        have h5 : rg (-8) (-1) x3_2 := t_ltx (-8) (-1) hhx3_2 (rg_k (by decide) : rg 0 0 0) (i_lt c4) (by decide)
        exact hret _ _ _ _ _ _ dX7_append_46 hT hS ⟨hR2, hF2⟩
      ·
        have q4 : 0 ≤ x3_2.toInt := i_nlt c4
        have h6 : rg 0 24 x3_2 := t_ley 0 24 (rg_k (by decide) : rg 0 0 0) hhx3_2 (i_nlt c4) (by decide)
        refine lv_aload_n hx hb dX7_append_7 rfl (lv_at hl 0 rfl) ?_
        refine r_geti X hT 1 1 fk_7_15 rfl rfl (by decide) dX7_append_8 ?_
        refine lv_sipush (v := 700) hx hb dX7_append_11 (by decide) ?_
        refine lv_icmp_ge (tgt := 46) hx hb dX7_append_14 (by decide) (fun c7 => ?_) (fun c7 => ?_)
        ·
          have q7 : 700 ≤ (i2 1 1).toInt := i_le c7
          have h8 : rg 700 700 (i2 1 1) := t_ley 700 700 (rg_k (by decide) : rg 700 700 700) (Rg_at hR2 1 1 0 700 (by decide) rfl) (i_le c7) (by decide)
          exact hret _ _ _ _ _ _ dX7_append_46 hT hS ⟨hR2, hF2⟩
        ·
          have q7 : (i2 1 1).toInt < 700 := i_nle c7
          have h9 : rg 0 699 (i2 1 1) := t_ltx 0 699 (Rg_at hR2 1 1 0 700 (by decide) rfl) (rg_k (by decide) : rg 700 700 700) (i_nle c7) (by decide)
          refine lv_aload_n hx hb dX7_append_17 rfl (lv_at hl 0 rfl) ?_
          refine r_getr X hT 1 0 2 fk_7_9 rfl rfl (by decide) dX7_append_18 ?_
          refine lv_aload_n hx hb dX7_append_21 rfl (lv_at hl 0 rfl) ?_
          refine r_geti X hT 1 1 fk_7_15 rfl rfl (by decide) dX7_append_22 ?_
          refine lv_iload_n hx hb dX7_append_25 rfl (lv_at hl 1 rfl) ?_
          refine lv_iload_n hx hb dX7_append_26 rfl (lv_at hl 2 rfl) ?_
          refine q_ishr hx hb dX7_append_27 (fun x10 ex10 => ?_)
          refine q_i2b hx hb dX7_append_28 (fun x11 ex11 => ?_)
          refine r_bast X hT hS 2 rfl (by decide) (v_in h9 (by decide)) dX7_append_29 (fun H locs i12 ei12 hT hS => ?_)
          have hR12 := Rg_put hR2 ei12 (-128) 127 rfl (rg_nb x11) (by decide)
          have hF12 := Fr_puti hF2 ei12 (by decide)
          refine lv_aload_n hx hb dX7_append_30 rfl (lv_at hl 0 rfl) ?_
          refine lv_dup hx hb dX7_append_31 rfl ?_
          refine r_geti X hT 1 1 fk_7_15 rfl rfl (by decide) dX7_append_32 ?_
          have e13 : (i12 1 1) = (i2 1 1) := (z_j ei12 rfl (by decide))
          have h14 : rg 0 699 (i12 1 1) := rg_of e13 h9
          refine lv_iconst (v := 1) hx hb dX7_append_35 (by decide) ?_
          refine q_iadd hx hb dX7_append_36 (fun x15 ex15 => ?_)
          obtain ⟨hx15, ax15⟩ := rg_add 1 700 ex15 h14 (rg_k (by decide) : rg 1 1 1) (by decide)
          replace ax15 : x15.toInt = (i12 1 1).toInt + 1 := ax15
          refine r_puti X hT hS 1 1 pk_7_15 rfl rfl rfl rfl (by decide) dX7_append_37 (fun H locs i16 ei16 hT hS => ?_)
          have hR16 := Rg_put hR12 ei16 0 700 rfl hx15 (by decide)
          have hF16 := Fr_puti hF12 ei16 (by decide)
          obtain ⟨x17, ex17⟩ : ∃ y : Int32, y = x3_2 + (-8) := ⟨_, rfl⟩
          refine lv_iinc (v := x17) (lv' := [(2, .int x17), (0, .ref (h 1)), (1, .int a_a)]) hx hb dX7_append_40 hl (k := 2) rfl (by rw [ex17]; rfl) (by decide) rfl (fun ls hl => ?_)
          obtain ⟨hx17, ax17⟩ := rg_add (-8) 16 ex17 h6 (rg_k (by decide) : rg (-8) (-8) (-8)) (by decide)
          replace ax17 : x17.toInt = x3_2.toInt + (-8) := ax17
          refine lv_goto (tgt := 3) hx hb dX7_append_43 (by decide) ?_
          exact ih3_ x17 i16 g2 _ _ _ (rg_w hx17 (by decide) : rg (-8) 24 x17) hR16 hF16 hT hS (lv_sub hl [1, 2, 0] rfl) (m_dn ax17 hx17 (by decide) hm3_)
  exact L3_1 _ (24) i g _ _ _ (rg_w (rg_k (by decide) : rg 24 24 24) (by decide) : rg (-8) 24 24) hR hF hT hS (lv_sub hl [1, 2, 0] rfl) (Nat.lt_succ_self _)
set_option maxRecDepth 100000 in
set_option maxHeartbeats 4000000 in
theorem m_X8_feed {l : Launch} {D : va_G} {h : Nat → Nat} {cz : Nat → ClassId} {z : EZ} {i : Nat → Nat → Int32} {g : Nat → Nat → Int64} (hR : Rg rA i) (a_a : Int32) (a_b : Int32) (a_c : Int32) (a_d : Int32) (a_e : Int32) : DtI l yX8_feed cX8_feed 6 (some .int) ({ frames := 1, cells := 0, slots := 0, locals := 22 } : Room) D h cz z i g [.ref (h 0), .int a_a, .int a_b, .int a_c, .int a_d, .int a_e] (fun r u => Rg rA u.1 ∧ Fr [1, 2] [] i g u ∧ rg (-1) 700 r) := by
  refine e_I pn_X8_feed (Nat.le_of_ble_eq_true rfl) ?_
  intro p e s m args below meth c ls Q X Y hret hT hl hS
  have hx := X.1
  have hb := X.2.1
  have hl : lv_has ls 6 [(0, .ref (h 0)), (1, .int a_a), (2, .int a_b), (3, .int a_c), (4, .int a_d), (5, .int a_e)] := hl
  have hF : Fr [1, 2] [] i g (i, g) := Fr_rf _ _ _ _
  refine lv_aload_n hx hb dX8_feed_0 rfl (lv_at hl 0 rfl) ?_
  refine r_getr X hT 0 0 1 fk_8_10 rfl rfl (by decide) dX8_feed_1 ?_
  refine e_Vi (As := []) (rest := []) X Y hT hS (m_X7_hasRoomForFive_1 hR) mk_X7_hasRoomForFive gm_493 rfl rfl (by decide) hd_X7_hasRoomForFive ⟨rfl, rfl⟩ ⟨Nat.le_of_ble_eq_true rfl, Nat.le_of_ble_eq_true rfl⟩ hl.1 rfl (Nat.le_of_ble_eq_true rfl) dX8_feed_4 ⟨Nat.zero_le _, Nat.zero_le _⟩ (fun r1 i1 g1 H locs hq hT hS => ?_)
  obtain ⟨eh1, hr1⟩ := hq
  rw [(Prod.mk.inj eh1).1, (Prod.mk.inj eh1).2] at hT
  refine lv_if_ne (tgt := 12) hx hb dX8_feed_7 (by decide) (fun c2 => ?_) (fun c2 => ?_)
  ·
    have q2 : ¬ r1.toInt = 0 := i_ne c2
    have h3 : rg 1 1 r1 := t_nelo 1 hr1 (rg_k (by decide) : rg 0 0 0) (i_ne c2) (by decide)
    refine lv_aload_n hx hb dX8_feed_12 rfl (lv_at hl 0 rfl) ?_
    refine r_getr X hT 0 0 1 fk_8_10 rfl rfl (by decide) dX8_feed_13 ?_
    refine lv_iload_n hx hb dX8_feed_16 rfl (lv_at hl 1 rfl) ?_
    refine e_Vv (As := [.int a_a]) (rest := []) X Y hT hS (m_X7_append_1 hR a_a) mk_X7_append gm_497 rfl rfl (by decide) hd_X7_append ⟨rfl, rfl⟩ ⟨Nat.le_of_ble_eq_true rfl, Nat.le_of_ble_eq_true rfl⟩ hl.1 rfl (Nat.le_of_ble_eq_true rfl) dX8_feed_17 ⟨Nat.zero_le _, Nat.zero_le _⟩ (fun i4 g4 H locs hq hT hS => ?_)
    obtain ⟨hR4, hf4⟩ := hq
    have hF4 := Fr_tr hF hf4 (by decide)
    refine lv_aload_n hx hb dX8_feed_20 rfl (lv_at hl 0 rfl) ?_
    refine r_getr X hT 0 0 1 fk_8_10 rfl rfl (by decide) dX8_feed_21 ?_
    refine lv_iload_n hx hb dX8_feed_24 rfl (lv_at hl 2 rfl) ?_
    refine e_Vv (As := [.int a_b]) (rest := []) X Y hT hS (m_X7_append_1 hR4 a_b) mk_X7_append gm_497 rfl rfl (by decide) hd_X7_append ⟨rfl, rfl⟩ ⟨Nat.le_of_ble_eq_true rfl, Nat.le_of_ble_eq_true rfl⟩ hl.1 rfl (Nat.le_of_ble_eq_true rfl) dX8_feed_25 ⟨Nat.zero_le _, Nat.zero_le _⟩ (fun i5 g5 H locs hq hT hS => ?_)
    obtain ⟨hR5, hf5⟩ := hq
    have hF5 := Fr_tr hF4 hf5 (by decide)
    refine lv_aload_n hx hb dX8_feed_28 rfl (lv_at hl 0 rfl) ?_
    refine r_getr X hT 0 0 1 fk_8_10 rfl rfl (by decide) dX8_feed_29 ?_
    refine lv_iload_n hx hb dX8_feed_32 rfl (lv_at hl 3 rfl) ?_
    refine e_Vv (As := [.int a_c]) (rest := []) X Y hT hS (m_X7_append_1 hR5 a_c) mk_X7_append gm_497 rfl rfl (by decide) hd_X7_append ⟨rfl, rfl⟩ ⟨Nat.le_of_ble_eq_true rfl, Nat.le_of_ble_eq_true rfl⟩ hl.1 rfl (Nat.le_of_ble_eq_true rfl) dX8_feed_33 ⟨Nat.zero_le _, Nat.zero_le _⟩ (fun i6 g6 H locs hq hT hS => ?_)
    obtain ⟨hR6, hf6⟩ := hq
    have hF6 := Fr_tr hF5 hf6 (by decide)
    refine lv_aload_n hx hb dX8_feed_36 rfl (lv_at hl 0 rfl) ?_
    refine r_getr X hT 0 0 1 fk_8_10 rfl rfl (by decide) dX8_feed_37 ?_
    refine lv_iload hx hb dX8_feed_40 (lv_at hl 4 rfl) ?_
    refine e_Vv (As := [.int a_d]) (rest := []) X Y hT hS (m_X7_append_1 hR6 a_d) mk_X7_append gm_497 rfl rfl (by decide) hd_X7_append ⟨rfl, rfl⟩ ⟨Nat.le_of_ble_eq_true rfl, Nat.le_of_ble_eq_true rfl⟩ hl.1 rfl (Nat.le_of_ble_eq_true rfl) dX8_feed_42 ⟨Nat.zero_le _, Nat.zero_le _⟩ (fun i7 g7 H locs hq hT hS => ?_)
    obtain ⟨hR7, hf7⟩ := hq
    have hF7 := Fr_tr hF6 hf7 (by decide)
    refine lv_aload_n hx hb dX8_feed_45 rfl (lv_at hl 0 rfl) ?_
    refine r_getr X hT 0 0 1 fk_8_10 rfl rfl (by decide) dX8_feed_46 ?_
    refine lv_iload hx hb dX8_feed_49 (lv_at hl 5 rfl) ?_
    refine e_Vv (As := [.int a_e]) (rest := []) X Y hT hS (m_X7_append_1 hR7 a_e) mk_X7_append gm_497 rfl rfl (by decide) hd_X7_append ⟨rfl, rfl⟩ ⟨Nat.le_of_ble_eq_true rfl, Nat.le_of_ble_eq_true rfl⟩ hl.1 rfl (Nat.le_of_ble_eq_true rfl) dX8_feed_51 ⟨Nat.zero_le _, Nat.zero_le _⟩ (fun i8 g8 H locs hq hT hS => ?_)
    obtain ⟨hR8, hf8⟩ := hq
    have hF8 := Fr_tr hF7 hf8 (by decide)
    refine lv_aload_n hx hb dX8_feed_54 rfl (lv_at hl 0 rfl) ?_
    refine r_getr X hT 0 0 1 fk_8_10 rfl rfl (by decide) dX8_feed_55 ?_
    refine r_geti X hT 1 1 fk_8_106 rfl rfl (by decide) dX8_feed_58 ?_
    exact hret (i8 1 1) _ _ _ _ _ _ dX8_feed_61 hT hS ⟨hR8, hF8, (rg_w (Rg_at hR8 1 1 0 700 (by decide) rfl) (by decide) : rg (-1) 700 (i8 1 1))⟩
  ·
    have q2 : r1.toInt = 0 := i_eq c2
    have h9 : rg 0 0 r1 := t_eqx 0 0 hr1 (rg_k (by decide) : rg 0 0 0) (i_eq c2) (by decide)
    refine lv_iconst (v := (-1)) hx hb dX8_feed_10 (by decide) ?_
    exact hret (-1) _ _ _ _ _ _ dX8_feed_11 hT hS ⟨hR, hF, (rg_w (rg_k (by decide) : rg (-1) (-1) (-1)) (by decide) : rg (-1) 700 (-1))⟩
set_option maxRecDepth 100000 in
set_option maxHeartbeats 4000000 in
theorem m_X8_end {l : Launch} {D : va_G} {h : Nat → Nat} {cz : Nat → ClassId} {z : EZ} {i : Nat → Nat → Int32} {g : Nat → Nat → Int64} (hR : Rg rA i) (a_a : Int32) : DtI l yX8_end cX8_end 2 (some .int) ({ frames := 0, cells := 0, slots := 0, locals := 0 } : Room) D h cz z i g [.ref (h 0), .int a_a] (fun r u => Rg rA u.1 ∧ Fr [1] [] i g u ∧ rg (-1) 700 r) := by
  refine e_I pn_X8_end (Nat.le_of_ble_eq_true rfl) ?_
  intro p e s m args below meth c ls Q X Y hret hT hl hS
  have hx := X.1
  have hb := X.2.1
  have hl : lv_has ls 2 [(0, .ref (h 0)), (1, .int a_a)] := hl
  have hF : Fr [1] [] i g (i, g) := Fr_rf _ _ _ _
  refine lv_iload_n hx hb dX8_end_0 rfl (lv_at hl 1 rfl) ?_
  refine lv_if_lt (tgt := 15) hx hb dX8_end_1 (by decide) (fun c1 => ?_) (fun c1 => ?_)
  ·
    have q1 : a_a.toInt < 0 := i_lt c1
    have h2 : rg (-2147483648) (-1) a_a := t_ltx (-2147483648) (-1) (rg_top a_a) (rg_k (by decide) : rg 0 0 0) (i_lt c1) (by decide)
    refine lv_iconst (v := (-1)) hx hb dX8_end_15 (by decide) ?_
    exact hret (-1) _ _ _ _ _ _ dX8_end_16 hT hS ⟨hR, hF, (rg_w (rg_k (by decide) : rg (-1) (-1) (-1)) (by decide) : rg (-1) 700 (-1))⟩
  ·
    have q1 : 0 ≤ a_a.toInt := i_nlt c1
    have h3 : rg 0 2147483647 a_a := t_ley 0 2147483647 (rg_k (by decide) : rg 0 0 0) (rg_top a_a) (i_nlt c1) (by decide)
    refine lv_iload_n hx hb dX8_end_4 rfl (lv_at hl 1 rfl) ?_
    refine lv_aload_n hx hb dX8_end_5 rfl (lv_at hl 0 rfl) ?_
    refine r_getr X hT 0 0 1 fk_8_10 rfl rfl (by decide) dX8_end_6 ?_
    refine r_geti X hT 1 1 fk_8_106 rfl rfl (by decide) dX8_end_9 ?_
    refine lv_icmp_le (tgt := 17) hx hb dX8_end_12 (by decide) (fun c4 => ?_) (fun c4 => ?_)
    ·
      have q4 : a_a.toInt ≤ (i 1 1).toInt := i_le c4
      have h5 : rg 0 700 a_a := t_lex 0 700 h3 (Rg_at hR 1 1 0 700 (by decide) rfl) (i_le c4) (by decide)
      refine lv_aload_n hx hb dX8_end_17 rfl (lv_at hl 0 rfl) ?_
      refine r_getr X hT 0 0 1 fk_8_10 rfl rfl (by decide) dX8_end_18 ?_
      refine lv_iload_n hx hb dX8_end_21 rfl (lv_at hl 1 rfl) ?_
      refine r_puti X hT hS 1 1 pk_8_106 rfl rfl rfl rfl (by decide) dX8_end_22 (fun H locs i6 ei6 hT hS => ?_)
      have hR6 := Rg_put hR ei6 0 700 rfl h5 (by decide)
      have hF6 := Fr_puti hF ei6 (by decide)
      refine lv_iload_n hx hb dX8_end_25 rfl (lv_at hl 1 rfl) ?_
      exact hret a_a _ _ _ _ _ _ dX8_end_26 hT hS ⟨hR6, hF6, (rg_w h5 (by decide) : rg (-1) 700 a_a)⟩
    ·
      have q4 : (i 1 1).toInt < a_a.toInt := i_nle c4
      have h7 : rg 1 2147483647 a_a := t_lty 1 2147483647 (Rg_at hR 1 1 0 700 (by decide) rfl) h3 (i_nle c4) (by decide)
      refine lv_iconst (v := (-1)) hx hb dX8_end_15 (by decide) ?_
      exact hret (-1) _ _ _ _ _ _ dX8_end_16 hT hS ⟨hR, hF, (rg_w (rg_k (by decide) : rg (-1) (-1) (-1)) (by decide) : rg (-1) 700 (-1))⟩
set_option maxRecDepth 100000 in
set_option maxHeartbeats 4000000 in
theorem m_X6_clear_3 {l : Launch} {D : va_G} {h : Nat → Nat} {cz : Nat → ClassId} {z : EZ} {i : Nat → Nat → Int32} {g : Nat → Nat → Int64} (hR : Rg rA i) : DtV l yX6_clear cX6_clear 1 none ({ frames := 0, cells := 0, slots := 0, locals := 0 } : Room) D h cz z i g [.ref (h 3)] (fun u => Rg rA u.1 ∧ Fr [3] [] i g u) := by
  refine e_V pn_X6_clear (Nat.le_of_ble_eq_true rfl) ?_
  intro p e s m args below meth c ls Q X Y hret hT hl hS
  have hx := X.1
  have hb := X.2.1
  have hl : lv_has ls 1 [(0, .ref (h 3))] := hl
  have hF : Fr [3] [] i g (i, g) := Fr_rf _ _ _ _
  refine lv_aload_n hx hb dX6_clear_0 rfl (lv_at hl 0 rfl) ?_
  refine lv_iconst (v := 0) hx hb dX6_clear_1 (by decide) ?_
  refine r_puti X hT hS 3 10 pk_6_42 rfl rfl rfl rfl (by decide) dX6_clear_2 (fun H locs i1 ei1 hT hS => ?_)
  have hR1 := Rg_put hR ei1 (-1) 12 rfl (rg_k (by decide) : rg 0 0 0) (by decide)
  have hF1 := Fr_puti hF ei1 (by decide)
  refine lv_aload_n hx hb dX6_clear_5 rfl (lv_at hl 0 rfl) ?_
  refine lv_iconst (v := 0) hx hb dX6_clear_6 (by decide) ?_
  refine r_puti X hT hS 3 11 pk_6_46 rfl rfl rfl rfl (by decide) dX6_clear_7 (fun H locs i2 ei2 hT hS => ?_)
  have hR2 := Rg_put hR1 ei2 (-2147483648) 2147483647 rfl (rg_k (by decide) : rg 0 0 0) (by decide)
  have hF2 := Fr_puti hF1 ei2 (by decide)
  refine lv_aload_n hx hb dX6_clear_10 rfl (lv_at hl 0 rfl) ?_
  refine lv_iconst (v := 0) hx hb dX6_clear_11 (by decide) ?_
  refine r_puti X hT hS 3 12 pk_6_49 rfl rfl rfl rfl (by decide) dX6_clear_12 (fun H locs i3 ei3 hT hS => ?_)
  have hR3 := Rg_put hR2 ei3 (-2147483648) 2147483647 rfl (rg_k (by decide) : rg 0 0 0) (by decide)
  have hF3 := Fr_puti hF2 ei3 (by decide)
  refine lv_aload_n hx hb dX6_clear_15 rfl (lv_at hl 0 rfl) ?_
  refine lv_iconst (v := 0) hx hb dX6_clear_16 (by decide) ?_
  refine r_puti X hT hS 3 13 pk_6_52 rfl rfl rfl rfl (by decide) dX6_clear_17 (fun H locs i4 ei4 hT hS => ?_)
  have hR4 := Rg_put hR3 ei4 0 6 rfl (rg_k (by decide) : rg 0 0 0) (by decide)
  have hF4 := Fr_puti hF3 ei4 (by decide)
  refine lv_aload_n hx hb dX6_clear_20 rfl (lv_at hl 0 rfl) ?_
  refine lv_iconst (v := 0) hx hb dX6_clear_21 (by decide) ?_
  refine r_puti X hT hS 3 14 pk_6_55 rfl rfl rfl rfl (by decide) dX6_clear_22 (fun H locs i5 ei5 hT hS => ?_)
  have hR5 := Rg_put hR4 ei5 0 10 rfl (rg_k (by decide) : rg 0 0 0) (by decide)
  have hF5 := Fr_puti hF4 ei5 (by decide)
  refine lv_aload_n hx hb dX6_clear_25 rfl (lv_at hl 0 rfl) ?_
  refine lv_iconst (v := 0) hx hb dX6_clear_26 (by decide) ?_
  refine r_puti X hT hS 3 15 pk_6_58 rfl rfl rfl rfl (by decide) dX6_clear_27 (fun H locs i6 ei6 hT hS => ?_)
  have hR6 := Rg_put hR5 ei6 0 8 rfl (rg_k (by decide) : rg 0 0 0) (by decide)
  have hF6 := Fr_puti hF5 ei6 (by decide)
  refine lv_aload_n hx hb dX6_clear_30 rfl (lv_at hl 0 rfl) ?_
  refine lv_iconst (v := 0) hx hb dX6_clear_31 (by decide) ?_
  refine r_puti X hT hS 3 16 pk_6_61 rfl rfl rfl rfl (by decide) dX6_clear_32 (fun H locs i7 ei7 hT hS => ?_)
  have hR7 := Rg_put hR6 ei7 0 20 rfl (rg_k (by decide) : rg 0 0 0) (by decide)
  have hF7 := Fr_puti hF6 ei7 (by decide)
  refine lv_aload_n hx hb dX6_clear_35 rfl (lv_at hl 0 rfl) ?_
  refine lv_iconst (v := 0) hx hb dX6_clear_36 (by decide) ?_
  refine r_puti X hT hS 3 17 pk_6_64 rfl rfl rfl rfl (by decide) dX6_clear_37 (fun H locs i8 ei8 hT hS => ?_)
  have hR8 := Rg_put hR7 ei8 (-2147483648) 2147483647 rfl (rg_k (by decide) : rg 0 0 0) (by decide)
  have hF8 := Fr_puti hF7 ei8 (by decide)
  exact hret _ _ _ _ _ _ dX6_clear_40 hT hS ⟨hR8, hF8⟩
set_option maxRecDepth 100000 in
set_option maxHeartbeats 4000000 in
theorem m_X7_at_1 {l : Launch} {D : va_G} {h : Nat → Nat} {cz : Nat → ClassId} {z : EZ} {i : Nat → Nat → Int32} {g : Nat → Nat → Int64} (hR : Rg rA i) (a_a : Int32) : DtI l yX7_at cX7_at 2 (some .int) ({ frames := 0, cells := 0, slots := 0, locals := 0 } : Room) D h cz z i g [.ref (h 1), .int a_a] (fun r u => u = (i, g) ∧ rg (-1) 255 r) := by
  refine e_I pn_X7_at (Nat.le_of_ble_eq_true rfl) ?_
  intro p e s m args below meth c ls Q X Y hret hT hl hS
  have hx := X.1
  have hb := X.2.1
  have hl : lv_has ls 2 [(0, .ref (h 1)), (1, .int a_a)] := hl
  refine lv_iload_n hx hb dX7_at_0 rfl (lv_at hl 1 rfl) ?_
  refine lv_if_lt (tgt := 25) hx hb dX7_at_1 (by decide) (fun c1 => ?_) (fun c1 => ?_)
  ·
    have q1 : a_a.toInt < 0 := i_lt c1
    have h2 : rg (-2147483648) (-1) a_a := t_ltx (-2147483648) (-1) (rg_top a_a) (rg_k (by decide) : rg 0 0 0) (i_lt c1) (by decide)
    refine lv_iconst (v := (-1)) hx hb dX7_at_25 (by decide) ?_
    exact hret (-1) _ _ _ _ _ _ dX7_at_26 hT hS ⟨rfl, (rg_w (rg_k (by decide) : rg (-1) (-1) (-1)) (by decide) : rg (-1) 255 (-1))⟩
  ·
    have q1 : 0 ≤ a_a.toInt := i_nlt c1
    have h3 : rg 0 2147483647 a_a := t_ley 0 2147483647 (rg_k (by decide) : rg 0 0 0) (rg_top a_a) (i_nlt c1) (by decide)
    refine lv_iload_n hx hb dX7_at_4 rfl (lv_at hl 1 rfl) ?_
    refine lv_aload_n hx hb dX7_at_5 rfl (lv_at hl 0 rfl) ?_
    refine r_geti X hT 1 1 fk_7_15 rfl rfl (by decide) dX7_at_6 ?_
    refine lv_icmp_ge (tgt := 25) hx hb dX7_at_9 (by decide) (fun c4 => ?_) (fun c4 => ?_)
    ·
      have q4 : (i 1 1).toInt ≤ a_a.toInt := i_le c4
      refine lv_iconst (v := (-1)) hx hb dX7_at_25 (by decide) ?_
      exact hret (-1) _ _ _ _ _ _ dX7_at_26 hT hS ⟨rfl, (rg_w (rg_k (by decide) : rg (-1) (-1) (-1)) (by decide) : rg (-1) 255 (-1))⟩
    ·
      have q4 : a_a.toInt < (i 1 1).toInt := i_nle c4
      have h5 : rg 0 699 a_a := t_ltx 0 699 h3 (Rg_at hR 1 1 0 700 (by decide) rfl) (i_nle c4) (by decide)
      have h6 : rg 1 700 (i 1 1) := t_lty 1 700 h3 (Rg_at hR 1 1 0 700 (by decide) rfl) (i_nle c4) (by decide)
      refine lv_aload_n hx hb dX7_at_12 rfl (lv_at hl 0 rfl) ?_
      refine r_getr X hT 1 0 2 fk_7_9 rfl rfl (by decide) dX7_at_13 ?_
      refine lv_iload_n hx hb dX7_at_16 rfl (lv_at hl 1 rfl) ?_
      refine r_bald X hT 2 rfl (by decide) (v_in h5 (by decide)) dX7_at_17 ?_
      refine lv_sipush (v := 255) hx hb dX7_at_18 (by decide) ?_
      refine q_iand hx hb dX7_at_21 (fun x7 ex7 => ?_)
      have h8 : rg 0 255 x7 := rg_andr ex7 (rg_k (by decide) : rg 255 255 255) (by decide)
      refine lv_goto (tgt := 26) hx hb dX7_at_22 (by decide) ?_
      exact hret x7 _ _ _ _ _ _ dX7_at_26 hT hS ⟨rfl, (rg_w h8 (by decide) : rg (-1) 255 x7)⟩
set_option maxRecDepth 100000 in
set_option maxHeartbeats 4000000 in
theorem m_X3_kindOf {l : Launch} {D : va_G} {h : Nat → Nat} {cz : Nat → ClassId} {z : EZ} {i : Nat → Nat → Int32} {g : Nat → Nat → Int64} (a_a : Int32) : DtI l yX3_kindOf cX3_kindOf 1 (some .int) ({ frames := 0, cells := 0, slots := 0, locals := 0 } : Room) D h cz z i g [.int a_a] (fun r u => u = (i, g) ∧ rg 0 4 r) := by
  refine e_I pn_X3_kindOf (Nat.le_of_ble_eq_true rfl) ?_
  intro p e s m args below meth c ls Q X Y hret hT hl hS
  have hx := X.1
  have hb := X.2.1
  have hl : lv_has ls 1 [(0, .int a_a)] := hl
  refine lv_iload_n hx hb dX3_kindOf_0 rfl (lv_at hl 0 rfl) ?_
  refine lv_bipush (v := 97) hx hb dX3_kindOf_1 (by decide) ?_
  refine lv_icmp_lt (tgt := 14) hx hb dX3_kindOf_3 (by decide) (fun c1 => ?_) (fun c1 => ?_)
  ·
    have q1 : a_a.toInt < 97 := i_lt c1
    have h2 : rg (-2147483648) 96 a_a := t_ltx (-2147483648) 96 (rg_top a_a) (rg_k (by decide) : rg 97 97 97) (i_lt c1) (by decide)
    refine lv_iload_n hx hb dX3_kindOf_14 rfl (lv_at hl 0 rfl) ?_
    refine lv_bipush (v := 48) hx hb dX3_kindOf_15 (by decide) ?_
    refine lv_icmp_lt (tgt := 28) hx hb dX3_kindOf_17 (by decide) (fun c3 => ?_) (fun c3 => ?_)
    ·
      have q3 : a_a.toInt < 48 := i_lt c3
      have h4 : rg (-2147483648) 47 a_a := t_ltx (-2147483648) 47 h2 (rg_k (by decide) : rg 48 48 48) (i_lt c3) (by decide)
      refine lv_iload_n hx hb dX3_kindOf_28 rfl (lv_at hl 0 rfl) ?_
      refine lv_bipush (v := 59) hx hb dX3_kindOf_29 (by decide) ?_
      refine lv_icmp_ne (tgt := 36) hx hb dX3_kindOf_31 (by decide) (fun c5 => ?_) (fun c5 => (x_eq h4 (rg_k (by decide) : rg 59 59 59) (i_eq c5) (by decide)).elim)
      have q5 : ¬ a_a.toInt = 59 := i_ne c5
      refine lv_iload_n hx hb dX3_kindOf_36 rfl (lv_at hl 0 rfl) ?_
      refine lv_iconst (v := (-1)) hx hb dX3_kindOf_37 (by decide) ?_
      refine lv_icmp_ne (tgt := 45) hx hb dX3_kindOf_38 (by decide) (fun c6 => ?_) (fun c6 => ?_)
      ·
        have q6 : ¬ a_a.toInt = (-1) := i_ne c6
        refine lv_iconst (v := 4) hx hb dX3_kindOf_45 (by decide) ?_
        exact hret 4 _ _ _ _ _ _ dX3_kindOf_46 hT hS ⟨rfl, (rg_w (rg_k (by decide) : rg 4 4 4) (by decide) : rg 0 4 4)⟩
      ·
        have q6 : a_a.toInt = (-1) := i_eq c6
        have h7 : rg (-1) (-1) a_a := t_eqx (-1) (-1) h4 (rg_k (by decide) : rg (-1) (-1) (-1)) (i_eq c6) (by decide)
        refine lv_iconst (v := 0) hx hb dX3_kindOf_41 (by decide) ?_
        refine lv_goto (tgt := 46) hx hb dX3_kindOf_42 (by decide) ?_
        exact hret 0 _ _ _ _ _ _ dX3_kindOf_46 hT hS ⟨rfl, (rg_w (rg_k (by decide) : rg 0 0 0) (by decide) : rg 0 4 0)⟩
    ·
      have q3 : 48 ≤ a_a.toInt := i_nlt c3
      have h8 : rg 48 96 a_a := t_ley 48 96 (rg_k (by decide) : rg 48 48 48) h2 (i_nlt c3) (by decide)
      refine lv_iload_n hx hb dX3_kindOf_20 rfl (lv_at hl 0 rfl) ?_
      refine lv_bipush (v := 57) hx hb dX3_kindOf_21 (by decide) ?_
      refine lv_icmp_gt (tgt := 28) hx hb dX3_kindOf_23 (by decide) (fun c9 => ?_) (fun c9 => ?_)
      ·
        have q9 : 57 < a_a.toInt := i_lt c9
        have h10 : rg 58 96 a_a := t_lty 58 96 (rg_k (by decide) : rg 57 57 57) h8 (i_lt c9) (by decide)
        refine lv_iload_n hx hb dX3_kindOf_28 rfl (lv_at hl 0 rfl) ?_
        refine lv_bipush (v := 59) hx hb dX3_kindOf_29 (by decide) ?_
        refine lv_icmp_ne (tgt := 36) hx hb dX3_kindOf_31 (by decide) (fun c11 => ?_) (fun c11 => ?_)
        ·
          have q11 : ¬ a_a.toInt = 59 := i_ne c11
          refine lv_iload_n hx hb dX3_kindOf_36 rfl (lv_at hl 0 rfl) ?_
          refine lv_iconst (v := (-1)) hx hb dX3_kindOf_37 (by decide) ?_
          refine lv_icmp_ne (tgt := 45) hx hb dX3_kindOf_38 (by decide) (fun c12 => ?_) (fun c12 => (x_eq h10 (rg_k (by decide) : rg (-1) (-1) (-1)) (i_eq c12) (by decide)).elim)
          have q12 : ¬ a_a.toInt = (-1) := i_ne c12
          refine lv_iconst (v := 4) hx hb dX3_kindOf_45 (by decide) ?_
          exact hret 4 _ _ _ _ _ _ dX3_kindOf_46 hT hS ⟨rfl, (rg_w (rg_k (by decide) : rg 4 4 4) (by decide) : rg 0 4 4)⟩
        ·
          have q11 : a_a.toInt = 59 := i_eq c11
          have h13 : rg 59 59 a_a := t_eqx 59 59 h10 (rg_k (by decide) : rg 59 59 59) (i_eq c11) (by decide)
          refine lv_iconst (v := 3) hx hb dX3_kindOf_34 (by decide) ?_
          exact hret 3 _ _ _ _ _ _ dX3_kindOf_35 hT hS ⟨rfl, (rg_w (rg_k (by decide) : rg 3 3 3) (by decide) : rg 0 4 3)⟩
      ·
        have q9 : a_a.toInt ≤ 57 := i_nlt c9
        have h14 : rg 48 57 a_a := t_lex 48 57 h8 (rg_k (by decide) : rg 57 57 57) (i_nlt c9) (by decide)
        refine lv_iconst (v := 2) hx hb dX3_kindOf_26 (by decide) ?_
        exact hret 2 _ _ _ _ _ _ dX3_kindOf_27 hT hS ⟨rfl, (rg_w (rg_k (by decide) : rg 2 2 2) (by decide) : rg 0 4 2)⟩
  ·
    have q1 : 97 ≤ a_a.toInt := i_nlt c1
    have h15 : rg 97 2147483647 a_a := t_ley 97 2147483647 (rg_k (by decide) : rg 97 97 97) (rg_top a_a) (i_nlt c1) (by decide)
    refine lv_iload_n hx hb dX3_kindOf_6 rfl (lv_at hl 0 rfl) ?_
    refine lv_bipush (v := 122) hx hb dX3_kindOf_7 (by decide) ?_
    refine lv_icmp_gt (tgt := 14) hx hb dX3_kindOf_9 (by decide) (fun c16 => ?_) (fun c16 => ?_)
    ·
      have q16 : 122 < a_a.toInt := i_lt c16
      have h17 : rg 123 2147483647 a_a := t_lty 123 2147483647 (rg_k (by decide) : rg 122 122 122) h15 (i_lt c16) (by decide)
      refine lv_iload_n hx hb dX3_kindOf_14 rfl (lv_at hl 0 rfl) ?_
      refine lv_bipush (v := 48) hx hb dX3_kindOf_15 (by decide) ?_
      refine lv_icmp_lt (tgt := 28) hx hb dX3_kindOf_17 (by decide) (fun c18 => (x_lt h17 (rg_k (by decide) : rg 48 48 48) (i_lt c18) (by decide)).elim) (fun c18 => ?_)
      have q18 : 48 ≤ a_a.toInt := i_nlt c18
      refine lv_iload_n hx hb dX3_kindOf_20 rfl (lv_at hl 0 rfl) ?_
      refine lv_bipush (v := 57) hx hb dX3_kindOf_21 (by decide) ?_
      refine lv_icmp_gt (tgt := 28) hx hb dX3_kindOf_23 (by decide) (fun c19 => ?_) (fun c19 => (x_le h17 (rg_k (by decide) : rg 57 57 57) (i_nlt c19) (by decide)).elim)
      have q19 : 57 < a_a.toInt := i_lt c19
      refine lv_iload_n hx hb dX3_kindOf_28 rfl (lv_at hl 0 rfl) ?_
      refine lv_bipush (v := 59) hx hb dX3_kindOf_29 (by decide) ?_
      refine lv_icmp_ne (tgt := 36) hx hb dX3_kindOf_31 (by decide) (fun c20 => ?_) (fun c20 => (x_eq h17 (rg_k (by decide) : rg 59 59 59) (i_eq c20) (by decide)).elim)
      have q20 : ¬ a_a.toInt = 59 := i_ne c20
      refine lv_iload_n hx hb dX3_kindOf_36 rfl (lv_at hl 0 rfl) ?_
      refine lv_iconst (v := (-1)) hx hb dX3_kindOf_37 (by decide) ?_
      refine lv_icmp_ne (tgt := 45) hx hb dX3_kindOf_38 (by decide) (fun c21 => ?_) (fun c21 => (x_eq h17 (rg_k (by decide) : rg (-1) (-1) (-1)) (i_eq c21) (by decide)).elim)
      have q21 : ¬ a_a.toInt = (-1) := i_ne c21
      refine lv_iconst (v := 4) hx hb dX3_kindOf_45 (by decide) ?_
      exact hret 4 _ _ _ _ _ _ dX3_kindOf_46 hT hS ⟨rfl, (rg_w (rg_k (by decide) : rg 4 4 4) (by decide) : rg 0 4 4)⟩
    ·
      have q16 : a_a.toInt ≤ 122 := i_nlt c16
      have h22 : rg 97 122 a_a := t_lex 97 122 h15 (rg_k (by decide) : rg 122 122 122) (i_nlt c16) (by decide)
      refine lv_iconst (v := 1) hx hb dX3_kindOf_12 (by decide) ?_
      exact hret 1 _ _ _ _ _ _ dX3_kindOf_13 hT hS ⟨rfl, (rg_w (rg_k (by decide) : rg 1 1 1) (by decide) : rg 0 4 1)⟩
set_option maxRecDepth 100000 in
set_option maxHeartbeats 4000000 in
theorem m_X3_advance {l : Launch} {D : va_G} {h : Nat → Nat} {cz : Nat → ClassId} {z : EZ} {i : Nat → Nat → Int32} {g : Nat → Nat → Int64} (hR : Rg rA i) : DtV l yX3_advance cX3_advance 3 none ({ frames := 1, cells := 0, slots := 0, locals := 40 } : Room) D h cz z i g [.ref (h 14)] (fun u => Rg rA u.1 ∧ Fr [14] [] i g u ∧ u.1 14 6 = i 14 6) := by
  refine e_V pn_X3_advance (Nat.le_of_ble_eq_true rfl) ?_
  intro p e s m args below meth c ls Q X Y hret hT hl hS
  have hx := X.1
  have hb := X.2.1
  have hl : lv_has ls 3 [(0, .ref (h 14))] := hl
  have hF : Fr [14] [] i g (i, g) := Fr_rf _ _ _ _
  refine lv_aload_n hx hb dX3_advance_0 rfl (lv_at hl 0 rfl) ?_
  refine lv_aload_n hx hb dX3_advance_1 rfl (lv_at hl 0 rfl) ?_
  refine r_geti X hT 14 4 fk_3_31 rfl rfl (by decide) dX3_advance_2 ?_
  refine r_puti X hT hS 14 3 pk_3_137 rfl rfl rfl rfl (by decide) dX3_advance_5 (fun H locs i1 ei1 hT hS => ?_)
  have hR1 := Rg_put hR ei1 (-2147483648) 2147483647 rfl (rg_top (i 14 4)) (by decide)
  have hF1 := Fr_puti hF ei1 (by decide)
  have hE1_6 : i1 14 6 = i 14 6 := z_k ei1 (rfl : i 14 6 = i 14 6) (by decide)
  have L8_2 : ∀ (n4_ : Nat)  (i3 : Nat → Nat → Int32) (g3 : Nat → Nat → Int64) (H : Heap) (locs : List Loc) (ls : Array Slot), Rg rA i3 → Fr [14] [] i g (i3, g3) → (i3 14 6 = i 14 6) → TH D h cz i3 g3 H → va_S (hA h) s.heap H locs → lv_has ls 3 [(0, .ref (h 14))] → (700 - (i3 14 3).toInt).toNat < n4_ → W p l e ({ frames := 1, cells := 0, slots := 0, locals := 40 } : Room) s m args below meth c H locs 0 0 Q (F0 m 8 ls []) := by
    intro n4_
    induction n4_ with
    | zero => intro  i3 g3 H locs ls hR3 hF3 hP3_0 hT hS hl hm4_; exact absurd hm4_ (Nat.not_lt_zero _)
    | succ n4_ ih4_ =>
      intro  i3 g3 H locs ls hR3 hF3 hP3_0 hT hS hl hm4_
      refine lv_aload_n hx hb dX3_advance_8 rfl (lv_at hl 0 rfl) ?_
      refine r_geti X hT 14 3 fk_3_137 rfl rfl (by decide) dX3_advance_9 ?_
      refine lv_aload_n hx hb dX3_advance_12 rfl (lv_at hl 0 rfl) ?_
      refine r_getr X hT 14 0 1 fk_3_15 rfl rfl (by decide) dX3_advance_13 ?_
      refine r_geti X hT 1 1 fk_3_140 rfl rfl (by decide) dX3_advance_16 ?_
      have J67_6 : ∀  (H : Heap) (locs : List Loc) (ls : Array Slot), TH D h cz i3 g3 H → va_S (hA h) s.heap H locs → lv_has ls 3 [(0, .ref (h 14))] → W p l e ({ frames := 1, cells := 0, slots := 0, locals := 40 } : Room) s m args below meth c H locs 0 0 Q (F0 m 67 ls []) := by
        intro  H locs ls hT hS hl
        refine lv_aload_n hx hb dX3_advance_67 rfl (lv_at hl 0 rfl) ?_
        refine lv_aload_n hx hb dX3_advance_68 rfl (lv_at hl 0 rfl) ?_
        refine r_getr X hT 14 0 1 fk_3_15 rfl rfl (by decide) dX3_advance_69 ?_
        refine lv_aload_n hx hb dX3_advance_72 rfl (lv_at hl 0 rfl) ?_
        refine r_geti X hT 14 3 fk_3_137 rfl rfl (by decide) dX3_advance_73 ?_
        refine e_Vi (As := [.int (i3 14 3)]) (rest := [.ref (h 14)]) X Y hT hS (m_X7_at_1 hR3 (i3 14 3)) mk_X7_at gm_521 rfl rfl (by decide) hd_X7_at ⟨rfl, rfl⟩ ⟨Nat.le_of_ble_eq_true rfl, Nat.le_of_ble_eq_true rfl⟩ hl.1 rfl (Nat.le_of_ble_eq_true rfl) dX3_advance_76 ⟨Nat.zero_le _, Nat.zero_le _⟩ (fun r7 i7 g7 H locs hq hT hS => ?_)
        obtain ⟨eh7, hr7⟩ := hq
        rw [(Prod.mk.inj eh7).1, (Prod.mk.inj eh7).2] at hT
        refine e_Si (As := [.int r7]) (rest := [.ref (h 14)]) X Y hT hS (m_X3_kindOf r7) sk_X3_kindOf gm_525 hd_X3_kindOf ⟨rfl, rfl⟩ ⟨Nat.le_of_ble_eq_true rfl, Nat.le_of_ble_eq_true rfl⟩ hl.1 rfl (Nat.le_of_ble_eq_true rfl) dX3_advance_79 ⟨Nat.zero_le _, Nat.zero_le _⟩ (fun r8 i8 g8 H locs hq hT hS => ?_)
        obtain ⟨eh8, hr8⟩ := hq
        rw [(Prod.mk.inj eh8).1, (Prod.mk.inj eh8).2] at hT
        refine r_puti X hT hS 14 2 pk_3_37 rfl rfl rfl rfl (by decide) dX3_advance_82 (fun H locs i9 ei9 hT hS => ?_)
        have hR9 := Rg_put hR3 ei9 (-2147483648) 2147483647 rfl hr8 (by decide)
        have hF9 := Fr_puti hF3 ei9 (by decide)
        have hE9_6 : i9 14 6 = i 14 6 := z_k ei9 hP3_0 (by decide)
        refine lv_aload_n hx hb dX3_advance_85 rfl (lv_at hl 0 rfl) ?_
        refine lv_aload_n hx hb dX3_advance_86 rfl (lv_at hl 0 rfl) ?_
        refine r_geti X hT 14 2 fk_3_37 rfl rfl (by decide) dX3_advance_87 ?_
        have e10 : (i9 14 2) = r8 := (z_s ei9)
        have h11 : rg 0 4 (i9 14 2) := rg_of e10 hr8
        have J106_13 : ∀ (x106_13_s0 : Int32) (H : Heap) (locs : List Loc) (ls : Array Slot), TH D h cz i9 g3 H → va_S (hA h) s.heap H locs → lv_has ls 3 [(0, .ref (h 14))] → W p l e ({ frames := 1, cells := 0, slots := 0, locals := 40 } : Room) s m args below meth c H locs 0 0 Q (F0 m 106 ls [.int x106_13_s0, .ref (h 14)]) := by
          intro x106_13_s0 H locs ls hT hS hl
          refine r_puti X hT hS 14 4 pk_3_31 rfl rfl rfl rfl (by decide) dX3_advance_106 (fun H locs i14 ei14 hT hS => ?_)
          have hR14 := Rg_put hR9 ei14 (-2147483648) 2147483647 rfl (rg_top x106_13_s0) (by decide)
          have hF14 := Fr_puti hF9 ei14 (by decide)
          have hE14_6 : i14 14 6 = i 14 6 := z_k ei14 hE9_6 (by decide)
          refine lv_aload_n hx hb dX3_advance_109 rfl (lv_at hl 0 rfl) ?_
          refine r_geti X hT 14 2 fk_3_37 rfl rfl (by decide) dX3_advance_110 ?_
          have e15 : (i14 14 2) = r8 := (z_k ei14 (z_s ei9) (by decide))
          have h16 : rg 0 4 (i14 14 2) := rg_of e15 hr8
          refine lv_iconst (v := 1) hx hb dX3_advance_113 (by decide) ?_
          have J130_18 : ∀ (x130_18_s0 : Int32) (H : Heap) (locs : List Loc) (ls : Array Slot), rg 0 1 x130_18_s0 → TH D h cz i14 g3 H → va_S (hA h) s.heap H locs → lv_has ls 3 [(0, .ref (h 14))] → W p l e ({ frames := 1, cells := 0, slots := 0, locals := 40 } : Room) s m args below meth c H locs 0 0 Q (F0 m 130 ls [.int x130_18_s0]) := by
            intro x130_18_s0 H locs ls hhx130_18_s0 hT hS hl
            refine lv_istore_n (lv' := [(1, .int x130_18_s0), (0, .ref (h 14))]) hx hb dX3_advance_130 rfl hl (by decide) rfl (fun ls hl => ?_)
            have L131_19 : ∀ (n21_ : Nat)  (i20 : Nat → Nat → Int32) (g20 : Nat → Nat → Int64) (H : Heap) (locs : List Loc) (ls : Array Slot), Rg rA i20 → Fr [14] [] i g (i20, g20) → (i20 14 6 = i 14 6) → TH D h cz i20 g20 H → va_S (hA h) s.heap H locs → lv_has ls 3 [(0, .ref (h 14)), (1, .int x130_18_s0)] → (700 - (i20 14 4).toInt).toNat < n21_ → W p l e ({ frames := 1, cells := 0, slots := 0, locals := 40 } : Room) s m args below meth c H locs 0 0 Q (F0 m 131 ls []) := by
              intro n21_
              induction n21_ with
              | zero => intro  i20 g20 H locs ls hR20 hF20 hP20_0 hT hS hl hm21_; exact absurd hm21_ (Nat.not_lt_zero _)
              | succ n21_ ih21_ =>
                intro  i20 g20 H locs ls hR20 hF20 hP20_0 hT hS hl hm21_
                refine lv_iload_n hx hb dX3_advance_131 rfl (lv_at hl 1 rfl) ?_
                have J183_23 : ∀  (H : Heap) (locs : List Loc) (ls : Array Slot), TH D h cz i20 g20 H → va_S (hA h) s.heap H locs → lv_has ls 3 [(0, .ref (h 14))] → W p l e ({ frames := 1, cells := 0, slots := 0, locals := 40 } : Room) s m args below meth c H locs 0 0 Q (F0 m 183 ls []) := by
                  intro  H locs ls hT hS hl
                  refine lv_aload_n hx hb dX3_advance_183 rfl (lv_at hl 0 rfl) ?_
                  refine lv_iconst (v := 0) hx hb dX3_advance_184 (by decide) ?_
                  refine r_puti X hT hS 14 5 pk_3_118 rfl rfl rfl rfl (by decide) dX3_advance_185 (fun H locs i24 ei24 hT hS => ?_)
                  have hR24 := Rg_put hR20 ei24 (-2147483648) 2147483647 rfl (rg_k (by decide) : rg 0 0 0) (by decide)
                  have hF24 := Fr_puti hF20 ei24 (by decide)
                  have hE24_6 : i24 14 6 = i 14 6 := z_k ei24 hP20_0 (by decide)
                  refine lv_aload_n hx hb dX3_advance_188 rfl (lv_at hl 0 rfl) ?_
                  refine r_geti X hT 14 3 fk_3_137 rfl rfl (by decide) dX3_advance_189 ?_
                  refine lv_istore_n (lv' := [(2, .int (i24 14 3)), (0, .ref (h 14))]) hx hb dX3_advance_192 rfl hl (by decide) rfl (fun ls hl => ?_)
                  have L193_25 : ∀ (n27_ : Nat) (x193_2_2 : Int32) (i26 : Nat → Nat → Int32) (g26 : Nat → Nat → Int64) (H : Heap) (locs : List Loc) (ls : Array Slot), Rg rA i26 → Fr [14] [] i g (i26, g26) → (i26 14 6 = i 14 6) → TH D h cz i26 g26 H → va_S (hA h) s.heap H locs → lv_has ls 3 [(0, .ref (h 14)), (2, .int x193_2_2)] → (2147483647 - x193_2_2.toInt).toNat < n27_ → W p l e ({ frames := 1, cells := 0, slots := 0, locals := 40 } : Room) s m args below meth c H locs 0 0 Q (F0 m 193 ls []) := by
                    intro n27_
                    induction n27_ with
                    | zero => intro x193_2_2 i26 g26 H locs ls hR26 hF26 hP26_0 hT hS hl hm27_; exact absurd hm27_ (Nat.not_lt_zero _)
                    | succ n27_ ih27_ =>
                      intro x193_2_2 i26 g26 H locs ls hR26 hF26 hP26_0 hT hS hl hm27_
                      refine lv_aload_n hx hb dX3_advance_193 rfl (lv_at hl 0 rfl) ?_
                      refine r_geti X hT 14 2 fk_3_37 rfl rfl (by decide) dX3_advance_194 ?_
                      refine lv_iconst (v := 2) hx hb dX3_advance_197 (by decide) ?_
                      refine lv_icmp_ne (tgt := 244) hx hb dX3_advance_198 (by decide) (fun c28 => ?_) (fun c28 => ?_)
                      ·
                        have q28 : ¬ (i26 14 2).toInt = 2 := i_ne c28
                        exact hret _ _ _ _ _ _ dX3_advance_244 hT hS ⟨hR26, hF26, hP26_0⟩
                      ·
                        have q28 : (i26 14 2).toInt = 2 := i_eq c28
                        have h29 : rg 2 2 (i26 14 2) := t_eqx 2 2 (rg_top (i26 14 2)) (rg_k (by decide) : rg 2 2 2) (i_eq c28) (by decide)
                        refine lv_iload_n hx hb dX3_advance_201 rfl (lv_at hl 1 rfl) ?_
                        refine lv_aload_n hx hb dX3_advance_202 rfl (lv_at hl 0 rfl) ?_
                        refine r_geti X hT 14 4 fk_3_31 rfl rfl (by decide) dX3_advance_203 ?_
                        refine lv_icmp_ge (tgt := 244) hx hb dX3_advance_206 (by decide) (fun c30 => ?_) (fun c30 => ?_)
                        ·
                          have q30 : (i26 14 4).toInt ≤ x193_2_2.toInt := i_le c30
                          exact hret _ _ _ _ _ _ dX3_advance_244 hT hS ⟨hR26, hF26, hP26_0⟩
                        ·
                          have q30 : x193_2_2.toInt < (i26 14 4).toInt := i_nle c30
                          have h31 : rg (-2147483648) 2147483646 x193_2_2 := t_ltx (-2147483648) 2147483646 (rg_top x193_2_2) (rg_top (i26 14 4)) (i_nle c30) (by decide)
                          have h32 : rg (-2147483647) 2147483647 (i26 14 4) := t_lty (-2147483647) 2147483647 (rg_top x193_2_2) (rg_top (i26 14 4)) (i_nle c30) (by decide)
                          refine lv_aload_n hx hb dX3_advance_209 rfl (lv_at hl 0 rfl) ?_
                          refine lv_sipush (v := 1000) hx hb dX3_advance_210 (by decide) ?_
                          refine lv_aload_n hx hb dX3_advance_213 rfl (lv_at hl 0 rfl) ?_
                          refine r_geti X hT 14 5 fk_3_118 rfl rfl (by decide) dX3_advance_214 ?_
                          refine lv_bipush (v := 10) hx hb dX3_advance_217 (by decide) ?_
                          refine q_imul hx hb dX3_advance_219 (fun x33 ex33 => ?_)
                          refine lv_aload_n hx hb dX3_advance_220 rfl (lv_at hl 0 rfl) ?_
                          refine r_getr X hT 14 0 1 fk_3_15 rfl rfl (by decide) dX3_advance_221 ?_
                          refine lv_iload_n hx hb dX3_advance_224 rfl (lv_at hl 1 rfl) ?_
                          refine e_Vi (As := [.int x193_2_2]) (rest := [.int x33, .int 1000, .ref (h 14)]) X Y hT hS (m_X7_at_1 hR26 x193_2_2) mk_X7_at gm_521 rfl rfl (by decide) hd_X7_at ⟨rfl, rfl⟩ ⟨Nat.le_of_ble_eq_true rfl, Nat.le_of_ble_eq_true rfl⟩ hl.1 rfl (Nat.le_of_ble_eq_true rfl) dX3_advance_225 ⟨Nat.zero_le _, Nat.zero_le _⟩ (fun r34 i34 g34 H locs hq hT hS => ?_)
                          obtain ⟨eh34, hr34⟩ := hq
                          rw [(Prod.mk.inj eh34).1, (Prod.mk.inj eh34).2] at hT
                          refine q_iadd hx hb dX3_advance_228 (fun x35 ex35 => ?_)
                          refine lv_bipush (v := 48) hx hb dX3_advance_229 (by decide) ?_
                          refine q_isub hx hb dX3_advance_231 (fun x36 ex36 => ?_)
                          refine e_mmin X hl.1 gm_528 gm_529 gm_118 mw_e_mmin (Nat.le_of_ble_eq_true rfl) (Nat.le_of_ble_eq_true rfl) ⟨Nat.zero_le _, Nat.zero_le _⟩ dX3_advance_232 (fun x37 ex37 => ?_)
                          have h38 : rg (-2147483648) 1000 x37 := rg_mn ex37 (rg_k (by decide) : rg 1000 1000 1000) (rg_top x36) (by decide)
                          refine r_puti X hT hS 14 5 pk_3_118 rfl rfl rfl rfl (by decide) dX3_advance_235 (fun H locs i39 ei39 hT hS => ?_)
                          have hR39 := Rg_put hR26 ei39 (-2147483648) 2147483647 rfl h38 (by decide)
                          have hF39 := Fr_puti hF26 ei39 (by decide)
                          have hE39_6 : i39 14 6 = i 14 6 := z_k ei39 hP26_0 (by decide)
                          obtain ⟨x40, ex40⟩ : ∃ y : Int32, y = x193_2_2 + 1 := ⟨_, rfl⟩
                          refine lv_iinc (v := x40) (lv' := [(2, .int x40), (0, .ref (h 14))]) hx hb dX3_advance_238 hl (k := 1) rfl (by rw [ex40]; rfl) (by decide) rfl (fun ls hl => ?_)
                          obtain ⟨hx40, ax40⟩ := rg_add (-2147483647) 2147483647 ex40 h31 (rg_k (by decide) : rg 1 1 1) (by decide)
                          replace ax40 : x40.toInt = x193_2_2.toInt + 1 := ax40
                          refine lv_goto (tgt := 193) hx hb dX3_advance_241 (by decide) ?_
                          exact ih27_ x40 i39 g26 _ _ _ hR39 hF39 hE39_6 hT hS (lv_sub hl [1, 0] rfl) (m_up ax40 hx40 (by decide) hm27_)
                  exact L193_25 _ (i24 14 3) i24 g20 _ _ _ hR24 hF24 hE24_6 hT hS (lv_sub hl [1, 0] rfl) (Nat.lt_succ_self _)
                refine lv_if_eq (tgt := 183) hx hb dX3_advance_132 (by decide) (fun c22 => ?_) (fun c22 => ?_)
                ·
                  have q22 : x130_18_s0.toInt = 0 := i_eq c22
                  have h41 : rg 0 0 x130_18_s0 := t_eqx 0 0 hhx130_18_s0 (rg_k (by decide) : rg 0 0 0) (i_eq c22) (by decide)
                  exact J183_23 _ _ _ hT hS (lv_sub hl [0] rfl)
                ·
                  have q22 : ¬ x130_18_s0.toInt = 0 := i_ne c22
                  have h42 : rg 1 1 x130_18_s0 := t_nelo 1 hhx130_18_s0 (rg_k (by decide) : rg 0 0 0) (i_ne c22) (by decide)
                  refine lv_aload_n hx hb dX3_advance_135 rfl (lv_at hl 0 rfl) ?_
                  refine r_geti X hT 14 4 fk_3_31 rfl rfl (by decide) dX3_advance_136 ?_
                  refine lv_aload_n hx hb dX3_advance_139 rfl (lv_at hl 0 rfl) ?_
                  refine r_getr X hT 14 0 1 fk_3_15 rfl rfl (by decide) dX3_advance_140 ?_
                  refine r_geti X hT 1 1 fk_3_140 rfl rfl (by decide) dX3_advance_143 ?_
                  refine lv_icmp_ge (tgt := 183) hx hb dX3_advance_146 (by decide) (fun c43 => ?_) (fun c43 => ?_)
                  ·
                    have q43 : (i20 1 1).toInt ≤ (i20 14 4).toInt := i_le c43
                    have h44 : rg 0 2147483647 (i20 14 4) := t_ley 0 2147483647 (Rg_at hR20 1 1 0 700 (by decide) rfl) (rg_top (i20 14 4)) (i_le c43) (by decide)
                    exact J183_23 _ _ _ hT hS (lv_sub hl [0] rfl)
                  ·
                    have q43 : (i20 14 4).toInt < (i20 1 1).toInt := i_nle c43
                    have h45 : rg (-2147483648) 699 (i20 14 4) := t_ltx (-2147483648) 699 (rg_top (i20 14 4)) (Rg_at hR20 1 1 0 700 (by decide) rfl) (i_nle c43) (by decide)
                    refine lv_aload_n hx hb dX3_advance_149 rfl (lv_at hl 0 rfl) ?_
                    refine r_getr X hT 14 0 1 fk_3_15 rfl rfl (by decide) dX3_advance_150 ?_
                    refine lv_aload_n hx hb dX3_advance_153 rfl (lv_at hl 0 rfl) ?_
                    refine r_geti X hT 14 4 fk_3_31 rfl rfl (by decide) dX3_advance_154 ?_
                    refine e_Vi (As := [.int (i20 14 4)]) (rest := []) X Y hT hS (m_X7_at_1 hR20 (i20 14 4)) mk_X7_at gm_521 rfl rfl (by decide) hd_X7_at ⟨rfl, rfl⟩ ⟨Nat.le_of_ble_eq_true rfl, Nat.le_of_ble_eq_true rfl⟩ hl.1 rfl (Nat.le_of_ble_eq_true rfl) dX3_advance_157 ⟨Nat.zero_le _, Nat.zero_le _⟩ (fun r46 i46 g46 H locs hq hT hS => ?_)
                    obtain ⟨eh46, hr46⟩ := hq
                    rw [(Prod.mk.inj eh46).1, (Prod.mk.inj eh46).2] at hT
                    refine e_Si (As := [.int r46]) (rest := []) X Y hT hS (m_X3_kindOf r46) sk_X3_kindOf gm_525 hd_X3_kindOf ⟨rfl, rfl⟩ ⟨Nat.le_of_ble_eq_true rfl, Nat.le_of_ble_eq_true rfl⟩ hl.1 rfl (Nat.le_of_ble_eq_true rfl) dX3_advance_160 ⟨Nat.zero_le _, Nat.zero_le _⟩ (fun r47 i47 g47 H locs hq hT hS => ?_)
                    obtain ⟨eh47, hr47⟩ := hq
                    rw [(Prod.mk.inj eh47).1, (Prod.mk.inj eh47).2] at hT
                    refine lv_aload_n hx hb dX3_advance_163 rfl (lv_at hl 0 rfl) ?_
                    refine r_geti X hT 14 2 fk_3_37 rfl rfl (by decide) dX3_advance_164 ?_
                    refine lv_icmp_ne (tgt := 183) hx hb dX3_advance_167 (by decide) (fun c48 => ?_) (fun c48 => ?_)
                    ·
                      have q48 : ¬ r47.toInt = (i20 14 2).toInt := i_ne c48
                      exact J183_23 _ _ _ hT hS (lv_sub hl [0] rfl)
                    ·
                      have q48 : r47.toInt = (i20 14 2).toInt := i_eq c48
                      have h49 : rg 0 4 (i20 14 2) := t_eqy 0 4 hr47 (rg_top (i20 14 2)) (i_eq c48) (by decide)
                      refine lv_aload_n hx hb dX3_advance_170 rfl (lv_at hl 0 rfl) ?_
                      refine lv_dup hx hb dX3_advance_171 rfl ?_
                      refine r_geti X hT 14 4 fk_3_31 rfl rfl (by decide) dX3_advance_172 ?_
                      refine lv_iconst (v := 1) hx hb dX3_advance_175 (by decide) ?_
                      refine q_iadd hx hb dX3_advance_176 (fun x50 ex50 => ?_)
                      obtain ⟨hx50, ax50⟩ := rg_add (-2147483647) 700 ex50 h45 (rg_k (by decide) : rg 1 1 1) (by decide)
                      replace ax50 : x50.toInt = (i20 14 4).toInt + 1 := ax50
                      refine r_puti X hT hS 14 4 pk_3_31 rfl rfl rfl rfl (by decide) dX3_advance_177 (fun H locs i51 ei51 hT hS => ?_)
                      have hR51 := Rg_put hR20 ei51 (-2147483648) 2147483647 rfl hx50 (by decide)
                      have hF51 := Fr_puti hF20 ei51 (by decide)
                      have hE51_6 : i51 14 6 = i 14 6 := z_k ei51 hP20_0 (by decide)
                      refine lv_goto (tgt := 131) hx hb dX3_advance_180 (by decide) ?_
                      exact ih21_ i51 g20 _ _ _ hR51 hF51 hE51_6 hT hS (lv_sub hl [0, 1] rfl) (by rw [show i51 14 4 = x50 from (z_s ei51)]; exact m_up ax50 hx50 (by decide) hm21_)
            exact L131_19 _ i14 g3 _ _ _ hR14 hF14 hE14_6 hT hS (lv_sub hl [1, 0] rfl) (Nat.lt_succ_self _)
          refine lv_icmp_eq (tgt := 125) hx hb dX3_advance_114 (by decide) (fun c17 => ?_) (fun c17 => ?_)
          ·
            have q17 : (i14 14 2).toInt = 1 := i_eq c17
            have h52 : rg 1 1 (i14 14 2) := t_eqx 1 1 h16 (rg_k (by decide) : rg 1 1 1) (i_eq c17) (by decide)
            have h53 : rg 1 1 r8 := rg_fo e15 h52
            refine lv_iconst (v := 1) hx hb dX3_advance_125 (by decide) ?_
            refine lv_goto (tgt := 130) hx hb dX3_advance_126 (by decide) ?_
            exact J130_18 (1) _ _ _ (rg_w (rg_k (by decide) : rg 1 1 1) (by decide) : rg 0 1 1) hT hS (lv_sub hl [0] rfl)
          ·
            have q17 : ¬ (i14 14 2).toInt = 1 := i_ne c17
            refine lv_aload_n hx hb dX3_advance_117 rfl (lv_at hl 0 rfl) ?_
            refine r_geti X hT 14 2 fk_3_37 rfl rfl (by decide) dX3_advance_118 ?_
            refine lv_iconst (v := 2) hx hb dX3_advance_121 (by decide) ?_
            refine lv_icmp_ne (tgt := 129) hx hb dX3_advance_122 (by decide) (fun c54 => ?_) (fun c54 => ?_)
            ·
              have q54 : ¬ (i14 14 2).toInt = 2 := i_ne c54
              refine lv_iconst (v := 0) hx hb dX3_advance_129 (by decide) ?_
              exact J130_18 (0) _ _ _ (rg_w (rg_k (by decide) : rg 0 0 0) (by decide) : rg 0 1 0) hT hS (lv_sub hl [0] rfl)
            ·
              have q54 : (i14 14 2).toInt = 2 := i_eq c54
              have h55 : rg 2 2 (i14 14 2) := t_eqx 2 2 h16 (rg_k (by decide) : rg 2 2 2) (i_eq c54) (by decide)
              have h56 : rg 2 2 r8 := rg_fo e15 h55
              refine lv_iconst (v := 1) hx hb dX3_advance_125 (by decide) ?_
              refine lv_goto (tgt := 130) hx hb dX3_advance_126 (by decide) ?_
              exact J130_18 (1) _ _ _ (rg_w (rg_k (by decide) : rg 1 1 1) (by decide) : rg 0 1 1) hT hS (lv_sub hl [0] rfl)
        refine lv_if_ne (tgt := 100) hx hb dX3_advance_90 (by decide) (fun c12 => ?_) (fun c12 => ?_)
        ·
          have q12 : ¬ (i9 14 2).toInt = 0 := i_ne c12
          have h57 : rg 1 4 (i9 14 2) := t_nelo 1 h11 (rg_k (by decide) : rg 0 0 0) (i_ne c12) (by decide)
          have h58 : rg 1 4 r8 := rg_fo e10 h57
          refine lv_aload_n hx hb dX3_advance_100 rfl (lv_at hl 0 rfl) ?_
          refine r_geti X hT 14 3 fk_3_137 rfl rfl (by decide) dX3_advance_101 ?_
          have e59 : (i9 14 3) = (i3 14 3) := (z_k ei9 rfl (by decide))
          refine lv_iconst (v := 1) hx hb dX3_advance_104 (by decide) ?_
          refine q_iadd hx hb dX3_advance_105 (fun x60 ex60 => ?_)
          exact J106_13 x60 _ _ _ hT hS (lv_sub hl [0] rfl)
        ·
          have q12 : (i9 14 2).toInt = 0 := i_eq c12
          have h61 : rg 0 0 (i9 14 2) := t_eqx 0 0 h11 (rg_k (by decide) : rg 0 0 0) (i_eq c12) (by decide)
          have h62 : rg 0 0 r8 := rg_fo e10 h61
          refine lv_aload_n hx hb dX3_advance_93 rfl (lv_at hl 0 rfl) ?_
          refine r_geti X hT 14 3 fk_3_137 rfl rfl (by decide) dX3_advance_94 ?_
          have e63 : (i9 14 3) = (i3 14 3) := (z_k ei9 rfl (by decide))
          refine lv_goto (tgt := 106) hx hb dX3_advance_97 (by decide) ?_
          exact J106_13 (i9 14 3) _ _ _ hT hS (lv_sub hl [0] rfl)
      refine lv_icmp_ge (tgt := 67) hx hb dX3_advance_19 (by decide) (fun c5 => ?_) (fun c5 => ?_)
      ·
        have q5 : (i3 1 1).toInt ≤ (i3 14 3).toInt := i_le c5
        have h64 : rg 0 2147483647 (i3 14 3) := t_ley 0 2147483647 (Rg_at hR3 1 1 0 700 (by decide) rfl) (rg_top (i3 14 3)) (i_le c5) (by decide)
        exact J67_6 _ _ _ hT hS (lv_sub hl [0] rfl)
      ·
        have q5 : (i3 14 3).toInt < (i3 1 1).toInt := i_nle c5
        have h65 : rg (-2147483648) 699 (i3 14 3) := t_ltx (-2147483648) 699 (rg_top (i3 14 3)) (Rg_at hR3 1 1 0 700 (by decide) rfl) (i_nle c5) (by decide)
        refine lv_aload_n hx hb dX3_advance_22 rfl (lv_at hl 0 rfl) ?_
        refine r_getr X hT 14 0 1 fk_3_15 rfl rfl (by decide) dX3_advance_23 ?_
        refine lv_aload_n hx hb dX3_advance_26 rfl (lv_at hl 0 rfl) ?_
        refine r_geti X hT 14 3 fk_3_137 rfl rfl (by decide) dX3_advance_27 ?_
        refine e_Vi (As := [.int (i3 14 3)]) (rest := []) X Y hT hS (m_X7_at_1 hR3 (i3 14 3)) mk_X7_at gm_521 rfl rfl (by decide) hd_X7_at ⟨rfl, rfl⟩ ⟨Nat.le_of_ble_eq_true rfl, Nat.le_of_ble_eq_true rfl⟩ hl.1 rfl (Nat.le_of_ble_eq_true rfl) dX3_advance_30 ⟨Nat.zero_le _, Nat.zero_le _⟩ (fun r66 i66 g66 H locs hq hT hS => ?_)
        obtain ⟨eh66, hr66⟩ := hq
        rw [(Prod.mk.inj eh66).1, (Prod.mk.inj eh66).2] at hT
        refine lv_bipush (v := 32) hx hb dX3_advance_33 (by decide) ?_
        refine lv_icmp_eq (tgt := 54) hx hb dX3_advance_35 (by decide) (fun c67 => ?_) (fun c67 => ?_)
        ·
          have q67 : r66.toInt = 32 := i_eq c67
          have h68 : rg 32 32 r66 := t_eqx 32 32 hr66 (rg_k (by decide) : rg 32 32 32) (i_eq c67) (by decide)
          refine lv_aload_n hx hb dX3_advance_54 rfl (lv_at hl 0 rfl) ?_
          refine lv_dup hx hb dX3_advance_55 rfl ?_
          refine r_geti X hT 14 3 fk_3_137 rfl rfl (by decide) dX3_advance_56 ?_
          refine lv_iconst (v := 1) hx hb dX3_advance_59 (by decide) ?_
          refine q_iadd hx hb dX3_advance_60 (fun x69 ex69 => ?_)
          obtain ⟨hx69, ax69⟩ := rg_add (-2147483647) 700 ex69 h65 (rg_k (by decide) : rg 1 1 1) (by decide)
          replace ax69 : x69.toInt = (i3 14 3).toInt + 1 := ax69
          refine r_puti X hT hS 14 3 pk_3_137 rfl rfl rfl rfl (by decide) dX3_advance_61 (fun H locs i70 ei70 hT hS => ?_)
          have hR70 := Rg_put hR3 ei70 (-2147483648) 2147483647 rfl hx69 (by decide)
          have hF70 := Fr_puti hF3 ei70 (by decide)
          have hE70_6 : i70 14 6 = i 14 6 := z_k ei70 hP3_0 (by decide)
          refine lv_goto (tgt := 8) hx hb dX3_advance_64 (by decide) ?_
          exact ih4_ i70 g3 _ _ _ hR70 hF70 hE70_6 hT hS (lv_sub hl [0] rfl) (by rw [show i70 14 3 = x69 from (z_s ei70)]; exact m_up ax69 hx69 (by decide) hm4_)
        ·
          have q67 : ¬ r66.toInt = 32 := i_ne c67
          refine lv_aload_n hx hb dX3_advance_38 rfl (lv_at hl 0 rfl) ?_
          refine r_getr X hT 14 0 1 fk_3_15 rfl rfl (by decide) dX3_advance_39 ?_
          refine lv_aload_n hx hb dX3_advance_42 rfl (lv_at hl 0 rfl) ?_
          refine r_geti X hT 14 3 fk_3_137 rfl rfl (by decide) dX3_advance_43 ?_
          refine e_Vi (As := [.int (i3 14 3)]) (rest := []) X Y hT hS (m_X7_at_1 hR3 (i3 14 3)) mk_X7_at gm_521 rfl rfl (by decide) hd_X7_at ⟨rfl, rfl⟩ ⟨Nat.le_of_ble_eq_true rfl, Nat.le_of_ble_eq_true rfl⟩ hl.1 rfl (Nat.le_of_ble_eq_true rfl) dX3_advance_46 ⟨Nat.zero_le _, Nat.zero_le _⟩ (fun r71 i71 g71 H locs hq hT hS => ?_)
          obtain ⟨eh71, hr71⟩ := hq
          rw [(Prod.mk.inj eh71).1, (Prod.mk.inj eh71).2] at hT
          refine lv_bipush (v := 10) hx hb dX3_advance_49 (by decide) ?_
          refine lv_icmp_ne (tgt := 67) hx hb dX3_advance_51 (by decide) (fun c72 => ?_) (fun c72 => ?_)
          ·
            have q72 : ¬ r71.toInt = 10 := i_ne c72
            exact J67_6 _ _ _ hT hS (lv_sub hl [0] rfl)
          ·
            have q72 : r71.toInt = 10 := i_eq c72
            have h73 : rg 10 10 r71 := t_eqx 10 10 hr71 (rg_k (by decide) : rg 10 10 10) (i_eq c72) (by decide)
            refine lv_aload_n hx hb dX3_advance_54 rfl (lv_at hl 0 rfl) ?_
            refine lv_dup hx hb dX3_advance_55 rfl ?_
            refine r_geti X hT 14 3 fk_3_137 rfl rfl (by decide) dX3_advance_56 ?_
            refine lv_iconst (v := 1) hx hb dX3_advance_59 (by decide) ?_
            refine q_iadd hx hb dX3_advance_60 (fun x74 ex74 => ?_)
            obtain ⟨hx74, ax74⟩ := rg_add (-2147483647) 700 ex74 h65 (rg_k (by decide) : rg 1 1 1) (by decide)
            replace ax74 : x74.toInt = (i3 14 3).toInt + 1 := ax74
            refine r_puti X hT hS 14 3 pk_3_137 rfl rfl rfl rfl (by decide) dX3_advance_61 (fun H locs i75 ei75 hT hS => ?_)
            have hR75 := Rg_put hR3 ei75 (-2147483648) 2147483647 rfl hx74 (by decide)
            have hF75 := Fr_puti hF3 ei75 (by decide)
            have hE75_6 : i75 14 6 = i 14 6 := z_k ei75 hP3_0 (by decide)
            refine lv_goto (tgt := 8) hx hb dX3_advance_64 (by decide) ?_
            exact ih4_ i75 g3 _ _ _ hR75 hF75 hE75_6 hT hS (lv_sub hl [0] rfl) (by rw [show i75 14 3 = x74 from (z_s ei75)]; exact m_up ax74 hx74 (by decide) hm4_)
  exact L8_2 _ i1 g _ _ _ hR1 hF1 hE1_6 hT hS (lv_sub hl [0] rfl) (Nat.lt_succ_self _)
set_option maxRecDepth 100000 in
set_option maxHeartbeats 4000000 in
theorem m_J0_coder_7d493 {l : Launch} {D : va_G} {h : Nat → Nat} {cz : Nat → ClassId} {z : EZ} {i : Nat → Nat → Int32} {g : Nat → Nat → Int64} (qs : Nat) (hqs : qs < 11) : DtI l yJ0_coder_7d493 cJ0_coder_7d493 1 (some .byte) ({ frames := 0, cells := 0, slots := 0, locals := 0 } : Room) D h cz z i g [.ref (z.1 qs)] (fun r u => u = (i, g) ∧ r = 0) := by
  refine e_B (fun v u hq => (by rw [hq.2]; rfl)) pn_J0_coder_7d493 (Nat.le_of_ble_eq_true rfl) ?_
  intro p e s m args below meth c ls Q X Y hret hT hl hS
  have hx := X.1
  have hb := X.2.1
  have hl : lv_has ls 1 [(0, .ref (z.1 qs))] := hl
  refine va_gets hx hb Y.cmp hS X.2.2.2.1 (X.2.2.2.2.1 _ gm_556) (fun _ q => q) dJ0_coder_7d493_0 ?_
  refine lv_if_eq (tgt := 13) hx hb dJ0_coder_7d493_3 (by decide) (fun c1 => (x_eq (rg_k (by decide) : rg 1 1 1) (rg_k (by decide) : rg 0 0 0) (i_eq c1) (by decide)).elim) (fun c1 => ?_)
  refine lv_aload_n hx hb dJ0_coder_7d493_6 rfl (lv_at hl 0 rfl) ?_
  refine vk_getf hx hb (Y.cod qs hqs) hS X.2.2.2.1 (X.2.2.2.2.1 _ gm_2114) (fun _ q => q) dJ0_coder_7d493_7 ?_
  refine lv_goto (tgt := 14) hx hb dJ0_coder_7d493_10 (by decide) ?_
  exact hret 0 _ _ _ _ _ _ dJ0_coder_7d493_14 hT hS ⟨rfl, rfl⟩
set_option maxRecDepth 100000 in
set_option maxHeartbeats 4000000 in
theorem m_J0_length_8abf5 {l : Launch} {D : va_G} {h : Nat → Nat} {cz : Nat → ClassId} {z : EZ} {i : Nat → Nat → Int32} {g : Nat → Nat → Int64} (qs : Nat) (hqs : qs < 11) : DtI l yJ0_length_8abf5 cJ0_length_8abf5 1 (some .int) ({ frames := 1, cells := 0, slots := 0, locals := 20 } : Room) D h cz z i g [.ref (z.1 qs)] (fun r u => u = (i, g) ∧ (r = wl qs)) := by
  refine e_I pn_J0_length_8abf5 (Nat.le_of_ble_eq_true rfl) ?_
  intro p e s m args below meth c ls Q X Y hret hT hl hS
  have hx := X.1
  have hb := X.2.1
  have hl : lv_has ls 1 [(0, .ref (z.1 qs))] := hl
  refine lv_aload_n hx hb dJ0_length_8abf5_0 rfl (lv_at hl 0 rfl) ?_
  refine vk_getf hx hb (Y.val qs hqs) hS X.2.2.2.1 (X.2.2.2.2.1 _ gm_2113) (fun _ q => q) dJ0_length_8abf5_1 ?_
  refine va_tlen (v := wl qs) hx hb (Y.byt qs hqs) hS rfl dJ0_length_8abf5_4 ?_
  refine lv_aload_n hx hb dJ0_length_8abf5_5 rfl (lv_at hl 0 rfl) ?_
  refine e_Wi (As := []) (rest := [.int (wl qs)]) X Y hT hS qs hqs (m_J0_coder_7d493 qs hqs) mk_J0_coder_7d493 gm_552 rfl hd_J0_coder_7d493 ⟨rfl, rfl⟩ ⟨Nat.le_of_ble_eq_true rfl, Nat.le_of_ble_eq_true rfl⟩ hl.1 rfl (Nat.le_of_ble_eq_true rfl) dJ0_length_8abf5_6 ⟨Nat.zero_le _, Nat.zero_le _⟩ (fun r1 i1 g1 H locs hq hT hS => ?_)
  obtain ⟨eh1, rfl⟩ := hq
  rw [(Prod.mk.inj eh1).1, (Prod.mk.inj eh1).2] at hT
  refine q_ishr hx hb dJ0_length_8abf5_9 (fun x2 ex2 => ?_)
  exact hret x2 _ _ _ _ _ _ dJ0_length_8abf5_10 hT hS ⟨rfl, (by rw [ex2]; exact sh0 _)⟩
set_option maxRecDepth 100000 in
set_option maxHeartbeats 4000000 in
theorem m_J0_isLatin1_aae02 {l : Launch} {D : va_G} {h : Nat → Nat} {cz : Nat → ClassId} {z : EZ} {i : Nat → Nat → Int32} {g : Nat → Nat → Int64} (qs : Nat) (hqs : qs < 11) : DtI l yJ0_isLatin1_aae02 cJ0_isLatin1_aae02 1 (some .boolean) ({ frames := 0, cells := 0, slots := 0, locals := 0 } : Room) D h cz z i g [.ref (z.1 qs)] (fun r u => u = (i, g) ∧ r = 1) := by
  refine e_Z (fun v u hq => (Or.inr hq.2)) pn_J0_isLatin1_aae02 (Nat.le_of_ble_eq_true rfl) ?_
  intro p e s m args below meth c ls Q X Y hret hT hl hS
  have hx := X.1
  have hb := X.2.1
  have hl : lv_has ls 1 [(0, .ref (z.1 qs))] := hl
  refine va_gets hx hb Y.cmp hS X.2.2.2.1 (X.2.2.2.2.1 _ gm_556) (fun _ q => q) dJ0_isLatin1_aae02_0 ?_
  refine lv_if_eq (tgt := 17) hx hb dJ0_isLatin1_aae02_3 (by decide) (fun c1 => (x_eq (rg_k (by decide) : rg 1 1 1) (rg_k (by decide) : rg 0 0 0) (i_eq c1) (by decide)).elim) (fun c1 => ?_)
  refine lv_aload_n hx hb dJ0_isLatin1_aae02_6 rfl (lv_at hl 0 rfl) ?_
  refine vk_getf hx hb (Y.cod qs hqs) hS X.2.2.2.1 (X.2.2.2.2.1 _ gm_2114) (fun _ q => q) dJ0_isLatin1_aae02_7 ?_
  refine lv_if_ne (tgt := 17) hx hb dJ0_isLatin1_aae02_10 (by decide) (fun c2 => (x_ne (rg_k (by decide) : rg 0 0 0) (rg_k (by decide) : rg 0 0 0) (i_ne c2) (by decide)).elim) (fun c2 => ?_)
  refine lv_iconst (v := 1) hx hb dJ0_isLatin1_aae02_13 (by decide) ?_
  refine lv_goto (tgt := 18) hx hb dJ0_isLatin1_aae02_14 (by decide) ?_
  exact hret 1 _ _ _ _ _ _ dJ0_isLatin1_aae02_18 hT hS ⟨rfl, rfl⟩
set_option maxRecDepth 100000 in
set_option maxHeartbeats 4000000 in
theorem m_J3_checkIndex_8e157_N {l : Launch} {D : va_G} {h : Nat → Nat} {cz : Nat → ClassId} {z : EZ} {i : Nat → Nat → Int32} {g : Nat → Nat → Int64} (a_a : Int32) (a_b : Int32) (ha_a : rg 0 4 a_a) (ha_b : rg 2 5 a_b) (hlt : a_a.toInt < a_b.toInt) : DtI l yJ3_checkIndex_8e157 cJ3_checkIndex_8e157 3 (some .int) ({ frames := 0, cells := 0, slots := 0, locals := 0 } : Room) D h cz z i g [.int a_a, .int a_b, .null] (fun r u => u = (i, g) ∧ rg 0 4 r) := by
  refine e_I pn_J3_checkIndex_8e157 (Nat.le_of_ble_eq_true rfl) ?_
  intro p e s m args below meth c ls Q X Y hret hT hl hS
  have hx := X.1
  have hb := X.2.1
  have hl : lv_has ls 3 [(0, .int a_a), (1, .int a_b), (2, .null)] := hl
  refine lv_iload_n hx hb dJ3_checkIndex_8e157_0 rfl (lv_at hl 0 rfl) ?_
  refine lv_if_lt (tgt := 9) hx hb dJ3_checkIndex_8e157_1 (by decide) (fun c1 => (x_lt ha_a (rg_k (by decide) : rg 0 0 0) (i_lt c1) (by decide)).elim) (fun c1 => ?_)
  have q1 : 0 ≤ a_a.toInt := i_nlt c1
  refine lv_iload_n hx hb dJ3_checkIndex_8e157_4 rfl (lv_at hl 0 rfl) ?_
  refine lv_iload_n hx hb dJ3_checkIndex_8e157_5 rfl (lv_at hl 1 rfl) ?_
  refine lv_icmp_lt (tgt := 16) hx hb dJ3_checkIndex_8e157_6 (by decide) (fun c2 => ?_) (fun c2 => (by have := hlt; have := (i_nlt c2); omega : False).elim)
  have q2 : a_a.toInt < a_b.toInt := i_lt c2
  refine lv_iload_n hx hb dJ3_checkIndex_8e157_16 rfl (lv_at hl 0 rfl) ?_
  exact hret a_a _ _ _ _ _ _ dJ3_checkIndex_8e157_17 hT hS ⟨rfl, ha_a⟩
set_option maxRecDepth 100000 in
set_option maxHeartbeats 4000000 in
theorem m_J3_checkIndex_8e157_X {l : Launch} {D : va_G} {h : Nat → Nat} {cz : Nat → ClassId} {z : EZ} {i : Nat → Nat → Int32} {g : Nat → Nat → Int64} (a_a : Int32) (a_b : Int32) (t0 : Nat) (ha_a : rg 0 4 a_a) (ha_b : rg 2 5 a_b) (hlt : a_a.toInt < a_b.toInt) : DtI l yJ3_checkIndex_8e157 cJ3_checkIndex_8e157 3 (some .int) ({ frames := 0, cells := 0, slots := 0, locals := 0 } : Room) D h cz z i g [.int a_a, .int a_b, .ref t0] (fun r u => u = (i, g) ∧ rg 0 4 r) := by
  refine e_I pn_J3_checkIndex_8e157 (Nat.le_of_ble_eq_true rfl) ?_
  intro p e s m args below meth c ls Q X Y hret hT hl hS
  have hx := X.1
  have hb := X.2.1
  have hl : lv_has ls 3 [(0, .int a_a), (1, .int a_b), (2, .ref t0)] := hl
  refine lv_iload_n hx hb dJ3_checkIndex_8e157_0 rfl (lv_at hl 0 rfl) ?_
  refine lv_if_lt (tgt := 9) hx hb dJ3_checkIndex_8e157_1 (by decide) (fun c1 => (x_lt ha_a (rg_k (by decide) : rg 0 0 0) (i_lt c1) (by decide)).elim) (fun c1 => ?_)
  have q1 : 0 ≤ a_a.toInt := i_nlt c1
  refine lv_iload_n hx hb dJ3_checkIndex_8e157_4 rfl (lv_at hl 0 rfl) ?_
  refine lv_iload_n hx hb dJ3_checkIndex_8e157_5 rfl (lv_at hl 1 rfl) ?_
  refine lv_icmp_lt (tgt := 16) hx hb dJ3_checkIndex_8e157_6 (by decide) (fun c2 => ?_) (fun c2 => (by have := hlt; have := (i_nlt c2); omega : False).elim)
  have q2 : a_a.toInt < a_b.toInt := i_lt c2
  refine lv_iload_n hx hb dJ3_checkIndex_8e157_16 rfl (lv_at hl 0 rfl) ?_
  exact hret a_a _ _ _ _ _ _ dJ3_checkIndex_8e157_17 hT hS ⟨rfl, ha_a⟩
set_option maxRecDepth 100000 in
set_option maxHeartbeats 4000000 in
theorem m_J0_checkIndex_df160 {l : Launch} {D : va_G} {h : Nat → Nat} {cz : Nat → ClassId} {z : EZ} {i : Nat → Nat → Int32} {g : Nat → Nat → Int64} (a_a : Int32) (a_b : Int32) (ha_a : rg 0 4 a_a) (ha_b : rg 2 5 a_b) (hlt : a_a.toInt < a_b.toInt) : DtV l yJ0_checkIndex_df160 cJ0_checkIndex_df160 2 none ({ frames := 1, cells := 0, slots := 0, locals := 22 } : Room) D h cz z i g [.int a_a, .int a_b] (fun u => u = (i, g)) := by
  refine e_V pn_J0_checkIndex_df160 (Nat.le_of_ble_eq_true rfl) ?_
  intro p e s m args below meth c ls Q X Y hret hT hl hS
  have hx := X.1
  have hb := X.2.1
  have hl : lv_has ls 2 [(0, .int a_a), (1, .int a_b)] := hl
  refine lv_iload_n hx hb dJ0_checkIndex_df160_0 rfl (lv_at hl 0 rfl) ?_
  refine lv_iload_n hx hb dJ0_checkIndex_df160_1 rfl (lv_at hl 1 rfl) ?_
  rcases Y.fmt with hZ | ⟨t0, hZ⟩
  ·
    refine va_gets hx hb hZ hS X.2.2.2.1 (X.2.2.2.2.1 _ gm_572) (fun _ q => q) dJ0_checkIndex_df160_2 ?_
    refine e_Si (As := [.int a_a, .int a_b, .null]) (rest := []) X Y hT hS (m_J3_checkIndex_8e157_N a_a a_b ha_a ha_b hlt) sk_J3_checkIndex_8e157 gm_574 hd_J3_checkIndex_8e157 ⟨rfl, rfl⟩ ⟨Nat.le_of_ble_eq_true rfl, Nat.le_of_ble_eq_true rfl⟩ hl.1 rfl (Nat.le_of_ble_eq_true rfl) dJ0_checkIndex_df160_5 ⟨Nat.zero_le _, Nat.zero_le _⟩ (fun r1 i1 g1 H locs hq hT hS => ?_)
    obtain ⟨eh1, hr1⟩ := hq
    rw [(Prod.mk.inj eh1).1, (Prod.mk.inj eh1).2] at hT
    refine lv_pop hx hb dJ0_checkIndex_df160_8 rfl ?_
    exact hret _ _ _ _ _ _ dJ0_checkIndex_df160_9 hT hS rfl
  ·
    refine va_gets hx hb hZ hS X.2.2.2.1 (X.2.2.2.2.1 _ gm_572) (fun _ q => q) dJ0_checkIndex_df160_2 ?_
    refine e_Si (As := [.int a_a, .int a_b, .ref t0]) (rest := []) X Y hT hS (m_J3_checkIndex_8e157_X a_a a_b t0 ha_a ha_b hlt) sk_J3_checkIndex_8e157 gm_574 hd_J3_checkIndex_8e157 ⟨rfl, rfl⟩ ⟨Nat.le_of_ble_eq_true rfl, Nat.le_of_ble_eq_true rfl⟩ hl.1 rfl (Nat.le_of_ble_eq_true rfl) dJ0_checkIndex_df160_5 ⟨Nat.zero_le _, Nat.zero_le _⟩ (fun r2 i2 g2 H locs hq hT hS => ?_)
    obtain ⟨eh2, hr2⟩ := hq
    rw [(Prod.mk.inj eh2).1, (Prod.mk.inj eh2).2] at hT
    refine lv_pop hx hb dJ0_checkIndex_df160_8 rfl ?_
    exact hret _ _ _ _ _ _ dJ0_checkIndex_df160_9 hT hS rfl
set_option maxRecDepth 100000 in
set_option maxHeartbeats 4000000 in
theorem m_J1_charAt_3b067 {l : Launch} {D : va_G} {h : Nat → Nat} {cz : Nat → ClassId} {z : EZ} {i : Nat → Nat → Int32} {g : Nat → Nat → Int64} (qs : Nat) (hqs : qs < 11) (a_a : Int32) (ha_a : rg 0 4 a_a) (hlt : a_a.toInt < (wl qs).toInt) : DtI l yJ1_charAt_3b067 cJ1_charAt_3b067 2 (some .char) ({ frames := 2, cells := 0, slots := 0, locals := 43 } : Room) D h cz z i g [.ref (z.2.1 qs), .int a_a] (fun r u => u = (i, g) ∧ rg 0 65535 r) := by
  refine e_B (fun v u hq => (nar_c (rg_w hq.2 (by decide)))) pn_J1_charAt_3b067 (Nat.le_of_ble_eq_true rfl) ?_
  intro p e s m args below meth c ls Q X Y hret hT hl hS
  have hx := X.1
  have hb := X.2.1
  have hl : lv_has ls 2 [(0, .ref (z.2.1 qs)), (1, .int a_a)] := hl
  refine lv_iload_n hx hb dJ1_charAt_3b067_0 rfl (lv_at hl 1 rfl) ?_
  refine lv_aload_n hx hb dJ1_charAt_3b067_1 rfl (lv_at hl 0 rfl) ?_
  refine va_tlen (v := wl qs) hx hb (Y.byt qs hqs) hS rfl dJ1_charAt_3b067_2 ?_
  refine e_Sv (As := [.int a_a, .int (wl qs)]) (rest := []) X Y hT hS (m_J0_checkIndex_df160 a_a (wl qs) ha_a (wl_rg qs hqs) hlt) sk_J0_checkIndex_df160 gm_569 hd_J0_checkIndex_df160 ⟨rfl, rfl⟩ ⟨Nat.le_of_ble_eq_true rfl, Nat.le_of_ble_eq_true rfl⟩ hl.1 rfl (Nat.le_of_ble_eq_true rfl) dJ1_charAt_3b067_3 ⟨Nat.zero_le _, Nat.zero_le _⟩ (fun i1 g1 H locs hq hT hS => ?_)
  have eh1 := hq
  rw [(Prod.mk.inj eh1).1, (Prod.mk.inj eh1).2] at hT
  refine lv_aload_n hx hb dJ1_charAt_3b067_6 rfl (lv_at hl 0 rfl) ?_
  refine lv_iload_n hx hb dJ1_charAt_3b067_7 rfl (lv_at hl 1 rfl) ?_
  refine e_byt hx hb Y hS qs hqs (wl_in qs hqs ha_a (by decide) hlt) dJ1_charAt_3b067_8 (fun x2 hx2 => ?_)
  refine lv_sipush (v := 255) hx hb dJ1_charAt_3b067_9 (by decide) ?_
  refine q_iand hx hb dJ1_charAt_3b067_12 (fun x3 ex3 => ?_)
  have h4 : rg 0 255 x3 := rg_andr ex3 (rg_k (by decide) : rg 255 255 255) (by decide)
  refine q_i2c hx hb dJ1_charAt_3b067_13 (fun x5 ex5 => ?_)
  have h6 : rg 0 65535 x5 := rg_i2c ex5
  exact hret x5 _ _ _ _ _ _ dJ1_charAt_3b067_14 hT hS ⟨rfl, h6⟩
set_option maxRecDepth 100000 in
set_option maxHeartbeats 4000000 in
theorem m_J0_charAt_5068e {l : Launch} {D : va_G} {h : Nat → Nat} {cz : Nat → ClassId} {z : EZ} {i : Nat → Nat → Int32} {g : Nat → Nat → Int64} (qs : Nat) (hqs : qs < 11) (a_a : Int32) (ha_a : rg 0 4 a_a) (hlt : a_a.toInt < (wl qs).toInt) : DtI l yJ0_charAt_5068e cJ0_charAt_5068e 2 (some .char) ({ frames := 3, cells := 0, slots := 0, locals := 64 } : Room) D h cz z i g [.ref (z.1 qs), .int a_a] (fun r u => u = (i, g) ∧ rg 0 65535 r) := by
  refine e_B (fun v u hq => (nar_c (rg_w hq.2 (by decide)))) pn_J0_charAt_5068e (Nat.le_of_ble_eq_true rfl) ?_
  intro p e s m args below meth c ls Q X Y hret hT hl hS
  have hx := X.1
  have hb := X.2.1
  have hl : lv_has ls 2 [(0, .ref (z.1 qs)), (1, .int a_a)] := hl
  refine lv_aload_n hx hb dJ0_charAt_5068e_0 rfl (lv_at hl 0 rfl) ?_
  refine e_Wi (As := []) (rest := []) X Y hT hS qs hqs (m_J0_isLatin1_aae02 qs hqs) mk_J0_isLatin1_aae02 gm_562 rfl hd_J0_isLatin1_aae02 ⟨rfl, rfl⟩ ⟨Nat.le_of_ble_eq_true rfl, Nat.le_of_ble_eq_true rfl⟩ hl.1 rfl (Nat.le_of_ble_eq_true rfl) dJ0_charAt_5068e_1 ⟨Nat.zero_le _, Nat.zero_le _⟩ (fun r1 i1 g1 H locs hq hT hS => ?_)
  obtain ⟨eh1, rfl⟩ := hq
  rw [(Prod.mk.inj eh1).1, (Prod.mk.inj eh1).2] at hT
  refine lv_if_eq (tgt := 16) hx hb dJ0_charAt_5068e_4 (by decide) (fun c2 => (x_eq (rg_k (by decide) : rg 1 1 1) (rg_k (by decide) : rg 0 0 0) (i_eq c2) (by decide)).elim) (fun c2 => ?_)
  refine lv_aload_n hx hb dJ0_charAt_5068e_7 rfl (lv_at hl 0 rfl) ?_
  refine vk_getf hx hb (Y.val qs hqs) hS X.2.2.2.1 (X.2.2.2.2.1 _ gm_2113) (fun _ q => q) dJ0_charAt_5068e_8 ?_
  refine lv_iload_n hx hb dJ0_charAt_5068e_11 rfl (lv_at hl 1 rfl) ?_
  refine e_Si (As := [.ref (z.2.1 qs), .int a_a]) (rest := []) X Y hT hS (m_J1_charAt_3b067 qs hqs a_a ha_a hlt) sk_J1_charAt_3b067 gm_566 hd_J1_charAt_3b067 ⟨rfl, rfl⟩ ⟨Nat.le_of_ble_eq_true rfl, Nat.le_of_ble_eq_true rfl⟩ hl.1 rfl (Nat.le_of_ble_eq_true rfl) dJ0_charAt_5068e_12 ⟨Nat.zero_le _, Nat.zero_le _⟩ (fun r3 i3 g3 H locs hq hT hS => ?_)
  obtain ⟨eh3, hr3⟩ := hq
  rw [(Prod.mk.inj eh3).1, (Prod.mk.inj eh3).2] at hT
  exact hret r3 _ _ _ _ _ _ dJ0_charAt_5068e_15 hT hS ⟨rfl, hr3⟩
set_option maxRecDepth 100000 in
set_option maxHeartbeats 4000000 in
theorem m_X3_isWord {l : Launch} {D : va_G} {h : Nat → Nat} {cz : Nat → ClassId} {z : EZ} {i : Nat → Nat → Int32} {g : Nat → Nat → Int64} (hR : Rg rA i) (q0 : Nat) (hq0 : q0 < 11) : DtI l yX3_isWord cX3_isWord 3 (some .boolean) ({ frames := 4, cells := 0, slots := 0, locals := 85 } : Room) D h cz z i g [.ref (h 14), .ref (z.1 q0)] (fun r u => (u = (i, g) ∧ r = 1 ∧ rg 0 0 (i 14 6)) ∨ (u = (i, g) ∧ r = 0)) := by
  refine e_Z (fun v u hq => (hq.elim (fun hq => (Or.inr hq.2.1)) (fun hq => (Or.inl hq.2)))) pn_X3_isWord (Nat.le_of_ble_eq_true rfl) ?_
  intro p e s m args below meth c ls Q X Y hret hT hl hS
  have hx := X.1
  have hb := X.2.1
  have hl : lv_has ls 3 [(0, .ref (h 14)), (1, .ref (z.1 q0))] := hl
  refine lv_aload_n hx hb dX3_isWord_0 rfl (lv_at hl 0 rfl) ?_
  refine r_geti X hT 14 2 fk_3_37 rfl rfl (by decide) dX3_isWord_1 ?_
  refine lv_iconst (v := 1) hx hb dX3_isWord_4 (by decide) ?_
  refine lv_icmp_ne (tgt := 31) hx hb dX3_isWord_5 (by decide) (fun c1 => ?_) (fun c1 => ?_)
  ·
    have q1 : ¬ (i 14 2).toInt = 1 := i_ne c1
    refine lv_iconst (v := 0) hx hb dX3_isWord_31 (by decide) ?_
    exact hret 0 _ _ _ _ _ _ dX3_isWord_32 hT hS (Or.inr ⟨rfl, rfl⟩)
  ·
    have q1 : (i 14 2).toInt = 1 := i_eq c1
    have h2 : rg 1 1 (i 14 2) := t_eqx 1 1 (rg_top (i 14 2)) (rg_k (by decide) : rg 1 1 1) (i_eq c1) (by decide)
    refine lv_aload_n hx hb dX3_isWord_8 rfl (lv_at hl 0 rfl) ?_
    refine r_geti X hT 14 6 fk_3_28 rfl rfl (by decide) dX3_isWord_9 ?_
    refine lv_if_ne (tgt := 31) hx hb dX3_isWord_12 (by decide) (fun c3 => ?_) (fun c3 => ?_)
    ·
      have q3 : ¬ (i 14 6).toInt = 0 := i_ne c3
      have h4 : rg 1 3 (i 14 6) := t_nelo 1 (Rg_at hR 14 6 0 3 (by decide) rfl) (rg_k (by decide) : rg 0 0 0) (i_ne c3) (by decide)
      refine lv_iconst (v := 0) hx hb dX3_isWord_31 (by decide) ?_
      exact hret 0 _ _ _ _ _ _ dX3_isWord_32 hT hS (Or.inr ⟨rfl, rfl⟩)
    ·
      have q3 : (i 14 6).toInt = 0 := i_eq c3
      have h5 : rg 0 0 (i 14 6) := t_eqx 0 0 (Rg_at hR 14 6 0 3 (by decide) rfl) (rg_k (by decide) : rg 0 0 0) (i_eq c3) (by decide)
      refine lv_aload_n hx hb dX3_isWord_15 rfl (lv_at hl 0 rfl) ?_
      refine r_geti X hT 14 4 fk_3_31 rfl rfl (by decide) dX3_isWord_16 ?_
      refine lv_aload_n hx hb dX3_isWord_19 rfl (lv_at hl 0 rfl) ?_
      refine r_geti X hT 14 3 fk_3_137 rfl rfl (by decide) dX3_isWord_20 ?_
      refine q_isub hx hb dX3_isWord_23 (fun x6 ex6 => ?_)
      refine lv_aload_n hx hb dX3_isWord_24 rfl (lv_at hl 1 rfl) ?_
      refine e_Wi (As := []) (rest := [.int x6]) X Y hT hS q0 hq0 (m_J0_length_8abf5 q0 hq0) mk_J0_length_8abf5 gm_548 rfl hd_J0_length_8abf5 ⟨rfl, rfl⟩ ⟨Nat.le_of_ble_eq_true rfl, Nat.le_of_ble_eq_true rfl⟩ hl.1 rfl (Nat.le_of_ble_eq_true rfl) dX3_isWord_25 ⟨Nat.zero_le _, Nat.zero_le _⟩ (fun r7 i7 g7 H locs hq hT hS => ?_)
      obtain ⟨eh7, hf7_0⟩ := hq
      rw [(Prod.mk.inj eh7).1, (Prod.mk.inj eh7).2] at hT
      replace hf7_0 : r7 = wl q0 := hf7_0
      have h8 : rg 2 5 r7 := rg_of hf7_0 (wl_rg q0 hq0)
      refine lv_icmp_eq (tgt := 33) hx hb dX3_isWord_28 (by decide) (fun c9 => ?_) (fun c9 => ?_)
      ·
        have q9 : x6.toInt = r7.toInt := i_eq c9
        have h10 : rg 2 5 x6 := t_eqx 2 5 (rg_top x6) h8 (i_eq c9) (by decide)
        refine lv_iconst (v := 0) hx hb dX3_isWord_33 (by decide) ?_
        refine lv_istore_n (lv' := [(2, .int 0), (0, .ref (h 14)), (1, .ref (z.1 q0))]) hx hb dX3_isWord_34 rfl hl (by decide) rfl (fun ls hl => ?_)
        have L35_11 : ∀ (n12_ : Nat) (x35_2 : Int32) (H : Heap) (locs : List Loc) (ls : Array Slot), rg 0 5 x35_2 → TH D h cz i g H → va_S (hA h) s.heap H locs → lv_has ls 3 [(0, .ref (h 14)), (1, .ref (z.1 q0)), (2, .int x35_2)] → (5 - x35_2.toInt).toNat < n12_ → W p l e ({ frames := 4, cells := 0, slots := 0, locals := 85 } : Room) s m args below meth c H locs 0 0 Q (F0 m 35 ls []) := by
          intro n12_
          induction n12_ with
          | zero => intro x35_2 H locs ls hhx35_2 hT hS hl hm12_; exact absurd hm12_ (Nat.not_lt_zero _)
          | succ n12_ ih12_ =>
            intro x35_2 H locs ls hhx35_2 hT hS hl hm12_
            refine lv_iload_n hx hb dX3_isWord_35 rfl (lv_at hl 2 rfl) ?_
            refine lv_aload_n hx hb dX3_isWord_36 rfl (lv_at hl 1 rfl) ?_
            refine e_Wi (As := []) (rest := [.int x35_2]) X Y hT hS q0 hq0 (m_J0_length_8abf5 q0 hq0) mk_J0_length_8abf5 gm_548 rfl hd_J0_length_8abf5 ⟨rfl, rfl⟩ ⟨Nat.le_of_ble_eq_true rfl, Nat.le_of_ble_eq_true rfl⟩ hl.1 rfl (Nat.le_of_ble_eq_true rfl) dX3_isWord_37 ⟨Nat.zero_le _, Nat.zero_le _⟩ (fun r13 i13 g13 H locs hq hT hS => ?_)
            obtain ⟨eh13, hf13_0⟩ := hq
            rw [(Prod.mk.inj eh13).1, (Prod.mk.inj eh13).2] at hT
            replace hf13_0 : r13 = wl q0 := hf13_0
            have h14 : rg 2 5 r13 := rg_of hf13_0 (wl_rg q0 hq0)
            refine lv_icmp_ge (tgt := 72) hx hb dX3_isWord_40 (by decide) (fun c15 => ?_) (fun c15 => ?_)
            ·
              have q15 : r13.toInt ≤ x35_2.toInt := i_le c15
              have h16 : rg 2 5 x35_2 := t_ley 2 5 h14 hhx35_2 (i_le c15) (by decide)
              refine lv_iconst (v := 1) hx hb dX3_isWord_72 (by decide) ?_
              exact hret 1 _ _ _ _ _ _ dX3_isWord_73 hT hS (Or.inl ⟨rfl, rfl, h5⟩)
            ·
              have q15 : x35_2.toInt < r13.toInt := i_nle c15
              have h17 : rg 0 4 x35_2 := t_ltx 0 4 hhx35_2 h14 (i_nle c15) (by decide)
              refine lv_aload_n hx hb dX3_isWord_43 rfl (lv_at hl 0 rfl) ?_
              refine r_getr X hT 14 0 1 fk_3_15 rfl rfl (by decide) dX3_isWord_44 ?_
              refine lv_aload_n hx hb dX3_isWord_47 rfl (lv_at hl 0 rfl) ?_
              refine r_geti X hT 14 3 fk_3_137 rfl rfl (by decide) dX3_isWord_48 ?_
              refine lv_iload_n hx hb dX3_isWord_51 rfl (lv_at hl 2 rfl) ?_
              refine q_iadd hx hb dX3_isWord_52 (fun x18 ex18 => ?_)
              refine e_Vi (As := [.int x18]) (rest := []) X Y hT hS (m_X7_at_1 hR x18) mk_X7_at gm_521 rfl rfl (by decide) hd_X7_at ⟨rfl, rfl⟩ ⟨Nat.le_of_ble_eq_true rfl, Nat.le_of_ble_eq_true rfl⟩ hl.1 rfl (Nat.le_of_ble_eq_true rfl) dX3_isWord_53 ⟨Nat.zero_le _, Nat.zero_le _⟩ (fun r19 i19 g19 H locs hq hT hS => ?_)
              obtain ⟨eh19, hr19⟩ := hq
              rw [(Prod.mk.inj eh19).1, (Prod.mk.inj eh19).2] at hT
              refine lv_aload_n hx hb dX3_isWord_56 rfl (lv_at hl 1 rfl) ?_
              refine lv_iload_n hx hb dX3_isWord_57 rfl (lv_at hl 2 rfl) ?_
              refine e_Wi (As := [.int x35_2]) (rest := [.int r19]) X Y hT hS q0 hq0 (m_J0_charAt_5068e q0 hq0 x35_2 h17 (by have := congrArg Int32.toInt hf13_0; have := q15; omega)) mk_J0_charAt_5068e gm_558 rfl hd_J0_charAt_5068e ⟨rfl, rfl⟩ ⟨Nat.le_of_ble_eq_true rfl, Nat.le_of_ble_eq_true rfl⟩ hl.1 rfl (Nat.le_of_ble_eq_true rfl) dX3_isWord_58 ⟨Nat.zero_le _, Nat.zero_le _⟩ (fun r20 i20 g20 H locs hq hT hS => ?_)
              obtain ⟨eh20, hr20⟩ := hq
              rw [(Prod.mk.inj eh20).1, (Prod.mk.inj eh20).2] at hT
              refine lv_icmp_eq (tgt := 66) hx hb dX3_isWord_61 (by decide) (fun c21 => ?_) (fun c21 => ?_)
              ·
                have q21 : r19.toInt = r20.toInt := i_eq c21
                have h22 : rg 0 255 r19 := t_eqx 0 255 hr19 hr20 (i_eq c21) (by decide)
                have h23 : rg 0 255 r20 := t_eqy 0 255 hr19 hr20 (i_eq c21) (by decide)
                obtain ⟨x24, ex24⟩ : ∃ y : Int32, y = x35_2 + 1 := ⟨_, rfl⟩
                refine lv_iinc (v := x24) (lv' := [(2, .int x24), (0, .ref (h 14)), (1, .ref (z.1 q0))]) hx hb dX3_isWord_66 hl (k := 2) rfl (by rw [ex24]; rfl) (by decide) rfl (fun ls hl => ?_)
                obtain ⟨hx24, ax24⟩ := rg_add 1 5 ex24 h17 (rg_k (by decide) : rg 1 1 1) (by decide)
                replace ax24 : x24.toInt = x35_2.toInt + 1 := ax24
                refine lv_goto (tgt := 35) hx hb dX3_isWord_69 (by decide) ?_
                exact ih12_ x24 _ _ _ (rg_w hx24 (by decide) : rg 0 5 x24) hT hS (lv_sub hl [1, 2, 0] rfl) (m_up ax24 hx24 (by decide) hm12_)
              ·
                have q21 : ¬ r19.toInt = r20.toInt := i_ne c21
                refine lv_iconst (v := 0) hx hb dX3_isWord_64 (by decide) ?_
                exact hret 0 _ _ _ _ _ _ dX3_isWord_65 hT hS (Or.inr ⟨rfl, rfl⟩)
        exact L35_11 _ (0) _ _ _ (rg_w (rg_k (by decide) : rg 0 0 0) (by decide) : rg 0 5 0) hT hS (lv_sub hl [1, 2, 0] rfl) (Nat.lt_succ_self _)
      ·
        have q9 : ¬ x6.toInt = r7.toInt := i_ne c9
        refine lv_iconst (v := 0) hx hb dX3_isWord_31 (by decide) ?_
        exact hret 0 _ _ _ _ _ _ dX3_isWord_32 hT hS (Or.inr ⟨rfl, rfl⟩)
set_option maxRecDepth 100000 in
set_option maxHeartbeats 4000000 in
theorem m_X3_refuse {l : Launch} {D : va_G} {h : Nat → Nat} {cz : Nat → ClassId} {z : EZ} {i : Nat → Nat → Int32} {g : Nat → Nat → Int64} (hR : Rg rA i) (a_a : Int32) (ha_a : rg 1 3 a_a) : DtI l yX3_refuse cX3_refuse 2 (some .boolean) ({ frames := 0, cells := 0, slots := 0, locals := 0 } : Room) D h cz z i g [.ref (h 14), .int a_a] (fun r u => Rg rA u.1 ∧ Fr [14] [] i g u ∧ r = 0 ∧ rg 1 3 (u.1 14 6)) := by
  refine e_Z (fun v u hq => (Or.inl hq.2.2.1)) pn_X3_refuse (Nat.le_of_ble_eq_true rfl) ?_
  intro p e s m args below meth c ls Q X Y hret hT hl hS
  have hx := X.1
  have hb := X.2.1
  have hl : lv_has ls 2 [(0, .ref (h 14)), (1, .int a_a)] := hl
  have hF : Fr [14] [] i g (i, g) := Fr_rf _ _ _ _
  refine lv_aload_n hx hb dX3_refuse_0 rfl (lv_at hl 0 rfl) ?_
  refine r_geti X hT 14 6 fk_3_28 rfl rfl (by decide) dX3_refuse_1 ?_
  refine lv_if_ne (tgt := 20) hx hb dX3_refuse_4 (by decide) (fun c1 => ?_) (fun c1 => ?_)
  ·
    have q1 : ¬ (i 14 6).toInt = 0 := i_ne c1
    have h2 : rg 1 3 (i 14 6) := t_nelo 1 (Rg_at hR 14 6 0 3 (by decide) rfl) (rg_k (by decide) : rg 0 0 0) (i_ne c1) (by decide)
    refine lv_iconst (v := 0) hx hb dX3_refuse_20 (by decide) ?_
    exact hret 0 _ _ _ _ _ _ dX3_refuse_21 hT hS ⟨hR, hF, rfl, h2⟩
  ·
    have q1 : (i 14 6).toInt = 0 := i_eq c1
    have h3 : rg 0 0 (i 14 6) := t_eqx 0 0 (Rg_at hR 14 6 0 3 (by decide) rfl) (rg_k (by decide) : rg 0 0 0) (i_eq c1) (by decide)
    refine lv_aload_n hx hb dX3_refuse_7 rfl (lv_at hl 0 rfl) ?_
    refine lv_iload_n hx hb dX3_refuse_8 rfl (lv_at hl 1 rfl) ?_
    refine r_puti X hT hS 14 6 pk_3_28 rfl rfl rfl rfl (by decide) dX3_refuse_9 (fun H locs i4 ei4 hT hS => ?_)
    have hR4 := Rg_put hR ei4 0 3 rfl ha_a (by decide)
    have hF4 := Fr_puti hF ei4 (by decide)
    refine lv_aload_n hx hb dX3_refuse_12 rfl (lv_at hl 0 rfl) ?_
    refine lv_aload_n hx hb dX3_refuse_13 rfl (lv_at hl 0 rfl) ?_
    refine r_geti X hT 14 3 fk_3_137 rfl rfl (by decide) dX3_refuse_14 ?_
    refine r_puti X hT hS 14 7 pk_3_9 rfl rfl rfl rfl (by decide) dX3_refuse_17 (fun H locs i5 ei5 hT hS => ?_)
    have hR5 := Rg_put hR4 ei5 (-2147483648) 2147483647 rfl (rg_top (i4 14 3)) (by decide)
    have hF5 := Fr_puti hF4 ei5 (by decide)
    refine lv_iconst (v := 0) hx hb dX3_refuse_20 (by decide) ?_
    have e6 : (i5 14 6) = a_a := (z_k ei5 (z_s ei4) (by decide))
    have h7 : rg 1 3 (i5 14 6) := rg_of e6 ha_a
    exact hret 0 _ _ _ _ _ _ dX3_refuse_21 hT hS ⟨hR5, hF5, rfl, h7⟩
set_option maxRecDepth 100000 in
set_option maxHeartbeats 4000000 in
theorem m_X3_takeWord {l : Launch} {D : va_G} {h : Nat → Nat} {cz : Nat → ClassId} {z : EZ} {i : Nat → Nat → Int32} {g : Nat → Nat → Int64} (hR : Rg rA i) (q0 : Nat) (hq0 : q0 < 11) : DtV l yX3_takeWord cX3_takeWord 2 none ({ frames := 5, cells := 0, slots := 0, locals := 107 } : Room) D h cz z i g [.ref (h 14), .ref (z.1 q0)] (fun u => (Rg rA u.1 ∧ Fr [14] [] i g u ∧ rg 0 0 (i 14 6) ∧ rg 0 0 (u.1 14 6)) ∨ (Rg rA u.1 ∧ Fr [14] [] i g u ∧ rg 1 3 (u.1 14 6))) := by
  refine e_V pn_X3_takeWord (Nat.le_of_ble_eq_true rfl) ?_
  intro p e s m args below meth c ls Q X Y hret hT hl hS
  have hx := X.1
  have hb := X.2.1
  have hl : lv_has ls 2 [(0, .ref (h 14)), (1, .ref (z.1 q0))] := hl
  have hF : Fr [14] [] i g (i, g) := Fr_rf _ _ _ _
  refine lv_aload_n hx hb dX3_takeWord_0 rfl (lv_at hl 0 rfl) ?_
  refine lv_aload_n hx hb dX3_takeWord_1 rfl (lv_at hl 1 rfl) ?_
  refine e_Vi (As := [.ref (z.1 q0)]) (rest := []) X Y hT hS (m_X3_isWord hR q0 hq0) mk_X3_isWord gm_544 rfl rfl (by decide) hd_X3_isWord ⟨rfl, rfl⟩ ⟨Nat.le_of_ble_eq_true rfl, Nat.le_of_ble_eq_true rfl⟩ hl.1 rfl (Nat.le_of_ble_eq_true rfl) dX3_takeWord_2 ⟨Nat.zero_le _, Nat.zero_le _⟩ (fun r1 i1 g1 H locs hq hT hS => ?_)
  rcases hq with hq | hq
  ·
    obtain ⟨eh1, rfl, hf1_0⟩ := hq
    rw [(Prod.mk.inj eh1).1, (Prod.mk.inj eh1).2] at hT
    have h2 : rg 0 0 (i 14 6) := hf1_0
    refine lv_if_eq (tgt := 15) hx hb dX3_takeWord_5 (by decide) (fun c3 => (x_eq (rg_k (by decide) : rg 1 1 1) (rg_k (by decide) : rg 0 0 0) (i_eq c3) (by decide)).elim) (fun c3 => ?_)
    refine lv_aload_n hx hb dX3_takeWord_8 rfl (lv_at hl 0 rfl) ?_
    refine e_Vv (As := []) (rest := []) X Y hT hS (m_X3_advance hR) mk_X3_advance gm_517 rfl rfl (by decide) hd_X3_advance ⟨rfl, rfl⟩ ⟨Nat.le_of_ble_eq_true rfl, Nat.le_of_ble_eq_true rfl⟩ hl.1 rfl (Nat.le_of_ble_eq_true rfl) dX3_takeWord_9 ⟨Nat.zero_le _, Nat.zero_le _⟩ (fun i4 g4 H locs hq hT hS => ?_)
    obtain ⟨hR4, hf4, hf4_0⟩ := hq
    have hF4 := Fr_tr hF hf4 (by decide)
    refine lv_goto (tgt := 21) hx hb dX3_takeWord_12 (by decide) ?_
    have e5 : (i4 14 6) = (i 14 6) := hf4_0
    have h6 : rg 0 0 (i4 14 6) := rg_of e5 h2
    exact hret _ _ _ _ _ _ dX3_takeWord_21 hT hS (Or.inl ⟨hR4, hF4, h2, h6⟩)
  ·
    obtain ⟨eh1, rfl⟩ := hq
    rw [(Prod.mk.inj eh1).1, (Prod.mk.inj eh1).2] at hT
    refine lv_if_eq (tgt := 15) hx hb dX3_takeWord_5 (by decide) (fun c7 => ?_) (fun c7 => (x_ne (rg_k (by decide) : rg 0 0 0) (rg_k (by decide) : rg 0 0 0) (i_ne c7) (by decide)).elim)
    refine lv_aload_n hx hb dX3_takeWord_15 rfl (lv_at hl 0 rfl) ?_
    refine lv_iconst (v := 1) hx hb dX3_takeWord_16 (by decide) ?_
    refine e_Vi (As := [.int 1]) (rest := []) X Y hT hS (m_X3_refuse hR (1) (rg_w (rg_k (by decide) : rg 1 1 1) (by decide) : rg 1 3 1)) mk_X3_refuse gm_596 rfl rfl (by decide) hd_X3_refuse ⟨rfl, rfl⟩ ⟨Nat.le_of_ble_eq_true rfl, Nat.le_of_ble_eq_true rfl⟩ hl.1 rfl (Nat.le_of_ble_eq_true rfl) dX3_takeWord_17 ⟨Nat.zero_le _, Nat.zero_le _⟩ (fun r8 i8 g8 H locs hq hT hS => ?_)
    obtain ⟨hR8, hf8, rfl, hf8_0⟩ := hq
    have hF8 := Fr_tr hF hf8 (by decide)
    have h9 : rg 1 3 (i8 14 6) := hf8_0
    refine lv_pop hx hb dX3_takeWord_20 rfl ?_
    exact hret _ _ _ _ _ _ dX3_takeWord_21 hT hS (Or.inr ⟨hR8, hF8, h9⟩)
set_option maxRecDepth 100000 in
set_option maxHeartbeats 4000000 in
theorem m_X3_takeNumber {l : Launch} {D : va_G} {h : Nat → Nat} {cz : Nat → ClassId} {z : EZ} {i : Nat → Nat → Int32} {g : Nat → Nat → Int64} (hR : Rg rA i) (a_a : Int32) (a_b : Int32) : DtI l yX3_takeNumber cX3_takeNumber 4 (some .int) ({ frames := 2, cells := 0, slots := 0, locals := 62 } : Room) D h cz z i g [.ref (h 14), .int a_a, .int a_b] (fun r u => (Rg rA u.1 ∧ Fr [14] [] i g u ∧ r = (-1) ∧ rg 1 3 (u.1 14 6)) ∨ (Rg rA u.1 ∧ Fr [14] [] i g u ∧ rg 0 0 (i 14 6) ∧ rg 0 0 (u.1 14 6) ∧ (a_a.toInt ≤ r.toInt ∧ r.toInt ≤ a_b.toInt))) := by
  refine e_I pn_X3_takeNumber (Nat.le_of_ble_eq_true rfl) ?_
  intro p e s m args below meth c ls Q X Y hret hT hl hS
  have hx := X.1
  have hb := X.2.1
  have hl : lv_has ls 4 [(0, .ref (h 14)), (1, .int a_a), (2, .int a_b)] := hl
  have hF : Fr [14] [] i g (i, g) := Fr_rf _ _ _ _
  refine lv_aload_n hx hb dX3_takeNumber_0 rfl (lv_at hl 0 rfl) ?_
  refine r_geti X hT 14 6 fk_3_28 rfl rfl (by decide) dX3_takeNumber_1 ?_
  refine lv_if_eq (tgt := 9) hx hb dX3_takeNumber_4 (by decide) (fun c1 => ?_) (fun c1 => ?_)
  ·
    have q1 : (i 14 6).toInt = 0 := i_eq c1
    have h2 : rg 0 0 (i 14 6) := t_eqx 0 0 (Rg_at hR 14 6 0 3 (by decide) rfl) (rg_k (by decide) : rg 0 0 0) (i_eq c1) (by decide)
    refine lv_aload_n hx hb dX3_takeNumber_9 rfl (lv_at hl 0 rfl) ?_
    refine r_geti X hT 14 2 fk_3_37 rfl rfl (by decide) dX3_takeNumber_10 ?_
    refine lv_iconst (v := 2) hx hb dX3_takeNumber_13 (by decide) ?_
    refine lv_icmp_ne (tgt := 33) hx hb dX3_takeNumber_14 (by decide) (fun c3 => ?_) (fun c3 => ?_)
    ·
      have q3 : ¬ (i 14 2).toInt = 2 := i_ne c3
      refine lv_aload_n hx hb dX3_takeNumber_33 rfl (lv_at hl 0 rfl) ?_
      refine lv_aload_n hx hb dX3_takeNumber_34 rfl (lv_at hl 0 rfl) ?_
      refine r_geti X hT 14 2 fk_3_37 rfl rfl (by decide) dX3_takeNumber_35 ?_
      refine lv_iconst (v := 2) hx hb dX3_takeNumber_38 (by decide) ?_
      refine lv_icmp_ne (tgt := 46) hx hb dX3_takeNumber_39 (by decide) (fun c4 => ?_) (fun c4 => ?_)
      ·
        have q4 : ¬ (i 14 2).toInt = 2 := i_ne c4
        refine lv_iconst (v := 1) hx hb dX3_takeNumber_46 (by decide) ?_
        refine e_Vi (As := [.int 1]) (rest := []) X Y hT hS (m_X3_refuse hR (1) (rg_w (rg_k (by decide) : rg 1 1 1) (by decide) : rg 1 3 1)) mk_X3_refuse gm_596 rfl rfl (by decide) hd_X3_refuse ⟨rfl, rfl⟩ ⟨Nat.le_of_ble_eq_true rfl, Nat.le_of_ble_eq_true rfl⟩ hl.1 rfl (Nat.le_of_ble_eq_true rfl) dX3_takeNumber_47 ⟨Nat.zero_le _, Nat.zero_le _⟩ (fun r5 i5 g5 H locs hq hT hS => ?_)
        obtain ⟨hR5, hf5, rfl, hf5_0⟩ := hq
        have hF5 := Fr_tr hF hf5 (by decide)
        have h6 : rg 1 3 (i5 14 6) := hf5_0
        refine lv_pop hx hb dX3_takeNumber_50 rfl ?_
        refine lv_iconst (v := (-1)) hx hb dX3_takeNumber_51 (by decide) ?_
        exact hret (-1) _ _ _ _ _ _ dX3_takeNumber_52 hT hS (Or.inl ⟨hR5, hF5, rfl, h6⟩)
      ·
        have q4 : (i 14 2).toInt = 2 := i_eq c4
        have h7 : rg 2 2 (i 14 2) := t_eqx 2 2 (rg_top (i 14 2)) (rg_k (by decide) : rg 2 2 2) (i_eq c4) (by decide)
        refine lv_iconst (v := 2) hx hb dX3_takeNumber_42 (by decide) ?_
        refine lv_goto (tgt := 47) hx hb dX3_takeNumber_43 (by decide) ?_
        refine e_Vi (As := [.int 2]) (rest := []) X Y hT hS (m_X3_refuse hR (2) (rg_w (rg_k (by decide) : rg 2 2 2) (by decide) : rg 1 3 2)) mk_X3_refuse gm_596 rfl rfl (by decide) hd_X3_refuse ⟨rfl, rfl⟩ ⟨Nat.le_of_ble_eq_true rfl, Nat.le_of_ble_eq_true rfl⟩ hl.1 rfl (Nat.le_of_ble_eq_true rfl) dX3_takeNumber_47 ⟨Nat.zero_le _, Nat.zero_le _⟩ (fun r8 i8 g8 H locs hq hT hS => ?_)
        obtain ⟨hR8, hf8, rfl, hf8_0⟩ := hq
        have hF8 := Fr_tr hF hf8 (by decide)
        have h9 : rg 1 3 (i8 14 6) := hf8_0
        refine lv_pop hx hb dX3_takeNumber_50 rfl ?_
        refine lv_iconst (v := (-1)) hx hb dX3_takeNumber_51 (by decide) ?_
        exact hret (-1) _ _ _ _ _ _ dX3_takeNumber_52 hT hS (Or.inl ⟨hR8, hF8, rfl, h9⟩)
    ·
      have q3 : (i 14 2).toInt = 2 := i_eq c3
      have h10 : rg 2 2 (i 14 2) := t_eqx 2 2 (rg_top (i 14 2)) (rg_k (by decide) : rg 2 2 2) (i_eq c3) (by decide)
      refine lv_aload_n hx hb dX3_takeNumber_17 rfl (lv_at hl 0 rfl) ?_
      refine r_geti X hT 14 5 fk_3_118 rfl rfl (by decide) dX3_takeNumber_18 ?_
      refine lv_iload_n hx hb dX3_takeNumber_21 rfl (lv_at hl 1 rfl) ?_
      refine lv_icmp_lt (tgt := 33) hx hb dX3_takeNumber_22 (by decide) (fun c11 => ?_) (fun c11 => ?_)
      ·
        have q11 : (i 14 5).toInt < a_a.toInt := i_lt c11
        have h12 : rg (-2147483648) 2147483646 (i 14 5) := t_ltx (-2147483648) 2147483646 (rg_top (i 14 5)) (rg_top a_a) (i_lt c11) (by decide)
        have h13 : rg (-2147483647) 2147483647 a_a := t_lty (-2147483647) 2147483647 (rg_top (i 14 5)) (rg_top a_a) (i_lt c11) (by decide)
        refine lv_aload_n hx hb dX3_takeNumber_33 rfl (lv_at hl 0 rfl) ?_
        refine lv_aload_n hx hb dX3_takeNumber_34 rfl (lv_at hl 0 rfl) ?_
        refine r_geti X hT 14 2 fk_3_37 rfl rfl (by decide) dX3_takeNumber_35 ?_
        refine lv_iconst (v := 2) hx hb dX3_takeNumber_38 (by decide) ?_
        refine lv_icmp_ne (tgt := 46) hx hb dX3_takeNumber_39 (by decide) (fun c14 => (x_ne h10 (rg_k (by decide) : rg 2 2 2) (i_ne c14) (by decide)).elim) (fun c14 => ?_)
        have q14 : (i 14 2).toInt = 2 := i_eq c14
        refine lv_iconst (v := 2) hx hb dX3_takeNumber_42 (by decide) ?_
        refine lv_goto (tgt := 47) hx hb dX3_takeNumber_43 (by decide) ?_
        refine e_Vi (As := [.int 2]) (rest := []) X Y hT hS (m_X3_refuse hR (2) (rg_w (rg_k (by decide) : rg 2 2 2) (by decide) : rg 1 3 2)) mk_X3_refuse gm_596 rfl rfl (by decide) hd_X3_refuse ⟨rfl, rfl⟩ ⟨Nat.le_of_ble_eq_true rfl, Nat.le_of_ble_eq_true rfl⟩ hl.1 rfl (Nat.le_of_ble_eq_true rfl) dX3_takeNumber_47 ⟨Nat.zero_le _, Nat.zero_le _⟩ (fun r15 i15 g15 H locs hq hT hS => ?_)
        obtain ⟨hR15, hf15, rfl, hf15_0⟩ := hq
        have hF15 := Fr_tr hF hf15 (by decide)
        have h16 : rg 1 3 (i15 14 6) := hf15_0
        refine lv_pop hx hb dX3_takeNumber_50 rfl ?_
        refine lv_iconst (v := (-1)) hx hb dX3_takeNumber_51 (by decide) ?_
        exact hret (-1) _ _ _ _ _ _ dX3_takeNumber_52 hT hS (Or.inl ⟨hR15, hF15, rfl, h16⟩)
      ·
        have q11 : a_a.toInt ≤ (i 14 5).toInt := i_nlt c11
        refine lv_aload_n hx hb dX3_takeNumber_25 rfl (lv_at hl 0 rfl) ?_
        refine r_geti X hT 14 5 fk_3_118 rfl rfl (by decide) dX3_takeNumber_26 ?_
        refine lv_iload_n hx hb dX3_takeNumber_29 rfl (lv_at hl 2 rfl) ?_
        refine lv_icmp_le (tgt := 53) hx hb dX3_takeNumber_30 (by decide) (fun c17 => ?_) (fun c17 => ?_)
        ·
          have q17 : (i 14 5).toInt ≤ a_b.toInt := i_le c17
          refine lv_aload_n hx hb dX3_takeNumber_53 rfl (lv_at hl 0 rfl) ?_
          refine r_geti X hT 14 5 fk_3_118 rfl rfl (by decide) dX3_takeNumber_54 ?_
          refine lv_istore_n (lv' := [(3, .int (i 14 5)), (0, .ref (h 14)), (1, .int a_a), (2, .int a_b)]) hx hb dX3_takeNumber_57 rfl hl (by decide) rfl (fun ls hl => ?_)
          refine lv_aload_n hx hb dX3_takeNumber_58 rfl (lv_at hl 1 rfl) ?_
          refine e_Vv (As := []) (rest := []) X Y hT hS (m_X3_advance hR) mk_X3_advance gm_517 rfl rfl (by decide) hd_X3_advance ⟨rfl, rfl⟩ ⟨Nat.le_of_ble_eq_true rfl, Nat.le_of_ble_eq_true rfl⟩ hl.1 rfl (Nat.le_of_ble_eq_true rfl) dX3_takeNumber_59 ⟨Nat.zero_le _, Nat.zero_le _⟩ (fun i18 g18 H locs hq hT hS => ?_)
          obtain ⟨hR18, hf18, hf18_0⟩ := hq
          have hF18 := Fr_tr hF hf18 (by decide)
          refine lv_iload_n hx hb dX3_takeNumber_62 rfl (lv_at hl 0 rfl) ?_
          have e19 : (i18 14 6) = (i 14 6) := hf18_0
          have h20 : rg 0 0 (i18 14 6) := rg_of e19 h2
          exact hret (i 14 5) _ _ _ _ _ _ dX3_takeNumber_63 hT hS (Or.inr ⟨hR18, hF18, h2, h20, (by omega)⟩)
        ·
          have q17 : a_b.toInt < (i 14 5).toInt := i_nle c17
          have h21 : rg (-2147483648) 2147483646 a_b := t_ltx (-2147483648) 2147483646 (rg_top a_b) (rg_top (i 14 5)) (i_nle c17) (by decide)
          have h22 : rg (-2147483647) 2147483647 (i 14 5) := t_lty (-2147483647) 2147483647 (rg_top a_b) (rg_top (i 14 5)) (i_nle c17) (by decide)
          refine lv_aload_n hx hb dX3_takeNumber_33 rfl (lv_at hl 0 rfl) ?_
          refine lv_aload_n hx hb dX3_takeNumber_34 rfl (lv_at hl 0 rfl) ?_
          refine r_geti X hT 14 2 fk_3_37 rfl rfl (by decide) dX3_takeNumber_35 ?_
          refine lv_iconst (v := 2) hx hb dX3_takeNumber_38 (by decide) ?_
          refine lv_icmp_ne (tgt := 46) hx hb dX3_takeNumber_39 (by decide) (fun c23 => (x_ne h10 (rg_k (by decide) : rg 2 2 2) (i_ne c23) (by decide)).elim) (fun c23 => ?_)
          have q23 : (i 14 2).toInt = 2 := i_eq c23
          refine lv_iconst (v := 2) hx hb dX3_takeNumber_42 (by decide) ?_
          refine lv_goto (tgt := 47) hx hb dX3_takeNumber_43 (by decide) ?_
          refine e_Vi (As := [.int 2]) (rest := []) X Y hT hS (m_X3_refuse hR (2) (rg_w (rg_k (by decide) : rg 2 2 2) (by decide) : rg 1 3 2)) mk_X3_refuse gm_596 rfl rfl (by decide) hd_X3_refuse ⟨rfl, rfl⟩ ⟨Nat.le_of_ble_eq_true rfl, Nat.le_of_ble_eq_true rfl⟩ hl.1 rfl (Nat.le_of_ble_eq_true rfl) dX3_takeNumber_47 ⟨Nat.zero_le _, Nat.zero_le _⟩ (fun r24 i24 g24 H locs hq hT hS => ?_)
          obtain ⟨hR24, hf24, rfl, hf24_0⟩ := hq
          have hF24 := Fr_tr hF hf24 (by decide)
          have h25 : rg 1 3 (i24 14 6) := hf24_0
          refine lv_pop hx hb dX3_takeNumber_50 rfl ?_
          refine lv_iconst (v := (-1)) hx hb dX3_takeNumber_51 (by decide) ?_
          exact hret (-1) _ _ _ _ _ _ dX3_takeNumber_52 hT hS (Or.inl ⟨hR24, hF24, rfl, h25⟩)
  ·
    have q1 : ¬ (i 14 6).toInt = 0 := i_ne c1
    have h26 : rg 1 3 (i 14 6) := t_nelo 1 (Rg_at hR 14 6 0 3 (by decide) rfl) (rg_k (by decide) : rg 0 0 0) (i_ne c1) (by decide)
    refine lv_iconst (v := (-1)) hx hb dX3_takeNumber_7 (by decide) ?_
    exact hret (-1) _ _ _ _ _ _ dX3_takeNumber_8 hT hS (Or.inl ⟨hR, hF, rfl, h26⟩)
set_option maxRecDepth 100000 in
set_option maxHeartbeats 4000000 in
theorem m_X3_takeNamed {l : Launch} {D : va_G} {h : Nat → Nat} {cz : Nat → ClassId} {z : EZ} {i : Nat → Nat → Int32} {g : Nat → Nat → Int64} (hR : Rg rA i) (q0 : Nat) (hq0 : q0 < 11) (a_b : Int32) (a_c : Int32) : DtI l yX3_takeNamed cX3_takeNamed 4 (some .int) ({ frames := 6, cells := 0, slots := 0, locals := 128 } : Room) D h cz z i g [.ref (h 14), .ref (z.1 q0), .int a_b, .int a_c] (fun r u => (Rg rA u.1 ∧ Fr [14] [] i g u ∧ r = (-1) ∧ rg 1 3 (u.1 14 6)) ∨ (Rg rA u.1 ∧ Fr [14] [] i g u ∧ rg 0 0 (i 14 6) ∧ rg 0 0 (u.1 14 6) ∧ (a_b.toInt ≤ r.toInt ∧ r.toInt ≤ a_c.toInt))) := by
  refine e_I pn_X3_takeNamed (Nat.le_of_ble_eq_true rfl) ?_
  intro p e s m args below meth c ls Q X Y hret hT hl hS
  have hx := X.1
  have hb := X.2.1
  have hl : lv_has ls 4 [(0, .ref (h 14)), (1, .ref (z.1 q0)), (2, .int a_b), (3, .int a_c)] := hl
  have hF : Fr [14] [] i g (i, g) := Fr_rf _ _ _ _
  refine lv_aload_n hx hb dX3_takeNamed_0 rfl (lv_at hl 0 rfl) ?_
  refine lv_aload_n hx hb dX3_takeNamed_1 rfl (lv_at hl 1 rfl) ?_
  refine e_Vv (As := [.ref (z.1 q0)]) (rest := []) X Y hT hS (m_X3_takeWord hR q0 hq0) mk_X3_takeWord gm_540 rfl rfl (by decide) hd_X3_takeWord ⟨rfl, rfl⟩ ⟨Nat.le_of_ble_eq_true rfl, Nat.le_of_ble_eq_true rfl⟩ hl.1 rfl (Nat.le_of_ble_eq_true rfl) dX3_takeNamed_2 ⟨Nat.zero_le _, Nat.zero_le _⟩ (fun i1 g1 H locs hq hT hS => ?_)
  rcases hq with hq | hq
  ·
    obtain ⟨hR1, hf1, hf1_0, hf1_1⟩ := hq
    have hF1 := Fr_tr hF hf1 (by decide)
    have h2 : rg 0 0 (i 14 6) := hf1_0
    have h3 : rg 0 0 (i1 14 6) := hf1_1
    refine lv_aload_n hx hb dX3_takeNamed_5 rfl (lv_at hl 0 rfl) ?_
    refine lv_iload_n hx hb dX3_takeNamed_6 rfl (lv_at hl 2 rfl) ?_
    refine lv_iload_n hx hb dX3_takeNamed_7 rfl (lv_at hl 3 rfl) ?_
    refine e_Vi (As := [.int a_b, .int a_c]) (rest := []) X Y hT hS (m_X3_takeNumber hR1 a_b a_c) mk_X3_takeNumber gm_605 rfl rfl (by decide) hd_X3_takeNumber ⟨rfl, rfl⟩ ⟨Nat.le_of_ble_eq_true rfl, Nat.le_of_ble_eq_true rfl⟩ hl.1 rfl (Nat.le_of_ble_eq_true rfl) dX3_takeNamed_8 ⟨Nat.zero_le _, Nat.zero_le _⟩ (fun r4 i4 g4 H locs hq hT hS => ?_)
    rcases hq with hq | hq
    ·
      obtain ⟨hR4, hf4, rfl, hf4_0⟩ := hq
      have hF4 := Fr_tr hF1 hf4 (by decide)
      have h5 : rg 1 3 (i4 14 6) := hf4_0
      exact hret (-1) _ _ _ _ _ _ dX3_takeNamed_11 hT hS (Or.inl ⟨hR4, hF4, rfl, h5⟩)
    ·
      obtain ⟨hR4, hf4, hf4_0, hf4_1, hf4_2⟩ := hq
      have hF4 := Fr_tr hF1 hf4 (by decide)
      have h6 : rg 0 0 (i4 14 6) := hf4_1
      replace hf4_2 : a_b.toInt ≤ r4.toInt ∧ r4.toInt ≤ a_c.toInt := hf4_2
      have h7 : rg (-2147483648) 2147483647 r4 := ⟨by have := (rg_top a_b).1; have := (rg_top a_b).2; have := (rg_top a_c).1; have := (rg_top a_c).2; omega, by have := (rg_top a_b).1; have := (rg_top a_b).2; have := (rg_top a_c).1; have := (rg_top a_c).2; omega⟩
      exact hret r4 _ _ _ _ _ _ dX3_takeNamed_11 hT hS (Or.inr ⟨hR4, hF4, h2, h6, (by have := h7.1; have := h7.2; omega)⟩)
  ·
    obtain ⟨hR1, hf1, hf1_0⟩ := hq
    have hF1 := Fr_tr hF hf1 (by decide)
    have h8 : rg 1 3 (i1 14 6) := hf1_0
    refine lv_aload_n hx hb dX3_takeNamed_5 rfl (lv_at hl 0 rfl) ?_
    refine lv_iload_n hx hb dX3_takeNamed_6 rfl (lv_at hl 2 rfl) ?_
    refine lv_iload_n hx hb dX3_takeNamed_7 rfl (lv_at hl 3 rfl) ?_
    refine e_Vi (As := [.int a_b, .int a_c]) (rest := []) X Y hT hS (m_X3_takeNumber hR1 a_b a_c) mk_X3_takeNumber gm_605 rfl rfl (by decide) hd_X3_takeNumber ⟨rfl, rfl⟩ ⟨Nat.le_of_ble_eq_true rfl, Nat.le_of_ble_eq_true rfl⟩ hl.1 rfl (Nat.le_of_ble_eq_true rfl) dX3_takeNamed_8 ⟨Nat.zero_le _, Nat.zero_le _⟩ (fun r9 i9 g9 H locs hq hT hS => ?_)
    rcases hq with hq | hq
    ·
      obtain ⟨hR9, hf9, rfl, hf9_0⟩ := hq
      have hF9 := Fr_tr hF1 hf9 (by decide)
      have h10 : rg 1 3 (i9 14 6) := hf9_0
      exact hret (-1) _ _ _ _ _ _ dX3_takeNamed_11 hT hS (Or.inl ⟨hR9, hF9, rfl, h10⟩)
    ·
      obtain ⟨hR9, hf9, hf9_0, hf9_1, hf9_2⟩ := hq
      have hF9 := Fr_tr hF1 hf9 (by decide)
      exact (x_eq h8 (show rg 0 0 (i1 14 6) from hf9_0) rfl (by decide)).elim
set_option maxRecDepth 100000 in
set_option maxHeartbeats 4000000 in
theorem m_X6_addPart_3 {l : Launch} {D : va_G} {h : Nat → Nat} {cz : Nat → ClassId} {z : EZ} {i : Nat → Nat → Int32} {g : Nat → Nat → Int64} (hR : Rg rA i) (a_a : Int32) (a_b : Int32) (a_c : Int32) (ha_a : rg 0 60 a_a) (ha_b : rg 0 9 a_b) (ha_c : rg 0 60 a_c) : DtV l yX6_addPart cX6_addPart 4 none ({ frames := 0, cells := 0, slots := 0, locals := 0 } : Room) D h cz z i g [.ref (h 3), .int a_a, .int a_b, .int a_c] (fun u => Rg rA u.1 ∧ Fr [3, 4, 5, 6] [] i g u) := by
  refine e_V pn_X6_addPart (Nat.le_of_ble_eq_true rfl) ?_
  intro p e s m args below meth c ls Q X Y hret hT hl hS
  have hx := X.1
  have hb := X.2.1
  have hl : lv_has ls 4 [(0, .ref (h 3)), (1, .int a_a), (2, .int a_b), (3, .int a_c)] := hl
  have hF : Fr [3, 4, 5, 6] [] i g (i, g) := Fr_rf _ _ _ _
  refine lv_aload_n hx hb dX6_addPart_0 rfl (lv_at hl 0 rfl) ?_
  refine r_geti X hT 3 13 fk_6_52 rfl rfl (by decide) dX6_addPart_1 ?_
  refine lv_bipush (v := 6) hx hb dX6_addPart_4 (by decide) ?_
  refine lv_icmp_ge (tgt := 49) hx hb dX6_addPart_6 (by decide) (fun c1 => ?_) (fun c1 => ?_)
  ·
    have q1 : 6 ≤ (i 3 13).toInt := i_le c1
    have h2 : rg 6 6 (i 3 13) := t_ley 6 6 (rg_k (by decide) : rg 6 6 6) (Rg_at hR 3 13 0 6 (by decide) rfl) (i_le c1) (by decide)
    exact hret _ _ _ _ _ _ dX6_addPart_49 hT hS ⟨hR, hF⟩
  ·
    have q1 : (i 3 13).toInt < 6 := i_nle c1
    have h3 : rg 0 5 (i 3 13) := t_ltx 0 5 (Rg_at hR 3 13 0 6 (by decide) rfl) (rg_k (by decide) : rg 6 6 6) (i_nle c1) (by decide)
    refine lv_aload_n hx hb dX6_addPart_9 rfl (lv_at hl 0 rfl) ?_
    refine r_getr X hT 3 0 4 fk_6_9 rfl rfl (by decide) dX6_addPart_10 ?_
    refine lv_aload_n hx hb dX6_addPart_13 rfl (lv_at hl 0 rfl) ?_
    refine r_geti X hT 3 13 fk_6_52 rfl rfl (by decide) dX6_addPart_14 ?_
    refine lv_iload_n hx hb dX6_addPart_17 rfl (lv_at hl 1 rfl) ?_
    refine r_iast X hT hS 4 rfl (by decide) (v_in h3 (by decide)) dX6_addPart_18 (fun H locs i4 ei4 hT hS => ?_)
    have hR4 := Rg_put hR ei4 0 60 rfl ha_a (by decide)
    have hF4 := Fr_puti hF ei4 (by decide)
    refine lv_aload_n hx hb dX6_addPart_19 rfl (lv_at hl 0 rfl) ?_
    refine r_getr X hT 3 1 5 fk_6_15 rfl rfl (by decide) dX6_addPart_20 ?_
    refine lv_aload_n hx hb dX6_addPart_23 rfl (lv_at hl 0 rfl) ?_
    refine r_geti X hT 3 13 fk_6_52 rfl rfl (by decide) dX6_addPart_24 ?_
    have e5 : (i4 3 13) = (i 3 13) := (z_j ei4 rfl (by decide))
    have h6 : rg 0 5 (i4 3 13) := rg_of e5 h3
    refine lv_iload_n hx hb dX6_addPart_27 rfl (lv_at hl 2 rfl) ?_
    refine r_iast X hT hS 5 rfl (by decide) (v_in h6 (by decide)) dX6_addPart_28 (fun H locs i7 ei7 hT hS => ?_)
    have hR7 := Rg_put hR4 ei7 0 9 rfl ha_b (by decide)
    have hF7 := Fr_puti hF4 ei7 (by decide)
    refine lv_aload_n hx hb dX6_addPart_29 rfl (lv_at hl 0 rfl) ?_
    refine r_getr X hT 3 2 6 fk_6_18 rfl rfl (by decide) dX6_addPart_30 ?_
    refine lv_aload_n hx hb dX6_addPart_33 rfl (lv_at hl 0 rfl) ?_
    refine r_geti X hT 3 13 fk_6_52 rfl rfl (by decide) dX6_addPart_34 ?_
    have e8 : (i7 3 13) = (i 3 13) := (z_j ei7 (z_j ei4 rfl (by decide)) (by decide))
    have h9 : rg 0 5 (i7 3 13) := rg_of e8 h3
    refine lv_iload_n hx hb dX6_addPart_37 rfl (lv_at hl 3 rfl) ?_
    refine r_iast X hT hS 6 rfl (by decide) (v_in h9 (by decide)) dX6_addPart_38 (fun H locs i10 ei10 hT hS => ?_)
    have hR10 := Rg_put hR7 ei10 0 60 rfl ha_c (by decide)
    have hF10 := Fr_puti hF7 ei10 (by decide)
    refine lv_aload_n hx hb dX6_addPart_39 rfl (lv_at hl 0 rfl) ?_
    refine lv_dup hx hb dX6_addPart_40 rfl ?_
    refine r_geti X hT 3 13 fk_6_52 rfl rfl (by decide) dX6_addPart_41 ?_
    have e11 : (i10 3 13) = (i 3 13) := (z_j ei10 (z_j ei7 (z_j ei4 rfl (by decide)) (by decide)) (by decide))
    have h12 : rg 0 5 (i10 3 13) := rg_of e11 h3
    refine lv_iconst (v := 1) hx hb dX6_addPart_44 (by decide) ?_
    refine q_iadd hx hb dX6_addPart_45 (fun x13 ex13 => ?_)
    obtain ⟨hx13, ax13⟩ := rg_add 1 6 ex13 h12 (rg_k (by decide) : rg 1 1 1) (by decide)
    replace ax13 : x13.toInt = (i10 3 13).toInt + 1 := ax13
    refine r_puti X hT hS 3 13 pk_6_52 rfl rfl rfl rfl (by decide) dX6_addPart_46 (fun H locs i14 ei14 hT hS => ?_)
    have hR14 := Rg_put hR10 ei14 0 6 rfl hx13 (by decide)
    have hF14 := Fr_puti hF10 ei14 (by decide)
    exact hret _ _ _ _ _ _ dX6_addPart_49 hT hS ⟨hR14, hF14⟩
set_option maxRecDepth 100000 in
set_option maxHeartbeats 4000000 in
theorem m_X3_takePart {l : Launch} {D : va_G} {h : Nat → Nat} {cz : Nat → ClassId} {z : EZ} {i : Nat → Nat → Int32} {g : Nat → Nat → Int64} (hR : Rg rA i) : DtI l yX3_takePart cX3_takePart 4 (some .boolean) ({ frames := 7, cells := 0, slots := 0, locals := 151 } : Room) D h cz z i g [.ref (h 14)] (fun r u => Rg rA u.1 ∧ Fr [3, 4, 5, 6, 14] [] i g u ∧ rg 0 1 r) := by
  refine e_Z (fun v u hq => (z01 hq.2.2)) pn_X3_takePart (Nat.le_of_ble_eq_true rfl) ?_
  intro p e s m args below meth c ls Q X Y hret hT hl hS
  have hx := X.1
  have hb := X.2.1
  have hl : lv_has ls 4 [(0, .ref (h 14))] := hl
  have hF : Fr [3, 4, 5, 6, 14] [] i g (i, g) := Fr_rf _ _ _ _
  refine lv_aload_n hx hb dX3_takePart_0 rfl (lv_at hl 0 rfl) ?_
  refine r_getr X hT 14 1 3 fk_3_19 rfl rfl (by decide) dX3_takePart_1 ?_
  refine r_geti X hT 3 13 fk_3_98 rfl rfl (by decide) dX3_takePart_4 ?_
  refine lv_bipush (v := 6) hx hb dX3_takePart_7 (by decide) ?_
  refine lv_icmp_lt (tgt := 18) hx hb dX3_takePart_9 (by decide) (fun c1 => ?_) (fun c1 => ?_)
  ·
    have q1 : (i 3 13).toInt < 6 := i_lt c1
    have h2 : rg 0 5 (i 3 13) := t_ltx 0 5 (Rg_at hR 3 13 0 6 (by decide) rfl) (rg_k (by decide) : rg 6 6 6) (i_lt c1) (by decide)
    refine lv_aload_n hx hb dX3_takePart_18 rfl (lv_at hl 0 rfl) ?_
    refine e_Vv (As := []) (rest := []) X Y hT hS (m_X3_advance hR) mk_X3_advance gm_517 rfl rfl (by decide) hd_X3_advance ⟨rfl, rfl⟩ ⟨Nat.le_of_ble_eq_true rfl, Nat.le_of_ble_eq_true rfl⟩ hl.1 rfl (Nat.le_of_ble_eq_true rfl) dX3_takePart_19 ⟨Nat.zero_le _, Nat.zero_le _⟩ (fun i3 g3 H locs hq hT hS => ?_)
    obtain ⟨hR3, hf3, hf3_0⟩ := hq
    have hF3 := Fr_tr hF hf3 (by decide)
    refine lv_aload_n hx hb dX3_takePart_22 rfl (lv_at hl 0 rfl) ?_
    refine va_ldcS hx hb X.2.2.2.1 Y.s5 dX3_takePart_23 ?_
    refine lv_iconst (v := 0) hx hb dX3_takePart_25 (by decide) ?_
    refine lv_bipush (v := 60) hx hb dX3_takePart_26 (by decide) ?_
    refine e_Vi (As := [.ref (z.1 5), .int 0, .int 60]) (rest := []) X Y hT hS (m_X3_takeNamed hR3 5 (by decide) (0) (60)) mk_X3_takeNamed gm_601 rfl rfl (by decide) hd_X3_takeNamed ⟨rfl, rfl⟩ ⟨Nat.le_of_ble_eq_true rfl, Nat.le_of_ble_eq_true rfl⟩ hl.1 rfl (Nat.le_of_ble_eq_true rfl) dX3_takePart_28 ⟨Nat.zero_le _, Nat.zero_le _⟩ (fun r4 i4 g4 H locs hq hT hS => ?_)
    rcases hq with hq | hq
    ·
      obtain ⟨hR4, hf4, rfl, hf4_0⟩ := hq
      have hF4 := Fr_tr hF3 hf4 (by decide)
      have h5 : rg 1 3 (i4 14 6) := hf4_0
      refine lv_istore_n (lv' := [(1, .int (-1)), (0, .ref (h 14))]) hx hb dX3_takePart_31 rfl hl (by decide) rfl (fun ls hl => ?_)
      refine lv_aload_n hx hb dX3_takePart_32 rfl (lv_at hl 1 rfl) ?_
      refine va_ldcS hx hb X.2.2.2.1 Y.s6 dX3_takePart_33 ?_
      refine lv_iconst (v := 0) hx hb dX3_takePart_35 (by decide) ?_
      refine lv_bipush (v := 9) hx hb dX3_takePart_36 (by decide) ?_
      refine e_Vi (As := [.ref (z.1 6), .int 0, .int 9]) (rest := []) X Y hT hS (m_X3_takeNamed hR4 6 (by decide) (0) (9)) mk_X3_takeNamed gm_601 rfl rfl (by decide) hd_X3_takeNamed ⟨rfl, rfl⟩ ⟨Nat.le_of_ble_eq_true rfl, Nat.le_of_ble_eq_true rfl⟩ hl.1 rfl (Nat.le_of_ble_eq_true rfl) dX3_takePart_38 ⟨Nat.zero_le _, Nat.zero_le _⟩ (fun r6 i6 g6 H locs hq hT hS => ?_)
      rcases hq with hq | hq
      ·
        obtain ⟨hR6, hf6, rfl, hf6_0⟩ := hq
        have hF6 := Fr_tr hF4 hf6 (by decide)
        have h7 : rg 1 3 (i6 14 6) := hf6_0
        refine lv_istore_n (lv' := [(2, .int (-1)), (1, .int (-1)), (0, .ref (h 14))]) hx hb dX3_takePart_41 rfl hl (by decide) rfl (fun ls hl => ?_)
        refine lv_aload_n hx hb dX3_takePart_42 rfl (lv_at hl 2 rfl) ?_
        refine va_ldcS hx hb X.2.2.2.1 Y.s7 dX3_takePart_43 ?_
        refine e_Vi (As := [.ref (z.1 7)]) (rest := []) X Y hT hS (m_X3_isWord hR6 7 (by decide)) mk_X3_isWord gm_544 rfl rfl (by decide) hd_X3_isWord ⟨rfl, rfl⟩ ⟨Nat.le_of_ble_eq_true rfl, Nat.le_of_ble_eq_true rfl⟩ hl.1 rfl (Nat.le_of_ble_eq_true rfl) dX3_takePart_45 ⟨Nat.zero_le _, Nat.zero_le _⟩ (fun r8 i8 g8 H locs hq hT hS => ?_)
        rcases hq with hq | hq
        ·
          obtain ⟨eh8, rfl, hf8_0⟩ := hq
          rw [(Prod.mk.inj eh8).1, (Prod.mk.inj eh8).2] at hT
          exact (x_eq h7 (show rg 0 0 (i6 14 6) from hf8_0) rfl (by decide)).elim
        ·
          obtain ⟨eh8, rfl⟩ := hq
          rw [(Prod.mk.inj eh8).1, (Prod.mk.inj eh8).2] at hT
          refine lv_if_eq (tgt := 63) hx hb dX3_takePart_48 (by decide) (fun c9 => ?_) (fun c9 => (x_ne (rg_k (by decide) : rg 0 0 0) (rg_k (by decide) : rg 0 0 0) (i_ne c9) (by decide)).elim)
          refine lv_iconst (v := 0) hx hb dX3_takePart_63 (by decide) ?_
          refine lv_istore_n (lv' := [(3, .int 0), (2, .int (-1)), (1, .int (-1)), (0, .ref (h 14))]) hx hb dX3_takePart_64 rfl hl (by decide) rfl (fun ls hl => ?_)
          refine lv_aload_n hx hb dX3_takePart_65 rfl (lv_at hl 3 rfl) ?_
          refine r_geti X hT 14 6 fk_3_28 rfl rfl (by decide) dX3_takePart_66 ?_
          refine lv_if_ne (tgt := 82) hx hb dX3_takePart_69 (by decide) (fun c10 => ?_) (fun c10 => (x_eq h7 (rg_k (by decide) : rg 0 0 0) (i_eq c10) (by decide)).elim)
          have q10 : ¬ (i6 14 6).toInt = 0 := i_ne c10
          refine lv_aload_n hx hb dX3_takePart_82 rfl (lv_at hl 3 rfl) ?_
          refine r_geti X hT 14 6 fk_3_28 rfl rfl (by decide) dX3_takePart_83 ?_
          refine lv_if_ne (tgt := 93) hx hb dX3_takePart_86 (by decide) (fun c11 => ?_) (fun c11 => (x_eq h7 (rg_k (by decide) : rg 0 0 0) (i_eq c11) (by decide)).elim)
          have q11 : ¬ (i6 14 6).toInt = 0 := i_ne c11
          refine lv_iconst (v := 0) hx hb dX3_takePart_93 (by decide) ?_
          exact hret 0 _ _ _ _ _ _ dX3_takePart_94 hT hS ⟨hR6, hF6, (rg_w (rg_k (by decide) : rg 0 0 0) (by decide) : rg 0 1 0)⟩
      ·
        obtain ⟨hR6, hf6, hf6_0, hf6_1, hf6_2⟩ := hq
        have hF6 := Fr_tr hF4 hf6 (by decide)
        exact (x_eq h5 (show rg 0 0 (i4 14 6) from hf6_0) rfl (by decide)).elim
    ·
      obtain ⟨hR4, hf4, hf4_0, hf4_1, hf4_2⟩ := hq
      have hF4 := Fr_tr hF3 hf4 (by decide)
      have e12 : (i3 14 6) = (i 14 6) := hf3_0
      have h13 : rg 0 3 (i3 14 6) := rg_of e12 (Rg_at hR 14 6 0 3 (by decide) rfl)
      have h14 : rg 0 0 (i3 14 6) := hf4_0
      have h15 : rg 0 0 (i 14 6) := rg_fo e12 h14
      have h16 : rg 0 0 (i4 14 6) := hf4_1
      replace hf4_2 : 0 ≤ r4.toInt ∧ r4.toInt ≤ 60 := hf4_2
      have h17 : rg 0 60 r4 := ⟨by omega, by omega⟩
      refine lv_istore_n (lv' := [(1, .int r4), (0, .ref (h 14))]) hx hb dX3_takePart_31 rfl hl (by decide) rfl (fun ls hl => ?_)
      refine lv_aload_n hx hb dX3_takePart_32 rfl (lv_at hl 1 rfl) ?_
      refine va_ldcS hx hb X.2.2.2.1 Y.s6 dX3_takePart_33 ?_
      refine lv_iconst (v := 0) hx hb dX3_takePart_35 (by decide) ?_
      refine lv_bipush (v := 9) hx hb dX3_takePart_36 (by decide) ?_
      refine e_Vi (As := [.ref (z.1 6), .int 0, .int 9]) (rest := []) X Y hT hS (m_X3_takeNamed hR4 6 (by decide) (0) (9)) mk_X3_takeNamed gm_601 rfl rfl (by decide) hd_X3_takeNamed ⟨rfl, rfl⟩ ⟨Nat.le_of_ble_eq_true rfl, Nat.le_of_ble_eq_true rfl⟩ hl.1 rfl (Nat.le_of_ble_eq_true rfl) dX3_takePart_38 ⟨Nat.zero_le _, Nat.zero_le _⟩ (fun r18 i18 g18 H locs hq hT hS => ?_)
      rcases hq with hq | hq
      ·
        obtain ⟨hR18, hf18, rfl, hf18_0⟩ := hq
        have hF18 := Fr_tr hF4 hf18 (by decide)
        have h19 : rg 1 3 (i18 14 6) := hf18_0
        refine lv_istore_n (lv' := [(2, .int (-1)), (1, .int r4), (0, .ref (h 14))]) hx hb dX3_takePart_41 rfl hl (by decide) rfl (fun ls hl => ?_)
        refine lv_aload_n hx hb dX3_takePart_42 rfl (lv_at hl 2 rfl) ?_
        refine va_ldcS hx hb X.2.2.2.1 Y.s7 dX3_takePart_43 ?_
        refine e_Vi (As := [.ref (z.1 7)]) (rest := []) X Y hT hS (m_X3_isWord hR18 7 (by decide)) mk_X3_isWord gm_544 rfl rfl (by decide) hd_X3_isWord ⟨rfl, rfl⟩ ⟨Nat.le_of_ble_eq_true rfl, Nat.le_of_ble_eq_true rfl⟩ hl.1 rfl (Nat.le_of_ble_eq_true rfl) dX3_takePart_45 ⟨Nat.zero_le _, Nat.zero_le _⟩ (fun r20 i20 g20 H locs hq hT hS => ?_)
        rcases hq with hq | hq
        ·
          obtain ⟨eh20, rfl, hf20_0⟩ := hq
          rw [(Prod.mk.inj eh20).1, (Prod.mk.inj eh20).2] at hT
          exact (x_eq h19 (show rg 0 0 (i18 14 6) from hf20_0) rfl (by decide)).elim
        ·
          obtain ⟨eh20, rfl⟩ := hq
          rw [(Prod.mk.inj eh20).1, (Prod.mk.inj eh20).2] at hT
          refine lv_if_eq (tgt := 63) hx hb dX3_takePart_48 (by decide) (fun c21 => ?_) (fun c21 => (x_ne (rg_k (by decide) : rg 0 0 0) (rg_k (by decide) : rg 0 0 0) (i_ne c21) (by decide)).elim)
          refine lv_iconst (v := 0) hx hb dX3_takePart_63 (by decide) ?_
          refine lv_istore_n (lv' := [(3, .int 0), (2, .int (-1)), (1, .int r4), (0, .ref (h 14))]) hx hb dX3_takePart_64 rfl hl (by decide) rfl (fun ls hl => ?_)
          refine lv_aload_n hx hb dX3_takePart_65 rfl (lv_at hl 3 rfl) ?_
          refine r_geti X hT 14 6 fk_3_28 rfl rfl (by decide) dX3_takePart_66 ?_
          refine lv_if_ne (tgt := 82) hx hb dX3_takePart_69 (by decide) (fun c22 => ?_) (fun c22 => (x_eq h19 (rg_k (by decide) : rg 0 0 0) (i_eq c22) (by decide)).elim)
          have q22 : ¬ (i18 14 6).toInt = 0 := i_ne c22
          refine lv_aload_n hx hb dX3_takePart_82 rfl (lv_at hl 3 rfl) ?_
          refine r_geti X hT 14 6 fk_3_28 rfl rfl (by decide) dX3_takePart_83 ?_
          refine lv_if_ne (tgt := 93) hx hb dX3_takePart_86 (by decide) (fun c23 => ?_) (fun c23 => (x_eq h19 (rg_k (by decide) : rg 0 0 0) (i_eq c23) (by decide)).elim)
          have q23 : ¬ (i18 14 6).toInt = 0 := i_ne c23
          refine lv_iconst (v := 0) hx hb dX3_takePart_93 (by decide) ?_
          exact hret 0 _ _ _ _ _ _ dX3_takePart_94 hT hS ⟨hR18, hF18, (rg_w (rg_k (by decide) : rg 0 0 0) (by decide) : rg 0 1 0)⟩
      ·
        obtain ⟨hR18, hf18, hf18_0, hf18_1, hf18_2⟩ := hq
        have hF18 := Fr_tr hF4 hf18 (by decide)
        have h24 : rg 0 0 (i18 14 6) := hf18_1
        replace hf18_2 : 0 ≤ r18.toInt ∧ r18.toInt ≤ 9 := hf18_2
        have h25 : rg 0 9 r18 := ⟨by omega, by omega⟩
        refine lv_istore_n (lv' := [(2, .int r18), (1, .int r4), (0, .ref (h 14))]) hx hb dX3_takePart_41 rfl hl (by decide) rfl (fun ls hl => ?_)
        refine lv_aload_n hx hb dX3_takePart_42 rfl (lv_at hl 2 rfl) ?_
        refine va_ldcS hx hb X.2.2.2.1 Y.s7 dX3_takePart_43 ?_
        refine e_Vi (As := [.ref (z.1 7)]) (rest := []) X Y hT hS (m_X3_isWord hR18 7 (by decide)) mk_X3_isWord gm_544 rfl rfl (by decide) hd_X3_isWord ⟨rfl, rfl⟩ ⟨Nat.le_of_ble_eq_true rfl, Nat.le_of_ble_eq_true rfl⟩ hl.1 rfl (Nat.le_of_ble_eq_true rfl) dX3_takePart_45 ⟨Nat.zero_le _, Nat.zero_le _⟩ (fun r26 i26 g26 H locs hq hT hS => ?_)
        rcases hq with hq | hq
        ·
          obtain ⟨eh26, rfl, hf26_0⟩ := hq
          rw [(Prod.mk.inj eh26).1, (Prod.mk.inj eh26).2] at hT
          refine lv_if_eq (tgt := 63) hx hb dX3_takePart_48 (by decide) (fun c27 => (x_eq (rg_k (by decide) : rg 1 1 1) (rg_k (by decide) : rg 0 0 0) (i_eq c27) (by decide)).elim) (fun c27 => ?_)
          refine lv_aload_n hx hb dX3_takePart_51 rfl (lv_at hl 2 rfl) ?_
          refine va_ldcS hx hb X.2.2.2.1 Y.s7 dX3_takePart_52 ?_
          refine lv_iconst (v := 1) hx hb dX3_takePart_54 (by decide) ?_
          refine lv_bipush (v := 60) hx hb dX3_takePart_55 (by decide) ?_
          refine e_Vi (As := [.ref (z.1 7), .int 1, .int 60]) (rest := []) X Y hT hS (m_X3_takeNamed hR18 7 (by decide) (1) (60)) mk_X3_takeNamed gm_601 rfl rfl (by decide) hd_X3_takeNamed ⟨rfl, rfl⟩ ⟨Nat.le_of_ble_eq_true rfl, Nat.le_of_ble_eq_true rfl⟩ hl.1 rfl (Nat.le_of_ble_eq_true rfl) dX3_takePart_57 ⟨Nat.zero_le _, Nat.zero_le _⟩ (fun r28 i28 g28 H locs hq hT hS => ?_)
          rcases hq with hq | hq
          ·
            obtain ⟨hR28, hf28, rfl, hf28_0⟩ := hq
            have hF28 := Fr_tr hF18 hf28 (by decide)
            have h29 : rg 1 3 (i28 14 6) := hf28_0
            refine lv_goto (tgt := 64) hx hb dX3_takePart_60 (by decide) ?_
            refine lv_istore_n (lv' := [(3, .int (-1)), (2, .int r18), (1, .int r4), (0, .ref (h 14))]) hx hb dX3_takePart_64 rfl hl (by decide) rfl (fun ls hl => ?_)
            refine lv_aload_n hx hb dX3_takePart_65 rfl (lv_at hl 3 rfl) ?_
            refine r_geti X hT 14 6 fk_3_28 rfl rfl (by decide) dX3_takePart_66 ?_
            refine lv_if_ne (tgt := 82) hx hb dX3_takePart_69 (by decide) (fun c30 => ?_) (fun c30 => (x_eq h29 (rg_k (by decide) : rg 0 0 0) (i_eq c30) (by decide)).elim)
            have q30 : ¬ (i28 14 6).toInt = 0 := i_ne c30
            refine lv_aload_n hx hb dX3_takePart_82 rfl (lv_at hl 3 rfl) ?_
            refine r_geti X hT 14 6 fk_3_28 rfl rfl (by decide) dX3_takePart_83 ?_
            refine lv_if_ne (tgt := 93) hx hb dX3_takePart_86 (by decide) (fun c31 => ?_) (fun c31 => (x_eq h29 (rg_k (by decide) : rg 0 0 0) (i_eq c31) (by decide)).elim)
            have q31 : ¬ (i28 14 6).toInt = 0 := i_ne c31
            refine lv_iconst (v := 0) hx hb dX3_takePart_93 (by decide) ?_
            exact hret 0 _ _ _ _ _ _ dX3_takePart_94 hT hS ⟨hR28, hF28, (rg_w (rg_k (by decide) : rg 0 0 0) (by decide) : rg 0 1 0)⟩
          ·
            obtain ⟨hR28, hf28, hf28_0, hf28_1, hf28_2⟩ := hq
            have hF28 := Fr_tr hF18 hf28 (by decide)
            have h32 : rg 0 0 (i28 14 6) := hf28_1
            replace hf28_2 : 1 ≤ r28.toInt ∧ r28.toInt ≤ 60 := hf28_2
            have h33 : rg 1 60 r28 := ⟨by omega, by omega⟩
            refine lv_goto (tgt := 64) hx hb dX3_takePart_60 (by decide) ?_
            refine lv_istore_n (lv' := [(3, .int r28), (2, .int r18), (1, .int r4), (0, .ref (h 14))]) hx hb dX3_takePart_64 rfl hl (by decide) rfl (fun ls hl => ?_)
            refine lv_aload_n hx hb dX3_takePart_65 rfl (lv_at hl 3 rfl) ?_
            refine r_geti X hT 14 6 fk_3_28 rfl rfl (by decide) dX3_takePart_66 ?_
            refine lv_if_ne (tgt := 82) hx hb dX3_takePart_69 (by decide) (fun c34 => (x_ne h32 (rg_k (by decide) : rg 0 0 0) (i_ne c34) (by decide)).elim) (fun c34 => ?_)
            have q34 : (i28 14 6).toInt = 0 := i_eq c34
            refine lv_aload_n hx hb dX3_takePart_72 rfl (lv_at hl 3 rfl) ?_
            refine r_getr X hT 14 1 3 fk_3_19 rfl rfl (by decide) dX3_takePart_73 ?_
            refine lv_iload_n hx hb dX3_takePart_76 rfl (lv_at hl 2 rfl) ?_
            refine lv_iload_n hx hb dX3_takePart_77 rfl (lv_at hl 1 rfl) ?_
            refine lv_iload_n hx hb dX3_takePart_78 rfl (lv_at hl 0 rfl) ?_
            refine e_Vv (As := [.int r4, .int r18, .int r28]) (rest := []) X Y hT hS (m_X6_addPart_3 hR28 r4 r18 r28 h17 h25 (rg_w h33 (by decide) : rg 0 60 r28)) mk_X6_addPart gm_619 rfl rfl (by decide) hd_X6_addPart ⟨rfl, rfl⟩ ⟨Nat.le_of_ble_eq_true rfl, Nat.le_of_ble_eq_true rfl⟩ hl.1 rfl (Nat.le_of_ble_eq_true rfl) dX3_takePart_79 ⟨Nat.zero_le _, Nat.zero_le _⟩ (fun i35 g35 H locs hq hT hS => ?_)
            obtain ⟨hR35, hf35⟩ := hq
            have hF35 := Fr_tr hF28 hf35 (by decide)
            refine lv_aload_n hx hb dX3_takePart_82 rfl (lv_at hl 3 rfl) ?_
            refine r_geti X hT 14 6 fk_3_28 rfl rfl (by decide) dX3_takePart_83 ?_
            have e36 : (i35 14 6) = (i28 14 6) := (z_F hf35 rfl (by decide))
            have h37 : rg 0 0 (i35 14 6) := rg_of e36 h32
            refine lv_if_ne (tgt := 93) hx hb dX3_takePart_86 (by decide) (fun c38 => (x_ne h37 (rg_k (by decide) : rg 0 0 0) (i_ne c38) (by decide)).elim) (fun c38 => ?_)
            have q38 : (i35 14 6).toInt = 0 := i_eq c38
            refine lv_iconst (v := 1) hx hb dX3_takePart_89 (by decide) ?_
            refine lv_goto (tgt := 94) hx hb dX3_takePart_90 (by decide) ?_
            exact hret 1 _ _ _ _ _ _ dX3_takePart_94 hT hS ⟨hR35, hF35, (rg_w (rg_k (by decide) : rg 1 1 1) (by decide) : rg 0 1 1)⟩
        ·
          obtain ⟨eh26, rfl⟩ := hq
          rw [(Prod.mk.inj eh26).1, (Prod.mk.inj eh26).2] at hT
          refine lv_if_eq (tgt := 63) hx hb dX3_takePart_48 (by decide) (fun c39 => ?_) (fun c39 => (x_ne (rg_k (by decide) : rg 0 0 0) (rg_k (by decide) : rg 0 0 0) (i_ne c39) (by decide)).elim)
          refine lv_iconst (v := 0) hx hb dX3_takePart_63 (by decide) ?_
          refine lv_istore_n (lv' := [(3, .int 0), (2, .int r18), (1, .int r4), (0, .ref (h 14))]) hx hb dX3_takePart_64 rfl hl (by decide) rfl (fun ls hl => ?_)
          refine lv_aload_n hx hb dX3_takePart_65 rfl (lv_at hl 3 rfl) ?_
          refine r_geti X hT 14 6 fk_3_28 rfl rfl (by decide) dX3_takePart_66 ?_
          refine lv_if_ne (tgt := 82) hx hb dX3_takePart_69 (by decide) (fun c40 => (x_ne h24 (rg_k (by decide) : rg 0 0 0) (i_ne c40) (by decide)).elim) (fun c40 => ?_)
          have q40 : (i18 14 6).toInt = 0 := i_eq c40
          refine lv_aload_n hx hb dX3_takePart_72 rfl (lv_at hl 3 rfl) ?_
          refine r_getr X hT 14 1 3 fk_3_19 rfl rfl (by decide) dX3_takePart_73 ?_
          refine lv_iload_n hx hb dX3_takePart_76 rfl (lv_at hl 2 rfl) ?_
          refine lv_iload_n hx hb dX3_takePart_77 rfl (lv_at hl 1 rfl) ?_
          refine lv_iload_n hx hb dX3_takePart_78 rfl (lv_at hl 0 rfl) ?_
          refine e_Vv (As := [.int r4, .int r18, .int 0]) (rest := []) X Y hT hS (m_X6_addPart_3 hR18 r4 r18 (0) h17 h25 (rg_w (rg_k (by decide) : rg 0 0 0) (by decide) : rg 0 60 0)) mk_X6_addPart gm_619 rfl rfl (by decide) hd_X6_addPart ⟨rfl, rfl⟩ ⟨Nat.le_of_ble_eq_true rfl, Nat.le_of_ble_eq_true rfl⟩ hl.1 rfl (Nat.le_of_ble_eq_true rfl) dX3_takePart_79 ⟨Nat.zero_le _, Nat.zero_le _⟩ (fun i41 g41 H locs hq hT hS => ?_)
          obtain ⟨hR41, hf41⟩ := hq
          have hF41 := Fr_tr hF18 hf41 (by decide)
          refine lv_aload_n hx hb dX3_takePart_82 rfl (lv_at hl 3 rfl) ?_
          refine r_geti X hT 14 6 fk_3_28 rfl rfl (by decide) dX3_takePart_83 ?_
          have e42 : (i41 14 6) = (i18 14 6) := (z_F hf41 rfl (by decide))
          have h43 : rg 0 0 (i41 14 6) := rg_of e42 h24
          refine lv_if_ne (tgt := 93) hx hb dX3_takePart_86 (by decide) (fun c44 => (x_ne h43 (rg_k (by decide) : rg 0 0 0) (i_ne c44) (by decide)).elim) (fun c44 => ?_)
          have q44 : (i41 14 6).toInt = 0 := i_eq c44
          refine lv_iconst (v := 1) hx hb dX3_takePart_89 (by decide) ?_
          refine lv_goto (tgt := 94) hx hb dX3_takePart_90 (by decide) ?_
          exact hret 1 _ _ _ _ _ _ dX3_takePart_94 hT hS ⟨hR41, hF41, (rg_w (rg_k (by decide) : rg 1 1 1) (by decide) : rg 0 1 1)⟩
  ·
    have q1 : 6 ≤ (i 3 13).toInt := i_nlt c1
    have h45 : rg 6 6 (i 3 13) := t_ley 6 6 (rg_k (by decide) : rg 6 6 6) (Rg_at hR 3 13 0 6 (by decide) rfl) (i_nlt c1) (by decide)
    refine lv_aload_n hx hb dX3_takePart_12 rfl (lv_at hl 0 rfl) ?_
    refine lv_iconst (v := 3) hx hb dX3_takePart_13 (by decide) ?_
    refine e_Vi (As := [.int 3]) (rest := []) X Y hT hS (m_X3_refuse hR (3) (rg_w (rg_k (by decide) : rg 3 3 3) (by decide) : rg 1 3 3)) mk_X3_refuse gm_596 rfl rfl (by decide) hd_X3_refuse ⟨rfl, rfl⟩ ⟨Nat.le_of_ble_eq_true rfl, Nat.le_of_ble_eq_true rfl⟩ hl.1 rfl (Nat.le_of_ble_eq_true rfl) dX3_takePart_14 ⟨Nat.zero_le _, Nat.zero_le _⟩ (fun r46 i46 g46 H locs hq hT hS => ?_)
    obtain ⟨hR46, hf46, rfl, hf46_0⟩ := hq
    have hF46 := Fr_tr hF hf46 (by decide)
    have h47 : rg 1 3 (i46 14 6) := hf46_0
    exact hret 0 _ _ _ _ _ _ dX3_takePart_17 hT hS ⟨hR46, hF46, (rg_w (rg_k (by decide) : rg 0 0 0) (by decide) : rg 0 1 0)⟩
set_option maxRecDepth 100000 in
set_option maxHeartbeats 4000000 in
theorem m_X6_addFold_3 {l : Launch} {D : va_G} {h : Nat → Nat} {cz : Nat → ClassId} {z : EZ} {i : Nat → Nat → Int32} {g : Nat → Nat → Int64} (hR : Rg rA i) (a_a : Int32) (a_b : Int32) (ha_a : rg 0 5 a_a) (ha_b : rg 0 5 a_b) : DtV l yX6_addFold cX6_addFold 3 none ({ frames := 0, cells := 0, slots := 0, locals := 0 } : Room) D h cz z i g [.ref (h 3), .int a_a, .int a_b] (fun u => Rg rA u.1 ∧ Fr [3, 7, 8] [] i g u) := by
  refine e_V pn_X6_addFold (Nat.le_of_ble_eq_true rfl) ?_
  intro p e s m args below meth c ls Q X Y hret hT hl hS
  have hx := X.1
  have hb := X.2.1
  have hl : lv_has ls 3 [(0, .ref (h 3)), (1, .int a_a), (2, .int a_b)] := hl
  have hF : Fr [3, 7, 8] [] i g (i, g) := Fr_rf _ _ _ _
  refine lv_aload_n hx hb dX6_addFold_0 rfl (lv_at hl 0 rfl) ?_
  refine r_geti X hT 3 14 fk_6_55 rfl rfl (by decide) dX6_addFold_1 ?_
  refine lv_bipush (v := 10) hx hb dX6_addFold_4 (by decide) ?_
  refine lv_icmp_ge (tgt := 39) hx hb dX6_addFold_6 (by decide) (fun c1 => ?_) (fun c1 => ?_)
  ·
    have q1 : 10 ≤ (i 3 14).toInt := i_le c1
    have h2 : rg 10 10 (i 3 14) := t_ley 10 10 (rg_k (by decide) : rg 10 10 10) (Rg_at hR 3 14 0 10 (by decide) rfl) (i_le c1) (by decide)
    exact hret _ _ _ _ _ _ dX6_addFold_39 hT hS ⟨hR, hF⟩
  ·
    have q1 : (i 3 14).toInt < 10 := i_nle c1
    have h3 : rg 0 9 (i 3 14) := t_ltx 0 9 (Rg_at hR 3 14 0 10 (by decide) rfl) (rg_k (by decide) : rg 10 10 10) (i_nle c1) (by decide)
    refine lv_aload_n hx hb dX6_addFold_9 rfl (lv_at hl 0 rfl) ?_
    refine r_getr X hT 3 3 7 fk_6_21 rfl rfl (by decide) dX6_addFold_10 ?_
    refine lv_aload_n hx hb dX6_addFold_13 rfl (lv_at hl 0 rfl) ?_
    refine r_geti X hT 3 14 fk_6_55 rfl rfl (by decide) dX6_addFold_14 ?_
    refine lv_iload_n hx hb dX6_addFold_17 rfl (lv_at hl 1 rfl) ?_
    refine r_iast X hT hS 7 rfl (by decide) (v_in h3 (by decide)) dX6_addFold_18 (fun H locs i4 ei4 hT hS => ?_)
    have hR4 := Rg_put hR ei4 0 5 rfl ha_a (by decide)
    have hF4 := Fr_puti hF ei4 (by decide)
    refine lv_aload_n hx hb dX6_addFold_19 rfl (lv_at hl 0 rfl) ?_
    refine r_getr X hT 3 4 8 fk_6_24 rfl rfl (by decide) dX6_addFold_20 ?_
    refine lv_aload_n hx hb dX6_addFold_23 rfl (lv_at hl 0 rfl) ?_
    refine r_geti X hT 3 14 fk_6_55 rfl rfl (by decide) dX6_addFold_24 ?_
    have e5 : (i4 3 14) = (i 3 14) := (z_j ei4 rfl (by decide))
    have h6 : rg 0 9 (i4 3 14) := rg_of e5 h3
    refine lv_iload_n hx hb dX6_addFold_27 rfl (lv_at hl 2 rfl) ?_
    refine r_iast X hT hS 8 rfl (by decide) (v_in h6 (by decide)) dX6_addFold_28 (fun H locs i7 ei7 hT hS => ?_)
    have hR7 := Rg_put hR4 ei7 0 5 rfl ha_b (by decide)
    have hF7 := Fr_puti hF4 ei7 (by decide)
    refine lv_aload_n hx hb dX6_addFold_29 rfl (lv_at hl 0 rfl) ?_
    refine lv_dup hx hb dX6_addFold_30 rfl ?_
    refine r_geti X hT 3 14 fk_6_55 rfl rfl (by decide) dX6_addFold_31 ?_
    have e8 : (i7 3 14) = (i 3 14) := (z_j ei7 (z_j ei4 rfl (by decide)) (by decide))
    have h9 : rg 0 9 (i7 3 14) := rg_of e8 h3
    refine lv_iconst (v := 1) hx hb dX6_addFold_34 (by decide) ?_
    refine q_iadd hx hb dX6_addFold_35 (fun x10 ex10 => ?_)
    obtain ⟨hx10, ax10⟩ := rg_add 1 10 ex10 h9 (rg_k (by decide) : rg 1 1 1) (by decide)
    replace ax10 : x10.toInt = (i7 3 14).toInt + 1 := ax10
    refine r_puti X hT hS 3 14 pk_6_55 rfl rfl rfl rfl (by decide) dX6_addFold_36 (fun H locs i11 ei11 hT hS => ?_)
    have hR11 := Rg_put hR7 ei11 0 10 rfl hx10 (by decide)
    have hF11 := Fr_puti hF7 ei11 (by decide)
    exact hret _ _ _ _ _ _ dX6_addFold_39 hT hS ⟨hR11, hF11⟩
set_option maxRecDepth 100000 in
set_option maxHeartbeats 4000000 in
theorem m_X6_areJoined_3 {l : Launch} {D : va_G} {h : Nat → Nat} {cz : Nat → ClassId} {z : EZ} {i : Nat → Nat → Int32} {g : Nat → Nat → Int64} (hR : Rg rA i) (a_a : Int32) (a_b : Int32) : DtI l yX6_areJoined cX6_areJoined 6 (some .boolean) ({ frames := 0, cells := 0, slots := 0, locals := 0 } : Room) D h cz z i g [.ref (h 3), .int a_a, .int a_b] (fun r u => u = (i, g) ∧ rg 0 1 r) := by
  refine e_Z (fun v u hq => (z01 hq.2)) pn_X6_areJoined (Nat.le_of_ble_eq_true rfl) ?_
  intro p e s m args below meth c ls Q X Y hret hT hl hS
  have hx := X.1
  have hb := X.2.1
  have hl : lv_has ls 6 [(0, .ref (h 3)), (1, .int a_a), (2, .int a_b)] := hl
  refine lv_iconst (v := 0) hx hb dX6_areJoined_0 (by decide) ?_
  refine lv_istore_n (lv' := [(3, .int 0), (0, .ref (h 3)), (1, .int a_a), (2, .int a_b)]) hx hb dX6_areJoined_1 rfl hl (by decide) rfl (fun ls hl => ?_)
  have L2_1 : ∀ (n2_ : Nat) (x2_3 : Int32) (H : Heap) (locs : List Loc) (ls : Array Slot), rg 0 10 x2_3 → TH D h cz i g H → va_S (hA h) s.heap H locs → lv_has ls 6 [(0, .ref (h 3)), (1, .int a_a), (2, .int a_b), (3, .int x2_3)] → (10 - x2_3.toInt).toNat < n2_ → W p l e ({ frames := 0, cells := 0, slots := 0, locals := 0 } : Room) s m args below meth c H locs 0 0 Q (F0 m 2 ls []) := by
    intro n2_
    induction n2_ with
    | zero => intro x2_3 H locs ls hhx2_3 hT hS hl hm2_; exact absurd hm2_ (Nat.not_lt_zero _)
    | succ n2_ ih2_ =>
      intro x2_3 H locs ls hhx2_3 hT hS hl hm2_
      refine lv_iload_n hx hb dX6_areJoined_2 rfl (lv_at hl 3 rfl) ?_
      refine lv_aload_n hx hb dX6_areJoined_3 rfl (lv_at hl 0 rfl) ?_
      refine r_geti X hT 3 14 fk_6_55 rfl rfl (by decide) dX6_areJoined_4 ?_
      refine lv_icmp_ge (tgt := 82) hx hb dX6_areJoined_7 (by decide) (fun c3 => ?_) (fun c3 => ?_)
      ·
        have q3 : (i 3 14).toInt ≤ x2_3.toInt := i_le c3
        refine lv_iconst (v := 0) hx hb dX6_areJoined_82 (by decide) ?_
        exact hret 0 _ _ _ _ _ _ dX6_areJoined_83 hT hS ⟨rfl, (rg_w (rg_k (by decide) : rg 0 0 0) (by decide) : rg 0 1 0)⟩
      ·
        have q3 : x2_3.toInt < (i 3 14).toInt := i_nle c3
        have h4 : rg 0 9 x2_3 := t_ltx 0 9 hhx2_3 (Rg_at hR 3 14 0 10 (by decide) rfl) (i_nle c3) (by decide)
        have h5 : rg 1 10 (i 3 14) := t_lty 1 10 hhx2_3 (Rg_at hR 3 14 0 10 (by decide) rfl) (i_nle c3) (by decide)
        refine lv_aload_n hx hb dX6_areJoined_10 rfl (lv_at hl 0 rfl) ?_
        refine r_getr X hT 3 3 7 fk_6_21 rfl rfl (by decide) dX6_areJoined_11 ?_
        refine lv_iload_n hx hb dX6_areJoined_14 rfl (lv_at hl 3 rfl) ?_
        refine r_iald X hT 7 rfl (by decide) (v_in h4 (by decide)) dX6_areJoined_15 ?_
        refine lv_iload_n hx hb dX6_areJoined_16 rfl (lv_at hl 1 rfl) ?_
        have J35_7 : ∀ (x35_7_s0 : Int32) (H : Heap) (locs : List Loc) (ls : Array Slot), rg 0 1 x35_7_s0 → TH D h cz i g H → va_S (hA h) s.heap H locs → lv_has ls 6 [(0, .ref (h 3)), (1, .int a_a), (2, .int a_b), (3, .int x2_3)] → W p l e ({ frames := 0, cells := 0, slots := 0, locals := 0 } : Room) s m args below meth c H locs 0 0 Q (F0 m 35 ls [.int x35_7_s0]) := by
          intro x35_7_s0 H locs ls hhx35_7_s0 hT hS hl
          refine lv_istore (lv' := [(4, .int x35_7_s0), (0, .ref (h 3)), (1, .int a_a), (2, .int a_b), (3, .int x2_3)]) hx hb dX6_areJoined_35 hl (by decide) rfl (fun ls hl => ?_)
          refine lv_aload_n hx hb dX6_areJoined_37 rfl (lv_at hl 1 rfl) ?_
          refine r_getr X hT 3 3 7 fk_6_21 rfl rfl (by decide) dX6_areJoined_38 ?_
          refine lv_iload_n hx hb dX6_areJoined_41 rfl (lv_at hl 4 rfl) ?_
          refine r_iald X hT 7 rfl (by decide) (v_in h4 (by decide)) dX6_areJoined_42 ?_
          refine lv_iload_n hx hb dX6_areJoined_43 rfl (lv_at hl 3 rfl) ?_
          have J62_9 : ∀ (x62_9_s0 : Int32) (H : Heap) (locs : List Loc) (ls : Array Slot), rg 0 1 x62_9_s0 → TH D h cz i g H → va_S (hA h) s.heap H locs → lv_has ls 6 [(0, .ref (h 3)), (1, .int a_a), (2, .int a_b), (3, .int x2_3), (4, .int x35_7_s0)] → W p l e ({ frames := 0, cells := 0, slots := 0, locals := 0 } : Room) s m args below meth c H locs 0 0 Q (F0 m 62 ls [.int x62_9_s0]) := by
            intro x62_9_s0 H locs ls hhx62_9_s0 hT hS hl
            refine lv_istore (lv' := [(5, .int x62_9_s0), (0, .ref (h 3)), (1, .int a_a), (2, .int a_b), (3, .int x2_3), (4, .int x35_7_s0)]) hx hb dX6_areJoined_62 hl (by decide) rfl (fun ls hl => ?_)
            refine lv_iload hx hb dX6_areJoined_64 (lv_at hl 5 rfl) ?_
            refine lv_if_ne (tgt := 74) hx hb dX6_areJoined_66 (by decide) (fun c10 => ?_) (fun c10 => ?_)
            ·
              have q10 : ¬ x35_7_s0.toInt = 0 := i_ne c10
              have h11 : rg 1 1 x35_7_s0 := t_nelo 1 hhx35_7_s0 (rg_k (by decide) : rg 0 0 0) (i_ne c10) (by decide)
              refine lv_iconst (v := 1) hx hb dX6_areJoined_74 (by decide) ?_
              exact hret 1 _ _ _ _ _ _ dX6_areJoined_75 hT hS ⟨rfl, (rg_w (rg_k (by decide) : rg 1 1 1) (by decide) : rg 0 1 1)⟩
            ·
              have q10 : x35_7_s0.toInt = 0 := i_eq c10
              have h12 : rg 0 0 x35_7_s0 := t_eqx 0 0 hhx35_7_s0 (rg_k (by decide) : rg 0 0 0) (i_eq c10) (by decide)
              refine lv_iload hx hb dX6_areJoined_69 (lv_at hl 0 rfl) ?_
              refine lv_if_eq (tgt := 76) hx hb dX6_areJoined_71 (by decide) (fun c13 => ?_) (fun c13 => ?_)
              ·
                have q13 : x62_9_s0.toInt = 0 := i_eq c13
                have h14 : rg 0 0 x62_9_s0 := t_eqx 0 0 hhx62_9_s0 (rg_k (by decide) : rg 0 0 0) (i_eq c13) (by decide)
                obtain ⟨x15, ex15⟩ : ∃ y : Int32, y = x2_3 + 1 := ⟨_, rfl⟩
                refine lv_iinc (v := x15) (lv' := [(3, .int x15), (5, .int x62_9_s0), (0, .ref (h 3)), (1, .int a_a), (2, .int a_b), (4, .int x35_7_s0)]) hx hb dX6_areJoined_76 hl (k := 4) rfl (by rw [ex15]; rfl) (by decide) rfl (fun ls hl => ?_)
                obtain ⟨hx15, ax15⟩ := rg_add 1 10 ex15 h4 (rg_k (by decide) : rg 1 1 1) (by decide)
                replace ax15 : x15.toInt = x2_3.toInt + 1 := ax15
                refine lv_goto (tgt := 2) hx hb dX6_areJoined_79 (by decide) ?_
                exact ih2_ x15 _ _ _ (rg_w hx15 (by decide) : rg 0 10 x15) hT hS (lv_sub hl [2, 3, 4, 0] rfl) (m_up ax15 hx15 (by decide) hm2_)
              ·
                have q13 : ¬ x62_9_s0.toInt = 0 := i_ne c13
                have h16 : rg 1 1 x62_9_s0 := t_nelo 1 hhx62_9_s0 (rg_k (by decide) : rg 0 0 0) (i_ne c13) (by decide)
                refine lv_iconst (v := 1) hx hb dX6_areJoined_74 (by decide) ?_
                exact hret 1 _ _ _ _ _ _ dX6_areJoined_75 hT hS ⟨rfl, (rg_w (rg_k (by decide) : rg 1 1 1) (by decide) : rg 0 1 1)⟩
          refine lv_icmp_ne (tgt := 61) hx hb dX6_areJoined_44 (by decide) (fun c8 => ?_) (fun c8 => ?_)
          ·
            have q8 : ¬ (i 7 x2_3.toNatClampNeg).toInt = a_b.toInt := i_ne c8
            refine lv_iconst (v := 0) hx hb dX6_areJoined_61 (by decide) ?_
            exact J62_9 (0) _ _ _ (rg_w (rg_k (by decide) : rg 0 0 0) (by decide) : rg 0 1 0) hT hS (lv_sub hl [1, 2, 3, 4, 0] rfl)
          ·
            have q8 : (i 7 x2_3.toNatClampNeg).toInt = a_b.toInt := i_eq c8
            have h17 : rg 0 5 a_b := t_eqy 0 5 (Rg_at hR 7 x2_3.toNatClampNeg 0 5 (v_lt (v_in h4 (by decide))) rfl) (rg_top a_b) (i_eq c8) (by decide)
            refine lv_aload_n hx hb dX6_areJoined_47 rfl (lv_at hl 1 rfl) ?_
            refine r_getr X hT 3 4 8 fk_6_24 rfl rfl (by decide) dX6_areJoined_48 ?_
            refine lv_iload_n hx hb dX6_areJoined_51 rfl (lv_at hl 4 rfl) ?_
            refine r_iald X hT 8 rfl (by decide) (v_in h4 (by decide)) dX6_areJoined_52 ?_
            refine lv_iload_n hx hb dX6_areJoined_53 rfl (lv_at hl 2 rfl) ?_
            refine lv_icmp_ne (tgt := 61) hx hb dX6_areJoined_54 (by decide) (fun c18 => ?_) (fun c18 => ?_)
            ·
              have q18 : ¬ (i 8 x2_3.toNatClampNeg).toInt = a_a.toInt := i_ne c18
              refine lv_iconst (v := 0) hx hb dX6_areJoined_61 (by decide) ?_
              exact J62_9 (0) _ _ _ (rg_w (rg_k (by decide) : rg 0 0 0) (by decide) : rg 0 1 0) hT hS (lv_sub hl [1, 2, 3, 4, 0] rfl)
            ·
              have q18 : (i 8 x2_3.toNatClampNeg).toInt = a_a.toInt := i_eq c18
              have h19 : rg 0 5 a_a := t_eqy 0 5 (Rg_at hR 8 x2_3.toNatClampNeg 0 5 (v_lt (v_in h4 (by decide))) rfl) (rg_top a_a) (i_eq c18) (by decide)
              refine lv_iconst (v := 1) hx hb dX6_areJoined_57 (by decide) ?_
              refine lv_goto (tgt := 62) hx hb dX6_areJoined_58 (by decide) ?_
              exact J62_9 (1) _ _ _ (rg_w (rg_k (by decide) : rg 1 1 1) (by decide) : rg 0 1 1) hT hS (lv_sub hl [1, 2, 3, 4, 0] rfl)
        refine lv_icmp_ne (tgt := 34) hx hb dX6_areJoined_17 (by decide) (fun c6 => ?_) (fun c6 => ?_)
        ·
          have q6 : ¬ (i 7 x2_3.toNatClampNeg).toInt = a_a.toInt := i_ne c6
          refine lv_iconst (v := 0) hx hb dX6_areJoined_34 (by decide) ?_
          exact J35_7 (0) _ _ _ (rg_w (rg_k (by decide) : rg 0 0 0) (by decide) : rg 0 1 0) hT hS (lv_sub hl [0, 1, 2, 3] rfl)
        ·
          have q6 : (i 7 x2_3.toNatClampNeg).toInt = a_a.toInt := i_eq c6
          have h20 : rg 0 5 a_a := t_eqy 0 5 (Rg_at hR 7 x2_3.toNatClampNeg 0 5 (v_lt (v_in h4 (by decide))) rfl) (rg_top a_a) (i_eq c6) (by decide)
          refine lv_aload_n hx hb dX6_areJoined_20 rfl (lv_at hl 0 rfl) ?_
          refine r_getr X hT 3 4 8 fk_6_24 rfl rfl (by decide) dX6_areJoined_21 ?_
          refine lv_iload_n hx hb dX6_areJoined_24 rfl (lv_at hl 3 rfl) ?_
          refine r_iald X hT 8 rfl (by decide) (v_in h4 (by decide)) dX6_areJoined_25 ?_
          refine lv_iload_n hx hb dX6_areJoined_26 rfl (lv_at hl 2 rfl) ?_
          refine lv_icmp_ne (tgt := 34) hx hb dX6_areJoined_27 (by decide) (fun c21 => ?_) (fun c21 => ?_)
          ·
            have q21 : ¬ (i 8 x2_3.toNatClampNeg).toInt = a_b.toInt := i_ne c21
            refine lv_iconst (v := 0) hx hb dX6_areJoined_34 (by decide) ?_
            exact J35_7 (0) _ _ _ (rg_w (rg_k (by decide) : rg 0 0 0) (by decide) : rg 0 1 0) hT hS (lv_sub hl [0, 1, 2, 3] rfl)
          ·
            have q21 : (i 8 x2_3.toNatClampNeg).toInt = a_b.toInt := i_eq c21
            have h22 : rg 0 5 a_b := t_eqy 0 5 (Rg_at hR 8 x2_3.toNatClampNeg 0 5 (v_lt (v_in h4 (by decide))) rfl) (rg_top a_b) (i_eq c21) (by decide)
            refine lv_iconst (v := 1) hx hb dX6_areJoined_30 (by decide) ?_
            refine lv_goto (tgt := 35) hx hb dX6_areJoined_31 (by decide) ?_
            exact J35_7 (1) _ _ _ (rg_w (rg_k (by decide) : rg 1 1 1) (by decide) : rg 0 1 1) hT hS (lv_sub hl [0, 1, 2, 3] rfl)
  exact L2_1 _ (0) _ _ _ (rg_w (rg_k (by decide) : rg 0 0 0) (by decide) : rg 0 10 0) hT hS (lv_sub hl [1, 2, 3, 0] rfl) (Nat.lt_succ_self _)
set_option maxRecDepth 100000 in
set_option maxHeartbeats 4000000 in
theorem m_X3_takeFold {l : Launch} {D : va_G} {h : Nat → Nat} {cz : Nat → ClassId} {z : EZ} {i : Nat → Nat → Int32} {g : Nat → Nat → Int64} (hR : Rg rA i) : DtI l yX3_takeFold cX3_takeFold 3 (some .boolean) ({ frames := 3, cells := 0, slots := 0, locals := 85 } : Room) D h cz z i g [.ref (h 14)] (fun r u => Rg rA u.1 ∧ Fr [3, 7, 8, 14] [] i g u ∧ rg 0 1 r) := by
  refine e_Z (fun v u hq => (z01 hq.2.2)) pn_X3_takeFold (Nat.le_of_ble_eq_true rfl) ?_
  intro p e s m args below meth c ls Q X Y hret hT hl hS
  have hx := X.1
  have hb := X.2.1
  have hl : lv_has ls 3 [(0, .ref (h 14))] := hl
  have hF : Fr [3, 7, 8, 14] [] i g (i, g) := Fr_rf _ _ _ _
  refine lv_aload_n hx hb dX3_takeFold_0 rfl (lv_at hl 0 rfl) ?_
  refine r_getr X hT 14 1 3 fk_3_19 rfl rfl (by decide) dX3_takeFold_1 ?_
  refine r_geti X hT 3 14 fk_3_111 rfl rfl (by decide) dX3_takeFold_4 ?_
  refine lv_bipush (v := 10) hx hb dX3_takeFold_7 (by decide) ?_
  refine lv_icmp_lt (tgt := 18) hx hb dX3_takeFold_9 (by decide) (fun c1 => ?_) (fun c1 => ?_)
  ·
    have q1 : (i 3 14).toInt < 10 := i_lt c1
    have h2 : rg 0 9 (i 3 14) := t_ltx 0 9 (Rg_at hR 3 14 0 10 (by decide) rfl) (rg_k (by decide) : rg 10 10 10) (i_lt c1) (by decide)
    refine lv_aload_n hx hb dX3_takeFold_18 rfl (lv_at hl 0 rfl) ?_
    refine e_Vv (As := []) (rest := []) X Y hT hS (m_X3_advance hR) mk_X3_advance gm_517 rfl rfl (by decide) hd_X3_advance ⟨rfl, rfl⟩ ⟨Nat.le_of_ble_eq_true rfl, Nat.le_of_ble_eq_true rfl⟩ hl.1 rfl (Nat.le_of_ble_eq_true rfl) dX3_takeFold_19 ⟨Nat.zero_le _, Nat.zero_le _⟩ (fun i3 g3 H locs hq hT hS => ?_)
    obtain ⟨hR3, hf3, hf3_0⟩ := hq
    have hF3 := Fr_tr hF hf3 (by decide)
    refine lv_aload_n hx hb dX3_takeFold_22 rfl (lv_at hl 0 rfl) ?_
    refine lv_iconst (v := 0) hx hb dX3_takeFold_23 (by decide) ?_
    refine lv_aload_n hx hb dX3_takeFold_24 rfl (lv_at hl 0 rfl) ?_
    refine r_getr X hT 14 1 3 fk_3_19 rfl rfl (by decide) dX3_takeFold_25 ?_
    refine r_geti X hT 3 13 fk_3_98 rfl rfl (by decide) dX3_takeFold_28 ?_
    refine lv_iconst (v := 1) hx hb dX3_takeFold_31 (by decide) ?_
    refine q_isub hx hb dX3_takeFold_32 (fun x4 ex4 => ?_)
    obtain ⟨hx4, ax4⟩ := rg_sub (-1) 5 ex4 (Rg_at hR3 3 13 0 6 (by decide) rfl) (rg_k (by decide) : rg 1 1 1) (by decide)
    replace ax4 : x4.toInt = (i3 3 13).toInt - 1 := ax4
    refine e_Vi (As := [.int 0, .int x4]) (rest := []) X Y hT hS (m_X3_takeNumber hR3 (0) x4) mk_X3_takeNumber gm_605 rfl rfl (by decide) hd_X3_takeNumber ⟨rfl, rfl⟩ ⟨Nat.le_of_ble_eq_true rfl, Nat.le_of_ble_eq_true rfl⟩ hl.1 rfl (Nat.le_of_ble_eq_true rfl) dX3_takeFold_33 ⟨Nat.zero_le _, Nat.zero_le _⟩ (fun r5 i5 g5 H locs hq hT hS => ?_)
    rcases hq with hq | hq
    ·
      obtain ⟨hR5, hf5, rfl, hf5_0⟩ := hq
      have hF5 := Fr_tr hF3 hf5 (by decide)
      have h6 : rg 1 3 (i5 14 6) := hf5_0
      refine lv_istore_n (lv' := [(1, .int (-1)), (0, .ref (h 14))]) hx hb dX3_takeFold_36 rfl hl (by decide) rfl (fun ls hl => ?_)
      refine lv_aload_n hx hb dX3_takeFold_37 rfl (lv_at hl 1 rfl) ?_
      refine r_geti X hT 14 6 fk_3_28 rfl rfl (by decide) dX3_takeFold_38 ?_
      refine lv_if_ne (tgt := 81) hx hb dX3_takeFold_41 (by decide) (fun c7 => ?_) (fun c7 => (x_eq h6 (rg_k (by decide) : rg 0 0 0) (i_eq c7) (by decide)).elim)
      have q7 : ¬ (i5 14 6).toInt = 0 := i_ne c7
      refine lv_aload_n hx hb dX3_takeFold_81 rfl (lv_at hl 1 rfl) ?_
      refine lv_iconst (v := 0) hx hb dX3_takeFold_82 (by decide) ?_
      refine lv_aload_n hx hb dX3_takeFold_83 rfl (lv_at hl 1 rfl) ?_
      refine r_getr X hT 14 1 3 fk_3_19 rfl rfl (by decide) dX3_takeFold_84 ?_
      refine r_geti X hT 3 13 fk_3_98 rfl rfl (by decide) dX3_takeFold_87 ?_
      have e8 : (i5 3 13) = (i3 3 13) := (z_F hf5 rfl (by decide))
      have h9 : rg 0 6 (i5 3 13) := rg_of e8 (Rg_at hR3 3 13 0 6 (by decide) rfl)
      refine lv_iconst (v := 1) hx hb dX3_takeFold_90 (by decide) ?_
      refine q_isub hx hb dX3_takeFold_91 (fun x10 ex10 => ?_)
      obtain ⟨hx10, ax10⟩ := rg_sub (-1) 5 ex10 h9 (rg_k (by decide) : rg 1 1 1) (by decide)
      replace ax10 : x10.toInt = (i5 3 13).toInt - 1 := ax10
      refine e_Vi (As := [.int 0, .int x10]) (rest := []) X Y hT hS (m_X3_takeNumber hR5 (0) x10) mk_X3_takeNumber gm_605 rfl rfl (by decide) hd_X3_takeNumber ⟨rfl, rfl⟩ ⟨Nat.le_of_ble_eq_true rfl, Nat.le_of_ble_eq_true rfl⟩ hl.1 rfl (Nat.le_of_ble_eq_true rfl) dX3_takeFold_92 ⟨Nat.zero_le _, Nat.zero_le _⟩ (fun r11 i11 g11 H locs hq hT hS => ?_)
      rcases hq with hq | hq
      ·
        obtain ⟨hR11, hf11, rfl, hf11_0⟩ := hq
        have hF11 := Fr_tr hF5 hf11 (by decide)
        have h12 : rg 1 3 (i11 14 6) := hf11_0
        refine lv_istore_n (lv' := [(2, .int (-1)), (1, .int (-1)), (0, .ref (h 14))]) hx hb dX3_takeFold_95 rfl hl (by decide) rfl (fun ls hl => ?_)
        refine lv_aload_n hx hb dX3_takeFold_96 rfl (lv_at hl 2 rfl) ?_
        refine r_geti X hT 14 6 fk_3_28 rfl rfl (by decide) dX3_takeFold_97 ?_
        refine lv_if_ne (tgt := 112) hx hb dX3_takeFold_100 (by decide) (fun c13 => ?_) (fun c13 => (x_eq h12 (rg_k (by decide) : rg 0 0 0) (i_eq c13) (by decide)).elim)
        have q13 : ¬ (i11 14 6).toInt = 0 := i_ne c13
        refine lv_aload_n hx hb dX3_takeFold_112 rfl (lv_at hl 2 rfl) ?_
        refine r_geti X hT 14 6 fk_3_28 rfl rfl (by decide) dX3_takeFold_113 ?_
        refine lv_if_ne (tgt := 123) hx hb dX3_takeFold_116 (by decide) (fun c14 => ?_) (fun c14 => (x_eq h12 (rg_k (by decide) : rg 0 0 0) (i_eq c14) (by decide)).elim)
        have q14 : ¬ (i11 14 6).toInt = 0 := i_ne c14
        refine lv_iconst (v := 0) hx hb dX3_takeFold_123 (by decide) ?_
        exact hret 0 _ _ _ _ _ _ dX3_takeFold_124 hT hS ⟨hR11, hF11, (rg_w (rg_k (by decide) : rg 0 0 0) (by decide) : rg 0 1 0)⟩
      ·
        obtain ⟨hR11, hf11, hf11_0, hf11_1, hf11_2⟩ := hq
        have hF11 := Fr_tr hF5 hf11 (by decide)
        exact (x_eq h6 (show rg 0 0 (i5 14 6) from hf11_0) rfl (by decide)).elim
    ·
      obtain ⟨hR5, hf5, hf5_0, hf5_1, hf5_2⟩ := hq
      have hF5 := Fr_tr hF3 hf5 (by decide)
      have e15 : (i3 14 6) = (i 14 6) := hf3_0
      have h16 : rg 0 3 (i3 14 6) := rg_of e15 (Rg_at hR 14 6 0 3 (by decide) rfl)
      have h17 : rg 0 0 (i3 14 6) := hf5_0
      have h18 : rg 0 0 (i 14 6) := rg_fo e15 h17
      have h19 : rg 0 0 (i5 14 6) := hf5_1
      replace hf5_2 : 0 ≤ r5.toInt ∧ r5.toInt ≤ x4.toInt := hf5_2
      have h20 : rg 0 5 r5 := ⟨by have := hx4.1; have := hx4.2; omega, by have := hx4.1; have := hx4.2; omega⟩
      refine lv_istore_n (lv' := [(1, .int r5), (0, .ref (h 14))]) hx hb dX3_takeFold_36 rfl hl (by decide) rfl (fun ls hl => ?_)
      refine lv_aload_n hx hb dX3_takeFold_37 rfl (lv_at hl 1 rfl) ?_
      refine r_geti X hT 14 6 fk_3_28 rfl rfl (by decide) dX3_takeFold_38 ?_
      refine lv_if_ne (tgt := 81) hx hb dX3_takeFold_41 (by decide) (fun c21 => (x_ne h19 (rg_k (by decide) : rg 0 0 0) (i_ne c21) (by decide)).elim) (fun c21 => ?_)
      have q21 : (i5 14 6).toInt = 0 := i_eq c21
      refine lv_aload_n hx hb dX3_takeFold_44 rfl (lv_at hl 1 rfl) ?_
      refine r_geti X hT 14 2 fk_3_37 rfl rfl (by decide) dX3_takeFold_45 ?_
      refine lv_iconst (v := 2) hx hb dX3_takeFold_48 (by decide) ?_
      refine lv_icmp_ne (tgt := 81) hx hb dX3_takeFold_49 (by decide) (fun c22 => ?_) (fun c22 => ?_)
      ·
        have q22 : ¬ (i5 14 2).toInt = 2 := i_ne c22
        refine lv_aload_n hx hb dX3_takeFold_81 rfl (lv_at hl 1 rfl) ?_
        refine lv_iconst (v := 0) hx hb dX3_takeFold_82 (by decide) ?_
        refine lv_aload_n hx hb dX3_takeFold_83 rfl (lv_at hl 1 rfl) ?_
        refine r_getr X hT 14 1 3 fk_3_19 rfl rfl (by decide) dX3_takeFold_84 ?_
        refine r_geti X hT 3 13 fk_3_98 rfl rfl (by decide) dX3_takeFold_87 ?_
        have e23 : (i5 3 13) = (i3 3 13) := (z_F hf5 rfl (by decide))
        have h24 : rg 0 6 (i5 3 13) := rg_of e23 (Rg_at hR3 3 13 0 6 (by decide) rfl)
        refine lv_iconst (v := 1) hx hb dX3_takeFold_90 (by decide) ?_
        refine q_isub hx hb dX3_takeFold_91 (fun x25 ex25 => ?_)
        obtain ⟨hx25, ax25⟩ := rg_sub (-1) 5 ex25 h24 (rg_k (by decide) : rg 1 1 1) (by decide)
        replace ax25 : x25.toInt = (i5 3 13).toInt - 1 := ax25
        refine e_Vi (As := [.int 0, .int x25]) (rest := []) X Y hT hS (m_X3_takeNumber hR5 (0) x25) mk_X3_takeNumber gm_605 rfl rfl (by decide) hd_X3_takeNumber ⟨rfl, rfl⟩ ⟨Nat.le_of_ble_eq_true rfl, Nat.le_of_ble_eq_true rfl⟩ hl.1 rfl (Nat.le_of_ble_eq_true rfl) dX3_takeFold_92 ⟨Nat.zero_le _, Nat.zero_le _⟩ (fun r26 i26 g26 H locs hq hT hS => ?_)
        rcases hq with hq | hq
        ·
          obtain ⟨hR26, hf26, rfl, hf26_0⟩ := hq
          have hF26 := Fr_tr hF5 hf26 (by decide)
          have h27 : rg 1 3 (i26 14 6) := hf26_0
          refine lv_istore_n (lv' := [(2, .int (-1)), (1, .int r5), (0, .ref (h 14))]) hx hb dX3_takeFold_95 rfl hl (by decide) rfl (fun ls hl => ?_)
          refine lv_aload_n hx hb dX3_takeFold_96 rfl (lv_at hl 2 rfl) ?_
          refine r_geti X hT 14 6 fk_3_28 rfl rfl (by decide) dX3_takeFold_97 ?_
          refine lv_if_ne (tgt := 112) hx hb dX3_takeFold_100 (by decide) (fun c28 => ?_) (fun c28 => (x_eq h27 (rg_k (by decide) : rg 0 0 0) (i_eq c28) (by decide)).elim)
          have q28 : ¬ (i26 14 6).toInt = 0 := i_ne c28
          refine lv_aload_n hx hb dX3_takeFold_112 rfl (lv_at hl 2 rfl) ?_
          refine r_geti X hT 14 6 fk_3_28 rfl rfl (by decide) dX3_takeFold_113 ?_
          refine lv_if_ne (tgt := 123) hx hb dX3_takeFold_116 (by decide) (fun c29 => ?_) (fun c29 => (x_eq h27 (rg_k (by decide) : rg 0 0 0) (i_eq c29) (by decide)).elim)
          have q29 : ¬ (i26 14 6).toInt = 0 := i_ne c29
          refine lv_iconst (v := 0) hx hb dX3_takeFold_123 (by decide) ?_
          exact hret 0 _ _ _ _ _ _ dX3_takeFold_124 hT hS ⟨hR26, hF26, (rg_w (rg_k (by decide) : rg 0 0 0) (by decide) : rg 0 1 0)⟩
        ·
          obtain ⟨hR26, hf26, hf26_0, hf26_1, hf26_2⟩ := hq
          have hF26 := Fr_tr hF5 hf26 (by decide)
          have h30 : rg 0 0 (i26 14 6) := hf26_1
          replace hf26_2 : 0 ≤ r26.toInt ∧ r26.toInt ≤ x25.toInt := hf26_2
          have h31 : rg 0 5 r26 := ⟨by have := hx25.1; have := hx25.2; omega, by have := hx25.1; have := hx25.2; omega⟩
          refine lv_istore_n (lv' := [(2, .int r26), (1, .int r5), (0, .ref (h 14))]) hx hb dX3_takeFold_95 rfl hl (by decide) rfl (fun ls hl => ?_)
          refine lv_aload_n hx hb dX3_takeFold_96 rfl (lv_at hl 2 rfl) ?_
          refine r_geti X hT 14 6 fk_3_28 rfl rfl (by decide) dX3_takeFold_97 ?_
          refine lv_if_ne (tgt := 112) hx hb dX3_takeFold_100 (by decide) (fun c32 => (x_ne h30 (rg_k (by decide) : rg 0 0 0) (i_ne c32) (by decide)).elim) (fun c32 => ?_)
          have q32 : (i26 14 6).toInt = 0 := i_eq c32
          refine lv_aload_n hx hb dX3_takeFold_103 rfl (lv_at hl 2 rfl) ?_
          refine r_getr X hT 14 1 3 fk_3_19 rfl rfl (by decide) dX3_takeFold_104 ?_
          refine lv_iload_n hx hb dX3_takeFold_107 rfl (lv_at hl 1 rfl) ?_
          refine lv_iload_n hx hb dX3_takeFold_108 rfl (lv_at hl 0 rfl) ?_
          refine e_Vv (As := [.int r5, .int r26]) (rest := []) X Y hT hS (m_X6_addFold_3 hR26 r5 r26 h20 h31) mk_X6_addFold gm_632 rfl rfl (by decide) hd_X6_addFold ⟨rfl, rfl⟩ ⟨Nat.le_of_ble_eq_true rfl, Nat.le_of_ble_eq_true rfl⟩ hl.1 rfl (Nat.le_of_ble_eq_true rfl) dX3_takeFold_109 ⟨Nat.zero_le _, Nat.zero_le _⟩ (fun i33 g33 H locs hq hT hS => ?_)
          obtain ⟨hR33, hf33⟩ := hq
          have hF33 := Fr_tr hF26 hf33 (by decide)
          refine lv_aload_n hx hb dX3_takeFold_112 rfl (lv_at hl 2 rfl) ?_
          refine r_geti X hT 14 6 fk_3_28 rfl rfl (by decide) dX3_takeFold_113 ?_
          have e34 : (i33 14 6) = (i26 14 6) := (z_F hf33 rfl (by decide))
          have h35 : rg 0 0 (i33 14 6) := rg_of e34 h30
          refine lv_if_ne (tgt := 123) hx hb dX3_takeFold_116 (by decide) (fun c36 => (x_ne h35 (rg_k (by decide) : rg 0 0 0) (i_ne c36) (by decide)).elim) (fun c36 => ?_)
          have q36 : (i33 14 6).toInt = 0 := i_eq c36
          refine lv_iconst (v := 1) hx hb dX3_takeFold_119 (by decide) ?_
          refine lv_goto (tgt := 124) hx hb dX3_takeFold_120 (by decide) ?_
          exact hret 1 _ _ _ _ _ _ dX3_takeFold_124 hT hS ⟨hR33, hF33, (rg_w (rg_k (by decide) : rg 1 1 1) (by decide) : rg 0 1 1)⟩
      ·
        have q22 : (i5 14 2).toInt = 2 := i_eq c22
        have h37 : rg 2 2 (i5 14 2) := t_eqx 2 2 (rg_top (i5 14 2)) (rg_k (by decide) : rg 2 2 2) (i_eq c22) (by decide)
        refine lv_aload_n hx hb dX3_takeFold_52 rfl (lv_at hl 1 rfl) ?_
        refine r_geti X hT 14 5 fk_3_118 rfl rfl (by decide) dX3_takeFold_53 ?_
        refine lv_iload_n hx hb dX3_takeFold_56 rfl (lv_at hl 0 rfl) ?_
        refine lv_icmp_eq (tgt := 75) hx hb dX3_takeFold_57 (by decide) (fun c38 => ?_) (fun c38 => ?_)
        ·
          have q38 : (i5 14 5).toInt = r5.toInt := i_eq c38
          have h39 : rg 0 5 (i5 14 5) := t_eqx 0 5 (rg_top (i5 14 5)) h20 (i_eq c38) (by decide)
          refine lv_aload_n hx hb dX3_takeFold_75 rfl (lv_at hl 1 rfl) ?_
          refine lv_iconst (v := 2) hx hb dX3_takeFold_76 (by decide) ?_
          refine e_Vi (As := [.int 2]) (rest := []) X Y hT hS (m_X3_refuse hR5 (2) (rg_w (rg_k (by decide) : rg 2 2 2) (by decide) : rg 1 3 2)) mk_X3_refuse gm_596 rfl rfl (by decide) hd_X3_refuse ⟨rfl, rfl⟩ ⟨Nat.le_of_ble_eq_true rfl, Nat.le_of_ble_eq_true rfl⟩ hl.1 rfl (Nat.le_of_ble_eq_true rfl) dX3_takeFold_77 ⟨Nat.zero_le _, Nat.zero_le _⟩ (fun r40 i40 g40 H locs hq hT hS => ?_)
          obtain ⟨hR40, hf40, rfl, hf40_0⟩ := hq
          have hF40 := Fr_tr hF5 hf40 (by decide)
          have h41 : rg 1 3 (i40 14 6) := hf40_0
          exact hret 0 _ _ _ _ _ _ dX3_takeFold_80 hT hS ⟨hR40, hF40, (rg_w (rg_k (by decide) : rg 0 0 0) (by decide) : rg 0 1 0)⟩
        ·
          have q38 : ¬ (i5 14 5).toInt = r5.toInt := i_ne c38
          refine lv_aload_n hx hb dX3_takeFold_60 rfl (lv_at hl 1 rfl) ?_
          refine r_getr X hT 14 1 3 fk_3_19 rfl rfl (by decide) dX3_takeFold_61 ?_
          refine lv_iload_n hx hb dX3_takeFold_64 rfl (lv_at hl 0 rfl) ?_
          refine lv_aload_n hx hb dX3_takeFold_65 rfl (lv_at hl 1 rfl) ?_
          refine r_geti X hT 14 5 fk_3_118 rfl rfl (by decide) dX3_takeFold_66 ?_
          refine e_Vi (As := [.int r5, .int (i5 14 5)]) (rest := []) X Y hT hS (m_X6_areJoined_3 hR5 r5 (i5 14 5)) mk_X6_areJoined gm_628 rfl rfl (by decide) hd_X6_areJoined ⟨rfl, rfl⟩ ⟨Nat.le_of_ble_eq_true rfl, Nat.le_of_ble_eq_true rfl⟩ hl.1 rfl (Nat.le_of_ble_eq_true rfl) dX3_takeFold_69 ⟨Nat.zero_le _, Nat.zero_le _⟩ (fun r42 i42 g42 H locs hq hT hS => ?_)
          obtain ⟨eh42, hr42⟩ := hq
          rw [(Prod.mk.inj eh42).1, (Prod.mk.inj eh42).2] at hT
          refine lv_if_eq (tgt := 81) hx hb dX3_takeFold_72 (by decide) (fun c43 => ?_) (fun c43 => ?_)
          ·
            have q43 : r42.toInt = 0 := i_eq c43
            have h44 : rg 0 0 r42 := t_eqx 0 0 hr42 (rg_k (by decide) : rg 0 0 0) (i_eq c43) (by decide)
            refine lv_aload_n hx hb dX3_takeFold_81 rfl (lv_at hl 1 rfl) ?_
            refine lv_iconst (v := 0) hx hb dX3_takeFold_82 (by decide) ?_
            refine lv_aload_n hx hb dX3_takeFold_83 rfl (lv_at hl 1 rfl) ?_
            refine r_getr X hT 14 1 3 fk_3_19 rfl rfl (by decide) dX3_takeFold_84 ?_
            refine r_geti X hT 3 13 fk_3_98 rfl rfl (by decide) dX3_takeFold_87 ?_
            have e45 : (i5 3 13) = (i3 3 13) := (z_F hf5 rfl (by decide))
            have h46 : rg 0 6 (i5 3 13) := rg_of e45 (Rg_at hR3 3 13 0 6 (by decide) rfl)
            refine lv_iconst (v := 1) hx hb dX3_takeFold_90 (by decide) ?_
            refine q_isub hx hb dX3_takeFold_91 (fun x47 ex47 => ?_)
            obtain ⟨hx47, ax47⟩ := rg_sub (-1) 5 ex47 h46 (rg_k (by decide) : rg 1 1 1) (by decide)
            replace ax47 : x47.toInt = (i5 3 13).toInt - 1 := ax47
            refine e_Vi (As := [.int 0, .int x47]) (rest := []) X Y hT hS (m_X3_takeNumber hR5 (0) x47) mk_X3_takeNumber gm_605 rfl rfl (by decide) hd_X3_takeNumber ⟨rfl, rfl⟩ ⟨Nat.le_of_ble_eq_true rfl, Nat.le_of_ble_eq_true rfl⟩ hl.1 rfl (Nat.le_of_ble_eq_true rfl) dX3_takeFold_92 ⟨Nat.zero_le _, Nat.zero_le _⟩ (fun r48 i48 g48 H locs hq hT hS => ?_)
            rcases hq with hq | hq
            ·
              obtain ⟨hR48, hf48, rfl, hf48_0⟩ := hq
              have hF48 := Fr_tr hF5 hf48 (by decide)
              have h49 : rg 1 3 (i48 14 6) := hf48_0
              refine lv_istore_n (lv' := [(2, .int (-1)), (1, .int r5), (0, .ref (h 14))]) hx hb dX3_takeFold_95 rfl hl (by decide) rfl (fun ls hl => ?_)
              refine lv_aload_n hx hb dX3_takeFold_96 rfl (lv_at hl 2 rfl) ?_
              refine r_geti X hT 14 6 fk_3_28 rfl rfl (by decide) dX3_takeFold_97 ?_
              refine lv_if_ne (tgt := 112) hx hb dX3_takeFold_100 (by decide) (fun c50 => ?_) (fun c50 => (x_eq h49 (rg_k (by decide) : rg 0 0 0) (i_eq c50) (by decide)).elim)
              have q50 : ¬ (i48 14 6).toInt = 0 := i_ne c50
              refine lv_aload_n hx hb dX3_takeFold_112 rfl (lv_at hl 2 rfl) ?_
              refine r_geti X hT 14 6 fk_3_28 rfl rfl (by decide) dX3_takeFold_113 ?_
              refine lv_if_ne (tgt := 123) hx hb dX3_takeFold_116 (by decide) (fun c51 => ?_) (fun c51 => (x_eq h49 (rg_k (by decide) : rg 0 0 0) (i_eq c51) (by decide)).elim)
              have q51 : ¬ (i48 14 6).toInt = 0 := i_ne c51
              refine lv_iconst (v := 0) hx hb dX3_takeFold_123 (by decide) ?_
              exact hret 0 _ _ _ _ _ _ dX3_takeFold_124 hT hS ⟨hR48, hF48, (rg_w (rg_k (by decide) : rg 0 0 0) (by decide) : rg 0 1 0)⟩
            ·
              obtain ⟨hR48, hf48, hf48_0, hf48_1, hf48_2⟩ := hq
              have hF48 := Fr_tr hF5 hf48 (by decide)
              have h52 : rg 0 0 (i48 14 6) := hf48_1
              replace hf48_2 : 0 ≤ r48.toInt ∧ r48.toInt ≤ x47.toInt := hf48_2
              have h53 : rg 0 5 r48 := ⟨by have := hx47.1; have := hx47.2; omega, by have := hx47.1; have := hx47.2; omega⟩
              refine lv_istore_n (lv' := [(2, .int r48), (1, .int r5), (0, .ref (h 14))]) hx hb dX3_takeFold_95 rfl hl (by decide) rfl (fun ls hl => ?_)
              refine lv_aload_n hx hb dX3_takeFold_96 rfl (lv_at hl 2 rfl) ?_
              refine r_geti X hT 14 6 fk_3_28 rfl rfl (by decide) dX3_takeFold_97 ?_
              refine lv_if_ne (tgt := 112) hx hb dX3_takeFold_100 (by decide) (fun c54 => (x_ne h52 (rg_k (by decide) : rg 0 0 0) (i_ne c54) (by decide)).elim) (fun c54 => ?_)
              have q54 : (i48 14 6).toInt = 0 := i_eq c54
              refine lv_aload_n hx hb dX3_takeFold_103 rfl (lv_at hl 2 rfl) ?_
              refine r_getr X hT 14 1 3 fk_3_19 rfl rfl (by decide) dX3_takeFold_104 ?_
              refine lv_iload_n hx hb dX3_takeFold_107 rfl (lv_at hl 1 rfl) ?_
              refine lv_iload_n hx hb dX3_takeFold_108 rfl (lv_at hl 0 rfl) ?_
              refine e_Vv (As := [.int r5, .int r48]) (rest := []) X Y hT hS (m_X6_addFold_3 hR48 r5 r48 h20 h53) mk_X6_addFold gm_632 rfl rfl (by decide) hd_X6_addFold ⟨rfl, rfl⟩ ⟨Nat.le_of_ble_eq_true rfl, Nat.le_of_ble_eq_true rfl⟩ hl.1 rfl (Nat.le_of_ble_eq_true rfl) dX3_takeFold_109 ⟨Nat.zero_le _, Nat.zero_le _⟩ (fun i55 g55 H locs hq hT hS => ?_)
              obtain ⟨hR55, hf55⟩ := hq
              have hF55 := Fr_tr hF48 hf55 (by decide)
              refine lv_aload_n hx hb dX3_takeFold_112 rfl (lv_at hl 2 rfl) ?_
              refine r_geti X hT 14 6 fk_3_28 rfl rfl (by decide) dX3_takeFold_113 ?_
              have e56 : (i55 14 6) = (i48 14 6) := (z_F hf55 rfl (by decide))
              have h57 : rg 0 0 (i55 14 6) := rg_of e56 h52
              refine lv_if_ne (tgt := 123) hx hb dX3_takeFold_116 (by decide) (fun c58 => (x_ne h57 (rg_k (by decide) : rg 0 0 0) (i_ne c58) (by decide)).elim) (fun c58 => ?_)
              have q58 : (i55 14 6).toInt = 0 := i_eq c58
              refine lv_iconst (v := 1) hx hb dX3_takeFold_119 (by decide) ?_
              refine lv_goto (tgt := 124) hx hb dX3_takeFold_120 (by decide) ?_
              exact hret 1 _ _ _ _ _ _ dX3_takeFold_124 hT hS ⟨hR55, hF55, (rg_w (rg_k (by decide) : rg 1 1 1) (by decide) : rg 0 1 1)⟩
          ·
            have q43 : ¬ r42.toInt = 0 := i_ne c43
            have h59 : rg 1 1 r42 := t_nelo 1 hr42 (rg_k (by decide) : rg 0 0 0) (i_ne c43) (by decide)
            refine lv_aload_n hx hb dX3_takeFold_75 rfl (lv_at hl 1 rfl) ?_
            refine lv_iconst (v := 2) hx hb dX3_takeFold_76 (by decide) ?_
            refine e_Vi (As := [.int 2]) (rest := []) X Y hT hS (m_X3_refuse hR5 (2) (rg_w (rg_k (by decide) : rg 2 2 2) (by decide) : rg 1 3 2)) mk_X3_refuse gm_596 rfl rfl (by decide) hd_X3_refuse ⟨rfl, rfl⟩ ⟨Nat.le_of_ble_eq_true rfl, Nat.le_of_ble_eq_true rfl⟩ hl.1 rfl (Nat.le_of_ble_eq_true rfl) dX3_takeFold_77 ⟨Nat.zero_le _, Nat.zero_le _⟩ (fun r60 i60 g60 H locs hq hT hS => ?_)
            obtain ⟨hR60, hf60, rfl, hf60_0⟩ := hq
            have hF60 := Fr_tr hF5 hf60 (by decide)
            have h61 : rg 1 3 (i60 14 6) := hf60_0
            exact hret 0 _ _ _ _ _ _ dX3_takeFold_80 hT hS ⟨hR60, hF60, (rg_w (rg_k (by decide) : rg 0 0 0) (by decide) : rg 0 1 0)⟩
  ·
    have q1 : 10 ≤ (i 3 14).toInt := i_nlt c1
    have h62 : rg 10 10 (i 3 14) := t_ley 10 10 (rg_k (by decide) : rg 10 10 10) (Rg_at hR 3 14 0 10 (by decide) rfl) (i_nlt c1) (by decide)
    refine lv_aload_n hx hb dX3_takeFold_12 rfl (lv_at hl 0 rfl) ?_
    refine lv_iconst (v := 3) hx hb dX3_takeFold_13 (by decide) ?_
    refine e_Vi (As := [.int 3]) (rest := []) X Y hT hS (m_X3_refuse hR (3) (rg_w (rg_k (by decide) : rg 3 3 3) (by decide) : rg 1 3 3)) mk_X3_refuse gm_596 rfl rfl (by decide) hd_X3_refuse ⟨rfl, rfl⟩ ⟨Nat.le_of_ble_eq_true rfl, Nat.le_of_ble_eq_true rfl⟩ hl.1 rfl (Nat.le_of_ble_eq_true rfl) dX3_takeFold_14 ⟨Nat.zero_le _, Nat.zero_le _⟩ (fun r63 i63 g63 H locs hq hT hS => ?_)
    obtain ⟨hR63, hf63, rfl, hf63_0⟩ := hq
    have hF63 := Fr_tr hF hf63 (by decide)
    have h64 : rg 1 3 (i63 14 6) := hf63_0
    exact hret 0 _ _ _ _ _ _ dX3_takeFold_17 hT hS ⟨hR63, hF63, (rg_w (rg_k (by decide) : rg 0 0 0) (by decide) : rg 0 1 0)⟩
set_option maxRecDepth 100000 in
set_option maxHeartbeats 4000000 in
theorem m_X6_addKnife_3 {l : Launch} {D : va_G} {h : Nat → Nat} {cz : Nat → ClassId} {z : EZ} {i : Nat → Nat → Int32} {g : Nat → Nat → Int64} (hR : Rg rA i) (a_a : Int32) (a_b : Int32) (ha_a : rg 0 5 a_a) (ha_b : rg 0 11 a_b) : DtV l yX6_addKnife cX6_addKnife 3 none ({ frames := 0, cells := 0, slots := 0, locals := 0 } : Room) D h cz z i g [.ref (h 3), .int a_a, .int a_b] (fun u => Rg rA u.1 ∧ Fr [3, 9, 10] [] i g u) := by
  refine e_V pn_X6_addKnife (Nat.le_of_ble_eq_true rfl) ?_
  intro p e s m args below meth c ls Q X Y hret hT hl hS
  have hx := X.1
  have hb := X.2.1
  have hl : lv_has ls 3 [(0, .ref (h 3)), (1, .int a_a), (2, .int a_b)] := hl
  have hF : Fr [3, 9, 10] [] i g (i, g) := Fr_rf _ _ _ _
  refine lv_aload_n hx hb dX6_addKnife_0 rfl (lv_at hl 0 rfl) ?_
  refine r_geti X hT 3 15 fk_6_58 rfl rfl (by decide) dX6_addKnife_1 ?_
  refine lv_bipush (v := 8) hx hb dX6_addKnife_4 (by decide) ?_
  refine lv_icmp_ge (tgt := 39) hx hb dX6_addKnife_6 (by decide) (fun c1 => ?_) (fun c1 => ?_)
  ·
    have q1 : 8 ≤ (i 3 15).toInt := i_le c1
    have h2 : rg 8 8 (i 3 15) := t_ley 8 8 (rg_k (by decide) : rg 8 8 8) (Rg_at hR 3 15 0 8 (by decide) rfl) (i_le c1) (by decide)
    exact hret _ _ _ _ _ _ dX6_addKnife_39 hT hS ⟨hR, hF⟩
  ·
    have q1 : (i 3 15).toInt < 8 := i_nle c1
    have h3 : rg 0 7 (i 3 15) := t_ltx 0 7 (Rg_at hR 3 15 0 8 (by decide) rfl) (rg_k (by decide) : rg 8 8 8) (i_nle c1) (by decide)
    refine lv_aload_n hx hb dX6_addKnife_9 rfl (lv_at hl 0 rfl) ?_
    refine r_getr X hT 3 5 9 fk_6_27 rfl rfl (by decide) dX6_addKnife_10 ?_
    refine lv_aload_n hx hb dX6_addKnife_13 rfl (lv_at hl 0 rfl) ?_
    refine r_geti X hT 3 15 fk_6_58 rfl rfl (by decide) dX6_addKnife_14 ?_
    refine lv_iload_n hx hb dX6_addKnife_17 rfl (lv_at hl 1 rfl) ?_
    refine r_iast X hT hS 9 rfl (by decide) (v_in h3 (by decide)) dX6_addKnife_18 (fun H locs i4 ei4 hT hS => ?_)
    have hR4 := Rg_put hR ei4 0 5 rfl ha_a (by decide)
    have hF4 := Fr_puti hF ei4 (by decide)
    refine lv_aload_n hx hb dX6_addKnife_19 rfl (lv_at hl 0 rfl) ?_
    refine r_getr X hT 3 6 10 fk_6_30 rfl rfl (by decide) dX6_addKnife_20 ?_
    refine lv_aload_n hx hb dX6_addKnife_23 rfl (lv_at hl 0 rfl) ?_
    refine r_geti X hT 3 15 fk_6_58 rfl rfl (by decide) dX6_addKnife_24 ?_
    have e5 : (i4 3 15) = (i 3 15) := (z_j ei4 rfl (by decide))
    have h6 : rg 0 7 (i4 3 15) := rg_of e5 h3
    refine lv_iload_n hx hb dX6_addKnife_27 rfl (lv_at hl 2 rfl) ?_
    refine r_iast X hT hS 10 rfl (by decide) (v_in h6 (by decide)) dX6_addKnife_28 (fun H locs i7 ei7 hT hS => ?_)
    have hR7 := Rg_put hR4 ei7 0 11 rfl ha_b (by decide)
    have hF7 := Fr_puti hF4 ei7 (by decide)
    refine lv_aload_n hx hb dX6_addKnife_29 rfl (lv_at hl 0 rfl) ?_
    refine lv_dup hx hb dX6_addKnife_30 rfl ?_
    refine r_geti X hT 3 15 fk_6_58 rfl rfl (by decide) dX6_addKnife_31 ?_
    have e8 : (i7 3 15) = (i 3 15) := (z_j ei7 (z_j ei4 rfl (by decide)) (by decide))
    have h9 : rg 0 7 (i7 3 15) := rg_of e8 h3
    refine lv_iconst (v := 1) hx hb dX6_addKnife_34 (by decide) ?_
    refine q_iadd hx hb dX6_addKnife_35 (fun x10 ex10 => ?_)
    obtain ⟨hx10, ax10⟩ := rg_add 1 8 ex10 h9 (rg_k (by decide) : rg 1 1 1) (by decide)
    replace ax10 : x10.toInt = (i7 3 15).toInt + 1 := ax10
    refine r_puti X hT hS 3 15 pk_6_58 rfl rfl rfl rfl (by decide) dX6_addKnife_36 (fun H locs i11 ei11 hT hS => ?_)
    have hR11 := Rg_put hR7 ei11 0 8 rfl hx10 (by decide)
    have hF11 := Fr_puti hF7 ei11 (by decide)
    exact hret _ _ _ _ _ _ dX6_addKnife_39 hT hS ⟨hR11, hF11⟩
