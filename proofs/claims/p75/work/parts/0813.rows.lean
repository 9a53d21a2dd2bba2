set_option maxRecDepth 100000 in
set_option maxHeartbeats 4000000 in
theorem m_X9_lost {l : Launch} {D : va_G} {h : Nat → Nat} {cz : Nat → ClassId} {z : EZ} {i : Nat → Nat → Int32} {g : Nat → Nat → Int64} (hR : Rg rA i) : DtI l yX9_lost cX9_lost 3 (some .int) ({ frames := 6, cells := 0, slots := 0, locals := 132 } : Room) D h cz z i g [.ref (h 96)] (fun r u => Rg rA u.1 ∧ Fr [96, 109, 110, 111, 112, 113, 114, 115] [] i g u) := by
  refine e_I pn_X9_lost (Nat.le_of_ble_eq_true rfl) ?_
  intro p e s m args below meth c ls Q X Y hret hT hl hS
  have hx := X.1
  have hb := X.2.1
  have hl : lv_has ls 3 [(0, .ref (h 96))] := hl
  have hF : Fr [96, 109, 110, 111, 112, 113, 114, 115] [] i g (i, g) := Fr_rf _ _ _ _
  refine lv_aload_n hx hb dX9_lost_0 rfl (lv_at hl 0 rfl) ?_
  refine lv_iconst (v := 0) hx hb dX9_lost_1 (by decide) ?_
  refine r_puti X hT hS 96 0 pk_9_83 rfl rfl rfl rfl (by decide) dX9_lost_2 (fun H locs i1 ei1 hT hS => ?_)
  have hR1 := Rg_put hR ei1 (-2147483648) 2147483647 rfl (rg_k (by decide) : rg 0 0 0) (by decide)
  have hF1 := Fr_puti hF ei1 (by decide)
  refine lv_aload_n hx hb dX9_lost_5 rfl (lv_at hl 0 rfl) ?_
  refine e_Vi (As := []) (rest := []) X Y hT hS (m_X9_isTale hR1) mk_X9_isTale gm_1685 rfl rfl (by decide) hd_X9_isTale ⟨rfl, rfl⟩ ⟨Nat.le_of_ble_eq_true rfl, Nat.le_of_ble_eq_true rfl⟩ hl.1 rfl (Nat.le_of_ble_eq_true rfl) dX9_lost_6 ⟨Nat.zero_le _, Nat.zero_le _⟩ (fun r2 i2 g2 H locs hq hT hS => ?_)
  obtain ⟨eh2, hr2⟩ := hq
  rw [(Prod.mk.inj eh2).1, (Prod.mk.inj eh2).2] at hT
  refine lv_if_ne (tgt := 15) hx hb dX9_lost_9 (by decide) (fun c3 => ?_) (fun c3 => ?_)
  ·
    have q3 : ¬ r2.toInt = 0 := i_ne c3
    have h4 : rg 1 1 r2 := t_nelo 1 hr2 (rg_k (by decide) : rg 0 0 0) (i_ne c3) (by decide)
    refine lv_aload_n hx hb dX9_lost_15 rfl (lv_at hl 0 rfl) ?_
    refine e_Vv (As := []) (rest := []) X Y hT hS (m_X9_laysNow hR1) mk_X9_laysNow gm_1693 rfl rfl (by decide) hd_X9_laysNow ⟨rfl, rfl⟩ ⟨Nat.le_of_ble_eq_true rfl, Nat.le_of_ble_eq_true rfl⟩ hl.1 rfl (Nat.le_of_ble_eq_true rfl) dX9_lost_16 ⟨Nat.zero_le _, Nat.zero_le _⟩ (fun i5 g5 H locs hq hT hS => ?_)
    obtain ⟨hR5, hf5⟩ := hq
    have hF5 := Fr_tr hF1 hf5 (by decide)
    refine lv_iconst (v := 0) hx hb dX9_lost_19 (by decide) ?_
    refine lv_istore_n (lv' := [(1, .int 0), (0, .ref (h 96))]) hx hb dX9_lost_20 rfl hl (by decide) rfl (fun ls hl => ?_)
    refine lv_iconst (v := 0) hx hb dX9_lost_21 (by decide) ?_
    refine lv_istore_n (lv' := [(2, .int 0), (1, .int 0), (0, .ref (h 96))]) hx hb dX9_lost_22 rfl hl (by decide) rfl (fun ls hl => ?_)
    have L23_6 : ∀ (n7_ : Nat) (x23_1 : Int32) (x23_2 : Int32) (H : Heap) (locs : List Loc) (ls : Array Slot), rg 0 6 x23_2 → TH D h cz i5 g5 H → va_S (hA h) s.heap H locs → lv_has ls 3 [(0, .ref (h 96)), (1, .int x23_1), (2, .int x23_2)] → (6 - x23_2.toInt).toNat < n7_ → W p l e ({ frames := 6, cells := 0, slots := 0, locals := 132 } : Room) s m args below meth c H locs 0 0 Q (F0 m 23 ls []) := by
      intro n7_
      induction n7_ with
      | zero => intro x23_1 x23_2 H locs ls hhx23_2 hT hS hl hm7_; exact absurd hm7_ (Nat.not_lt_zero _)
      | succ n7_ ih7_ =>
        intro x23_1 x23_2 H locs ls hhx23_2 hT hS hl hm7_
        refine lv_iload_n hx hb dX9_lost_23 rfl (lv_at hl 2 rfl) ?_
        refine lv_aload_n hx hb dX9_lost_24 rfl (lv_at hl 0 rfl) ?_
        refine e_Vi (As := []) (rest := [.int x23_2]) X Y hT hS (m_X9_parts hR5) mk_X9_parts gm_1649 rfl rfl (by decide) hd_X9_parts ⟨rfl, rfl⟩ ⟨Nat.le_of_ble_eq_true rfl, Nat.le_of_ble_eq_true rfl⟩ hl.1 rfl (Nat.le_of_ble_eq_true rfl) dX9_lost_25 ⟨Nat.zero_le _, Nat.zero_le _⟩ (fun r8 i8 g8 H locs hq hT hS => ?_)
        obtain ⟨eh8, hr8⟩ := hq
        rw [(Prod.mk.inj eh8).1, (Prod.mk.inj eh8).2] at hT
        refine lv_icmp_ge (tgt := 69) hx hb dX9_lost_28 (by decide) (fun c9 => ?_) (fun c9 => ?_)
        ·
          have q9 : r8.toInt ≤ x23_2.toInt := i_le c9
          refine lv_iload_n hx hb dX9_lost_69 rfl (lv_at hl 1 rfl) ?_
          exact hret x23_1 _ _ _ _ _ _ dX9_lost_70 hT hS ⟨hR5, hF5⟩
        ·
          have q9 : x23_2.toInt < r8.toInt := i_nle c9
          have h10 : rg 0 5 x23_2 := t_ltx 0 5 hhx23_2 hr8 (i_nle c9) (by decide)
          have h11 : rg 1 6 r8 := t_lty 1 6 hhx23_2 hr8 (i_nle c9) (by decide)
          refine lv_iload_n hx hb dX9_lost_31 rfl (lv_at hl 1 rfl) ?_
          refine lv_aload_n hx hb dX9_lost_32 rfl (lv_at hl 0 rfl) ?_
          refine r_getr X hT 96 34 115 fk_9_71 rfl rfl (by decide) dX9_lost_33 ?_
          refine lv_iload_n hx hb dX9_lost_36 rfl (lv_at hl 2 rfl) ?_
          refine r_iald X hT 115 rfl (by decide) (v_in h10 (by decide)) dX9_lost_37 ?_
          refine lv_iconst (v := (-1)) hx hb dX9_lost_38 (by decide) ?_
          refine lv_icmp_ne (tgt := 46) hx hb dX9_lost_39 (by decide) (fun c12 => ?_) (fun c12 => ?_)
          ·
            have q12 : ¬ (i5 115 x23_2.toNatClampNeg).toInt = (-1) := i_ne c12
            refine lv_aload_n hx hb dX9_lost_46 rfl (lv_at hl 0 rfl) ?_
            refine r_getr X hT 96 18 104 fk_9_37 rfl rfl (by decide) dX9_lost_47 ?_
            refine lv_iconst (v := 3) hx hb dX9_lost_50 (by decide) ?_
            refine lv_iload_n hx hb dX9_lost_51 rfl (lv_at hl 2 rfl) ?_
            refine q_imul hx hb dX9_lost_52 (fun x13 ex13 => ?_)
            obtain ⟨hx13, ax13⟩ := rg_mul 0 15 ex13 (rg_k (by decide) : rg 3 3 3) h10 (by decide)
            replace ax13 : x13.toInt = 3 * x23_2.toInt := ax13
            refine r_iald X hT 104 rfl (by decide) (v_in hx13 (by decide)) dX9_lost_53 ?_
            refine lv_aload_n hx hb dX9_lost_54 rfl (lv_at hl 0 rfl) ?_
            refine r_getr X hT 96 34 115 fk_9_71 rfl rfl (by decide) dX9_lost_55 ?_
            refine lv_iload_n hx hb dX9_lost_58 rfl (lv_at hl 2 rfl) ?_
            refine r_iald X hT 115 rfl (by decide) (v_in h10 (by decide)) dX9_lost_59 ?_
            refine q_isub hx hb dX9_lost_60 (fun x14 ex14 => ?_)
            refine q_iadd hx hb dX9_lost_61 (fun x15 ex15 => ?_)
            refine lv_istore_n (lv' := [(1, .int x15), (0, .ref (h 96)), (2, .int x23_2)]) hx hb dX9_lost_62 rfl hl (by decide) rfl (fun ls hl => ?_)
            obtain ⟨x16, ex16⟩ : ∃ y : Int32, y = x23_2 + 1 := ⟨_, rfl⟩
            refine lv_iinc (v := x16) (lv' := [(2, .int x16), (1, .int x15), (0, .ref (h 96))]) hx hb dX9_lost_63 hl (k := 2) rfl (by rw [ex16]; rfl) (by decide) rfl (fun ls hl => ?_)
            obtain ⟨hx16, ax16⟩ := rg_add 1 6 ex16 h10 (rg_k (by decide) : rg 1 1 1) (by decide)
            replace ax16 : x16.toInt = x23_2.toInt + 1 := ax16
            refine lv_goto (tgt := 23) hx hb dX9_lost_66 (by decide) ?_
            exact ih7_ x15 x16 _ _ _ (rg_w hx16 (by decide) : rg 0 6 x16) hT hS (lv_sub hl [2, 1, 0] rfl) (m_up ax16 hx16 (by decide) hm7_)
          ·
            have q12 : (i5 115 x23_2.toNatClampNeg).toInt = (-1) := i_eq c12
            have h17 : rg (-1) (-1) (i5 115 x23_2.toNatClampNeg) := t_eqx (-1) (-1) (rg_top (i5 115 x23_2.toNatClampNeg)) (rg_k (by decide) : rg (-1) (-1) (-1)) (i_eq c12) (by decide)
            refine lv_iconst (v := 0) hx hb dX9_lost_42 (by decide) ?_
            refine lv_goto (tgt := 61) hx hb dX9_lost_43 (by decide) ?_
            refine q_iadd hx hb dX9_lost_61 (fun x18 ex18 => ?_)
            obtain ⟨hx18, ax18⟩ := rg_add (-2147483648) 2147483647 ex18 (rg_top x23_1) (rg_k (by decide) : rg 0 0 0) (by decide)
            replace ax18 : x18.toInt = x23_1.toInt + 0 := ax18
            refine lv_istore_n (lv' := [(1, .int x18), (0, .ref (h 96)), (2, .int x23_2)]) hx hb dX9_lost_62 rfl hl (by decide) rfl (fun ls hl => ?_)
            obtain ⟨x19, ex19⟩ : ∃ y : Int32, y = x23_2 + 1 := ⟨_, rfl⟩
            refine lv_iinc (v := x19) (lv' := [(2, .int x19), (1, .int x18), (0, .ref (h 96))]) hx hb dX9_lost_63 hl (k := 2) rfl (by rw [ex19]; rfl) (by decide) rfl (fun ls hl => ?_)
            obtain ⟨hx19, ax19⟩ := rg_add 1 6 ex19 h10 (rg_k (by decide) : rg 1 1 1) (by decide)
            replace ax19 : x19.toInt = x23_2.toInt + 1 := ax19
            refine lv_goto (tgt := 23) hx hb dX9_lost_66 (by decide) ?_
            exact ih7_ x18 x19 _ _ _ (rg_w hx19 (by decide) : rg 0 6 x19) hT hS (lv_sub hl [2, 1, 0] rfl) (m_up ax19 hx19 (by decide) hm7_)
    exact L23_6 _ (0) (0) _ _ _ (rg_w (rg_k (by decide) : rg 0 0 0) (by decide) : rg 0 6 0) hT hS (lv_sub hl [2, 1, 0] rfl) (Nat.lt_succ_self _)
  ·
    have q3 : r2.toInt = 0 := i_eq c3
    have h20 : rg 0 0 r2 := t_eqx 0 0 hr2 (rg_k (by decide) : rg 0 0 0) (i_eq c3) (by decide)
    refine lv_bipush (v := (-2)) hx hb dX9_lost_12 (by decide) ?_
    exact hret (-2) _ _ _ _ _ _ dX9_lost_14 hT hS ⟨hR1, hF1⟩
set_option maxRecDepth 100000 in
set_option maxHeartbeats 4000000 in
theorem m_X9_knives {l : Launch} {D : va_G} {h : Nat → Nat} {cz : Nat → ClassId} {z : EZ} {i : Nat → Nat → Int32} {g : Nat → Nat → Int64} (hR : Rg rA i) (a_a : Int32) : DtI l yX9_knives cX9_knives 4 (some .int) ({ frames := 2, cells := 0, slots := 0, locals := 47 } : Room) D h cz z i g [.ref (h 96), .int a_a] (fun r u => Rg rA u.1 ∧ Fr [96] [] i g u ∧ rg (-2) 255 r) := by
  refine e_I pn_X9_knives (Nat.le_of_ble_eq_true rfl) ?_
  intro p e s m args below meth c ls Q X Y hret hT hl hS
  have hx := X.1
  have hb := X.2.1
  have hl : lv_has ls 4 [(0, .ref (h 96)), (1, .int a_a)] := hl
  have hF : Fr [96] [] i g (i, g) := Fr_rf _ _ _ _
  refine lv_aload_n hx hb dX9_knives_0 rfl (lv_at hl 0 rfl) ?_
  refine lv_iconst (v := 0) hx hb dX9_knives_1 (by decide) ?_
  refine r_puti X hT hS 96 0 pk_9_83 rfl rfl rfl rfl (by decide) dX9_knives_2 (fun H locs i1 ei1 hT hS => ?_)
  have hR1 := Rg_put hR ei1 (-2147483648) 2147483647 rfl (rg_k (by decide) : rg 0 0 0) (by decide)
  have hF1 := Fr_puti hF ei1 (by decide)
  refine lv_aload_n hx hb dX9_knives_5 rfl (lv_at hl 0 rfl) ?_
  refine lv_iload_n hx hb dX9_knives_6 rfl (lv_at hl 1 rfl) ?_
  refine q_i2l hx hb dX9_knives_7 (fun y2 ey2 => ?_)
  obtain ⟨hy2, ay2⟩ := rg_i2l ey2 (rg_top a_a)
  refine e_Vi (As := [.long y2]) (rest := []) X Y hT hS (m_X9_isPart hR1 y2) mk_X9_isPart gm_1645 rfl rfl (by decide) hd_X9_isPart ⟨rfl, rfl⟩ ⟨Nat.le_of_ble_eq_true rfl, Nat.le_of_ble_eq_true rfl⟩ hl.1 rfl (Nat.le_of_ble_eq_true rfl) dX9_knives_8 ⟨Nat.zero_le _, Nat.zero_le _⟩ (fun r3 i3 g3 H locs hq hT hS => ?_)
  rcases hq with hq | hq
  ·
    obtain ⟨eh3, rfl, hf3_0⟩ := hq
    rw [(Prod.mk.inj eh3).1, (Prod.mk.inj eh3).2] at hT
    have h4 : rgL 0 5 y2 := ⟨by have := hy2.1; have := hf3_0.1; omega, by have := hy2.2; have := hf3_0.2; omega⟩
    have h5 : rg 0 5 a_a := ⟨by have := h4.1; have := (rg_top a_a).1; have := ay2; omega, by have := h4.2; have := (rg_top a_a).2; have := ay2; omega⟩
    refine lv_if_ne (tgt := 17) hx hb dX9_knives_11 (by decide) (fun c6 => ?_) (fun c6 => (x_eq (rg_k (by decide) : rg 1 1 1) (rg_k (by decide) : rg 0 0 0) (i_eq c6) (by decide)).elim)
    refine lv_iconst (v := 0) hx hb dX9_knives_17 (by decide) ?_
    refine lv_istore_n (lv' := [(2, .int 0), (0, .ref (h 96)), (1, .int a_a)]) hx hb dX9_knives_18 rfl hl (by decide) rfl (fun ls hl => ?_)
    refine lv_iconst (v := 0) hx hb dX9_knives_19 (by decide) ?_
    refine lv_istore_n (lv' := [(3, .int 0), (2, .int 0), (0, .ref (h 96)), (1, .int a_a)]) hx hb dX9_knives_20 rfl hl (by decide) rfl (fun ls hl => ?_)
    have L21_7 : ∀ (n8_ : Nat) (x21_2 : Int32) (x21_3 : Int32) (H : Heap) (locs : List Loc) (ls : Array Slot), rg 0 255 x21_2 → rg 0 8 x21_3 → TH D h cz i1 g H → va_S (hA h) s.heap H locs → lv_has ls 4 [(0, .ref (h 96)), (1, .int a_a), (2, .int x21_2), (3, .int x21_3)] → (8 - x21_3.toInt).toNat < n8_ → W p l e ({ frames := 2, cells := 0, slots := 0, locals := 47 } : Room) s m args below meth c H locs 0 0 Q (F0 m 21 ls []) := by
      intro n8_
      induction n8_ with
      | zero => intro x21_2 x21_3 H locs ls hhx21_2 hhx21_3 hT hS hl hm8_; exact absurd hm8_ (Nat.not_lt_zero _)
      | succ n8_ ih8_ =>
        intro x21_2 x21_3 H locs ls hhx21_2 hhx21_3 hT hS hl hm8_
        refine lv_iload_n hx hb dX9_knives_21 rfl (lv_at hl 3 rfl) ?_
        refine lv_aload_n hx hb dX9_knives_22 rfl (lv_at hl 0 rfl) ?_
        refine r_getr X hT 96 17 103 fk_9_34 rfl rfl (by decide) dX9_knives_23 ?_
        refine lv_iconst (v := 5) hx hb dX9_knives_26 (by decide) ?_
        refine r_ialdc X hT 103 5 rfl (by decide) (v_in (rg_k (by decide) : rg 5 5 5) (by decide)) (by decide) dX9_knives_27 ?_
        refine lv_icmp_ge (tgt := 59) hx hb dX9_knives_28 (by decide) (fun c9 => ?_) (fun c9 => ?_)
        ·
          have q9 : (i1 103 5).toInt ≤ x21_3.toInt := i_le c9
          refine lv_iload_n hx hb dX9_knives_59 rfl (lv_at hl 2 rfl) ?_
          exact hret x21_2 _ _ _ _ _ _ dX9_knives_60 hT hS ⟨hR1, hF1, (rg_w hhx21_2 (by decide) : rg (-2) 255 x21_2)⟩
        ·
          have q9 : x21_3.toInt < (i1 103 5).toInt := i_nle c9
          have h10 : rg 0 7 x21_3 := t_ltx 0 7 hhx21_3 (Rg_at hR1 103 5 0 8 (by decide) rfl) (i_nle c9) (by decide)
          have h11 : rg 1 8 (i1 103 5) := t_lty 1 8 hhx21_3 (Rg_at hR1 103 5 0 8 (by decide) rfl) (i_nle c9) (by decide)
          refine lv_iload_n hx hb dX9_knives_31 rfl (lv_at hl 2 rfl) ?_
          refine lv_aload_n hx hb dX9_knives_32 rfl (lv_at hl 0 rfl) ?_
          refine r_getr X hT 96 20 106 fk_9_43 rfl rfl (by decide) dX9_knives_33 ?_
          refine lv_iconst (v := 2) hx hb dX9_knives_36 (by decide) ?_
          refine lv_iload_n hx hb dX9_knives_37 rfl (lv_at hl 3 rfl) ?_
          refine q_imul hx hb dX9_knives_38 (fun x12 ex12 => ?_)
          obtain ⟨hx12, ax12⟩ := rg_mul 0 14 ex12 (rg_k (by decide) : rg 2 2 2) h10 (by decide)
          replace ax12 : x12.toInt = 2 * x21_3.toInt := ax12
          refine r_iald X hT 106 rfl (by decide) (v_in hx12 (by decide)) dX9_knives_39 ?_
          have h13 : rg 0 5 (i1 106 x12.toNatClampNeg) := Rg_ata hR1 106 x12.toNatClampNeg 0 5 (v_lt (v_in hx12 (by decide))) (aff_at (m := 2) (a := 0) (n := 8) (c := 0) (by decide) (v := x21_3.toInt) ⟨by have := h10.1; omega, by have := h10.2; omega⟩ (by have := ax12; omega))
          refine lv_iload_n hx hb dX9_knives_40 rfl (lv_at hl 1 rfl) ?_
          refine lv_icmp_ne (tgt := 50) hx hb dX9_knives_41 (by decide) (fun c14 => ?_) (fun c14 => ?_)
          ·
            have q14 : ¬ (i1 106 x12.toNatClampNeg).toInt = a_a.toInt := i_ne c14
            refine lv_iconst (v := 0) hx hb dX9_knives_50 (by decide) ?_
            refine q_ior hx hb dX9_knives_51 (fun x15 ex15 => ?_)
            have h16 : rg 0 255 x15 := rg_or8 ex15 hhx21_2 (rg_k (by decide) : rg 0 0 0) (by decide)
            refine lv_istore_n (lv' := [(2, .int x15), (0, .ref (h 96)), (1, .int a_a), (3, .int x21_3)]) hx hb dX9_knives_52 rfl hl (by decide) rfl (fun ls hl => ?_)
            obtain ⟨x17, ex17⟩ : ∃ y : Int32, y = x21_3 + 1 := ⟨_, rfl⟩
            refine lv_iinc (v := x17) (lv' := [(3, .int x17), (2, .int x15), (0, .ref (h 96)), (1, .int a_a)]) hx hb dX9_knives_53 hl (k := 3) rfl (by rw [ex17]; rfl) (by decide) rfl (fun ls hl => ?_)
            obtain ⟨hx17, ax17⟩ := rg_add 1 8 ex17 h10 (rg_k (by decide) : rg 1 1 1) (by decide)
            replace ax17 : x17.toInt = x21_3.toInt + 1 := ax17
            refine lv_goto (tgt := 21) hx hb dX9_knives_56 (by decide) ?_
            exact ih8_ x15 x17 _ _ _ h16 (rg_w hx17 (by decide) : rg 0 8 x17) hT hS (lv_sub hl [2, 3, 1, 0] rfl) (m_up ax17 hx17 (by decide) hm8_)
          ·
            have q14 : (i1 106 x12.toNatClampNeg).toInt = a_a.toInt := i_eq c14
            refine lv_iconst (v := 1) hx hb dX9_knives_44 (by decide) ?_
            refine lv_iload_n hx hb dX9_knives_45 rfl (lv_at hl 3 rfl) ?_
            refine q_ishl hx hb dX9_knives_46 (fun x18 ex18 => ?_)
            have h19 : rg 1 128 x18 := rg_shl1 ex18 h10 (by decide)
            refine lv_goto (tgt := 51) hx hb dX9_knives_47 (by decide) ?_
            refine q_ior hx hb dX9_knives_51 (fun x20 ex20 => ?_)
            have h21 : rg 0 255 x20 := rg_or8 ex20 hhx21_2 h19 (by decide)
            refine lv_istore_n (lv' := [(2, .int x20), (0, .ref (h 96)), (1, .int a_a), (3, .int x21_3)]) hx hb dX9_knives_52 rfl hl (by decide) rfl (fun ls hl => ?_)
            obtain ⟨x22, ex22⟩ : ∃ y : Int32, y = x21_3 + 1 := ⟨_, rfl⟩
            refine lv_iinc (v := x22) (lv' := [(3, .int x22), (2, .int x20), (0, .ref (h 96)), (1, .int a_a)]) hx hb dX9_knives_53 hl (k := 3) rfl (by rw [ex22]; rfl) (by decide) rfl (fun ls hl => ?_)
            obtain ⟨hx22, ax22⟩ := rg_add 1 8 ex22 h10 (rg_k (by decide) : rg 1 1 1) (by decide)
            replace ax22 : x22.toInt = x21_3.toInt + 1 := ax22
            refine lv_goto (tgt := 21) hx hb dX9_knives_56 (by decide) ?_
            exact ih8_ x20 x22 _ _ _ h21 (rg_w hx22 (by decide) : rg 0 8 x22) hT hS (lv_sub hl [2, 3, 1, 0] rfl) (m_up ax22 hx22 (by decide) hm8_)
    exact L21_7 _ (0) (0) _ _ _ (rg_w (rg_k (by decide) : rg 0 0 0) (by decide) : rg 0 255 0) (rg_w (rg_k (by decide) : rg 0 0 0) (by decide) : rg 0 8 0) hT hS (lv_sub hl [2, 3, 1, 0] rfl) (Nat.lt_succ_self _)
  ·
    obtain ⟨eh3, rfl⟩ := hq
    rw [(Prod.mk.inj eh3).1, (Prod.mk.inj eh3).2] at hT
    refine lv_if_ne (tgt := 17) hx hb dX9_knives_11 (by decide) (fun c23 => (x_ne (rg_k (by decide) : rg 0 0 0) (rg_k (by decide) : rg 0 0 0) (i_ne c23) (by decide)).elim) (fun c23 => ?_)
    refine lv_bipush (v := (-2)) hx hb dX9_knives_14 (by decide) ?_
    exact hret (-2) _ _ _ _ _ _ dX9_knives_16 hT hS ⟨hR1, hF1, (rg_w (rg_k (by decide) : rg (-2) (-2) (-2)) (by decide) : rg (-2) 255 (-2))⟩
set_option maxRecDepth 100000 in
set_option maxHeartbeats 4000000 in
theorem m_X9_idle {l : Launch} {D : va_G} {h : Nat → Nat} {cz : Nat → ClassId} {z : EZ} {i : Nat → Nat → Int32} {g : Nat → Nat → Int64} (hR : Rg rA i) : DtI l yX9_idle cX9_idle 3 (some .int) ({ frames := 6, cells := 0, slots := 0, locals := 132 } : Room) D h cz z i g [.ref (h 96)] (fun r u => Rg rA u.1 ∧ Fr [96, 109, 110, 111, 112, 113, 114, 115] [] i g u ∧ rg (-2) 255 r) := by
  refine e_I pn_X9_idle (Nat.le_of_ble_eq_true rfl) ?_
  intro p e s m args below meth c ls Q X Y hret hT hl hS
  have hx := X.1
  have hb := X.2.1
  have hl : lv_has ls 3 [(0, .ref (h 96))] := hl
  have hF : Fr [96, 109, 110, 111, 112, 113, 114, 115] [] i g (i, g) := Fr_rf _ _ _ _
  refine lv_aload_n hx hb dX9_idle_0 rfl (lv_at hl 0 rfl) ?_
  refine lv_iconst (v := 0) hx hb dX9_idle_1 (by decide) ?_
  refine r_puti X hT hS 96 0 pk_9_83 rfl rfl rfl rfl (by decide) dX9_idle_2 (fun H locs i1 ei1 hT hS => ?_)
  have hR1 := Rg_put hR ei1 (-2147483648) 2147483647 rfl (rg_k (by decide) : rg 0 0 0) (by decide)
  have hF1 := Fr_puti hF ei1 (by decide)
  refine lv_aload_n hx hb dX9_idle_5 rfl (lv_at hl 0 rfl) ?_
  refine e_Vi (As := []) (rest := []) X Y hT hS (m_X9_isTale hR1) mk_X9_isTale gm_1685 rfl rfl (by decide) hd_X9_isTale ⟨rfl, rfl⟩ ⟨Nat.le_of_ble_eq_true rfl, Nat.le_of_ble_eq_true rfl⟩ hl.1 rfl (Nat.le_of_ble_eq_true rfl) dX9_idle_6 ⟨Nat.zero_le _, Nat.zero_le _⟩ (fun r2 i2 g2 H locs hq hT hS => ?_)
  obtain ⟨eh2, hr2⟩ := hq
  rw [(Prod.mk.inj eh2).1, (Prod.mk.inj eh2).2] at hT
  refine lv_if_ne (tgt := 15) hx hb dX9_idle_9 (by decide) (fun c3 => ?_) (fun c3 => ?_)
  ·
    have q3 : ¬ r2.toInt = 0 := i_ne c3
    have h4 : rg 1 1 r2 := t_nelo 1 hr2 (rg_k (by decide) : rg 0 0 0) (i_ne c3) (by decide)
    refine lv_aload_n hx hb dX9_idle_15 rfl (lv_at hl 0 rfl) ?_
    refine e_Vv (As := []) (rest := []) X Y hT hS (m_X9_laysNow hR1) mk_X9_laysNow gm_1693 rfl rfl (by decide) hd_X9_laysNow ⟨rfl, rfl⟩ ⟨Nat.le_of_ble_eq_true rfl, Nat.le_of_ble_eq_true rfl⟩ hl.1 rfl (Nat.le_of_ble_eq_true rfl) dX9_idle_16 ⟨Nat.zero_le _, Nat.zero_le _⟩ (fun i5 g5 H locs hq hT hS => ?_)
    obtain ⟨hR5, hf5⟩ := hq
    have hF5 := Fr_tr hF1 hf5 (by decide)
    refine lv_iconst (v := 0) hx hb dX9_idle_19 (by decide) ?_
    refine lv_istore_n (lv' := [(1, .int 0), (0, .ref (h 96))]) hx hb dX9_idle_20 rfl hl (by decide) rfl (fun ls hl => ?_)
    refine lv_iconst (v := 0) hx hb dX9_idle_21 (by decide) ?_
    refine lv_istore_n (lv' := [(2, .int 0), (1, .int 0), (0, .ref (h 96))]) hx hb dX9_idle_22 rfl hl (by decide) rfl (fun ls hl => ?_)
    have L23_6 : ∀ (n7_ : Nat) (x23_1 : Int32) (x23_2 : Int32) (H : Heap) (locs : List Loc) (ls : Array Slot), rg 0 255 x23_1 → rg 0 8 x23_2 → TH D h cz i5 g5 H → va_S (hA h) s.heap H locs → lv_has ls 3 [(0, .ref (h 96)), (1, .int x23_1), (2, .int x23_2)] → (8 - x23_2.toInt).toNat < n7_ → W p l e ({ frames := 6, cells := 0, slots := 0, locals := 132 } : Room) s m args below meth c H locs 0 0 Q (F0 m 23 ls []) := by
      intro n7_
      induction n7_ with
      | zero => intro x23_1 x23_2 H locs ls hhx23_1 hhx23_2 hT hS hl hm7_; exact absurd hm7_ (Nat.not_lt_zero _)
      | succ n7_ ih7_ =>
        intro x23_1 x23_2 H locs ls hhx23_1 hhx23_2 hT hS hl hm7_
        refine lv_iload_n hx hb dX9_idle_23 rfl (lv_at hl 2 rfl) ?_
        refine lv_aload_n hx hb dX9_idle_24 rfl (lv_at hl 0 rfl) ?_
        refine r_getr X hT 96 17 103 fk_9_34 rfl rfl (by decide) dX9_idle_25 ?_
        refine lv_iconst (v := 5) hx hb dX9_idle_28 (by decide) ?_
        refine r_ialdc X hT 103 5 rfl (by decide) (v_in (rg_k (by decide) : rg 5 5 5) (by decide)) (by decide) dX9_idle_29 ?_
        refine lv_icmp_ge (tgt := 77) hx hb dX9_idle_30 (by decide) (fun c8 => ?_) (fun c8 => ?_)
        ·
          have q8 : (i5 103 5).toInt ≤ x23_2.toInt := i_le c8
          refine lv_iload_n hx hb dX9_idle_77 rfl (lv_at hl 1 rfl) ?_
          exact hret x23_1 _ _ _ _ _ _ dX9_idle_78 hT hS ⟨hR5, hF5, (rg_w hhx23_1 (by decide) : rg (-2) 255 x23_1)⟩
        ·
          have q8 : x23_2.toInt < (i5 103 5).toInt := i_nle c8
          have h9 : rg 0 7 x23_2 := t_ltx 0 7 hhx23_2 (Rg_at hR5 103 5 0 8 (by decide) rfl) (i_nle c8) (by decide)
          have h10 : rg 1 8 (i5 103 5) := t_lty 1 8 hhx23_2 (Rg_at hR5 103 5 0 8 (by decide) rfl) (i_nle c8) (by decide)
          refine lv_iload_n hx hb dX9_idle_33 rfl (lv_at hl 1 rfl) ?_
          refine lv_aload_n hx hb dX9_idle_34 rfl (lv_at hl 0 rfl) ?_
          refine r_getr X hT 96 20 106 fk_9_43 rfl rfl (by decide) dX9_idle_35 ?_
          refine lv_iconst (v := 2) hx hb dX9_idle_38 (by decide) ?_
          refine lv_iload_n hx hb dX9_idle_39 rfl (lv_at hl 2 rfl) ?_
          refine q_imul hx hb dX9_idle_40 (fun x11 ex11 => ?_)
          obtain ⟨hx11, ax11⟩ := rg_mul 0 14 ex11 (rg_k (by decide) : rg 2 2 2) h9 (by decide)
          replace ax11 : x11.toInt = 2 * x23_2.toInt := ax11
          refine lv_iconst (v := 1) hx hb dX9_idle_41 (by decide) ?_
          refine q_iadd hx hb dX9_idle_42 (fun x12 ex12 => ?_)
          obtain ⟨hx12, ax12⟩ := rg_add 1 15 ex12 hx11 (rg_k (by decide) : rg 1 1 1) (by decide)
          replace ax12 : x12.toInt = x11.toInt + 1 := ax12
          refine r_iald X hT 106 rfl (by decide) (v_in hx12 (by decide)) dX9_idle_43 ?_
          have h13 : rg 0 11 (i5 106 x12.toNatClampNeg) := Rg_ata hR5 106 x12.toNatClampNeg 0 11 (v_lt (v_in hx12 (by decide))) (aff_at (m := 2) (a := 0) (n := 8) (c := 1) (by decide) (v := x23_2.toInt) ⟨by have := h9.1; omega, by have := h9.2; omega⟩ (by have := ax11; have := ax12; omega))
          refine lv_aload_n hx hb dX9_idle_44 rfl (lv_at hl 0 rfl) ?_
          refine e_Vi (As := []) (rest := [.int (i5 106 x12.toNatClampNeg), .int x23_1]) X Y hT hS (m_X9_years hR5) mk_X9_years gm_1689 rfl rfl (by decide) hd_X9_years ⟨rfl, rfl⟩ ⟨Nat.le_of_ble_eq_true rfl, Nat.le_of_ble_eq_true rfl⟩ hl.1 rfl (Nat.le_of_ble_eq_true rfl) dX9_idle_45 ⟨Nat.zero_le _, Nat.zero_le _⟩ (fun r14 i14 g14 H locs hq hT hS => ?_)
          obtain ⟨eh14, hr14⟩ := hq
          rw [(Prod.mk.inj eh14).1, (Prod.mk.inj eh14).2] at hT
          refine lv_icmp_ge (tgt := 68) hx hb dX9_idle_48 (by decide) (fun c15 => ?_) (fun c15 => ?_)
          ·
            have q15 : r14.toInt ≤ (i5 106 x12.toNatClampNeg).toInt := i_le c15
            have h16 : rg 0 11 r14 := t_lex 0 11 hr14 h13 (i_le c15) (by decide)
            refine lv_iconst (v := 0) hx hb dX9_idle_68 (by decide) ?_
            refine q_ior hx hb dX9_idle_69 (fun x17 ex17 => ?_)
            have h18 : rg 0 255 x17 := rg_or8 ex17 hhx23_1 (rg_k (by decide) : rg 0 0 0) (by decide)
            refine lv_istore_n (lv' := [(1, .int x17), (0, .ref (h 96)), (2, .int x23_2)]) hx hb dX9_idle_70 rfl hl (by decide) rfl (fun ls hl => ?_)
            obtain ⟨x19, ex19⟩ : ∃ y : Int32, y = x23_2 + 1 := ⟨_, rfl⟩
            refine lv_iinc (v := x19) (lv' := [(2, .int x19), (1, .int x17), (0, .ref (h 96))]) hx hb dX9_idle_71 hl (k := 2) rfl (by rw [ex19]; rfl) (by decide) rfl (fun ls hl => ?_)
            obtain ⟨hx19, ax19⟩ := rg_add 1 8 ex19 h9 (rg_k (by decide) : rg 1 1 1) (by decide)
            replace ax19 : x19.toInt = x23_2.toInt + 1 := ax19
            refine lv_goto (tgt := 23) hx hb dX9_idle_74 (by decide) ?_
            exact ih7_ x17 x19 _ _ _ h18 (rg_w hx19 (by decide) : rg 0 8 x19) hT hS (lv_sub hl [2, 1, 0] rfl) (m_up ax19 hx19 (by decide) hm7_)
          ·
            have q15 : (i5 106 x12.toNatClampNeg).toInt < r14.toInt := i_nle c15
            have h20 : rg 1 12 r14 := t_lty 1 12 h13 hr14 (i_nle c15) (by decide)
            refine lv_aload_n hx hb dX9_idle_51 rfl (lv_at hl 0 rfl) ?_
            refine r_geti X hT 96 35 fk_9_285 rfl rfl (by decide) dX9_idle_52 ?_
            refine lv_iload_n hx hb dX9_idle_55 rfl (lv_at hl 2 rfl) ?_
            refine e_Si (As := [.int (i5 96 35), .int x23_2]) (rest := [.int x23_1]) X Y hT hS (m_X9_isBit (i5 96 35) x23_2) sk_X9_isBit gm_1670 hd_X9_isBit ⟨rfl, rfl⟩ ⟨Nat.le_of_ble_eq_true rfl, Nat.le_of_ble_eq_true rfl⟩ hl.1 rfl (Nat.le_of_ble_eq_true rfl) dX9_idle_56 ⟨Nat.zero_le _, Nat.zero_le _⟩ (fun r21 i21 g21 H locs hq hT hS => ?_)
            rcases hq with hq | hq
            ·
              obtain ⟨eh21, rfl, hf21_0⟩ := hq
              rw [(Prod.mk.inj eh21).1, (Prod.mk.inj eh21).2] at hT
              replace hf21_0 : ((((i5 96 35) : Int32) >>> ((x23_2 : Int32) &&& 31)) &&& 1 = 1) := hf21_0
              refine lv_if_ne (tgt := 68) hx hb dX9_idle_59 (by decide) (fun c22 => ?_) (fun c22 => (x_eq (rg_k (by decide) : rg 1 1 1) (rg_k (by decide) : rg 0 0 0) (i_eq c22) (by decide)).elim)
              refine lv_iconst (v := 0) hx hb dX9_idle_68 (by decide) ?_
              refine q_ior hx hb dX9_idle_69 (fun x23 ex23 => ?_)
              have h24 : rg 0 255 x23 := rg_or8 ex23 hhx23_1 (rg_k (by decide) : rg 0 0 0) (by decide)
              refine lv_istore_n (lv' := [(1, .int x23), (0, .ref (h 96)), (2, .int x23_2)]) hx hb dX9_idle_70 rfl hl (by decide) rfl (fun ls hl => ?_)
              obtain ⟨x25, ex25⟩ : ∃ y : Int32, y = x23_2 + 1 := ⟨_, rfl⟩
              refine lv_iinc (v := x25) (lv' := [(2, .int x25), (1, .int x23), (0, .ref (h 96))]) hx hb dX9_idle_71 hl (k := 2) rfl (by rw [ex25]; rfl) (by decide) rfl (fun ls hl => ?_)
              obtain ⟨hx25, ax25⟩ := rg_add 1 8 ex25 h9 (rg_k (by decide) : rg 1 1 1) (by decide)
              replace ax25 : x25.toInt = x23_2.toInt + 1 := ax25
              refine lv_goto (tgt := 23) hx hb dX9_idle_74 (by decide) ?_
              exact ih7_ x23 x25 _ _ _ h24 (rg_w hx25 (by decide) : rg 0 8 x25) hT hS (lv_sub hl [2, 1, 0] rfl) (m_up ax25 hx25 (by decide) hm7_)
            ·
              obtain ⟨eh21, rfl, hf21_0⟩ := hq
              rw [(Prod.mk.inj eh21).1, (Prod.mk.inj eh21).2] at hT
              replace hf21_0 : ¬ ((((i5 96 35) : Int32) >>> ((x23_2 : Int32) &&& 31)) &&& 1 = 1) := hf21_0
              refine lv_if_ne (tgt := 68) hx hb dX9_idle_59 (by decide) (fun c26 => (x_ne (rg_k (by decide) : rg 0 0 0) (rg_k (by decide) : rg 0 0 0) (i_ne c26) (by decide)).elim) (fun c26 => ?_)
              refine lv_iconst (v := 1) hx hb dX9_idle_62 (by decide) ?_
              refine lv_iload_n hx hb dX9_idle_63 rfl (lv_at hl 2 rfl) ?_
              refine q_ishl hx hb dX9_idle_64 (fun x27 ex27 => ?_)
              have h28 : rg 1 128 x27 := rg_shl1 ex27 h9 (by decide)
              refine lv_goto (tgt := 69) hx hb dX9_idle_65 (by decide) ?_
              refine q_ior hx hb dX9_idle_69 (fun x29 ex29 => ?_)
              have h30 : rg 0 255 x29 := rg_or8 ex29 hhx23_1 h28 (by decide)
              refine lv_istore_n (lv' := [(1, .int x29), (0, .ref (h 96)), (2, .int x23_2)]) hx hb dX9_idle_70 rfl hl (by decide) rfl (fun ls hl => ?_)
              obtain ⟨x31, ex31⟩ : ∃ y : Int32, y = x23_2 + 1 := ⟨_, rfl⟩
              refine lv_iinc (v := x31) (lv' := [(2, .int x31), (1, .int x29), (0, .ref (h 96))]) hx hb dX9_idle_71 hl (k := 2) rfl (by rw [ex31]; rfl) (by decide) rfl (fun ls hl => ?_)
              obtain ⟨hx31, ax31⟩ := rg_add 1 8 ex31 h9 (rg_k (by decide) : rg 1 1 1) (by decide)
              replace ax31 : x31.toInt = x23_2.toInt + 1 := ax31
              refine lv_goto (tgt := 23) hx hb dX9_idle_74 (by decide) ?_
              exact ih7_ x29 x31 _ _ _ h30 (rg_w hx31 (by decide) : rg 0 8 x31) hT hS (lv_sub hl [2, 1, 0] rfl) (m_up ax31 hx31 (by decide) hm7_)
    exact L23_6 _ (0) (0) _ _ _ (rg_w (rg_k (by decide) : rg 0 0 0) (by decide) : rg 0 255 0) (rg_w (rg_k (by decide) : rg 0 0 0) (by decide) : rg 0 8 0) hT hS (lv_sub hl [2, 1, 0] rfl) (Nat.lt_succ_self _)
  ·
    have q3 : r2.toInt = 0 := i_eq c3
    have h32 : rg 0 0 r2 := t_eqx 0 0 hr2 (rg_k (by decide) : rg 0 0 0) (i_eq c3) (by decide)
    refine lv_bipush (v := (-2)) hx hb dX9_idle_12 (by decide) ?_
    exact hret (-2) _ _ _ _ _ _ dX9_idle_14 hT hS ⟨hR1, hF1, (rg_w (rg_k (by decide) : rg (-2) (-2) (-2)) (by decide) : rg (-2) 255 (-2))⟩
set_option maxRecDepth 100000 in
set_option maxHeartbeats 4000000 in
theorem m_X9_worthOf {l : Launch} {D : va_G} {h : Nat → Nat} {cz : Nat → ClassId} {z : EZ} {i : Nat → Nat → Int32} {g : Nat → Nat → Int64} (hR : Rg rA i) (a_a : Int32) : DtI l yX9_worthOf cX9_worthOf 2 (some .int) ({ frames := 5, cells := 0, slots := 0, locals := 112 } : Room) D h cz z i g [.ref (h 96), .int a_a] (fun r u => Rg rA u.1 ∧ Fr [96, 109, 110, 111, 112, 113, 114, 115] [] i g u) := by
  refine e_I pn_X9_worthOf (Nat.le_of_ble_eq_true rfl) ?_
  intro p e s m args below meth c ls Q X Y hret hT hl hS
  have hx := X.1
  have hb := X.2.1
  have hl : lv_has ls 2 [(0, .ref (h 96)), (1, .int a_a)] := hl
  have hF : Fr [96, 109, 110, 111, 112, 113, 114, 115] [] i g (i, g) := Fr_rf _ _ _ _
  refine lv_aload_n hx hb dX9_worthOf_0 rfl (lv_at hl 0 rfl) ?_
  refine e_Vv (As := []) (rest := []) X Y hT hS (m_X9_lays hR) mk_X9_lays gm_1658 rfl rfl (by decide) hd_X9_lays ⟨rfl, rfl⟩ ⟨Nat.le_of_ble_eq_true rfl, Nat.le_of_ble_eq_true rfl⟩ hl.1 rfl (Nat.le_of_ble_eq_true rfl) dX9_worthOf_1 ⟨Nat.zero_le _, Nat.zero_le _⟩ (fun i1 g1 H locs hq hT hS => ?_)
  obtain ⟨hR1, hf1⟩ := hq
  have hF1 := Fr_tr hF hf1 (by decide)
  refine lv_aload_n hx hb dX9_worthOf_4 rfl (lv_at hl 0 rfl) ?_
  refine lv_iconst (v := 1) hx hb dX9_worthOf_5 (by decide) ?_
  refine r_puti X hT hS 96 27 pk_9_272 rfl rfl rfl rfl (by decide) dX9_worthOf_6 (fun H locs i2 ei2 hT hS => ?_)
  have hR2 := Rg_put hR1 ei2 0 1 rfl (rg_k (by decide) : rg 1 1 1) (by decide)
  have hF2 := Fr_puti hF1 ei2 (by decide)
  refine lv_aload_n hx hb dX9_worthOf_9 rfl (lv_at hl 0 rfl) ?_
  refine r_getr X hT 96 29 110 fk_9_56 rfl rfl (by decide) dX9_worthOf_10 ?_
  refine lv_iconst (v := 0) hx hb dX9_worthOf_13 (by decide) ?_
  refine lv_iload_n hx hb dX9_worthOf_14 rfl (lv_at hl 1 rfl) ?_
  refine r_iastc X hT hS 110 0 rfl (by decide) (v_in (rg_k (by decide) : rg 0 0 0) (by decide)) (by decide) dX9_worthOf_15 (fun H locs i3 ei3 hT hS => ?_)
  have hR3 := Rg_put hR2 ei3 (-2147483648) 2147483647 rfl (rg_top a_a) (by decide)
  have hF3 := Fr_puti hF2 ei3 (by decide)
  refine lv_aload_n hx hb dX9_worthOf_16 rfl (lv_at hl 0 rfl) ?_
  refine e_Vv (As := []) (rest := []) X Y hT hS (m_X9_runs hR3) mk_X9_runs gm_1697 rfl rfl (by decide) hd_X9_runs ⟨rfl, rfl⟩ ⟨Nat.le_of_ble_eq_true rfl, Nat.le_of_ble_eq_true rfl⟩ hl.1 rfl (Nat.le_of_ble_eq_true rfl) dX9_worthOf_17 ⟨Nat.zero_le _, Nat.zero_le _⟩ (fun i4 g4 H locs hq hT hS => ?_)
  obtain ⟨hR4, hf4⟩ := hq
  have hF4 := Fr_tr hF3 hf4 (by decide)
  refine lv_aload_n hx hb dX9_worthOf_20 rfl (lv_at hl 0 rfl) ?_
  refine e_Vi (As := []) (rest := []) X Y hT hS (m_X9_readAll hR4) mk_X9_readAll gm_1770 rfl rfl (by decide) hd_X9_readAll ⟨rfl, rfl⟩ ⟨Nat.le_of_ble_eq_true rfl, Nat.le_of_ble_eq_true rfl⟩ hl.1 rfl (Nat.le_of_ble_eq_true rfl) dX9_worthOf_21 ⟨Nat.zero_le _, Nat.zero_le _⟩ (fun r5 i5 g5 H locs hq hT hS => ?_)
  have eh5 := hq
  rw [(Prod.mk.inj eh5).1, (Prod.mk.inj eh5).2] at hT
  exact hret r5 _ _ _ _ _ _ dX9_worthOf_24 hT hS ⟨hR4, hF4⟩
set_option maxRecDepth 100000 in
set_option maxHeartbeats 4000000 in
theorem m_X9_fewOf {l : Launch} {D : va_G} {h : Nat → Nat} {cz : Nat → ClassId} {z : EZ} {i : Nat → Nat → Int32} {g : Nat → Nat → Int64} (hR : Rg rA i) : DtI l yX9_fewOf cX9_fewOf 3 (some .int) ({ frames := 6, cells := 0, slots := 0, locals := 133 } : Room) D h cz z i g [.ref (h 96)] (fun r u => Rg rA u.1 ∧ Fr [96, 109, 110, 111, 112, 113, 114, 115] [] i g u ∧ rg 0 63 r) := by
  refine e_I pn_X9_fewOf (Nat.le_of_ble_eq_true rfl) ?_
  intro p e s m args below meth c ls Q X Y hret hT hl hS
  have hx := X.1
  have hb := X.2.1
  have hl : lv_has ls 3 [(0, .ref (h 96))] := hl
  have hF : Fr [96, 109, 110, 111, 112, 113, 114, 115] [] i g (i, g) := Fr_rf _ _ _ _
  refine lv_aload_n hx hb dX9_fewOf_0 rfl (lv_at hl 0 rfl) ?_
  refine e_Vi (As := []) (rest := []) X Y hT hS (m_X9_every hR) mk_X9_every gm_1814 rfl rfl (by decide) hd_X9_every ⟨rfl, rfl⟩ ⟨Nat.le_of_ble_eq_true rfl, Nat.le_of_ble_eq_true rfl⟩ hl.1 rfl (Nat.le_of_ble_eq_true rfl) dX9_fewOf_1 ⟨Nat.zero_le _, Nat.zero_le _⟩ (fun r1 i1 g1 H locs hq hT hS => ?_)
  obtain ⟨eh1, hr1⟩ := hq
  rw [(Prod.mk.inj eh1).1, (Prod.mk.inj eh1).2] at hT
  refine lv_istore_n (lv' := [(1, .int r1), (0, .ref (h 96))]) hx hb dX9_fewOf_4 rfl hl (by decide) rfl (fun ls hl => ?_)
  refine lv_iconst (v := 0) hx hb dX9_fewOf_5 (by decide) ?_
  refine lv_istore_n (lv' := [(2, .int 0), (1, .int r1), (0, .ref (h 96))]) hx hb dX9_fewOf_6 rfl hl (by decide) rfl (fun ls hl => ?_)
  have L7_2 : ∀ (n4_ : Nat) (x7_1 : Int32) (x7_2 : Int32) (i3 : Nat → Nat → Int32) (g3 : Nat → Nat → Int64) (H : Heap) (locs : List Loc) (ls : Array Slot), rg 0 63 x7_1 → rg 0 63 x7_2 → Rg rA i3 → Fr [96, 109, 110, 111, 112, 113, 114, 115] [] i g (i3, g3) → TH D h cz i3 g3 H → va_S (hA h) s.heap H locs → lv_has ls 3 [(0, .ref (h 96)), (1, .int x7_1), (2, .int x7_2)] → (63 - x7_2.toInt).toNat < n4_ → W p l e ({ frames := 6, cells := 0, slots := 0, locals := 133 } : Room) s m args below meth c H locs 0 0 Q (F0 m 7 ls []) := by
    intro n4_
    induction n4_ with
    | zero => intro x7_1 x7_2 i3 g3 H locs ls hhx7_1 hhx7_2 hR3 hF3 hT hS hl hm4_; exact absurd hm4_ (Nat.not_lt_zero _)
    | succ n4_ ih4_ =>
      intro x7_1 x7_2 i3 g3 H locs ls hhx7_1 hhx7_2 hR3 hF3 hT hS hl hm4_
      refine lv_iload_n hx hb dX9_fewOf_7 rfl (lv_at hl 2 rfl) ?_
      refine lv_aload_n hx hb dX9_fewOf_8 rfl (lv_at hl 0 rfl) ?_
      refine e_Vi (As := []) (rest := [.int x7_2]) X Y hT hS (m_X9_every hR3) mk_X9_every gm_1814 rfl rfl (by decide) hd_X9_every ⟨rfl, rfl⟩ ⟨Nat.le_of_ble_eq_true rfl, Nat.le_of_ble_eq_true rfl⟩ hl.1 rfl (Nat.le_of_ble_eq_true rfl) dX9_fewOf_9 ⟨Nat.zero_le _, Nat.zero_le _⟩ (fun r5 i5 g5 H locs hq hT hS => ?_)
      obtain ⟨eh5, hr5⟩ := hq
      rw [(Prod.mk.inj eh5).1, (Prod.mk.inj eh5).2] at hT
      refine lv_icmp_ge (tgt := 59) hx hb dX9_fewOf_12 (by decide) (fun c6 => ?_) (fun c6 => ?_)
      ·
        have q6 : r5.toInt ≤ x7_2.toInt := i_le c6
        refine lv_iload_n hx hb dX9_fewOf_59 rfl (lv_at hl 1 rfl) ?_
        exact hret x7_1 _ _ _ _ _ _ dX9_fewOf_60 hT hS ⟨hR3, hF3, hhx7_1⟩
      ·
        have q6 : x7_2.toInt < r5.toInt := i_nle c6
        have h7 : rg 0 62 x7_2 := t_ltx 0 62 hhx7_2 hr5 (i_nle c6) (by decide)
        have h8 : rg 1 63 r5 := t_lty 1 63 hhx7_2 hr5 (i_nle c6) (by decide)
        refine lv_iload_n hx hb dX9_fewOf_15 rfl (lv_at hl 2 rfl) ?_
        refine e_Si (As := [.int x7_2]) (rest := []) X Y hT hS (m_X9_sizeOf x7_2) sk_X9_sizeOf gm_1732 hd_X9_sizeOf ⟨rfl, rfl⟩ ⟨Nat.le_of_ble_eq_true rfl, Nat.le_of_ble_eq_true rfl⟩ hl.1 rfl (Nat.le_of_ble_eq_true rfl) dX9_fewOf_16 ⟨Nat.zero_le _, Nat.zero_le _⟩ (fun r9 i9 g9 H locs hq hT hS => ?_)
        obtain ⟨eh9, hf9_0⟩ := hq
        rw [(Prod.mk.inj eh9).1, (Prod.mk.inj eh9).2] at hT
        replace hf9_0 : r9.toInt = (popF 32 (x7_2 : Int32).toBitVec.toNat : Int) := hf9_0
        have h10 : rg 0 6 r9 := pop_rg hf9_0 h7 (by decide) (by decide)
        refine lv_iload_n hx hb dX9_fewOf_19 rfl (lv_at hl 1 rfl) ?_
        refine e_Si (As := [.int x7_1]) (rest := [.int r9]) X Y hT hS (m_X9_sizeOf x7_1) sk_X9_sizeOf gm_1732 hd_X9_sizeOf ⟨rfl, rfl⟩ ⟨Nat.le_of_ble_eq_true rfl, Nat.le_of_ble_eq_true rfl⟩ hl.1 rfl (Nat.le_of_ble_eq_true rfl) dX9_fewOf_20 ⟨Nat.zero_le _, Nat.zero_le _⟩ (fun r11 i11 g11 H locs hq hT hS => ?_)
        obtain ⟨eh11, hf11_0⟩ := hq
        rw [(Prod.mk.inj eh11).1, (Prod.mk.inj eh11).2] at hT
        replace hf11_0 : r11.toInt = (popF 32 (x7_1 : Int32).toBitVec.toNat : Int) := hf11_0
        have h12 : rg 0 6 r11 := pop_rg hf11_0 hhx7_1 (by decide) (by decide)
        refine lv_icmp_lt (tgt := 29) hx hb dX9_fewOf_23 (by decide) (fun c13 => ?_) (fun c13 => ?_)
        ·
          have q13 : r9.toInt < r11.toInt := i_lt c13
          have h14 : rg 0 5 r9 := t_ltx 0 5 h10 h12 (i_lt c13) (by decide)
          have h15 : rg 1 6 r11 := t_lty 1 6 h10 h12 (i_lt c13) (by decide)
          refine lv_aload_n hx hb dX9_fewOf_29 rfl (lv_at hl 0 rfl) ?_
          refine lv_iload_n hx hb dX9_fewOf_30 rfl (lv_at hl 2 rfl) ?_
          refine e_Vi (As := [.int x7_2]) (rest := []) X Y hT hS (m_X9_worthOf hR3 x7_2) mk_X9_worthOf gm_1886 rfl rfl (by decide) hd_X9_worthOf ⟨rfl, rfl⟩ ⟨Nat.le_of_ble_eq_true rfl, Nat.le_of_ble_eq_true rfl⟩ hl.1 rfl (Nat.le_of_ble_eq_true rfl) dX9_fewOf_31 ⟨Nat.zero_le _, Nat.zero_le _⟩ (fun r16 i16 g16 H locs hq hT hS => ?_)
          obtain ⟨hR16, hf16⟩ := hq
          have hF16 := Fr_tr hF3 hf16 (by decide)
          refine lv_pop hx hb dX9_fewOf_34 rfl ?_
          refine lv_aload_n hx hb dX9_fewOf_35 rfl (lv_at hl 0 rfl) ?_
          refine r_getr X hT 96 31 112 fk_9_62 rfl rfl (by decide) dX9_fewOf_36 ?_
          refine lv_aload_n hx hb dX9_fewOf_39 rfl (lv_at hl 0 rfl) ?_
          refine e_Vi (As := []) (rest := [.ref (h 112)]) X Y hT hS (m_X9_years hR16) mk_X9_years gm_1689 rfl rfl (by decide) hd_X9_years ⟨rfl, rfl⟩ ⟨Nat.le_of_ble_eq_true rfl, Nat.le_of_ble_eq_true rfl⟩ hl.1 rfl (Nat.le_of_ble_eq_true rfl) dX9_fewOf_40 ⟨Nat.zero_le _, Nat.zero_le _⟩ (fun r17 i17 g17 H locs hq hT hS => ?_)
          obtain ⟨eh17, hr17⟩ := hq
          rw [(Prod.mk.inj eh17).1, (Prod.mk.inj eh17).2] at hT
          refine r_iald X hT 112 rfl (by decide) (v_in hr17 (by decide)) dX9_fewOf_43 ?_
          refine lv_aload_n hx hb dX9_fewOf_44 rfl (lv_at hl 0 rfl) ?_
          refine e_Vi (As := []) (rest := [.int (i16 112 r17.toNatClampNeg)]) X Y hT hS (m_X9_every hR16) mk_X9_every gm_1814 rfl rfl (by decide) hd_X9_every ⟨rfl, rfl⟩ ⟨Nat.le_of_ble_eq_true rfl, Nat.le_of_ble_eq_true rfl⟩ hl.1 rfl (Nat.le_of_ble_eq_true rfl) dX9_fewOf_45 ⟨Nat.zero_le _, Nat.zero_le _⟩ (fun r18 i18 g18 H locs hq hT hS => ?_)
          obtain ⟨eh18, hr18⟩ := hq
          rw [(Prod.mk.inj eh18).1, (Prod.mk.inj eh18).2] at hT
          refine lv_icmp_ne (tgt := 53) hx hb dX9_fewOf_48 (by decide) (fun c19 => ?_) (fun c19 => ?_)
          ·
            have q19 : ¬ (i16 112 r17.toNatClampNeg).toInt = r18.toInt := i_ne c19
            obtain ⟨x20, ex20⟩ : ∃ y : Int32, y = x7_2 + 1 := ⟨_, rfl⟩
            refine lv_iinc (v := x20) (lv' := [(2, .int x20), (0, .ref (h 96)), (1, .int x7_1)]) hx hb dX9_fewOf_53 hl (k := 2) rfl (by rw [ex20]; rfl) (by decide) rfl (fun ls hl => ?_)
            obtain ⟨hx20, ax20⟩ := rg_add 1 63 ex20 h7 (rg_k (by decide) : rg 1 1 1) (by decide)
            replace ax20 : x20.toInt = x7_2.toInt + 1 := ax20
            refine lv_goto (tgt := 7) hx hb dX9_fewOf_56 (by decide) ?_
            exact ih4_ x7_1 x20 i16 g16 _ _ _ hhx7_1 (rg_w hx20 (by decide) : rg 0 63 x20) hR16 hF16 hT hS (lv_sub hl [1, 2, 0] rfl) (m_up ax20 hx20 (by decide) hm4_)
          ·
            have q19 : (i16 112 r17.toNatClampNeg).toInt = r18.toInt := i_eq c19
            have h21 : rg 0 63 (i16 112 r17.toNatClampNeg) := t_eqx 0 63 (rg_top (i16 112 r17.toNatClampNeg)) hr18 (i_eq c19) (by decide)
            refine lv_iload_n hx hb dX9_fewOf_51 rfl (lv_at hl 2 rfl) ?_
            refine lv_istore_n (lv' := [(1, .int x7_2), (0, .ref (h 96)), (2, .int x7_2)]) hx hb dX9_fewOf_52 rfl hl (by decide) rfl (fun ls hl => ?_)
            obtain ⟨x22, ex22⟩ : ∃ y : Int32, y = x7_2 + 1 := ⟨_, rfl⟩
            refine lv_iinc (v := x22) (lv' := [(2, .int x22), (1, .int x7_2), (0, .ref (h 96))]) hx hb dX9_fewOf_53 hl (k := 2) rfl (by rw [ex22]; rfl) (by decide) rfl (fun ls hl => ?_)
            obtain ⟨hx22, ax22⟩ := rg_add 1 63 ex22 h7 (rg_k (by decide) : rg 1 1 1) (by decide)
            replace ax22 : x22.toInt = x7_2.toInt + 1 := ax22
            refine lv_goto (tgt := 7) hx hb dX9_fewOf_56 (by decide) ?_
            exact ih4_ x7_2 x22 i16 g16 _ _ _ (rg_w h7 (by decide) : rg 0 63 x7_2) (rg_w hx22 (by decide) : rg 0 63 x22) hR16 hF16 hT hS (lv_sub hl [2, 1, 0] rfl) (m_up ax22 hx22 (by decide) hm4_)
        ·
          have q13 : r11.toInt ≤ r9.toInt := i_nlt c13
          refine lv_goto (tgt := 53) hx hb dX9_fewOf_26 (by decide) ?_
          obtain ⟨x23, ex23⟩ : ∃ y : Int32, y = x7_2 + 1 := ⟨_, rfl⟩
          refine lv_iinc (v := x23) (lv' := [(2, .int x23), (0, .ref (h 96)), (1, .int x7_1)]) hx hb dX9_fewOf_53 hl (k := 2) rfl (by rw [ex23]; rfl) (by decide) rfl (fun ls hl => ?_)
          obtain ⟨hx23, ax23⟩ := rg_add 1 63 ex23 h7 (rg_k (by decide) : rg 1 1 1) (by decide)
          replace ax23 : x23.toInt = x7_2.toInt + 1 := ax23
          refine lv_goto (tgt := 7) hx hb dX9_fewOf_56 (by decide) ?_
          exact ih4_ x7_1 x23 i3 g3 _ _ _ hhx7_1 (rg_w hx23 (by decide) : rg 0 63 x23) hR3 hF3 hT hS (lv_sub hl [1, 2, 0] rfl) (m_up ax23 hx23 (by decide) hm4_)
  exact L7_2 _ r1 (0) i g _ _ _ hr1 (rg_w (rg_k (by decide) : rg 0 0 0) (by decide) : rg 0 63 0) hR hF hT hS (lv_sub hl [2, 1, 0] rfl) (Nat.lt_succ_self _)
set_option maxRecDepth 100000 in
set_option maxHeartbeats 4000000 in
theorem m_X9_few {l : Launch} {D : va_G} {h : Nat → Nat} {cz : Nat → ClassId} {z : EZ} {i : Nat → Nat → Int32} {g : Nat → Nat → Int64} (hR : Rg rA i) : DtI l yX9_few cX9_few 1 (some .int) ({ frames := 7, cells := 0, slots := 0, locals := 155 } : Room) D h cz z i g [.ref (h 96)] (fun r u => Rg rA u.1 ∧ Fr [96, 109, 110, 111, 112, 113, 114, 115] [] i g u ∧ rg (-2) 6 r) := by
  refine e_I pn_X9_few (Nat.le_of_ble_eq_true rfl) ?_
  intro p e s m args below meth c ls Q X Y hret hT hl hS
  have hx := X.1
  have hb := X.2.1
  have hl : lv_has ls 1 [(0, .ref (h 96))] := hl
  have hF : Fr [96, 109, 110, 111, 112, 113, 114, 115] [] i g (i, g) := Fr_rf _ _ _ _
  refine lv_aload_n hx hb dX9_few_0 rfl (lv_at hl 0 rfl) ?_
  refine lv_iconst (v := 0) hx hb dX9_few_1 (by decide) ?_
  refine r_puti X hT hS 96 0 pk_9_83 rfl rfl rfl rfl (by decide) dX9_few_2 (fun H locs i1 ei1 hT hS => ?_)
  have hR1 := Rg_put hR ei1 (-2147483648) 2147483647 rfl (rg_k (by decide) : rg 0 0 0) (by decide)
  have hF1 := Fr_puti hF ei1 (by decide)
  refine lv_aload_n hx hb dX9_few_5 rfl (lv_at hl 0 rfl) ?_
  refine e_Vi (As := []) (rest := []) X Y hT hS (m_X9_isTale hR1) mk_X9_isTale gm_1685 rfl rfl (by decide) hd_X9_isTale ⟨rfl, rfl⟩ ⟨Nat.le_of_ble_eq_true rfl, Nat.le_of_ble_eq_true rfl⟩ hl.1 rfl (Nat.le_of_ble_eq_true rfl) dX9_few_6 ⟨Nat.zero_le _, Nat.zero_le _⟩ (fun r2 i2 g2 H locs hq hT hS => ?_)
  obtain ⟨eh2, hr2⟩ := hq
  rw [(Prod.mk.inj eh2).1, (Prod.mk.inj eh2).2] at hT
  refine lv_if_eq (tgt := 22) hx hb dX9_few_9 (by decide) (fun c3 => ?_) (fun c3 => ?_)
  ·
    have q3 : r2.toInt = 0 := i_eq c3
    have h4 : rg 0 0 r2 := t_eqx 0 0 hr2 (rg_k (by decide) : rg 0 0 0) (i_eq c3) (by decide)
    refine lv_bipush (v := (-2)) hx hb dX9_few_22 (by decide) ?_
    exact hret (-2) _ _ _ _ _ _ dX9_few_24 hT hS ⟨hR1, hF1, (rg_w (rg_k (by decide) : rg (-2) (-2) (-2)) (by decide) : rg (-2) 6 (-2))⟩
  ·
    have q3 : ¬ r2.toInt = 0 := i_ne c3
    have h5 : rg 1 1 r2 := t_nelo 1 hr2 (rg_k (by decide) : rg 0 0 0) (i_ne c3) (by decide)
    refine lv_aload_n hx hb dX9_few_12 rfl (lv_at hl 0 rfl) ?_
    refine e_Vi (As := []) (rest := []) X Y hT hS (m_X9_fewOf hR1) mk_X9_fewOf gm_1882 rfl rfl (by decide) hd_X9_fewOf ⟨rfl, rfl⟩ ⟨Nat.le_of_ble_eq_true rfl, Nat.le_of_ble_eq_true rfl⟩ hl.1 rfl (Nat.le_of_ble_eq_true rfl) dX9_few_13 ⟨Nat.zero_le _, Nat.zero_le _⟩ (fun r6 i6 g6 H locs hq hT hS => ?_)
    obtain ⟨hR6, hf6, hr6⟩ := hq
    have hF6 := Fr_tr hF1 hf6 (by decide)
    refine e_Si (As := [.int r6]) (rest := []) X Y hT hS (m_X9_sizeOf r6) sk_X9_sizeOf gm_1732 hd_X9_sizeOf ⟨rfl, rfl⟩ ⟨Nat.le_of_ble_eq_true rfl, Nat.le_of_ble_eq_true rfl⟩ hl.1 rfl (Nat.le_of_ble_eq_true rfl) dX9_few_16 ⟨Nat.zero_le _, Nat.zero_le _⟩ (fun r7 i7 g7 H locs hq hT hS => ?_)
    obtain ⟨eh7, hf7_0⟩ := hq
    rw [(Prod.mk.inj eh7).1, (Prod.mk.inj eh7).2] at hT
    replace hf7_0 : r7.toInt = (popF 32 (r6 : Int32).toBitVec.toNat : Int) := hf7_0
    have h8 : rg 0 6 r7 := pop_rg hf7_0 hr6 (by decide) (by decide)
    refine lv_goto (tgt := 24) hx hb dX9_few_19 (by decide) ?_
    exact hret r7 _ _ _ _ _ _ dX9_few_24 hT hS ⟨hR6, hF6, (rg_w h8 (by decide) : rg (-2) 6 r7)⟩
set_option maxRecDepth 100000 in
set_option maxHeartbeats 4000000 in
theorem m_X9_fews {l : Launch} {D : va_G} {h : Nat → Nat} {cz : Nat → ClassId} {z : EZ} {i : Nat → Nat → Int32} {g : Nat → Nat → Int64} (hR : Rg rA i) : DtI l yX9_fews cX9_fews 1 (some .int) ({ frames := 7, cells := 0, slots := 0, locals := 155 } : Room) D h cz z i g [.ref (h 96)] (fun r u => Rg rA u.1 ∧ Fr [96, 109, 110, 111, 112, 113, 114, 115] [] i g u ∧ rg (-2) 63 r) := by
  refine e_I pn_X9_fews (Nat.le_of_ble_eq_true rfl) ?_
  intro p e s m args below meth c ls Q X Y hret hT hl hS
  have hx := X.1
  have hb := X.2.1
  have hl : lv_has ls 1 [(0, .ref (h 96))] := hl
  have hF : Fr [96, 109, 110, 111, 112, 113, 114, 115] [] i g (i, g) := Fr_rf _ _ _ _
  refine lv_aload_n hx hb dX9_fews_0 rfl (lv_at hl 0 rfl) ?_
  refine lv_iconst (v := 0) hx hb dX9_fews_1 (by decide) ?_
  refine r_puti X hT hS 96 0 pk_9_83 rfl rfl rfl rfl (by decide) dX9_fews_2 (fun H locs i1 ei1 hT hS => ?_)
  have hR1 := Rg_put hR ei1 (-2147483648) 2147483647 rfl (rg_k (by decide) : rg 0 0 0) (by decide)
  have hF1 := Fr_puti hF ei1 (by decide)
  refine lv_aload_n hx hb dX9_fews_5 rfl (lv_at hl 0 rfl) ?_
  refine e_Vi (As := []) (rest := []) X Y hT hS (m_X9_isTale hR1) mk_X9_isTale gm_1685 rfl rfl (by decide) hd_X9_isTale ⟨rfl, rfl⟩ ⟨Nat.le_of_ble_eq_true rfl, Nat.le_of_ble_eq_true rfl⟩ hl.1 rfl (Nat.le_of_ble_eq_true rfl) dX9_fews_6 ⟨Nat.zero_le _, Nat.zero_le _⟩ (fun r2 i2 g2 H locs hq hT hS => ?_)
  obtain ⟨eh2, hr2⟩ := hq
  rw [(Prod.mk.inj eh2).1, (Prod.mk.inj eh2).2] at hT
  refine lv_if_eq (tgt := 19) hx hb dX9_fews_9 (by decide) (fun c3 => ?_) (fun c3 => ?_)
  ·
    have q3 : r2.toInt = 0 := i_eq c3
    have h4 : rg 0 0 r2 := t_eqx 0 0 hr2 (rg_k (by decide) : rg 0 0 0) (i_eq c3) (by decide)
    refine lv_bipush (v := (-2)) hx hb dX9_fews_19 (by decide) ?_
    exact hret (-2) _ _ _ _ _ _ dX9_fews_21 hT hS ⟨hR1, hF1, (rg_w (rg_k (by decide) : rg (-2) (-2) (-2)) (by decide) : rg (-2) 63 (-2))⟩
  ·
    have q3 : ¬ r2.toInt = 0 := i_ne c3
    have h5 : rg 1 1 r2 := t_nelo 1 hr2 (rg_k (by decide) : rg 0 0 0) (i_ne c3) (by decide)
    refine lv_aload_n hx hb dX9_fews_12 rfl (lv_at hl 0 rfl) ?_
    refine e_Vi (As := []) (rest := []) X Y hT hS (m_X9_fewOf hR1) mk_X9_fewOf gm_1882 rfl rfl (by decide) hd_X9_fewOf ⟨rfl, rfl⟩ ⟨Nat.le_of_ble_eq_true rfl, Nat.le_of_ble_eq_true rfl⟩ hl.1 rfl (Nat.le_of_ble_eq_true rfl) dX9_fews_13 ⟨Nat.zero_le _, Nat.zero_le _⟩ (fun r6 i6 g6 H locs hq hT hS => ?_)
    obtain ⟨hR6, hf6, hr6⟩ := hq
    have hF6 := Fr_tr hF1 hf6 (by decide)
    refine lv_goto (tgt := 21) hx hb dX9_fews_16 (by decide) ?_
    exact hret r6 _ _ _ _ _ _ dX9_fews_21 hT hS ⟨hR6, hF6, (rg_w hr6 (by decide) : rg (-2) 63 r6)⟩
set_option maxRecDepth 100000 in
set_option maxHeartbeats 4000000 in
theorem m_X9_worth {l : Launch} {D : va_G} {h : Nat → Nat} {cz : Nat → ClassId} {z : EZ} {i : Nat → Nat → Int32} {g : Nat → Nat → Int64} (hR : Rg rA i) (a_a : Int32) : DtI l yX9_worth cX9_worth 2 (some .int) ({ frames := 6, cells := 0, slots := 0, locals := 133 } : Room) D h cz z i g [.ref (h 96), .int a_a] (fun r u => Rg rA u.1 ∧ Fr [96, 109, 110, 111, 112, 113, 114, 115] [] i g u) := by
  refine e_I pn_X9_worth (Nat.le_of_ble_eq_true rfl) ?_
  intro p e s m args below meth c ls Q X Y hret hT hl hS
  have hx := X.1
  have hb := X.2.1
  have hl : lv_has ls 2 [(0, .ref (h 96)), (1, .int a_a)] := hl
  have hF : Fr [96, 109, 110, 111, 112, 113, 114, 115] [] i g (i, g) := Fr_rf _ _ _ _
  refine lv_aload_n hx hb dX9_worth_0 rfl (lv_at hl 0 rfl) ?_
  refine lv_iconst (v := 0) hx hb dX9_worth_1 (by decide) ?_
  refine r_puti X hT hS 96 0 pk_9_83 rfl rfl rfl rfl (by decide) dX9_worth_2 (fun H locs i1 ei1 hT hS => ?_)
  have hR1 := Rg_put hR ei1 (-2147483648) 2147483647 rfl (rg_k (by decide) : rg 0 0 0) (by decide)
  have hF1 := Fr_puti hF ei1 (by decide)
  refine lv_aload_n hx hb dX9_worth_5 rfl (lv_at hl 0 rfl) ?_
  refine e_Vi (As := []) (rest := []) X Y hT hS (m_X9_isTale hR1) mk_X9_isTale gm_1685 rfl rfl (by decide) hd_X9_isTale ⟨rfl, rfl⟩ ⟨Nat.le_of_ble_eq_true rfl, Nat.le_of_ble_eq_true rfl⟩ hl.1 rfl (Nat.le_of_ble_eq_true rfl) dX9_worth_6 ⟨Nat.zero_le _, Nat.zero_le _⟩ (fun r2 i2 g2 H locs hq hT hS => ?_)
  obtain ⟨eh2, hr2⟩ := hq
  rw [(Prod.mk.inj eh2).1, (Prod.mk.inj eh2).2] at hT
  refine lv_if_eq (tgt := 34) hx hb dX9_worth_9 (by decide) (fun c3 => ?_) (fun c3 => ?_)
  ·
    have q3 : r2.toInt = 0 := i_eq c3
    have h4 : rg 0 0 r2 := t_eqx 0 0 hr2 (rg_k (by decide) : rg 0 0 0) (i_eq c3) (by decide)
    refine lv_bipush (v := (-2)) hx hb dX9_worth_34 (by decide) ?_
    exact hret (-2) _ _ _ _ _ _ dX9_worth_36 hT hS ⟨hR1, hF1⟩
  ·
    have q3 : ¬ r2.toInt = 0 := i_ne c3
    have h5 : rg 1 1 r2 := t_nelo 1 hr2 (rg_k (by decide) : rg 0 0 0) (i_ne c3) (by decide)
    refine lv_iload_n hx hb dX9_worth_12 rfl (lv_at hl 1 rfl) ?_
    refine q_i2l hx hb dX9_worth_13 (fun y6 ey6 => ?_)
    obtain ⟨hy6, ay6⟩ := rg_i2l ey6 (rg_top a_a)
    refine lv_lconst (v := 0) hx hb dX9_worth_14 (by decide) ?_
    refine lv_aload_n hx hb dX9_worth_15 rfl (lv_at hl 0 rfl) ?_
    refine e_Vi (As := []) (rest := [.long 0, .long y6]) X Y hT hS (m_X9_every hR1) mk_X9_every gm_1814 rfl rfl (by decide) hd_X9_every ⟨rfl, rfl⟩ ⟨Nat.le_of_ble_eq_true rfl, Nat.le_of_ble_eq_true rfl⟩ hl.1 rfl (Nat.le_of_ble_eq_true rfl) dX9_worth_16 ⟨Nat.zero_le _, Nat.zero_le _⟩ (fun r7 i7 g7 H locs hq hT hS => ?_)
    obtain ⟨eh7, hr7⟩ := hq
    rw [(Prod.mk.inj eh7).1, (Prod.mk.inj eh7).2] at hT
    refine q_i2l hx hb dX9_worth_19 (fun y8 ey8 => ?_)
    obtain ⟨hy8, ay8⟩ := rg_i2l ey8 hr7
    refine e_Si (As := [.long y6, .long 0, .long y8]) (rest := []) X Y hT hS (m_in y6 (0) y8) sk_X9_in gm_1496 hd_X9_in ⟨rfl, rfl⟩ ⟨Nat.le_of_ble_eq_true rfl, Nat.le_of_ble_eq_true rfl⟩ hl.1 rfl (Nat.le_of_ble_eq_true rfl) dX9_worth_20 ⟨Nat.zero_le _, Nat.zero_le _⟩ (fun r9 i9 g9 H locs hq hT hS => ?_)
    rcases hq with hq | hq
    ·
      obtain ⟨eh9, rfl, hf9_0⟩ := hq
      rw [(Prod.mk.inj eh9).1, (Prod.mk.inj eh9).2] at hT
      replace hf9_0 : 0 ≤ y6.toInt ∧ y6.toInt ≤ y8.toInt := hf9_0
      have h10 : rgL 0 63 y6 := ⟨by have := hy6.1; have := hy6.2; have := hy8.1; have := hy8.2; omega, by have := hy6.1; have := hy6.2; have := hy8.1; have := hy8.2; omega⟩
      have h11 : rg 0 63 a_a := ⟨by have := h10.1; have := (rg_top a_a).1; have := ay6; omega, by have := h10.2; have := (rg_top a_a).2; have := ay6; omega⟩
      refine lv_if_eq (tgt := 34) hx hb dX9_worth_23 (by decide) (fun c12 => (x_eq (rg_k (by decide) : rg 1 1 1) (rg_k (by decide) : rg 0 0 0) (i_eq c12) (by decide)).elim) (fun c12 => ?_)
      refine lv_aload_n hx hb dX9_worth_26 rfl (lv_at hl 0 rfl) ?_
      refine lv_iload_n hx hb dX9_worth_27 rfl (lv_at hl 1 rfl) ?_
      refine e_Vi (As := [.int a_a]) (rest := []) X Y hT hS (m_X9_worthOf hR1 a_a) mk_X9_worthOf gm_1886 rfl rfl (by decide) hd_X9_worthOf ⟨rfl, rfl⟩ ⟨Nat.le_of_ble_eq_true rfl, Nat.le_of_ble_eq_true rfl⟩ hl.1 rfl (Nat.le_of_ble_eq_true rfl) dX9_worth_28 ⟨Nat.zero_le _, Nat.zero_le _⟩ (fun r13 i13 g13 H locs hq hT hS => ?_)
      obtain ⟨hR13, hf13⟩ := hq
      have hF13 := Fr_tr hF1 hf13 (by decide)
      refine lv_goto (tgt := 36) hx hb dX9_worth_31 (by decide) ?_
      exact hret r13 _ _ _ _ _ _ dX9_worth_36 hT hS ⟨hR13, hF13⟩
    ·
      obtain ⟨eh9, rfl, hf9_0⟩ := hq
      rw [(Prod.mk.inj eh9).1, (Prod.mk.inj eh9).2] at hT
      replace hf9_0 : y6.toInt < 0 ∨ y8.toInt < y6.toInt := hf9_0
      refine lv_if_eq (tgt := 34) hx hb dX9_worth_23 (by decide) (fun c14 => ?_) (fun c14 => (x_ne (rg_k (by decide) : rg 0 0 0) (rg_k (by decide) : rg 0 0 0) (i_ne c14) (by decide)).elim)
      refine lv_bipush (v := (-2)) hx hb dX9_worth_34 (by decide) ?_
      exact hret (-2) _ _ _ _ _ _ dX9_worth_36 hT hS ⟨hR1, hF1⟩
set_option maxRecDepth 100000 in
set_option maxHeartbeats 4000000 in
theorem m_X9_isHalf {l : Launch} {D : va_G} {h : Nat → Nat} {cz : Nat → ClassId} {z : EZ} {i : Nat → Nat → Int32} {g : Nat → Nat → Int64} (a_a : Int32) : DtI l yX9_isHalf cX9_isHalf 1 (some .boolean) ({ frames := 1, cells := 0, slots := 0, locals := 25 } : Room) D h cz z i g [.int a_a] (fun r u => (u = (i, g) ∧ r = 1 ∧ rg 0 1 a_a) ∨ (u = (i, g) ∧ r = 0)) := by
  refine e_Z (fun v u hq => (hq.elim (fun hq => (Or.inr hq.2.1)) (fun hq => (Or.inl hq.2)))) pn_X9_isHalf (Nat.le_of_ble_eq_true rfl) ?_
  intro p e s m args below meth c ls Q X Y hret hT hl hS
  have hx := X.1
  have hb := X.2.1
  have hl : lv_has ls 1 [(0, .int a_a)] := hl
  refine lv_iload_n hx hb dX9_isHalf_0 rfl (lv_at hl 0 rfl) ?_
  refine q_i2l hx hb dX9_isHalf_1 (fun y1 ey1 => ?_)
  obtain ⟨hy1, ay1⟩ := rg_i2l ey1 (rg_top a_a)
  refine lv_lconst (v := 0) hx hb dX9_isHalf_2 (by decide) ?_
  refine lv_lconst (v := 1) hx hb dX9_isHalf_3 (by decide) ?_
  refine e_Si (As := [.long y1, .long 0, .long 1]) (rest := []) X Y hT hS (m_in y1 (0) (1)) sk_X9_in gm_1496 hd_X9_in ⟨rfl, rfl⟩ ⟨Nat.le_of_ble_eq_true rfl, Nat.le_of_ble_eq_true rfl⟩ hl.1 rfl (Nat.le_of_ble_eq_true rfl) dX9_isHalf_4 ⟨Nat.zero_le _, Nat.zero_le _⟩ (fun r2 i2 g2 H locs hq hT hS => ?_)
  rcases hq with hq | hq
  ·
    obtain ⟨eh2, rfl, hf2_0⟩ := hq
    rw [(Prod.mk.inj eh2).1, (Prod.mk.inj eh2).2] at hT
    replace hf2_0 : 0 ≤ y1.toInt ∧ y1.toInt ≤ 1 := hf2_0
    have h3 : rgL 0 1 y1 := ⟨by have := hy1.1; have := hy1.2; omega, by have := hy1.1; have := hy1.2; omega⟩
    have h4 : rg 0 1 a_a := ⟨by have := h3.1; have := (rg_top a_a).1; have := ay1; omega, by have := h3.2; have := (rg_top a_a).2; have := ay1; omega⟩
    exact hret 1 _ _ _ _ _ _ dX9_isHalf_7 hT hS (Or.inl ⟨rfl, rfl, h4⟩)
  ·
    obtain ⟨eh2, rfl, hf2_0⟩ := hq
    rw [(Prod.mk.inj eh2).1, (Prod.mk.inj eh2).2] at hT
    replace hf2_0 : y1.toInt < 0 ∨ 1 < y1.toInt := hf2_0
    exact hret 0 _ _ _ _ _ _ dX9_isHalf_7 hT hS (Or.inr ⟨rfl, rfl⟩)
set_option maxRecDepth 100000 in
set_option maxHeartbeats 4000000 in
theorem m_X9_times_1 {l : Launch} {D : va_G} {h : Nat → Nat} {cz : Nat → ClassId} {z : EZ} {i : Nat → Nat → Int32} {g : Nat → Nat → Int64} (a_a : Int32) (ha_a : rg (-100) 1 a_a) : DtI l yX9_times cX9_times 1 (some .int) ({ frames := 0, cells := 0, slots := 0, locals := 0 } : Room) D h cz z i g [.int a_a] (fun r u => u = (i, g) ∧ rg 1 1 r) := by
  refine e_I pn_X9_times (Nat.le_of_ble_eq_true rfl) ?_
  intro p e s m args below meth c ls Q X Y hret hT hl hS
  have hx := X.1
  have hb := X.2.1
  have hl : lv_has ls 1 [(0, .int a_a)] := hl
  refine lv_iload_n hx hb dX9_times_0 rfl (lv_at hl 0 rfl) ?_
  refine lv_iconst (v := 2) hx hb dX9_times_1 (by decide) ?_
  refine lv_icmp_ge (tgt := 9) hx hb dX9_times_2 (by decide) (fun c1 => (x_le (rg_k (by decide) : rg 2 2 2) ha_a (i_le c1) (by decide)).elim) (fun c1 => ?_)
  have q1 : a_a.toInt < 2 := i_nle c1
  refine lv_iconst (v := 1) hx hb dX9_times_5 (by decide) ?_
  refine lv_goto (tgt := 17) hx hb dX9_times_6 (by decide) ?_
  exact hret 1 _ _ _ _ _ _ dX9_times_17 hT hS ⟨rfl, (rg_k (by decide) : rg 1 1 1)⟩
set_option maxRecDepth 100000 in
set_option maxHeartbeats 4000000 in
theorem m_X9_times_2 {l : Launch} {D : va_G} {h : Nat → Nat} {cz : Nat → ClassId} {z : EZ} {i : Nat → Nat → Int32} {g : Nat → Nat → Int64} (a_a : Int32) (ha_a : rg (-100) 2 a_a) : DtI l yX9_times cX9_times 1 (some .int) ({ frames := 1, cells := 0, slots := 0, locals := 20 } : Room) D h cz z i g [.int a_a] (fun r u => u = (i, g) ∧ rg 1 2 r) := by
  refine e_I pn_X9_times (Nat.le_of_ble_eq_true rfl) ?_
  intro p e s m args below meth c ls Q X Y hret hT hl hS
  have hx := X.1
  have hb := X.2.1
  have hl : lv_has ls 1 [(0, .int a_a)] := hl
  refine lv_iload_n hx hb dX9_times_0 rfl (lv_at hl 0 rfl) ?_
  refine lv_iconst (v := 2) hx hb dX9_times_1 (by decide) ?_
  refine lv_icmp_ge (tgt := 9) hx hb dX9_times_2 (by decide) (fun c1 => ?_) (fun c1 => ?_)
  ·
    have q1 : 2 ≤ a_a.toInt := i_le c1
    have h2 : rg 2 2 a_a := t_ley 2 2 (rg_k (by decide) : rg 2 2 2) ha_a (i_le c1) (by decide)
    refine lv_iload_n hx hb dX9_times_9 rfl (lv_at hl 0 rfl) ?_
    refine lv_iload_n hx hb dX9_times_10 rfl (lv_at hl 0 rfl) ?_
    refine lv_iconst (v := 1) hx hb dX9_times_11 (by decide) ?_
    refine q_isub hx hb dX9_times_12 (fun x3 ex3 => ?_)
    obtain ⟨hx3, ax3⟩ := rg_sub 1 1 ex3 h2 (rg_k (by decide) : rg 1 1 1) (by decide)
    replace ax3 : x3.toInt = a_a.toInt - 1 := ax3
    refine e_Si (As := [.int x3]) (rest := [.int a_a]) X Y hT hS (m_X9_times_1 x3 (rg_w hx3 (by decide) : rg (-100) 1 x3)) sk_X9_times gm_1906 hd_X9_times ⟨rfl, rfl⟩ ⟨Nat.le_of_ble_eq_true rfl, Nat.le_of_ble_eq_true rfl⟩ hl.1 rfl (Nat.le_of_ble_eq_true rfl) dX9_times_13 ⟨Nat.zero_le _, Nat.zero_le _⟩ (fun r4 i4 g4 H locs hq hT hS => ?_)
    obtain ⟨eh4, hr4⟩ := hq
    rw [(Prod.mk.inj eh4).1, (Prod.mk.inj eh4).2] at hT
    refine q_imul hx hb dX9_times_16 (fun x5 ex5 => ?_)
    obtain ⟨hx5, ax5⟩ := rg_mul 2 2 ex5 h2 hr4 (by decide)
    replace ax5 : x5.toInt = a_a.toInt * r4.toInt := ax5
    exact hret x5 _ _ _ _ _ _ dX9_times_17 hT hS ⟨rfl, (rg_w hx5 (by decide) : rg 1 2 x5)⟩
  ·
    have q1 : a_a.toInt < 2 := i_nle c1
    have h6 : rg (-100) 1 a_a := t_ltx (-100) 1 ha_a (rg_k (by decide) : rg 2 2 2) (i_nle c1) (by decide)
    refine lv_iconst (v := 1) hx hb dX9_times_5 (by decide) ?_
    refine lv_goto (tgt := 17) hx hb dX9_times_6 (by decide) ?_
    exact hret 1 _ _ _ _ _ _ dX9_times_17 hT hS ⟨rfl, (rg_w (rg_k (by decide) : rg 1 1 1) (by decide) : rg 1 2 1)⟩
set_option maxRecDepth 100000 in
set_option maxHeartbeats 4000000 in
theorem m_X9_times_3 {l : Launch} {D : va_G} {h : Nat → Nat} {cz : Nat → ClassId} {z : EZ} {i : Nat → Nat → Int32} {g : Nat → Nat → Int64} (a_a : Int32) (ha_a : rg (-100) 3 a_a) : DtI l yX9_times cX9_times 1 (some .int) ({ frames := 2, cells := 0, slots := 0, locals := 40 } : Room) D h cz z i g [.int a_a] (fun r u => u = (i, g) ∧ rg 1 6 r) := by
  refine e_I pn_X9_times (Nat.le_of_ble_eq_true rfl) ?_
  intro p e s m args below meth c ls Q X Y hret hT hl hS
  have hx := X.1
  have hb := X.2.1
  have hl : lv_has ls 1 [(0, .int a_a)] := hl
  refine lv_iload_n hx hb dX9_times_0 rfl (lv_at hl 0 rfl) ?_
  refine lv_iconst (v := 2) hx hb dX9_times_1 (by decide) ?_
  refine lv_icmp_ge (tgt := 9) hx hb dX9_times_2 (by decide) (fun c1 => ?_) (fun c1 => ?_)
  ·
    have q1 : 2 ≤ a_a.toInt := i_le c1
    have h2 : rg 2 3 a_a := t_ley 2 3 (rg_k (by decide) : rg 2 2 2) ha_a (i_le c1) (by decide)
    refine lv_iload_n hx hb dX9_times_9 rfl (lv_at hl 0 rfl) ?_
    refine lv_iload_n hx hb dX9_times_10 rfl (lv_at hl 0 rfl) ?_
    refine lv_iconst (v := 1) hx hb dX9_times_11 (by decide) ?_
    refine q_isub hx hb dX9_times_12 (fun x3 ex3 => ?_)
    obtain ⟨hx3, ax3⟩ := rg_sub 1 2 ex3 h2 (rg_k (by decide) : rg 1 1 1) (by decide)
    replace ax3 : x3.toInt = a_a.toInt - 1 := ax3
    refine e_Si (As := [.int x3]) (rest := [.int a_a]) X Y hT hS (m_X9_times_2 x3 (rg_w hx3 (by decide) : rg (-100) 2 x3)) sk_X9_times gm_1906 hd_X9_times ⟨rfl, rfl⟩ ⟨Nat.le_of_ble_eq_true rfl, Nat.le_of_ble_eq_true rfl⟩ hl.1 rfl (Nat.le_of_ble_eq_true rfl) dX9_times_13 ⟨Nat.zero_le _, Nat.zero_le _⟩ (fun r4 i4 g4 H locs hq hT hS => ?_)
    obtain ⟨eh4, hr4⟩ := hq
    rw [(Prod.mk.inj eh4).1, (Prod.mk.inj eh4).2] at hT
    refine q_imul hx hb dX9_times_16 (fun x5 ex5 => ?_)
    obtain ⟨hx5, ax5⟩ := rg_mul 2 6 ex5 h2 hr4 (by decide)
    replace ax5 : x5.toInt = a_a.toInt * r4.toInt := ax5
    exact hret x5 _ _ _ _ _ _ dX9_times_17 hT hS ⟨rfl, (rg_w hx5 (by decide) : rg 1 6 x5)⟩
  ·
    have q1 : a_a.toInt < 2 := i_nle c1
    have h6 : rg (-100) 1 a_a := t_ltx (-100) 1 ha_a (rg_k (by decide) : rg 2 2 2) (i_nle c1) (by decide)
    refine lv_iconst (v := 1) hx hb dX9_times_5 (by decide) ?_
    refine lv_goto (tgt := 17) hx hb dX9_times_6 (by decide) ?_
    exact hret 1 _ _ _ _ _ _ dX9_times_17 hT hS ⟨rfl, (rg_w (rg_k (by decide) : rg 1 1 1) (by decide) : rg 1 6 1)⟩
set_option maxRecDepth 100000 in
set_option maxHeartbeats 4000000 in
theorem m_X9_times_4 {l : Launch} {D : va_G} {h : Nat → Nat} {cz : Nat → ClassId} {z : EZ} {i : Nat → Nat → Int32} {g : Nat → Nat → Int64} (a_a : Int32) (ha_a : rg (-100) 4 a_a) : DtI l yX9_times cX9_times 1 (some .int) ({ frames := 3, cells := 0, slots := 0, locals := 60 } : Room) D h cz z i g [.int a_a] (fun r u => u = (i, g) ∧ rg 1 24 r) := by
  refine e_I pn_X9_times (Nat.le_of_ble_eq_true rfl) ?_
  intro p e s m args below meth c ls Q X Y hret hT hl hS
  have hx := X.1
  have hb := X.2.1
  have hl : lv_has ls 1 [(0, .int a_a)] := hl
  refine lv_iload_n hx hb dX9_times_0 rfl (lv_at hl 0 rfl) ?_
  refine lv_iconst (v := 2) hx hb dX9_times_1 (by decide) ?_
  refine lv_icmp_ge (tgt := 9) hx hb dX9_times_2 (by decide) (fun c1 => ?_) (fun c1 => ?_)
  ·
    have q1 : 2 ≤ a_a.toInt := i_le c1
    have h2 : rg 2 4 a_a := t_ley 2 4 (rg_k (by decide) : rg 2 2 2) ha_a (i_le c1) (by decide)
    refine lv_iload_n hx hb dX9_times_9 rfl (lv_at hl 0 rfl) ?_
    refine lv_iload_n hx hb dX9_times_10 rfl (lv_at hl 0 rfl) ?_
    refine lv_iconst (v := 1) hx hb dX9_times_11 (by decide) ?_
    refine q_isub hx hb dX9_times_12 (fun x3 ex3 => ?_)
    obtain ⟨hx3, ax3⟩ := rg_sub 1 3 ex3 h2 (rg_k (by decide) : rg 1 1 1) (by decide)
    replace ax3 : x3.toInt = a_a.toInt - 1 := ax3
    refine e_Si (As := [.int x3]) (rest := [.int a_a]) X Y hT hS (m_X9_times_3 x3 (rg_w hx3 (by decide) : rg (-100) 3 x3)) sk_X9_times gm_1906 hd_X9_times ⟨rfl, rfl⟩ ⟨Nat.le_of_ble_eq_true rfl, Nat.le_of_ble_eq_true rfl⟩ hl.1 rfl (Nat.le_of_ble_eq_true rfl) dX9_times_13 ⟨Nat.zero_le _, Nat.zero_le _⟩ (fun r4 i4 g4 H locs hq hT hS => ?_)
    obtain ⟨eh4, hr4⟩ := hq
    rw [(Prod.mk.inj eh4).1, (Prod.mk.inj eh4).2] at hT
    refine q_imul hx hb dX9_times_16 (fun x5 ex5 => ?_)
    obtain ⟨hx5, ax5⟩ := rg_mul 2 24 ex5 h2 hr4 (by decide)
    replace ax5 : x5.toInt = a_a.toInt * r4.toInt := ax5
    exact hret x5 _ _ _ _ _ _ dX9_times_17 hT hS ⟨rfl, (rg_w hx5 (by decide) : rg 1 24 x5)⟩
  ·
    have q1 : a_a.toInt < 2 := i_nle c1
    have h6 : rg (-100) 1 a_a := t_ltx (-100) 1 ha_a (rg_k (by decide) : rg 2 2 2) (i_nle c1) (by decide)
    refine lv_iconst (v := 1) hx hb dX9_times_5 (by decide) ?_
    refine lv_goto (tgt := 17) hx hb dX9_times_6 (by decide) ?_
    exact hret 1 _ _ _ _ _ _ dX9_times_17 hT hS ⟨rfl, (rg_w (rg_k (by decide) : rg 1 1 1) (by decide) : rg 1 24 1)⟩
set_option maxRecDepth 100000 in
set_option maxHeartbeats 4000000 in
theorem m_X9_times_5 {l : Launch} {D : va_G} {h : Nat → Nat} {cz : Nat → ClassId} {z : EZ} {i : Nat → Nat → Int32} {g : Nat → Nat → Int64} (a_a : Int32) (ha_a : rg (-100) 5 a_a) : DtI l yX9_times cX9_times 1 (some .int) ({ frames := 4, cells := 0, slots := 0, locals := 80 } : Room) D h cz z i g [.int a_a] (fun r u => u = (i, g) ∧ rg 1 120 r) := by
  refine e_I pn_X9_times (Nat.le_of_ble_eq_true rfl) ?_
  intro p e s m args below meth c ls Q X Y hret hT hl hS
  have hx := X.1
  have hb := X.2.1
  have hl : lv_has ls 1 [(0, .int a_a)] := hl
  refine lv_iload_n hx hb dX9_times_0 rfl (lv_at hl 0 rfl) ?_
  refine lv_iconst (v := 2) hx hb dX9_times_1 (by decide) ?_
  refine lv_icmp_ge (tgt := 9) hx hb dX9_times_2 (by decide) (fun c1 => ?_) (fun c1 => ?_)
  ·
    have q1 : 2 ≤ a_a.toInt := i_le c1
    have h2 : rg 2 5 a_a := t_ley 2 5 (rg_k (by decide) : rg 2 2 2) ha_a (i_le c1) (by decide)
    refine lv_iload_n hx hb dX9_times_9 rfl (lv_at hl 0 rfl) ?_
    refine lv_iload_n hx hb dX9_times_10 rfl (lv_at hl 0 rfl) ?_
    refine lv_iconst (v := 1) hx hb dX9_times_11 (by decide) ?_
    refine q_isub hx hb dX9_times_12 (fun x3 ex3 => ?_)
    obtain ⟨hx3, ax3⟩ := rg_sub 1 4 ex3 h2 (rg_k (by decide) : rg 1 1 1) (by decide)
    replace ax3 : x3.toInt = a_a.toInt - 1 := ax3
    refine e_Si (As := [.int x3]) (rest := [.int a_a]) X Y hT hS (m_X9_times_4 x3 (rg_w hx3 (by decide) : rg (-100) 4 x3)) sk_X9_times gm_1906 hd_X9_times ⟨rfl, rfl⟩ ⟨Nat.le_of_ble_eq_true rfl, Nat.le_of_ble_eq_true rfl⟩ hl.1 rfl (Nat.le_of_ble_eq_true rfl) dX9_times_13 ⟨Nat.zero_le _, Nat.zero_le _⟩ (fun r4 i4 g4 H locs hq hT hS => ?_)
    obtain ⟨eh4, hr4⟩ := hq
    rw [(Prod.mk.inj eh4).1, (Prod.mk.inj eh4).2] at hT
    refine q_imul hx hb dX9_times_16 (fun x5 ex5 => ?_)
    obtain ⟨hx5, ax5⟩ := rg_mul 2 120 ex5 h2 hr4 (by decide)
    replace ax5 : x5.toInt = a_a.toInt * r4.toInt := ax5
    exact hret x5 _ _ _ _ _ _ dX9_times_17 hT hS ⟨rfl, (rg_w hx5 (by decide) : rg 1 120 x5)⟩
  ·
    have q1 : a_a.toInt < 2 := i_nle c1
    have h6 : rg (-100) 1 a_a := t_ltx (-100) 1 ha_a (rg_k (by decide) : rg 2 2 2) (i_nle c1) (by decide)
    refine lv_iconst (v := 1) hx hb dX9_times_5 (by decide) ?_
    refine lv_goto (tgt := 17) hx hb dX9_times_6 (by decide) ?_
    exact hret 1 _ _ _ _ _ _ dX9_times_17 hT hS ⟨rfl, (rg_w (rg_k (by decide) : rg 1 1 1) (by decide) : rg 1 120 1)⟩
set_option maxRecDepth 100000 in
set_option maxHeartbeats 4000000 in
theorem m_X9_times_6 {l : Launch} {D : va_G} {h : Nat → Nat} {cz : Nat → ClassId} {z : EZ} {i : Nat → Nat → Int32} {g : Nat → Nat → Int64} (a_a : Int32) (ha_a : rg (-100) 6 a_a) : DtI l yX9_times cX9_times 1 (some .int) ({ frames := 5, cells := 0, slots := 0, locals := 100 } : Room) D h cz z i g [.int a_a] (fun r u => u = (i, g) ∧ rg 1 720 r) := by
  refine e_I pn_X9_times (Nat.le_of_ble_eq_true rfl) ?_
  intro p e s m args below meth c ls Q X Y hret hT hl hS
  have hx := X.1
  have hb := X.2.1
  have hl : lv_has ls 1 [(0, .int a_a)] := hl
  refine lv_iload_n hx hb dX9_times_0 rfl (lv_at hl 0 rfl) ?_
  refine lv_iconst (v := 2) hx hb dX9_times_1 (by decide) ?_
  refine lv_icmp_ge (tgt := 9) hx hb dX9_times_2 (by decide) (fun c1 => ?_) (fun c1 => ?_)
  ·
    have q1 : 2 ≤ a_a.toInt := i_le c1
    have h2 : rg 2 6 a_a := t_ley 2 6 (rg_k (by decide) : rg 2 2 2) ha_a (i_le c1) (by decide)
    refine lv_iload_n hx hb dX9_times_9 rfl (lv_at hl 0 rfl) ?_
    refine lv_iload_n hx hb dX9_times_10 rfl (lv_at hl 0 rfl) ?_
    refine lv_iconst (v := 1) hx hb dX9_times_11 (by decide) ?_
    refine q_isub hx hb dX9_times_12 (fun x3 ex3 => ?_)
    obtain ⟨hx3, ax3⟩ := rg_sub 1 5 ex3 h2 (rg_k (by decide) : rg 1 1 1) (by decide)
    replace ax3 : x3.toInt = a_a.toInt - 1 := ax3
    refine e_Si (As := [.int x3]) (rest := [.int a_a]) X Y hT hS (m_X9_times_5 x3 (rg_w hx3 (by decide) : rg (-100) 5 x3)) sk_X9_times gm_1906 hd_X9_times ⟨rfl, rfl⟩ ⟨Nat.le_of_ble_eq_true rfl, Nat.le_of_ble_eq_true rfl⟩ hl.1 rfl (Nat.le_of_ble_eq_true rfl) dX9_times_13 ⟨Nat.zero_le _, Nat.zero_le _⟩ (fun r4 i4 g4 H locs hq hT hS => ?_)
    obtain ⟨eh4, hr4⟩ := hq
    rw [(Prod.mk.inj eh4).1, (Prod.mk.inj eh4).2] at hT
    refine q_imul hx hb dX9_times_16 (fun x5 ex5 => ?_)
    obtain ⟨hx5, ax5⟩ := rg_mul 2 720 ex5 h2 hr4 (by decide)
    replace ax5 : x5.toInt = a_a.toInt * r4.toInt := ax5
    exact hret x5 _ _ _ _ _ _ dX9_times_17 hT hS ⟨rfl, (rg_w hx5 (by decide) : rg 1 720 x5)⟩
  ·
    have q1 : a_a.toInt < 2 := i_nle c1
    have h6 : rg (-100) 1 a_a := t_ltx (-100) 1 ha_a (rg_k (by decide) : rg 2 2 2) (i_nle c1) (by decide)
    refine lv_iconst (v := 1) hx hb dX9_times_5 (by decide) ?_
    refine lv_goto (tgt := 17) hx hb dX9_times_6 (by decide) ?_
    exact hret 1 _ _ _ _ _ _ dX9_times_17 hT hS ⟨rfl, (rg_w (rg_k (by decide) : rg 1 1 1) (by decide) : rg 1 720 1)⟩
set_option maxRecDepth 100000 in
set_option maxHeartbeats 4000000 in
theorem m_X9_part0 {l : Launch} {D : va_G} {h : Nat → Nat} {cz : Nat → ClassId} {z : EZ} {i : Nat → Nat → Int32} {g : Nat → Nat → Int64} (a_a : Int64) (a_b : Int64) (a_c : Int32) (ha_b : rgL 1 100000000 a_b) : DtL l yX9_part0 cX9_part0 5 (some .long) ({ frames := 129, cells := 0, slots := 0, locals := 2967 } : Room) D h cz z i g [.long a_a, .long a_b, .int a_c] (fun r u => u = (i, g)) := by
  refine e_L pn_X9_part0 (Nat.le_of_ble_eq_true rfl) ?_
  intro p e s m args below meth c ls Q X Y hret hT hl hS
  have hx := X.1
  have hb := X.2.1
  have hl : lv_has ls 5 [(0, .long a_a), (2, .long a_b), (4, .int a_c)] := hl
  refine lv_iload hx hb dX9_part0_0 (lv_at hl 2 rfl) ?_
  have J10_2 : ∀ (y10_2_s0 : Int64) (H : Heap) (locs : List Loc) (ls : Array Slot), TH D h cz i g H → va_S (hA h) s.heap H locs → lv_has ls 5 [(0, .long a_a), (2, .long a_b)] → W p l e ({ frames := 129, cells := 0, slots := 0, locals := 2967 } : Room) s m args below meth c H locs 0 0 Q (F0 m 10 ls [.long y10_2_s0]) := by
    intro y10_2_s0 H locs ls hT hS hl
    refine lv_lload_n hx hb dX9_part0_10 rfl (lv_at hl 0 rfl) ?_
    refine lv_lload_n hx hb dX9_part0_11 rfl (lv_at hl 1 rfl) ?_
    refine e_Sl (As := [.long a_a, .long a_b]) (rest := [.long y10_2_s0]) X Y hT hS (m_common a_a a_b (by have := ha_b.1; omega)) sk_X9_common gm_1912 hd_X9_common ⟨rfl, rfl⟩ ⟨Nat.le_of_ble_eq_true rfl, Nat.le_of_ble_eq_true rfl⟩ hl.1 rfl (Nat.le_of_ble_eq_true rfl) dX9_part0_12 ⟨Nat.zero_le _, Nat.zero_le _⟩ (fun r3 i3 g3 H locs hq hT hS => ?_)
    obtain ⟨eh3, hf3_0⟩ := hq
    rw [(Prod.mk.inj eh3).1, (Prod.mk.inj eh3).2] at hT
    refine q_ldiv hx hb dX9_part0_15 (nz_L0 hf3_0) (fun y4 ey4 => ?_)
    exact hret y4 _ _ _ _ _ _ dX9_part0_16 hT hS rfl
  refine lv_if_ne (tgt := 9) hx hb dX9_part0_2 (by decide) (fun c1 => ?_) (fun c1 => ?_)
  ·
    have q1 : ¬ a_c.toInt = 0 := i_ne c1
    refine lv_lload_n hx hb dX9_part0_9 rfl (lv_at hl 1 rfl) ?_
    exact J10_2 a_b _ _ _ hT hS (lv_sub hl [0, 1] rfl)
  ·
    have q1 : a_c.toInt = 0 := i_eq c1
    have h5 : rg 0 0 a_c := t_eqx 0 0 (rg_top a_c) (rg_k (by decide) : rg 0 0 0) (i_eq c1) (by decide)
    refine lv_lload_n hx hb dX9_part0_5 rfl (lv_at hl 0 rfl) ?_
    refine lv_goto (tgt := 10) hx hb dX9_part0_6 (by decide) ?_
    exact J10_2 a_a _ _ _ hT hS (lv_sub hl [0, 1] rfl)
set_option maxRecDepth 100000 in
set_option maxHeartbeats 4000000 in
theorem m_X9_share {l : Launch} {D : va_G} {h : Nat → Nat} {cz : Nat → ClassId} {z : EZ} {i : Nat → Nat → Int32} {g : Nat → Nat → Int64} (hR : Rg rA i) (a_a : Int32) (a_b : Int32) : DtI l yX9_share cX9_share 6 (some .int) ({ frames := 130, cells := 0, slots := 0, locals := 2991 } : Room) D h cz z i g [.ref (h 96), .int a_a, .int a_b] (fun r u => Rg rA u.1 ∧ Fr [96, 109, 110, 111, 112, 113, 114, 115] [] i g u) := by
  refine e_I pn_X9_share (Nat.le_of_ble_eq_true rfl) ?_
  intro p e s m args below meth c ls Q X Y hret hT hl hS
  have hx := X.1
  have hb := X.2.1
  have hl : lv_has ls 6 [(0, .ref (h 96)), (1, .int a_a), (2, .int a_b)] := hl
  have hF : Fr [96, 109, 110, 111, 112, 113, 114, 115] [] i g (i, g) := Fr_rf _ _ _ _
  refine lv_aload_n hx hb dX9_share_0 rfl (lv_at hl 0 rfl) ?_
  refine lv_iconst (v := 0) hx hb dX9_share_1 (by decide) ?_
  refine r_puti X hT hS 96 0 pk_9_83 rfl rfl rfl rfl (by decide) dX9_share_2 (fun H locs i1 ei1 hT hS => ?_)
  have hR1 := Rg_put hR ei1 (-2147483648) 2147483647 rfl (rg_k (by decide) : rg 0 0 0) (by decide)
  have hF1 := Fr_puti hF ei1 (by decide)
  refine lv_aload_n hx hb dX9_share_5 rfl (lv_at hl 0 rfl) ?_
  refine lv_iload_n hx hb dX9_share_6 rfl (lv_at hl 1 rfl) ?_
  refine q_i2l hx hb dX9_share_7 (fun y2 ey2 => ?_)
  obtain ⟨hy2, ay2⟩ := rg_i2l ey2 (rg_top a_a)
  refine e_Vi (As := [.long y2]) (rest := []) X Y hT hS (m_X9_isPart hR1 y2) mk_X9_isPart gm_1645 rfl rfl (by decide) hd_X9_isPart ⟨rfl, rfl⟩ ⟨Nat.le_of_ble_eq_true rfl, Nat.le_of_ble_eq_true rfl⟩ hl.1 rfl (Nat.le_of_ble_eq_true rfl) dX9_share_8 ⟨Nat.zero_le _, Nat.zero_le _⟩ (fun r3 i3 g3 H locs hq hT hS => ?_)
  rcases hq with hq | hq
  ·
    obtain ⟨eh3, rfl, hf3_0⟩ := hq
    rw [(Prod.mk.inj eh3).1, (Prod.mk.inj eh3).2] at hT
    have h4 : rgL 0 5 y2 := ⟨by have := hy2.1; have := hf3_0.1; omega, by have := hy2.2; have := hf3_0.2; omega⟩
    have h5 : rg 0 5 a_a := ⟨by have := h4.1; have := (rg_top a_a).1; have := ay2; omega, by have := h4.2; have := (rg_top a_a).2; have := ay2; omega⟩
    refine lv_if_eq (tgt := 21) hx hb dX9_share_11 (by decide) (fun c6 => (x_eq (rg_k (by decide) : rg 1 1 1) (rg_k (by decide) : rg 0 0 0) (i_eq c6) (by decide)).elim) (fun c6 => ?_)
    refine lv_iload_n hx hb dX9_share_14 rfl (lv_at hl 2 rfl) ?_
    refine e_Si (As := [.int a_b]) (rest := []) X Y hT hS (m_X9_isHalf a_b) sk_X9_isHalf gm_1902 hd_X9_isHalf ⟨rfl, rfl⟩ ⟨Nat.le_of_ble_eq_true rfl, Nat.le_of_ble_eq_true rfl⟩ hl.1 rfl (Nat.le_of_ble_eq_true rfl) dX9_share_15 ⟨Nat.zero_le _, Nat.zero_le _⟩ (fun r7 i7 g7 H locs hq hT hS => ?_)
    rcases hq with hq | hq
    ·
      obtain ⟨eh7, rfl, hf7_0⟩ := hq
      rw [(Prod.mk.inj eh7).1, (Prod.mk.inj eh7).2] at hT
      have h8 : rg 0 1 a_b := ⟨by have := (rg_top a_b).1; have := hf7_0.1; omega, by have := (rg_top a_b).2; have := hf7_0.2; omega⟩
      refine lv_if_ne (tgt := 25) hx hb dX9_share_18 (by decide) (fun c9 => ?_) (fun c9 => (x_eq (rg_k (by decide) : rg 1 1 1) (rg_k (by decide) : rg 0 0 0) (i_eq c9) (by decide)).elim)
      refine lv_iconst (v := 0) hx hb dX9_share_25 (by decide) ?_
      refine lv_istore_n (lv' := [(3, .int 0), (0, .ref (h 96)), (1, .int a_a), (2, .int a_b)]) hx hb dX9_share_26 rfl hl (by decide) rfl (fun ls hl => ?_)
      refine lv_iconst (v := 0) hx hb dX9_share_27 (by decide) ?_
      refine lv_istore (lv' := [(4, .int 0), (3, .int 0), (0, .ref (h 96)), (1, .int a_a), (2, .int a_b)]) hx hb dX9_share_28 hl (by decide) rfl (fun ls hl => ?_)
      have L30_10 : ∀ (n12_ : Nat) (x30_3 : Int32) (x30_4 : Int32) (i11 : Nat → Nat → Int32) (g11 : Nat → Nat → Int64) (H : Heap) (locs : List Loc) (ls : Array Slot), rg 0 64 x30_4 → Rg rA i11 → Fr [96, 109, 110, 111, 112, 113, 114, 115] [] i g (i11, g11) → TH D h cz i11 g11 H → va_S (hA h) s.heap H locs → lv_has ls 6 [(0, .ref (h 96)), (1, .int a_a), (2, .int a_b), (3, .int x30_3), (4, .int x30_4)] → (64 - x30_4.toInt).toNat < n12_ → W p l e ({ frames := 130, cells := 0, slots := 0, locals := 2991 } : Room) s m args below meth c H locs 0 0 Q (F0 m 30 ls []) := by
        intro n12_
        induction n12_ with
        | zero => intro x30_3 x30_4 i11 g11 H locs ls hhx30_4 hR11 hF11 hT hS hl hm12_; exact absurd hm12_ (Nat.not_lt_zero _)
        | succ n12_ ih12_ =>
          intro x30_3 x30_4 i11 g11 H locs ls hhx30_4 hR11 hF11 hT hS hl hm12_
          refine lv_iload hx hb dX9_share_30 (lv_at hl 4 rfl) ?_
          refine lv_iconst (v := 1) hx hb dX9_share_32 (by decide) ?_
          refine lv_aload_n hx hb dX9_share_33 rfl (lv_at hl 0 rfl) ?_
          refine e_Vi (As := []) (rest := [.int 1, .int x30_4]) X Y hT hS (m_X9_parts hR11) mk_X9_parts gm_1649 rfl rfl (by decide) hd_X9_parts ⟨rfl, rfl⟩ ⟨Nat.le_of_ble_eq_true rfl, Nat.le_of_ble_eq_true rfl⟩ hl.1 rfl (Nat.le_of_ble_eq_true rfl) dX9_share_34 ⟨Nat.zero_le _, Nat.zero_le _⟩ (fun r13 i13 g13 H locs hq hT hS => ?_)
          obtain ⟨eh13, hr13⟩ := hq
          rw [(Prod.mk.inj eh13).1, (Prod.mk.inj eh13).2] at hT
          refine q_ishl hx hb dX9_share_37 (fun x14 ex14 => ?_)
          have h15 : rg 1 64 x14 := rg_shl1 ex14 hr13 (by decide)
          refine lv_icmp_ge (tgt := 105) hx hb dX9_share_38 (by decide) (fun c16 => ?_) (fun c16 => ?_)
          ·
            have q16 : x14.toInt ≤ x30_4.toInt := i_le c16
            have h17 : rg 1 64 x30_4 := t_ley 1 64 h15 hhx30_4 (i_le c16) (by decide)
            refine lv_iload_n hx hb dX9_share_105 rfl (lv_at hl 3 rfl) ?_
            refine q_i2l hx hb dX9_share_106 (fun y18 ey18 => ?_)
            obtain ⟨hy18, ay18⟩ := rg_i2l ey18 (rg_top x30_3)
            refine lv_aload_n hx hb dX9_share_107 rfl (lv_at hl 0 rfl) ?_
            refine e_Vi (As := []) (rest := [.long y18]) X Y hT hS (m_X9_parts hR11) mk_X9_parts gm_1649 rfl rfl (by decide) hd_X9_parts ⟨rfl, rfl⟩ ⟨Nat.le_of_ble_eq_true rfl, Nat.le_of_ble_eq_true rfl⟩ hl.1 rfl (Nat.le_of_ble_eq_true rfl) dX9_share_108 ⟨Nat.zero_le _, Nat.zero_le _⟩ (fun r19 i19 g19 H locs hq hT hS => ?_)
            obtain ⟨eh19, hr19⟩ := hq
            rw [(Prod.mk.inj eh19).1, (Prod.mk.inj eh19).2] at hT
            refine e_Si (As := [.int r19]) (rest := [.long y18]) X Y hT hS (m_X9_times_6 r19 (rg_w hr19 (by decide) : rg (-100) 6 r19)) sk_X9_times gm_1906 hd_X9_times ⟨rfl, rfl⟩ ⟨Nat.le_of_ble_eq_true rfl, Nat.le_of_ble_eq_true rfl⟩ hl.1 rfl (Nat.le_of_ble_eq_true rfl) dX9_share_111 ⟨Nat.zero_le _, Nat.zero_le _⟩ (fun r20 i20 g20 H locs hq hT hS => ?_)
            obtain ⟨eh20, hr20⟩ := hq
            rw [(Prod.mk.inj eh20).1, (Prod.mk.inj eh20).2] at hT
            refine q_i2l hx hb dX9_share_114 (fun y21 ey21 => ?_)
            obtain ⟨hy21, ay21⟩ := rg_i2l ey21 hr20
            refine lv_iload_n hx hb dX9_share_115 rfl (lv_at hl 2 rfl) ?_
            refine e_Sl (As := [.long y18, .long y21, .int a_b]) (rest := []) X Y hT hS (m_X9_part0 y18 y21 a_b (rgL_w hy21 (by decide) : rgL 1 100000000 y21)) sk_X9_part0 gm_1909 hd_X9_part0 ⟨rfl, rfl⟩ ⟨Nat.le_of_ble_eq_true rfl, Nat.le_of_ble_eq_true rfl⟩ hl.1 rfl (Nat.le_of_ble_eq_true rfl) dX9_share_116 ⟨Nat.zero_le _, Nat.zero_le _⟩ (fun r22 i22 g22 H locs hq hT hS => ?_)
            have eh22 := hq
            rw [(Prod.mk.inj eh22).1, (Prod.mk.inj eh22).2] at hT
            refine q_l2i hx hb dX9_share_119 (fun x23 ex23 => ?_)
            exact hret x23 _ _ _ _ _ _ dX9_share_120 hT hS ⟨hR11, hF11⟩
          ·
            have q16 : x30_4.toInt < x14.toInt := i_nle c16
            have h24 : rg 0 63 x30_4 := t_ltx 0 63 hhx30_4 h15 (i_nle c16) (by decide)
            refine lv_iload hx hb dX9_share_41 (lv_at hl 4 rfl) ?_
            refine lv_iload_n hx hb dX9_share_43 rfl (lv_at hl 1 rfl) ?_
            refine e_Si (As := [.int x30_4, .int a_a]) (rest := []) X Y hT hS (m_X9_isBit x30_4 a_a) sk_X9_isBit gm_1670 hd_X9_isBit ⟨rfl, rfl⟩ ⟨Nat.le_of_ble_eq_true rfl, Nat.le_of_ble_eq_true rfl⟩ hl.1 rfl (Nat.le_of_ble_eq_true rfl) dX9_share_44 ⟨Nat.zero_le _, Nat.zero_le _⟩ (fun r25 i25 g25 H locs hq hT hS => ?_)
            rcases hq with hq | hq
            ·
              obtain ⟨eh25, rfl, hf25_0⟩ := hq
              rw [(Prod.mk.inj eh25).1, (Prod.mk.inj eh25).2] at hT
              replace hf25_0 : (((x30_4 : Int32) >>> ((a_a : Int32) &&& 31)) &&& 1 = 1) := hf25_0
              refine lv_if_eq (tgt := 53) hx hb dX9_share_47 (by decide) (fun c26 => (x_eq (rg_k (by decide) : rg 1 1 1) (rg_k (by decide) : rg 0 0 0) (i_eq c26) (by decide)).elim) (fun c26 => ?_)
              refine lv_goto (tgt := 99) hx hb dX9_share_50 (by decide) ?_
              obtain ⟨x27, ex27⟩ : ∃ y : Int32, y = x30_4 + 1 := ⟨_, rfl⟩
              refine lv_iinc (v := x27) (lv' := [(4, .int x27), (0, .ref (h 96)), (1, .int a_a), (2, .int a_b), (3, .int x30_3)]) hx hb dX9_share_99 hl (k := 4) rfl (by rw [ex27]; rfl) (by decide) rfl (fun ls hl => ?_)
              obtain ⟨hx27, ax27⟩ := rg_add 1 64 ex27 h24 (rg_k (by decide) : rg 1 1 1) (by decide)
              replace ax27 : x27.toInt = x30_4.toInt + 1 := ax27
              refine lv_goto (tgt := 30) hx hb dX9_share_102 (by decide) ?_
              exact ih12_ x30_3 x27 i11 g11 _ _ _ (rg_w hx27 (by decide) : rg 0 64 x27) hR11 hF11 hT hS (lv_sub hl [1, 2, 3, 4, 0] rfl) (m_up ax27 hx27 (by decide) hm12_)
            ·
              obtain ⟨eh25, rfl, hf25_0⟩ := hq
              rw [(Prod.mk.inj eh25).1, (Prod.mk.inj eh25).2] at hT
              replace hf25_0 : ¬ (((x30_4 : Int32) >>> ((a_a : Int32) &&& 31)) &&& 1 = 1) := hf25_0
              refine lv_if_eq (tgt := 53) hx hb dX9_share_47 (by decide) (fun c28 => ?_) (fun c28 => (x_ne (rg_k (by decide) : rg 0 0 0) (rg_k (by decide) : rg 0 0 0) (i_ne c28) (by decide)).elim)
              refine lv_iload hx hb dX9_share_53 (lv_at hl 4 rfl) ?_
              refine e_Si (As := [.int x30_4]) (rest := []) X Y hT hS (m_X9_sizeOf x30_4) sk_X9_sizeOf gm_1732 hd_X9_sizeOf ⟨rfl, rfl⟩ ⟨Nat.le_of_ble_eq_true rfl, Nat.le_of_ble_eq_true rfl⟩ hl.1 rfl (Nat.le_of_ble_eq_true rfl) dX9_share_55 ⟨Nat.zero_le _, Nat.zero_le _⟩ (fun r29 i29 g29 H locs hq hT hS => ?_)
              obtain ⟨eh29, hf29_0⟩ := hq
              rw [(Prod.mk.inj eh29).1, (Prod.mk.inj eh29).2] at hT
              replace hf29_0 : r29.toInt = (popF 32 (x30_4 : Int32).toBitVec.toNat : Int) := hf29_0
              have h30 : rg 0 6 r29 := pop_rg hf29_0 h24 (by decide) (by decide)
              refine lv_istore (lv' := [(5, .int r29), (0, .ref (h 96)), (1, .int a_a), (2, .int a_b), (3, .int x30_3), (4, .int x30_4)]) hx hb dX9_share_58 hl (by decide) rfl (fun ls hl => ?_)
              refine lv_iload_n hx hb dX9_share_60 rfl (lv_at hl 4 rfl) ?_
              refine lv_iload hx hb dX9_share_61 (lv_at hl 0 rfl) ?_
              refine e_Si (As := [.int r29]) (rest := [.int x30_3]) X Y hT hS (m_X9_times_6 r29 (rg_w h30 (by decide) : rg (-100) 6 r29)) sk_X9_times gm_1906 hd_X9_times ⟨rfl, rfl⟩ ⟨Nat.le_of_ble_eq_true rfl, Nat.le_of_ble_eq_true rfl⟩ hl.1 rfl (Nat.le_of_ble_eq_true rfl) dX9_share_63 ⟨Nat.zero_le _, Nat.zero_le _⟩ (fun r31 i31 g31 H locs hq hT hS => ?_)
              obtain ⟨eh31, hr31⟩ := hq
              rw [(Prod.mk.inj eh31).1, (Prod.mk.inj eh31).2] at hT
              refine lv_aload_n hx hb dX9_share_66 rfl (lv_at hl 1 rfl) ?_
              refine e_Vi (As := []) (rest := [.int r31, .int x30_3]) X Y hT hS (m_X9_parts hR11) mk_X9_parts gm_1649 rfl rfl (by decide) hd_X9_parts ⟨rfl, rfl⟩ ⟨Nat.le_of_ble_eq_true rfl, Nat.le_of_ble_eq_true rfl⟩ hl.1 rfl (Nat.le_of_ble_eq_true rfl) dX9_share_67 ⟨Nat.zero_le _, Nat.zero_le _⟩ (fun r32 i32 g32 H locs hq hT hS => ?_)
              obtain ⟨eh32, hr32⟩ := hq
              rw [(Prod.mk.inj eh32).1, (Prod.mk.inj eh32).2] at hT
              refine lv_iload hx hb dX9_share_70 (lv_at hl 0 rfl) ?_
              refine q_isub hx hb dX9_share_72 (fun x33 ex33 => ?_)
              obtain ⟨hx33, ax33⟩ := rg_sub (-6) 6 ex33 hr32 h30 (by decide)
              replace ax33 : x33.toInt = r32.toInt - r29.toInt := ax33
              refine lv_iconst (v := 1) hx hb dX9_share_73 (by decide) ?_
              refine q_isub hx hb dX9_share_74 (fun x34 ex34 => ?_)
              obtain ⟨hx34, ax34⟩ := rg_sub (-7) 5 ex34 hx33 (rg_k (by decide) : rg 1 1 1) (by decide)
              replace ax34 : x34.toInt = x33.toInt - 1 := ax34
              refine e_Si (As := [.int x34]) (rest := [.int r31, .int x30_3]) X Y hT hS (m_X9_times_5 x34 (rg_w hx34 (by decide) : rg (-100) 5 x34)) sk_X9_times gm_1906 hd_X9_times ⟨rfl, rfl⟩ ⟨Nat.le_of_ble_eq_true rfl, Nat.le_of_ble_eq_true rfl⟩ hl.1 rfl (Nat.le_of_ble_eq_true rfl) dX9_share_75 ⟨Nat.zero_le _, Nat.zero_le _⟩ (fun r35 i35 g35 H locs hq hT hS => ?_)
              obtain ⟨eh35, hr35⟩ := hq
              rw [(Prod.mk.inj eh35).1, (Prod.mk.inj eh35).2] at hT
              refine q_imul hx hb dX9_share_78 (fun x36 ex36 => ?_)
              obtain ⟨hx36, ax36⟩ := rg_mul 1 86400 ex36 hr31 hr35 (by decide)
              replace ax36 : x36.toInt = r31.toInt * r35.toInt := ax36
              refine lv_aload_n hx hb dX9_share_79 rfl (lv_at hl 1 rfl) ?_
              refine lv_iload hx hb dX9_share_80 (lv_at hl 5 rfl) ?_
              refine lv_iconst (v := 1) hx hb dX9_share_82 (by decide) ?_
              refine lv_iload_n hx hb dX9_share_83 rfl (lv_at hl 2 rfl) ?_
              refine q_ishl hx hb dX9_share_84 (fun x37 ex37 => ?_)
              have h38 : rg 1 32 x37 := rg_shl1 ex37 h5 (by decide)
              refine q_ior hx hb dX9_share_85 (fun x39 ex39 => ?_)
              have h40 : rg 0 255 x39 := rg_or8 ex39 h24 h38 (by decide)
              refine e_Vi (As := [.int x39]) (rest := [.int x36, .int x30_3]) X Y hT hS (m_X9_worthOf hR11 x39) mk_X9_worthOf gm_1886 rfl rfl (by decide) hd_X9_worthOf ⟨rfl, rfl⟩ ⟨Nat.le_of_ble_eq_true rfl, Nat.le_of_ble_eq_true rfl⟩ hl.1 rfl (Nat.le_of_ble_eq_true rfl) dX9_share_86 ⟨Nat.zero_le _, Nat.zero_le _⟩ (fun r41 i41 g41 H locs hq hT hS => ?_)
              obtain ⟨hR41, hf41⟩ := hq
              have hF41 := Fr_tr hF11 hf41 (by decide)
              refine lv_aload_n hx hb dX9_share_89 rfl (lv_at hl 1 rfl) ?_
              refine lv_iload hx hb dX9_share_90 (lv_at hl 5 rfl) ?_
              refine e_Vi (As := [.int x30_4]) (rest := [.int r41, .int x36, .int x30_3]) X Y hT hS (m_X9_worthOf hR41 x30_4) mk_X9_worthOf gm_1886 rfl rfl (by decide) hd_X9_worthOf ⟨rfl, rfl⟩ ⟨Nat.le_of_ble_eq_true rfl, Nat.le_of_ble_eq_true rfl⟩ hl.1 rfl (Nat.le_of_ble_eq_true rfl) dX9_share_92 ⟨Nat.zero_le _, Nat.zero_le _⟩ (fun r42 i42 g42 H locs hq hT hS => ?_)
              obtain ⟨hR42, hf42⟩ := hq
              have hF42 := Fr_tr hF41 hf42 (by decide)
              refine q_isub hx hb dX9_share_95 (fun x43 ex43 => ?_)
              refine q_imul hx hb dX9_share_96 (fun x44 ex44 => ?_)
              refine q_iadd hx hb dX9_share_97 (fun x45 ex45 => ?_)
              refine lv_istore_n (lv' := [(3, .int x45), (5, .int r29), (0, .ref (h 96)), (1, .int a_a), (2, .int a_b), (4, .int x30_4)]) hx hb dX9_share_98 rfl hl (by decide) rfl (fun ls hl => ?_)
              obtain ⟨x46, ex46⟩ : ∃ y : Int32, y = x30_4 + 1 := ⟨_, rfl⟩
              refine lv_iinc (v := x46) (lv' := [(4, .int x46), (3, .int x45), (5, .int r29), (0, .ref (h 96)), (1, .int a_a), (2, .int a_b)]) hx hb dX9_share_99 hl (k := 5) rfl (by rw [ex46]; rfl) (by decide) rfl (fun ls hl => ?_)
              obtain ⟨hx46, ax46⟩ := rg_add 1 64 ex46 h24 (rg_k (by decide) : rg 1 1 1) (by decide)
              replace ax46 : x46.toInt = x30_4.toInt + 1 := ax46
              refine lv_goto (tgt := 30) hx hb dX9_share_102 (by decide) ?_
              exact ih12_ x45 x46 i42 g42 _ _ _ (rg_w hx46 (by decide) : rg 0 64 x46) hR42 hF42 hT hS (lv_sub hl [3, 4, 5, 1, 0] rfl) (m_up ax46 hx46 (by decide) hm12_)
      exact L30_10 _ (0) (0) i1 g _ _ _ (rg_w (rg_k (by decide) : rg 0 0 0) (by decide) : rg 0 64 0) hR1 hF1 hT hS (lv_sub hl [2, 3, 4, 1, 0] rfl) (Nat.lt_succ_self _)
    ·
      obtain ⟨eh7, rfl⟩ := hq
      rw [(Prod.mk.inj eh7).1, (Prod.mk.inj eh7).2] at hT
      refine lv_if_ne (tgt := 25) hx hb dX9_share_18 (by decide) (fun c47 => (x_ne (rg_k (by decide) : rg 0 0 0) (rg_k (by decide) : rg 0 0 0) (i_ne c47) (by decide)).elim) (fun c47 => ?_)
      refine lv_ldcw (v := (-1000000)) hx hb X.2.2.2.1 (X.2.2.2.2.1 _ gm_1905) dX9_share_21 ?_
      exact hret (-1000000) _ _ _ _ _ _ dX9_share_24 hT hS ⟨hR1, hF1⟩
  ·
    obtain ⟨eh3, rfl⟩ := hq
    rw [(Prod.mk.inj eh3).1, (Prod.mk.inj eh3).2] at hT
    refine lv_if_eq (tgt := 21) hx hb dX9_share_11 (by decide) (fun c48 => ?_) (fun c48 => (x_ne (rg_k (by decide) : rg 0 0 0) (rg_k (by decide) : rg 0 0 0) (i_ne c48) (by decide)).elim)
    refine lv_ldcw (v := (-1000000)) hx hb X.2.2.2.1 (X.2.2.2.2.1 _ gm_1905) dX9_share_21 ?_
    exact hret (-1000000) _ _ _ _ _ _ dX9_share_24 hT hS ⟨hR1, hF1⟩
set_option maxRecDepth 100000 in
set_option maxHeartbeats 4000000 in
theorem m_X9_lessOf_5t5_0t12 {l : Launch} {D : va_G} {h : Nat → Nat} {cz : Nat → ClassId} {z : EZ} {i : Nat → Nat → Int32} {g : Nat → Nat → Int64} (a_a : Int32) (a_b : Int32) (ha_a : rg 5 5 a_a) (ha_b : rg 0 12 a_b) : DtI l yX9_lessOf cX9_lessOf 2 (some .int) ({ frames := 0, cells := 0, slots := 0, locals := 0 } : Room) D h cz z i g [.int a_a, .int a_b] (fun r u => u = (i, g) ∧ rg 0 5 r) := by
  refine e_I pn_X9_lessOf (Nat.le_of_ble_eq_true rfl) ?_
  intro p e s m args below meth c ls Q X Y hret hT hl hS
  have hx := X.1
  have hb := X.2.1
  have hl : lv_has ls 2 [(0, .int a_a), (1, .int a_b)] := hl
  refine lv_iload_n hx hb dX9_lessOf_0 rfl (lv_at hl 0 rfl) ?_
  refine lv_iload_n hx hb dX9_lessOf_1 rfl (lv_at hl 1 rfl) ?_
  refine lv_icmp_ge (tgt := 9) hx hb dX9_lessOf_2 (by decide) (fun c1 => ?_) (fun c1 => ?_)
  ·
    have q1 : a_b.toInt ≤ a_a.toInt := i_le c1
    have h2 : rg 0 5 a_b := t_lex 0 5 ha_b ha_a (i_le c1) (by decide)
    refine lv_iload_n hx hb dX9_lessOf_9 rfl (lv_at hl 1 rfl) ?_
    exact hret a_b _ _ _ _ _ _ dX9_lessOf_10 hT hS ⟨rfl, h2⟩
  ·
    have q1 : a_a.toInt < a_b.toInt := i_nle c1
    have h3 : rg 6 12 a_b := t_lty 6 12 ha_a ha_b (i_nle c1) (by decide)
    refine lv_iload_n hx hb dX9_lessOf_5 rfl (lv_at hl 0 rfl) ?_
    refine lv_goto (tgt := 10) hx hb dX9_lessOf_6 (by decide) ?_
    exact hret a_a _ _ _ _ _ _ dX9_lessOf_10 hT hS ⟨rfl, (rg_w ha_a (by decide) : rg 0 5 a_a)⟩
set_option maxRecDepth 100000 in
set_option maxHeartbeats 4000000 in
theorem m_X9_isPlan {l : Launch} {D : va_G} {h : Nat → Nat} {cz : Nat → ClassId} {z : EZ} {i : Nat → Nat → Int32} {g : Nat → Nat → Int64} (hR : Rg rA i) (a_a : Int32) : DtI l yX9_isPlan cX9_isPlan 2 (some .boolean) ({ frames := 1, cells := 0, slots := 0, locals := 25 } : Room) D h cz z i g [.ref (h 96), .int a_a] (fun r u => (u = (i, g) ∧ r = 1 ∧ rg 1 5 a_a) ∨ (u = (i, g) ∧ r = 0)) := by
  refine e_Z (fun v u hq => (hq.elim (fun hq => (Or.inr hq.2.1)) (fun hq => (Or.inl hq.2)))) pn_X9_isPlan (Nat.le_of_ble_eq_true rfl) ?_
  intro p e s m args below meth c ls Q X Y hret hT hl hS
  have hx := X.1
  have hb := X.2.1
  have hl : lv_has ls 2 [(0, .ref (h 96)), (1, .int a_a)] := hl
  refine lv_aload_n hx hb dX9_isPlan_0 rfl (lv_at hl 0 rfl) ?_
  refine e_Vi (As := []) (rest := []) X Y hT hS (m_X9_isTale hR) mk_X9_isTale gm_1685 rfl rfl (by decide) hd_X9_isTale ⟨rfl, rfl⟩ ⟨Nat.le_of_ble_eq_true rfl, Nat.le_of_ble_eq_true rfl⟩ hl.1 rfl (Nat.le_of_ble_eq_true rfl) dX9_isPlan_1 ⟨Nat.zero_le _, Nat.zero_le _⟩ (fun r1 i1 g1 H locs hq hT hS => ?_)
  obtain ⟨eh1, hr1⟩ := hq
  rw [(Prod.mk.inj eh1).1, (Prod.mk.inj eh1).2] at hT
  refine lv_if_eq (tgt := 29) hx hb dX9_isPlan_4 (by decide) (fun c2 => ?_) (fun c2 => ?_)
  ·
    have q2 : r1.toInt = 0 := i_eq c2
    have h3 : rg 0 0 r1 := t_eqx 0 0 hr1 (rg_k (by decide) : rg 0 0 0) (i_eq c2) (by decide)
    refine lv_iconst (v := 0) hx hb dX9_isPlan_29 (by decide) ?_
    exact hret 0 _ _ _ _ _ _ dX9_isPlan_30 hT hS (Or.inr ⟨rfl, rfl⟩)
  ·
    have q2 : ¬ r1.toInt = 0 := i_ne c2
    have h4 : rg 1 1 r1 := t_nelo 1 hr1 (rg_k (by decide) : rg 0 0 0) (i_ne c2) (by decide)
    refine lv_iload_n hx hb dX9_isPlan_7 rfl (lv_at hl 1 rfl) ?_
    refine q_i2l hx hb dX9_isPlan_8 (fun y5 ey5 => ?_)
    obtain ⟨hy5, ay5⟩ := rg_i2l ey5 (rg_top a_a)
    refine lv_lconst (v := 1) hx hb dX9_isPlan_9 (by decide) ?_
    refine lv_iconst (v := 5) hx hb dX9_isPlan_10 (by decide) ?_
    refine lv_aload_n hx hb dX9_isPlan_11 rfl (lv_at hl 0 rfl) ?_
    refine e_Vi (As := []) (rest := [.int 5, .long 1, .long y5]) X Y hT hS (m_X9_years hR) mk_X9_years gm_1689 rfl rfl (by decide) hd_X9_years ⟨rfl, rfl⟩ ⟨Nat.le_of_ble_eq_true rfl, Nat.le_of_ble_eq_true rfl⟩ hl.1 rfl (Nat.le_of_ble_eq_true rfl) dX9_isPlan_12 ⟨Nat.zero_le _, Nat.zero_le _⟩ (fun r6 i6 g6 H locs hq hT hS => ?_)
    obtain ⟨eh6, hr6⟩ := hq
    rw [(Prod.mk.inj eh6).1, (Prod.mk.inj eh6).2] at hT
    refine e_Si (As := [.int 5, .int r6]) (rest := [.long 1, .long y5]) X Y hT hS (m_X9_lessOf_5t5_0t12 (5) r6 (rg_k (by decide) : rg 5 5 5) hr6) sk_X9_lessOf gm_1735 hd_X9_lessOf ⟨rfl, rfl⟩ ⟨Nat.le_of_ble_eq_true rfl, Nat.le_of_ble_eq_true rfl⟩ hl.1 rfl (Nat.le_of_ble_eq_true rfl) dX9_isPlan_15 ⟨Nat.zero_le _, Nat.zero_le _⟩ (fun r7 i7 g7 H locs hq hT hS => ?_)
    obtain ⟨eh7, hr7⟩ := hq
    rw [(Prod.mk.inj eh7).1, (Prod.mk.inj eh7).2] at hT
    refine q_i2l hx hb dX9_isPlan_18 (fun y8 ey8 => ?_)
    obtain ⟨hy8, ay8⟩ := rg_i2l ey8 hr7
    refine e_Si (As := [.long y5, .long 1, .long y8]) (rest := []) X Y hT hS (m_in y5 (1) y8) sk_X9_in gm_1496 hd_X9_in ⟨rfl, rfl⟩ ⟨Nat.le_of_ble_eq_true rfl, Nat.le_of_ble_eq_true rfl⟩ hl.1 rfl (Nat.le_of_ble_eq_true rfl) dX9_isPlan_19 ⟨Nat.zero_le _, Nat.zero_le _⟩ (fun r9 i9 g9 H locs hq hT hS => ?_)
    rcases hq with hq | hq
    ·
      obtain ⟨eh9, rfl, hf9_0⟩ := hq
      rw [(Prod.mk.inj eh9).1, (Prod.mk.inj eh9).2] at hT
      replace hf9_0 : 1 ≤ y5.toInt ∧ y5.toInt ≤ y8.toInt := hf9_0
      have h10 : rgL 1 5 y5 := ⟨by have := hy5.1; have := hy5.2; have := hy8.1; have := hy8.2; omega, by have := hy5.1; have := hy5.2; have := hy8.1; have := hy8.2; omega⟩
      have h11 : rg 1 5 a_a := ⟨by have := h10.1; have := (rg_top a_a).1; have := ay5; omega, by have := h10.2; have := (rg_top a_a).2; have := ay5; omega⟩
      refine lv_if_eq (tgt := 29) hx hb dX9_isPlan_22 (by decide) (fun c12 => (x_eq (rg_k (by decide) : rg 1 1 1) (rg_k (by decide) : rg 0 0 0) (i_eq c12) (by decide)).elim) (fun c12 => ?_)
      refine lv_iconst (v := 1) hx hb dX9_isPlan_25 (by decide) ?_
      refine lv_goto (tgt := 30) hx hb dX9_isPlan_26 (by decide) ?_
      exact hret 1 _ _ _ _ _ _ dX9_isPlan_30 hT hS (Or.inl ⟨rfl, rfl, h11⟩)
    ·
      obtain ⟨eh9, rfl, hf9_0⟩ := hq
      rw [(Prod.mk.inj eh9).1, (Prod.mk.inj eh9).2] at hT
      replace hf9_0 : y5.toInt < 1 ∨ y8.toInt < y5.toInt := hf9_0
      refine lv_if_eq (tgt := 29) hx hb dX9_isPlan_22 (by decide) (fun c13 => ?_) (fun c13 => (x_ne (rg_k (by decide) : rg 0 0 0) (rg_k (by decide) : rg 0 0 0) (i_ne c13) (by decide)).elim)
      refine lv_iconst (v := 0) hx hb dX9_isPlan_29 (by decide) ?_
      exact hret 0 _ _ _ _ _ _ dX9_isPlan_30 hT hS (Or.inr ⟨rfl, rfl⟩)
set_option maxRecDepth 100000 in
set_option maxHeartbeats 4000000 in
theorem m_X9_runsPlan {l : Launch} {D : va_G} {h : Nat → Nat} {cz : Nat → ClassId} {z : EZ} {i : Nat → Nat → Int32} {g : Nat → Nat → Int64} (hR : Rg rA i) (a_a : Int32) (ha_a : rg 0 5 a_a) : DtV l yX9_runsPlan cX9_runsPlan 3 none ({ frames := 5, cells := 0, slots := 0, locals := 112 } : Room) D h cz z i g [.ref (h 96), .int a_a] (fun u => Rg rA u.1 ∧ Fr [96, 109, 110, 111, 112, 113, 114, 115] [] i g u) := by
  refine e_V pn_X9_runsPlan (Nat.le_of_ble_eq_true rfl) ?_
  intro p e s m args below meth c ls Q X Y hret hT hl hS
  have hx := X.1
  have hb := X.2.1
  have hl : lv_has ls 3 [(0, .ref (h 96)), (1, .int a_a)] := hl
  have hF : Fr [96, 109, 110, 111, 112, 113, 114, 115] [] i g (i, g) := Fr_rf _ _ _ _
  refine lv_aload_n hx hb dX9_runsPlan_0 rfl (lv_at hl 0 rfl) ?_
  refine e_Vv (As := []) (rest := []) X Y hT hS (m_X9_lays hR) mk_X9_lays gm_1658 rfl rfl (by decide) hd_X9_lays ⟨rfl, rfl⟩ ⟨Nat.le_of_ble_eq_true rfl, Nat.le_of_ble_eq_true rfl⟩ hl.1 rfl (Nat.le_of_ble_eq_true rfl) dX9_runsPlan_1 ⟨Nat.zero_le _, Nat.zero_le _⟩ (fun i1 g1 H locs hq hT hS => ?_)
  obtain ⟨hR1, hf1⟩ := hq
  have hF1 := Fr_tr hF hf1 (by decide)
  refine lv_aload_n hx hb dX9_runsPlan_4 rfl (lv_at hl 0 rfl) ?_
  refine lv_iconst (v := 1) hx hb dX9_runsPlan_5 (by decide) ?_
  refine r_puti X hT hS 96 27 pk_9_272 rfl rfl rfl rfl (by decide) dX9_runsPlan_6 (fun H locs i2 ei2 hT hS => ?_)
  have hR2 := Rg_put hR1 ei2 0 1 rfl (rg_k (by decide) : rg 1 1 1) (by decide)
  have hF2 := Fr_puti hF1 ei2 (by decide)
  refine lv_iconst (v := 0) hx hb dX9_runsPlan_9 (by decide) ?_
  refine lv_istore_n (lv' := [(2, .int 0), (0, .ref (h 96)), (1, .int a_a)]) hx hb dX9_runsPlan_10 rfl hl (by decide) rfl (fun ls hl => ?_)
  have L11_3 : ∀ (n5_ : Nat) (x11_2 : Int32) (i4 : Nat → Nat → Int32) (g4 : Nat → Nat → Int64) (H : Heap) (locs : List Loc) (ls : Array Slot), rg 0 5 x11_2 → Rg rA i4 → Fr [96, 109, 110, 111, 112, 113, 114, 115] [] i g (i4, g4) → TH D h cz i4 g4 H → va_S (hA h) s.heap H locs → lv_has ls 3 [(0, .ref (h 96)), (1, .int a_a), (2, .int x11_2)] → (5 - x11_2.toInt).toNat < n5_ → W p l e ({ frames := 5, cells := 0, slots := 0, locals := 112 } : Room) s m args below meth c H locs 0 0 Q (F0 m 11 ls []) := by
    intro n5_
    induction n5_ with
    | zero => intro x11_2 i4 g4 H locs ls hhx11_2 hR4 hF4 hT hS hl hm5_; exact absurd hm5_ (Nat.not_lt_zero _)
    | succ n5_ ih5_ =>
      intro x11_2 i4 g4 H locs ls hhx11_2 hR4 hF4 hT hS hl hm5_
      refine lv_iload_n hx hb dX9_runsPlan_11 rfl (lv_at hl 2 rfl) ?_
      refine lv_iload_n hx hb dX9_runsPlan_12 rfl (lv_at hl 1 rfl) ?_
      refine lv_icmp_ge (tgt := 50) hx hb dX9_runsPlan_13 (by decide) (fun c6 => ?_) (fun c6 => ?_)
      ·
        have q6 : a_a.toInt ≤ x11_2.toInt := i_le c6
        refine lv_aload_n hx hb dX9_runsPlan_50 rfl (lv_at hl 0 rfl) ?_
        refine e_Vv (As := []) (rest := []) X Y hT hS (m_X9_runs hR4) mk_X9_runs gm_1697 rfl rfl (by decide) hd_X9_runs ⟨rfl, rfl⟩ ⟨Nat.le_of_ble_eq_true rfl, Nat.le_of_ble_eq_true rfl⟩ hl.1 rfl (Nat.le_of_ble_eq_true rfl) dX9_runsPlan_51 ⟨Nat.zero_le _, Nat.zero_le _⟩ (fun i7 g7 H locs hq hT hS => ?_)
        obtain ⟨hR7, hf7⟩ := hq
        have hF7 := Fr_tr hF4 hf7 (by decide)
        exact hret _ _ _ _ _ _ dX9_runsPlan_54 hT hS ⟨hR7, hF7⟩
      ·
        have q6 : x11_2.toInt < a_a.toInt := i_nle c6
        have h8 : rg 0 4 x11_2 := t_ltx 0 4 hhx11_2 ha_a (i_nle c6) (by decide)
        have h9 : rg 1 5 a_a := t_lty 1 5 hhx11_2 ha_a (i_nle c6) (by decide)
        refine lv_aload_n hx hb dX9_runsPlan_16 rfl (lv_at hl 0 rfl) ?_
        refine r_getr X hT 96 29 110 fk_9_56 rfl rfl (by decide) dX9_runsPlan_17 ?_
        refine lv_iload_n hx hb dX9_runsPlan_20 rfl (lv_at hl 2 rfl) ?_
        refine lv_aload_n hx hb dX9_runsPlan_21 rfl (lv_at hl 0 rfl) ?_
        refine r_getr X hT 96 40 117 fk_9_77 rfl rfl (by decide) dX9_runsPlan_22 ?_
        refine lv_iload_n hx hb dX9_runsPlan_25 rfl (lv_at hl 2 rfl) ?_
        refine r_iald X hT 117 rfl (by decide) (v_in h8 (by decide)) dX9_runsPlan_26 ?_
        refine lv_iconst (v := (-1)) hx hb dX9_runsPlan_27 (by decide) ?_
        refine lv_icmp_ne (tgt := 35) hx hb dX9_runsPlan_28 (by decide) (fun c10 => ?_) (fun c10 => ?_)
        ·
          have q10 : ¬ (i4 117 x11_2.toNatClampNeg).toInt = (-1) := i_ne c10
          refine lv_iconst (v := 1) hx hb dX9_runsPlan_35 (by decide) ?_
          refine lv_aload_n hx hb dX9_runsPlan_36 rfl (lv_at hl 0 rfl) ?_
          refine r_getr X hT 96 40 117 fk_9_77 rfl rfl (by decide) dX9_runsPlan_37 ?_
          refine lv_iload_n hx hb dX9_runsPlan_40 rfl (lv_at hl 2 rfl) ?_
          refine r_iald X hT 117 rfl (by decide) (v_in h8 (by decide)) dX9_runsPlan_41 ?_
          refine q_ishl hx hb dX9_runsPlan_42 (fun x11 ex11 => ?_)
          refine r_iast X hT hS 110 rfl (by decide) (v_in h8 (by decide)) dX9_runsPlan_43 (fun H locs i12 ei12 hT hS => ?_)
          have hR12 := Rg_put hR4 ei12 (-2147483648) 2147483647 rfl (rg_top x11) (by decide)
          have hF12 := Fr_puti hF4 ei12 (by decide)
          obtain ⟨x13, ex13⟩ : ∃ y : Int32, y = x11_2 + 1 := ⟨_, rfl⟩
          refine lv_iinc (v := x13) (lv' := [(2, .int x13), (0, .ref (h 96)), (1, .int a_a)]) hx hb dX9_runsPlan_44 hl (k := 2) rfl (by rw [ex13]; rfl) (by decide) rfl (fun ls hl => ?_)
          obtain ⟨hx13, ax13⟩ := rg_add 1 5 ex13 h8 (rg_k (by decide) : rg 1 1 1) (by decide)
          replace ax13 : x13.toInt = x11_2.toInt + 1 := ax13
          refine lv_goto (tgt := 11) hx hb dX9_runsPlan_47 (by decide) ?_
          exact ih5_ x13 i12 g4 _ _ _ (rg_w hx13 (by decide) : rg 0 5 x13) hR12 hF12 hT hS (lv_sub hl [1, 2, 0] rfl) (m_up ax13 hx13 (by decide) hm5_)
        ·
          have q10 : (i4 117 x11_2.toNatClampNeg).toInt = (-1) := i_eq c10
          have h14 : rg (-1) (-1) (i4 117 x11_2.toNatClampNeg) := t_eqx (-1) (-1) (rg_top (i4 117 x11_2.toNatClampNeg)) (rg_k (by decide) : rg (-1) (-1) (-1)) (i_eq c10) (by decide)
          refine lv_iconst (v := 0) hx hb dX9_runsPlan_31 (by decide) ?_
          refine lv_goto (tgt := 43) hx hb dX9_runsPlan_32 (by decide) ?_
          refine r_iast X hT hS 110 rfl (by decide) (v_in h8 (by decide)) dX9_runsPlan_43 (fun H locs i15 ei15 hT hS => ?_)
          have hR15 := Rg_put hR4 ei15 (-2147483648) 2147483647 rfl (rg_k (by decide) : rg 0 0 0) (by decide)
          have hF15 := Fr_puti hF4 ei15 (by decide)
          obtain ⟨x16, ex16⟩ : ∃ y : Int32, y = x11_2 + 1 := ⟨_, rfl⟩
          refine lv_iinc (v := x16) (lv' := [(2, .int x16), (0, .ref (h 96)), (1, .int a_a)]) hx hb dX9_runsPlan_44 hl (k := 2) rfl (by rw [ex16]; rfl) (by decide) rfl (fun ls hl => ?_)
          obtain ⟨hx16, ax16⟩ := rg_add 1 5 ex16 h8 (rg_k (by decide) : rg 1 1 1) (by decide)
          replace ax16 : x16.toInt = x11_2.toInt + 1 := ax16
          refine lv_goto (tgt := 11) hx hb dX9_runsPlan_47 (by decide) ?_
          exact ih5_ x16 i15 g4 _ _ _ (rg_w hx16 (by decide) : rg 0 5 x16) hR15 hF15 hT hS (lv_sub hl [1, 2, 0] rfl) (m_up ax16 hx16 (by decide) hm5_)
  exact L11_3 _ (0) i2 g1 _ _ _ (rg_w (rg_k (by decide) : rg 0 0 0) (by decide) : rg 0 5 0) hR2 hF2 hT hS (lv_sub hl [1, 2, 0] rfl) (Nat.lt_succ_self _)
set_option maxRecDepth 100000 in
set_option maxHeartbeats 4000000 in
theorem m_X9_planFrom_5 {l : Launch} {D : va_G} {h : Nat → Nat} {cz : Nat → ClassId} {z : EZ} {i : Nat → Nat → Int32} {g : Nat → Nat → Int64} (hR : Rg rA i) (a_a : Int32) (a_b : Int32) (ha_a : rg 5 5 a_a) (ha_b : rg 5 5 a_b) : DtV l yX9_planFrom cX9_planFrom 5 none ({ frames := 6, cells := 0, slots := 0, locals := 134 } : Room) D h cz z i g [.ref (h 96), .int a_a, .int a_b] (fun u => Rg rA u.1 ∧ Fr [96, 109, 110, 111, 112, 113, 114, 115, 116] [] i g u) := by
  refine e_V pn_X9_planFrom (Nat.le_of_ble_eq_true rfl) ?_
  intro p e s m args below meth c ls Q X Y hret hT hl hS
  have hx := X.1
  have hb := X.2.1
  have hl : lv_has ls 5 [(0, .ref (h 96)), (1, .int a_a), (2, .int a_b)] := hl
  have hF : Fr [96, 109, 110, 111, 112, 113, 114, 115, 116] [] i g (i, g) := Fr_rf _ _ _ _
  refine lv_aload_n hx hb dX9_planFrom_0 rfl (lv_at hl 0 rfl) ?_
  refine lv_iload_n hx hb dX9_planFrom_1 rfl (lv_at hl 1 rfl) ?_
  refine e_Vv (As := [.int a_a]) (rest := []) X Y hT hS (m_X9_runsPlan hR a_a (rg_w ha_a (by decide) : rg 0 5 a_a)) mk_X9_runsPlan gm_1931 rfl rfl (by decide) hd_X9_runsPlan ⟨rfl, rfl⟩ ⟨Nat.le_of_ble_eq_true rfl, Nat.le_of_ble_eq_true rfl⟩ hl.1 rfl (Nat.le_of_ble_eq_true rfl) dX9_planFrom_2 ⟨Nat.zero_le _, Nat.zero_le _⟩ (fun i1 g1 H locs hq hT hS => ?_)
  obtain ⟨hR1, hf1⟩ := hq
  have hF1 := Fr_tr hF hf1 (by decide)
  refine lv_iload_n hx hb dX9_planFrom_5 rfl (lv_at hl 1 rfl) ?_
  refine lv_iload_n hx hb dX9_planFrom_6 rfl (lv_at hl 2 rfl) ?_
  refine lv_icmp_ne (tgt := 85) hx hb dX9_planFrom_7 (by decide) (fun c2 => (x_ne ha_a ha_b (i_ne c2) (by decide)).elim) (fun c2 => ?_)
  have q2 : a_a.toInt = a_b.toInt := i_eq c2
  refine lv_aload_n hx hb dX9_planFrom_10 rfl (lv_at hl 0 rfl) ?_
  refine e_Vi (As := []) (rest := []) X Y hT hS (m_X9_readAll hR1) mk_X9_readAll gm_1770 rfl rfl (by decide) hd_X9_readAll ⟨rfl, rfl⟩ ⟨Nat.le_of_ble_eq_true rfl, Nat.le_of_ble_eq_true rfl⟩ hl.1 rfl (Nat.le_of_ble_eq_true rfl) dX9_planFrom_11 ⟨Nat.zero_le _, Nat.zero_le _⟩ (fun r3 i3 g3 H locs hq hT hS => ?_)
  have eh3 := hq
  rw [(Prod.mk.inj eh3).1, (Prod.mk.inj eh3).2] at hT
  refine lv_istore_n (lv' := [(3, .int r3), (0, .ref (h 96)), (1, .int a_a), (2, .int a_b)]) hx hb dX9_planFrom_14 rfl hl (by decide) rfl (fun ls hl => ?_)
  refine lv_iload_n hx hb dX9_planFrom_15 rfl (lv_at hl 0 rfl) ?_
  refine lv_aload_n hx hb dX9_planFrom_16 rfl (lv_at hl 1 rfl) ?_
  refine r_geti X hT 96 37 fk_9_375 rfl rfl (by decide) dX9_planFrom_17 ?_
  have J62_5 : ∀  (i6 : Nat → Nat → Int32) (g6 : Nat → Nat → Int64) (H : Heap) (locs : List Loc) (ls : Array Slot), Rg rA i6 → Fr [96, 109, 110, 111, 112, 113, 114, 115, 116] [] i g (i6, g6) → TH D h cz i6 g6 H → va_S (hA h) s.heap H locs → lv_has ls 5 [(0, .ref (h 96)), (3, .int r3)] → W p l e ({ frames := 6, cells := 0, slots := 0, locals := 134 } : Room) s m args below meth c H locs 0 0 Q (F0 m 62 ls []) := by
    intro  i6 g6 H locs ls hR6 hF6 hT hS hl
    refine lv_aload_n hx hb dX9_planFrom_62 rfl (lv_at hl 0 rfl) ?_
    refine lv_dup hx hb dX9_planFrom_63 rfl ?_
    refine r_geti X hT 96 38 fk_9_378 rfl rfl (by decide) dX9_planFrom_64 ?_
    refine lv_iload_n hx hb dX9_planFrom_67 rfl (lv_at hl 1 rfl) ?_
    refine lv_aload_n hx hb dX9_planFrom_68 rfl (lv_at hl 0 rfl) ?_
    refine r_geti X hT 96 37 fk_9_375 rfl rfl (by decide) dX9_planFrom_69 ?_
    refine lv_icmp_ne (tgt := 79) hx hb dX9_planFrom_72 (by decide) (fun c7 => ?_) (fun c7 => ?_)
    ·
      have q7 : ¬ r3.toInt = (i6 96 37).toInt := i_ne c7
      refine lv_iconst (v := 0) hx hb dX9_planFrom_79 (by decide) ?_
      refine q_iadd hx hb dX9_planFrom_80 (fun x8 ex8 => ?_)
      obtain ⟨hx8, ax8⟩ := rg_add (-2147483648) 2147483647 ex8 (rg_top (i6 96 38)) (rg_k (by decide) : rg 0 0 0) (by decide)
      replace ax8 : x8.toInt = (i6 96 38).toInt + 0 := ax8
      refine r_puti X hT hS 96 38 pk_9_378 rfl rfl rfl rfl (by decide) dX9_planFrom_81 (fun H locs i9 ei9 hT hS => ?_)
      have hR9 := Rg_put hR6 ei9 (-2147483648) 2147483647 rfl hx8 (by decide)
      have hF9 := Fr_puti hF6 ei9 (by decide)
      exact hret _ _ _ _ _ _ dX9_planFrom_84 hT hS ⟨hR9, hF9⟩
    ·
      have q7 : r3.toInt = (i6 96 37).toInt := i_eq c7
      refine lv_iconst (v := 1) hx hb dX9_planFrom_75 (by decide) ?_
      refine lv_goto (tgt := 80) hx hb dX9_planFrom_76 (by decide) ?_
      refine q_iadd hx hb dX9_planFrom_80 (fun x10 ex10 => ?_)
      refine r_puti X hT hS 96 38 pk_9_378 rfl rfl rfl rfl (by decide) dX9_planFrom_81 (fun H locs i11 ei11 hT hS => ?_)
      have hR11 := Rg_put hR6 ei11 (-2147483648) 2147483647 rfl (rg_top x10) (by decide)
      have hF11 := Fr_puti hF6 ei11 (by decide)
      exact hret _ _ _ _ _ _ dX9_planFrom_84 hT hS ⟨hR11, hF11⟩
  refine lv_icmp_le (tgt := 62) hx hb dX9_planFrom_20 (by decide) (fun c4 => ?_) (fun c4 => ?_)
  ·
    have q4 : r3.toInt ≤ (i1 96 37).toInt := i_le c4
    exact J62_5 i1 g1 _ _ _ hR1 hF1 hT hS (lv_sub hl [1, 0] rfl)
  ·
    have q4 : (i1 96 37).toInt < r3.toInt := i_nle c4
    have h12 : rg (-2147483648) 2147483646 (i1 96 37) := t_ltx (-2147483648) 2147483646 (rg_top (i1 96 37)) (rg_top r3) (i_nle c4) (by decide)
    have h13 : rg (-2147483647) 2147483647 r3 := t_lty (-2147483647) 2147483647 (rg_top (i1 96 37)) (rg_top r3) (i_nle c4) (by decide)
    refine lv_aload_n hx hb dX9_planFrom_23 rfl (lv_at hl 1 rfl) ?_
    refine lv_iload_n hx hb dX9_planFrom_24 rfl (lv_at hl 0 rfl) ?_
    refine r_puti X hT hS 96 37 pk_9_375 rfl rfl rfl rfl (by decide) dX9_planFrom_25 (fun H locs i14 ei14 hT hS => ?_)
    have hR14 := Rg_put hR1 ei14 (-2147483648) 2147483647 rfl h13 (by decide)
    have hF14 := Fr_puti hF1 ei14 (by decide)
    refine lv_aload_n hx hb dX9_planFrom_28 rfl (lv_at hl 1 rfl) ?_
    refine lv_iconst (v := 0) hx hb dX9_planFrom_29 (by decide) ?_
    refine r_puti X hT hS 96 38 pk_9_378 rfl rfl rfl rfl (by decide) dX9_planFrom_30 (fun H locs i15 ei15 hT hS => ?_)
    have hR15 := Rg_put hR14 ei15 (-2147483648) 2147483647 rfl (rg_k (by decide) : rg 0 0 0) (by decide)
    have hF15 := Fr_puti hF14 ei15 (by decide)
    refine lv_iconst (v := 0) hx hb dX9_planFrom_33 (by decide) ?_
    refine lv_istore (lv' := [(4, .int 0), (3, .int r3), (0, .ref (h 96)), (1, .int a_a), (2, .int a_b)]) hx hb dX9_planFrom_34 hl (by decide) rfl (fun ls hl => ?_)
    have L36_16 : ∀ (n18_ : Nat) (x36_1_4 : Int32) (i17 : Nat → Nat → Int32) (g17 : Nat → Nat → Int64) (H : Heap) (locs : List Loc) (ls : Array Slot), rg 0 5 x36_1_4 → Rg rA i17 → Fr [96, 109, 110, 111, 112, 113, 114, 115, 116] [] i g (i17, g17) → TH D h cz i17 g17 H → va_S (hA h) s.heap H locs → lv_has ls 5 [(0, .ref (h 96)), (2, .int a_b), (3, .int r3), (4, .int x36_1_4)] → (5 - x36_1_4.toInt).toNat < n18_ → W p l e ({ frames := 6, cells := 0, slots := 0, locals := 134 } : Room) s m args below meth c H locs 0 0 Q (F0 m 36 ls []) := by
      intro n18_
      induction n18_ with
      | zero => intro x36_1_4 i17 g17 H locs ls hhx36_1_4 hR17 hF17 hT hS hl hm18_; exact absurd hm18_ (Nat.not_lt_zero _)
      | succ n18_ ih18_ =>
        intro x36_1_4 i17 g17 H locs ls hhx36_1_4 hR17 hF17 hT hS hl hm18_
        refine lv_iload hx hb dX9_planFrom_36 (lv_at hl 3 rfl) ?_
        refine lv_iload_n hx hb dX9_planFrom_38 rfl (lv_at hl 1 rfl) ?_
        refine lv_icmp_ge (tgt := 62) hx hb dX9_planFrom_39 (by decide) (fun c19 => ?_) (fun c19 => ?_)
        ·
          have q19 : a_b.toInt ≤ x36_1_4.toInt := i_le c19
          have h20 : rg 5 5 x36_1_4 := t_ley 5 5 ha_b hhx36_1_4 (i_le c19) (by decide)
          exact J62_5 i17 g17 _ _ _ hR17 hF17 hT hS (lv_sub hl [0, 2] rfl)
        ·
          have q19 : x36_1_4.toInt < a_b.toInt := i_nle c19
          have h21 : rg 0 4 x36_1_4 := t_ltx 0 4 hhx36_1_4 ha_b (i_nle c19) (by decide)
          refine lv_aload_n hx hb dX9_planFrom_42 rfl (lv_at hl 0 rfl) ?_
          refine r_getr X hT 96 39 116 fk_9_74 rfl rfl (by decide) dX9_planFrom_43 ?_
          refine lv_iload hx hb dX9_planFrom_46 (lv_at hl 3 rfl) ?_
          refine lv_aload_n hx hb dX9_planFrom_48 rfl (lv_at hl 0 rfl) ?_
          refine r_getr X hT 96 40 117 fk_9_77 rfl rfl (by decide) dX9_planFrom_49 ?_
          refine lv_iload hx hb dX9_planFrom_52 (lv_at hl 3 rfl) ?_
          refine r_iald X hT 117 rfl (by decide) (v_in h21 (by decide)) dX9_planFrom_54 ?_
          refine r_iast X hT hS 116 rfl (by decide) (v_in h21 (by decide)) dX9_planFrom_55 (fun H locs i22 ei22 hT hS => ?_)
          have hR22 := Rg_put hR17 ei22 (-2147483648) 2147483647 rfl (rg_top (i17 117 x36_1_4.toNatClampNeg)) (by decide)
          have hF22 := Fr_puti hF17 ei22 (by decide)
          obtain ⟨x23, ex23⟩ : ∃ y : Int32, y = x36_1_4 + 1 := ⟨_, rfl⟩
          refine lv_iinc (v := x23) (lv' := [(4, .int x23), (0, .ref (h 96)), (2, .int a_b), (3, .int r3)]) hx hb dX9_planFrom_56 hl (k := 3) rfl (by rw [ex23]; rfl) (by decide) rfl (fun ls hl => ?_)
          obtain ⟨hx23, ax23⟩ := rg_add 1 5 ex23 h21 (rg_k (by decide) : rg 1 1 1) (by decide)
          replace ax23 : x23.toInt = x36_1_4.toInt + 1 := ax23
          refine lv_goto (tgt := 36) hx hb dX9_planFrom_59 (by decide) ?_
          exact ih18_ x23 i22 g17 _ _ _ (rg_w hx23 (by decide) : rg 0 5 x23) hR22 hF22 hT hS (lv_sub hl [1, 2, 3, 0] rfl) (m_up ax23 hx23 (by decide) hm18_)
    exact L36_16 _ (0) i15 g1 _ _ _ (rg_w (rg_k (by decide) : rg 0 0 0) (by decide) : rg 0 5 0) hR15 hF15 hT hS (lv_sub hl [2, 4, 1, 0] rfl) (Nat.lt_succ_self _)
set_option maxRecDepth 100000 in
set_option maxHeartbeats 4000000 in
theorem m_X9_planFrom_4 {l : Launch} {D : va_G} {h : Nat → Nat} {cz : Nat → ClassId} {z : EZ} {i : Nat → Nat → Int32} {g : Nat → Nat → Int64} (hR : Rg rA i) (a_a : Int32) (a_b : Int32) (ha_a : rg 4 4 a_a) (ha_b : rg 4 5 a_b) : DtV l yX9_planFrom cX9_planFrom 5 none ({ frames := 7, cells := 0, slots := 0, locals := 158 } : Room) D h cz z i g [.ref (h 96), .int a_a, .int a_b] (fun u => Rg rA u.1 ∧ Fr [96, 109, 110, 111, 112, 113, 114, 115, 116, 117] [] i g u) := by
  refine e_V pn_X9_planFrom (Nat.le_of_ble_eq_true rfl) ?_
  intro p e s m args below meth c ls Q X Y hret hT hl hS
  have hx := X.1
  have hb := X.2.1
  have hl : lv_has ls 5 [(0, .ref (h 96)), (1, .int a_a), (2, .int a_b)] := hl
  have hF : Fr [96, 109, 110, 111, 112, 113, 114, 115, 116, 117] [] i g (i, g) := Fr_rf _ _ _ _
  refine lv_aload_n hx hb dX9_planFrom_0 rfl (lv_at hl 0 rfl) ?_
  refine lv_iload_n hx hb dX9_planFrom_1 rfl (lv_at hl 1 rfl) ?_
  refine e_Vv (As := [.int a_a]) (rest := []) X Y hT hS (m_X9_runsPlan hR a_a (rg_w ha_a (by decide) : rg 0 5 a_a)) mk_X9_runsPlan gm_1931 rfl rfl (by decide) hd_X9_runsPlan ⟨rfl, rfl⟩ ⟨Nat.le_of_ble_eq_true rfl, Nat.le_of_ble_eq_true rfl⟩ hl.1 rfl (Nat.le_of_ble_eq_true rfl) dX9_planFrom_2 ⟨Nat.zero_le _, Nat.zero_le _⟩ (fun i1 g1 H locs hq hT hS => ?_)
  obtain ⟨hR1, hf1⟩ := hq
  have hF1 := Fr_tr hF hf1 (by decide)
  refine lv_iload_n hx hb dX9_planFrom_5 rfl (lv_at hl 1 rfl) ?_
  refine lv_iload_n hx hb dX9_planFrom_6 rfl (lv_at hl 2 rfl) ?_
  refine lv_icmp_ne (tgt := 85) hx hb dX9_planFrom_7 (by decide) (fun c2 => ?_) (fun c2 => ?_)
  ·
    have q2 : ¬ a_a.toInt = a_b.toInt := i_ne c2
    have h3 : rg 5 5 a_b := t_nelo 5 ha_b ha_a (Ne.symm (i_ne c2)) (by decide)
    refine lv_aload_n hx hb dX9_planFrom_85 rfl (lv_at hl 0 rfl) ?_
    refine e_Vi (As := []) (rest := []) X Y hT hS (m_X9_every hR1) mk_X9_every gm_1814 rfl rfl (by decide) hd_X9_every ⟨rfl, rfl⟩ ⟨Nat.le_of_ble_eq_true rfl, Nat.le_of_ble_eq_true rfl⟩ hl.1 rfl (Nat.le_of_ble_eq_true rfl) dX9_planFrom_86 ⟨Nat.zero_le _, Nat.zero_le _⟩ (fun r4 i4 g4 H locs hq hT hS => ?_)
    obtain ⟨eh4, hr4⟩ := hq
    rw [(Prod.mk.inj eh4).1, (Prod.mk.inj eh4).2] at hT
    refine lv_aload_n hx hb dX9_planFrom_89 rfl (lv_at hl 0 rfl) ?_
    refine r_getr X hT 96 31 112 fk_9_62 rfl rfl (by decide) dX9_planFrom_90 ?_
    refine lv_iload_n hx hb dX9_planFrom_93 rfl (lv_at hl 1 rfl) ?_
    refine r_ialdc X hT 112 4 rfl (by decide) (v_in ha_a (by decide)) (cl_c ha_a 4 rfl (by decide)) dX9_planFrom_94 ?_
    refine lv_iconst (v := (-1)) hx hb dX9_planFrom_95 (by decide) ?_
    refine q_ixor hx hb dX9_planFrom_96 (fun x5 ex5 => ?_)
    refine q_iand hx hb dX9_planFrom_97 (fun x6 ex6 => ?_)
    have h7 : rg 0 63 x6 := rg_andl ex6 hr4 (by decide)
    refine lv_istore_n (lv' := [(3, .int x6), (0, .ref (h 96)), (1, .int a_a), (2, .int a_b)]) hx hb dX9_planFrom_98 rfl hl (by decide) rfl (fun ls hl => ?_)
    refine lv_iconst (v := (-1)) hx hb dX9_planFrom_99 (by decide) ?_
    refine lv_istore (lv' := [(4, .int (-1)), (3, .int x6), (0, .ref (h 96)), (1, .int a_a), (2, .int a_b)]) hx hb dX9_planFrom_100 hl (by decide) rfl (fun ls hl => ?_)
    have L102_8 : ∀ (n10_ : Nat) (x102_4 : Int32) (i9 : Nat → Nat → Int32) (g9 : Nat → Nat → Int64) (H : Heap) (locs : List Loc) (ls : Array Slot), rg (-1) 6 x102_4 → Rg rA i9 → Fr [96, 109, 110, 111, 112, 113, 114, 115, 116, 117] [] i g (i9, g9) → TH D h cz i9 g9 H → va_S (hA h) s.heap H locs → lv_has ls 5 [(0, .ref (h 96)), (1, .int a_a), (2, .int a_b), (3, .int x6), (4, .int x102_4)] → (6 - x102_4.toInt).toNat < n10_ → W p l e ({ frames := 7, cells := 0, slots := 0, locals := 158 } : Room) s m args below meth c H locs 0 0 Q (F0 m 102 ls []) := by
      intro n10_
      induction n10_ with
      | zero => intro x102_4 i9 g9 H locs ls hhx102_4 hR9 hF9 hT hS hl hm10_; exact absurd hm10_ (Nat.not_lt_zero _)
      | succ n10_ ih10_ =>
        intro x102_4 i9 g9 H locs ls hhx102_4 hR9 hF9 hT hS hl hm10_
        refine lv_iload hx hb dX9_planFrom_102 (lv_at hl 4 rfl) ?_
        refine lv_aload_n hx hb dX9_planFrom_104 rfl (lv_at hl 0 rfl) ?_
        refine e_Vi (As := []) (rest := [.int x102_4]) X Y hT hS (m_X9_parts hR9) mk_X9_parts gm_1649 rfl rfl (by decide) hd_X9_parts ⟨rfl, rfl⟩ ⟨Nat.le_of_ble_eq_true rfl, Nat.le_of_ble_eq_true rfl⟩ hl.1 rfl (Nat.le_of_ble_eq_true rfl) dX9_planFrom_105 ⟨Nat.zero_le _, Nat.zero_le _⟩ (fun r11 i11 g11 H locs hq hT hS => ?_)
        obtain ⟨eh11, hr11⟩ := hq
        rw [(Prod.mk.inj eh11).1, (Prod.mk.inj eh11).2] at hT
        refine lv_icmp_ge (tgt := 151) hx hb dX9_planFrom_108 (by decide) (fun c12 => ?_) (fun c12 => ?_)
        ·
          have q12 : r11.toInt ≤ x102_4.toInt := i_le c12
          have h13 : rg 0 6 x102_4 := t_ley 0 6 hr11 hhx102_4 (i_le c12) (by decide)
          exact hret _ _ _ _ _ _ dX9_planFrom_151 hT hS ⟨hR9, hF9⟩
        ·
          have q12 : x102_4.toInt < r11.toInt := i_nle c12
          have h14 : rg (-1) 5 x102_4 := t_ltx (-1) 5 hhx102_4 hr11 (i_nle c12) (by decide)
          refine lv_iload hx hb dX9_planFrom_111 (lv_at hl 4 rfl) ?_
          refine lv_iconst (v := (-1)) hx hb dX9_planFrom_113 (by decide) ?_
          refine lv_icmp_eq (tgt := 129) hx hb dX9_planFrom_114 (by decide) (fun c15 => ?_) (fun c15 => ?_)
          ·
            have q15 : x102_4.toInt = (-1) := i_eq c15
            have h16 : rg (-1) (-1) x102_4 := t_eqx (-1) (-1) h14 (rg_k (by decide) : rg (-1) (-1) (-1)) (i_eq c15) (by decide)
            refine lv_aload_n hx hb dX9_planFrom_129 rfl (lv_at hl 0 rfl) ?_
            refine r_getr X hT 96 40 117 fk_9_77 rfl rfl (by decide) dX9_planFrom_130 ?_
            refine lv_iload_n hx hb dX9_planFrom_133 rfl (lv_at hl 1 rfl) ?_
            refine lv_iload hx hb dX9_planFrom_134 (lv_at hl 4 rfl) ?_
            refine r_iastc X hT hS 117 4 rfl (by decide) (v_in ha_a (by decide)) (cl_c ha_a 4 rfl (by decide)) dX9_planFrom_136 (fun H locs i17 ei17 hT hS => ?_)
            have hR17 := Rg_put hR9 ei17 (-2147483648) 2147483647 rfl h16 (by decide)
            have hF17 := Fr_puti hF9 ei17 (by decide)
            refine lv_aload_n hx hb dX9_planFrom_137 rfl (lv_at hl 0 rfl) ?_
            refine lv_iload_n hx hb dX9_planFrom_138 rfl (lv_at hl 1 rfl) ?_
            refine lv_iconst (v := 1) hx hb dX9_planFrom_139 (by decide) ?_
            refine q_iadd hx hb dX9_planFrom_140 (fun x18 ex18 => ?_)
            obtain ⟨hx18, ax18⟩ := rg_add 5 5 ex18 ha_a (rg_k (by decide) : rg 1 1 1) (by decide)
            replace ax18 : x18.toInt = a_a.toInt + 1 := ax18
            refine lv_iload_n hx hb dX9_planFrom_141 rfl (lv_at hl 2 rfl) ?_
            refine e_Vv (As := [.int x18, .int a_b]) (rest := []) X Y hT hS (m_X9_planFrom_5 hR17 x18 a_b hx18 h3) mk_X9_planFrom gm_1927 rfl rfl (by decide) hd_X9_planFrom ⟨rfl, rfl⟩ ⟨Nat.le_of_ble_eq_true rfl, Nat.le_of_ble_eq_true rfl⟩ hl.1 rfl (Nat.le_of_ble_eq_true rfl) dX9_planFrom_142 ⟨Nat.zero_le _, Nat.zero_le _⟩ (fun i19 g19 H locs hq hT hS => ?_)
            obtain ⟨hR19, hf19⟩ := hq
            have hF19 := Fr_tr hF17 hf19 (by decide)
            obtain ⟨x20, ex20⟩ : ∃ y : Int32, y = x102_4 + 1 := ⟨_, rfl⟩
            refine lv_iinc (v := x20) (lv' := [(4, .int x20), (0, .ref (h 96)), (1, .int a_a), (2, .int a_b), (3, .int x6)]) hx hb dX9_planFrom_145 hl (k := 4) rfl (by rw [ex20]; rfl) (by decide) rfl (fun ls hl => ?_)
            obtain ⟨hx20, ax20⟩ := rg_add 0 0 ex20 h16 (rg_k (by decide) : rg 1 1 1) (by decide)
            replace ax20 : x20.toInt = x102_4.toInt + 1 := ax20
            refine lv_goto (tgt := 102) hx hb dX9_planFrom_148 (by decide) ?_
            exact ih10_ x20 i19 g19 _ _ _ (rg_w hx20 (by decide) : rg (-1) 6 x20) hR19 hF19 hT hS (lv_sub hl [1, 2, 3, 4, 0] rfl) (m_up ax20 hx20 (by decide) hm10_)
          ·
            have q15 : ¬ x102_4.toInt = (-1) := i_ne c15
            have h21 : rg 0 5 x102_4 := t_nelo 0 h14 (rg_k (by decide) : rg (-1) (-1) (-1)) (i_ne c15) (by decide)
            refine lv_iload_n hx hb dX9_planFrom_117 rfl (lv_at hl 3 rfl) ?_
            refine lv_iload hx hb dX9_planFrom_118 (lv_at hl 4 rfl) ?_
            refine e_Si (As := [.int x6, .int x102_4]) (rest := []) X Y hT hS (m_X9_isBit x6 x102_4) sk_X9_isBit gm_1670 hd_X9_isBit ⟨rfl, rfl⟩ ⟨Nat.le_of_ble_eq_true rfl, Nat.le_of_ble_eq_true rfl⟩ hl.1 rfl (Nat.le_of_ble_eq_true rfl) dX9_planFrom_120 ⟨Nat.zero_le _, Nat.zero_le _⟩ (fun r22 i22 g22 H locs hq hT hS => ?_)
            rcases hq with hq | hq
            ·
              obtain ⟨eh22, rfl, hf22_0⟩ := hq
              rw [(Prod.mk.inj eh22).1, (Prod.mk.inj eh22).2] at hT
              replace hf22_0 : (((x6 : Int32) >>> ((x102_4 : Int32) &&& 31)) &&& 1 = 1) := hf22_0
              refine lv_if_ne (tgt := 129) hx hb dX9_planFrom_123 (by decide) (fun c23 => ?_) (fun c23 => (x_eq (rg_k (by decide) : rg 1 1 1) (rg_k (by decide) : rg 0 0 0) (i_eq c23) (by decide)).elim)
              refine lv_aload_n hx hb dX9_planFrom_129 rfl (lv_at hl 0 rfl) ?_
              refine r_getr X hT 96 40 117 fk_9_77 rfl rfl (by decide) dX9_planFrom_130 ?_
              refine lv_iload_n hx hb dX9_planFrom_133 rfl (lv_at hl 1 rfl) ?_
              refine lv_iload hx hb dX9_planFrom_134 (lv_at hl 4 rfl) ?_
              refine r_iastc X hT hS 117 4 rfl (by decide) (v_in ha_a (by decide)) (cl_c ha_a 4 rfl (by decide)) dX9_planFrom_136 (fun H locs i24 ei24 hT hS => ?_)
              have hR24 := Rg_put hR9 ei24 (-2147483648) 2147483647 rfl h21 (by decide)
              have hF24 := Fr_puti hF9 ei24 (by decide)
              refine lv_aload_n hx hb dX9_planFrom_137 rfl (lv_at hl 0 rfl) ?_
              refine lv_iload_n hx hb dX9_planFrom_138 rfl (lv_at hl 1 rfl) ?_
              refine lv_iconst (v := 1) hx hb dX9_planFrom_139 (by decide) ?_
              refine q_iadd hx hb dX9_planFrom_140 (fun x25 ex25 => ?_)
              obtain ⟨hx25, ax25⟩ := rg_add 5 5 ex25 ha_a (rg_k (by decide) : rg 1 1 1) (by decide)
              replace ax25 : x25.toInt = a_a.toInt + 1 := ax25
              refine lv_iload_n hx hb dX9_planFrom_141 rfl (lv_at hl 2 rfl) ?_
              refine e_Vv (As := [.int x25, .int a_b]) (rest := []) X Y hT hS (m_X9_planFrom_5 hR24 x25 a_b hx25 h3) mk_X9_planFrom gm_1927 rfl rfl (by decide) hd_X9_planFrom ⟨rfl, rfl⟩ ⟨Nat.le_of_ble_eq_true rfl, Nat.le_of_ble_eq_true rfl⟩ hl.1 rfl (Nat.le_of_ble_eq_true rfl) dX9_planFrom_142 ⟨Nat.zero_le _, Nat.zero_le _⟩ (fun i26 g26 H locs hq hT hS => ?_)
              obtain ⟨hR26, hf26⟩ := hq
              have hF26 := Fr_tr hF24 hf26 (by decide)
              obtain ⟨x27, ex27⟩ : ∃ y : Int32, y = x102_4 + 1 := ⟨_, rfl⟩
              refine lv_iinc (v := x27) (lv' := [(4, .int x27), (0, .ref (h 96)), (1, .int a_a), (2, .int a_b), (3, .int x6)]) hx hb dX9_planFrom_145 hl (k := 4) rfl (by rw [ex27]; rfl) (by decide) rfl (fun ls hl => ?_)
              obtain ⟨hx27, ax27⟩ := rg_add 1 6 ex27 h21 (rg_k (by decide) : rg 1 1 1) (by decide)
              replace ax27 : x27.toInt = x102_4.toInt + 1 := ax27
              refine lv_goto (tgt := 102) hx hb dX9_planFrom_148 (by decide) ?_
              exact ih10_ x27 i26 g26 _ _ _ (rg_w hx27 (by decide) : rg (-1) 6 x27) hR26 hF26 hT hS (lv_sub hl [1, 2, 3, 4, 0] rfl) (m_up ax27 hx27 (by decide) hm10_)
            ·
              obtain ⟨eh22, rfl, hf22_0⟩ := hq
              rw [(Prod.mk.inj eh22).1, (Prod.mk.inj eh22).2] at hT
              replace hf22_0 : ¬ (((x6 : Int32) >>> ((x102_4 : Int32) &&& 31)) &&& 1 = 1) := hf22_0
              refine lv_if_ne (tgt := 129) hx hb dX9_planFrom_123 (by decide) (fun c28 => (x_ne (rg_k (by decide) : rg 0 0 0) (rg_k (by decide) : rg 0 0 0) (i_ne c28) (by decide)).elim) (fun c28 => ?_)
              refine lv_goto (tgt := 145) hx hb dX9_planFrom_126 (by decide) ?_
              obtain ⟨x29, ex29⟩ : ∃ y : Int32, y = x102_4 + 1 := ⟨_, rfl⟩
              refine lv_iinc (v := x29) (lv' := [(4, .int x29), (0, .ref (h 96)), (1, .int a_a), (2, .int a_b), (3, .int x6)]) hx hb dX9_planFrom_145 hl (k := 4) rfl (by rw [ex29]; rfl) (by decide) rfl (fun ls hl => ?_)
              obtain ⟨hx29, ax29⟩ := rg_add 1 6 ex29 h21 (rg_k (by decide) : rg 1 1 1) (by decide)
              replace ax29 : x29.toInt = x102_4.toInt + 1 := ax29
              refine lv_goto (tgt := 102) hx hb dX9_planFrom_148 (by decide) ?_
              exact ih10_ x29 i9 g9 _ _ _ (rg_w hx29 (by decide) : rg (-1) 6 x29) hR9 hF9 hT hS (lv_sub hl [1, 2, 3, 4, 0] rfl) (m_up ax29 hx29 (by decide) hm10_)
    exact L102_8 _ ((-1)) i1 g1 _ _ _ (rg_w (rg_k (by decide) : rg (-1) (-1) (-1)) (by decide) : rg (-1) 6 (-1)) hR1 hF1 hT hS (lv_sub hl [2, 3, 4, 1, 0] rfl) (Nat.lt_succ_self _)
  ·
    have q2 : a_a.toInt = a_b.toInt := i_eq c2
    have h30 : rg 4 4 a_b := t_eqy 4 4 ha_a ha_b (i_eq c2) (by decide)
    refine lv_aload_n hx hb dX9_planFrom_10 rfl (lv_at hl 0 rfl) ?_
    refine e_Vi (As := []) (rest := []) X Y hT hS (m_X9_readAll hR1) mk_X9_readAll gm_1770 rfl rfl (by decide) hd_X9_readAll ⟨rfl, rfl⟩ ⟨Nat.le_of_ble_eq_true rfl, Nat.le_of_ble_eq_true rfl⟩ hl.1 rfl (Nat.le_of_ble_eq_true rfl) dX9_planFrom_11 ⟨Nat.zero_le _, Nat.zero_le _⟩ (fun r31 i31 g31 H locs hq hT hS => ?_)
    have eh31 := hq
    rw [(Prod.mk.inj eh31).1, (Prod.mk.inj eh31).2] at hT
    refine lv_istore_n (lv' := [(3, .int r31), (0, .ref (h 96)), (1, .int a_a), (2, .int a_b)]) hx hb dX9_planFrom_14 rfl hl (by decide) rfl (fun ls hl => ?_)
    refine lv_iload_n hx hb dX9_planFrom_15 rfl (lv_at hl 0 rfl) ?_
    refine lv_aload_n hx hb dX9_planFrom_16 rfl (lv_at hl 1 rfl) ?_
    refine r_geti X hT 96 37 fk_9_375 rfl rfl (by decide) dX9_planFrom_17 ?_
    have J62_33 : ∀  (i34 : Nat → Nat → Int32) (g34 : Nat → Nat → Int64) (H : Heap) (locs : List Loc) (ls : Array Slot), Rg rA i34 → Fr [96, 109, 110, 111, 112, 113, 114, 115, 116, 117] [] i g (i34, g34) → TH D h cz i34 g34 H → va_S (hA h) s.heap H locs → lv_has ls 5 [(0, .ref (h 96)), (3, .int r31)] → W p l e ({ frames := 7, cells := 0, slots := 0, locals := 158 } : Room) s m args below meth c H locs 0 0 Q (F0 m 62 ls []) := by
      intro  i34 g34 H locs ls hR34 hF34 hT hS hl
      refine lv_aload_n hx hb dX9_planFrom_62 rfl (lv_at hl 0 rfl) ?_
      refine lv_dup hx hb dX9_planFrom_63 rfl ?_
      refine r_geti X hT 96 38 fk_9_378 rfl rfl (by decide) dX9_planFrom_64 ?_
      refine lv_iload_n hx hb dX9_planFrom_67 rfl (lv_at hl 1 rfl) ?_
      refine lv_aload_n hx hb dX9_planFrom_68 rfl (lv_at hl 0 rfl) ?_
      refine r_geti X hT 96 37 fk_9_375 rfl rfl (by decide) dX9_planFrom_69 ?_
      refine lv_icmp_ne (tgt := 79) hx hb dX9_planFrom_72 (by decide) (fun c35 => ?_) (fun c35 => ?_)
      ·
        have q35 : ¬ r31.toInt = (i34 96 37).toInt := i_ne c35
        refine lv_iconst (v := 0) hx hb dX9_planFrom_79 (by decide) ?_
        refine q_iadd hx hb dX9_planFrom_80 (fun x36 ex36 => ?_)
        obtain ⟨hx36, ax36⟩ := rg_add (-2147483648) 2147483647 ex36 (rg_top (i34 96 38)) (rg_k (by decide) : rg 0 0 0) (by decide)
        replace ax36 : x36.toInt = (i34 96 38).toInt + 0 := ax36
        refine r_puti X hT hS 96 38 pk_9_378 rfl rfl rfl rfl (by decide) dX9_planFrom_81 (fun H locs i37 ei37 hT hS => ?_)
        have hR37 := Rg_put hR34 ei37 (-2147483648) 2147483647 rfl hx36 (by decide)
        have hF37 := Fr_puti hF34 ei37 (by decide)
        exact hret _ _ _ _ _ _ dX9_planFrom_84 hT hS ⟨hR37, hF37⟩
      ·
        have q35 : r31.toInt = (i34 96 37).toInt := i_eq c35
        refine lv_iconst (v := 1) hx hb dX9_planFrom_75 (by decide) ?_
        refine lv_goto (tgt := 80) hx hb dX9_planFrom_76 (by decide) ?_
        refine q_iadd hx hb dX9_planFrom_80 (fun x38 ex38 => ?_)
        refine r_puti X hT hS 96 38 pk_9_378 rfl rfl rfl rfl (by decide) dX9_planFrom_81 (fun H locs i39 ei39 hT hS => ?_)
        have hR39 := Rg_put hR34 ei39 (-2147483648) 2147483647 rfl (rg_top x38) (by decide)
        have hF39 := Fr_puti hF34 ei39 (by decide)
        exact hret _ _ _ _ _ _ dX9_planFrom_84 hT hS ⟨hR39, hF39⟩
    refine lv_icmp_le (tgt := 62) hx hb dX9_planFrom_20 (by decide) (fun c32 => ?_) (fun c32 => ?_)
    ·
      have q32 : r31.toInt ≤ (i1 96 37).toInt := i_le c32
      exact J62_33 i1 g1 _ _ _ hR1 hF1 hT hS (lv_sub hl [1, 0] rfl)
    ·
      have q32 : (i1 96 37).toInt < r31.toInt := i_nle c32
      have h40 : rg (-2147483648) 2147483646 (i1 96 37) := t_ltx (-2147483648) 2147483646 (rg_top (i1 96 37)) (rg_top r31) (i_nle c32) (by decide)
      have h41 : rg (-2147483647) 2147483647 r31 := t_lty (-2147483647) 2147483647 (rg_top (i1 96 37)) (rg_top r31) (i_nle c32) (by decide)
      refine lv_aload_n hx hb dX9_planFrom_23 rfl (lv_at hl 1 rfl) ?_
      refine lv_iload_n hx hb dX9_planFrom_24 rfl (lv_at hl 0 rfl) ?_
      refine r_puti X hT hS 96 37 pk_9_375 rfl rfl rfl rfl (by decide) dX9_planFrom_25 (fun H locs i42 ei42 hT hS => ?_)
      have hR42 := Rg_put hR1 ei42 (-2147483648) 2147483647 rfl h41 (by decide)
      have hF42 := Fr_puti hF1 ei42 (by decide)
      refine lv_aload_n hx hb dX9_planFrom_28 rfl (lv_at hl 1 rfl) ?_
      refine lv_iconst (v := 0) hx hb dX9_planFrom_29 (by decide) ?_
      refine r_puti X hT hS 96 38 pk_9_378 rfl rfl rfl rfl (by decide) dX9_planFrom_30 (fun H locs i43 ei43 hT hS => ?_)
      have hR43 := Rg_put hR42 ei43 (-2147483648) 2147483647 rfl (rg_k (by decide) : rg 0 0 0) (by decide)
      have hF43 := Fr_puti hF42 ei43 (by decide)
      refine lv_iconst (v := 0) hx hb dX9_planFrom_33 (by decide) ?_
      refine lv_istore (lv' := [(4, .int 0), (3, .int r31), (0, .ref (h 96)), (1, .int a_a), (2, .int a_b)]) hx hb dX9_planFrom_34 hl (by decide) rfl (fun ls hl => ?_)
      have L36_44 : ∀ (n46_ : Nat) (x36_1_4 : Int32) (i45 : Nat → Nat → Int32) (g45 : Nat → Nat → Int64) (H : Heap) (locs : List Loc) (ls : Array Slot), rg 0 4 x36_1_4 → Rg rA i45 → Fr [96, 109, 110, 111, 112, 113, 114, 115, 116, 117] [] i g (i45, g45) → TH D h cz i45 g45 H → va_S (hA h) s.heap H locs → lv_has ls 5 [(0, .ref (h 96)), (2, .int a_b), (3, .int r31), (4, .int x36_1_4)] → (4 - x36_1_4.toInt).toNat < n46_ → W p l e ({ frames := 7, cells := 0, slots := 0, locals := 158 } : Room) s m args below meth c H locs 0 0 Q (F0 m 36 ls []) := by
        intro n46_
        induction n46_ with
        | zero => intro x36_1_4 i45 g45 H locs ls hhx36_1_4 hR45 hF45 hT hS hl hm46_; exact absurd hm46_ (Nat.not_lt_zero _)
        | succ n46_ ih46_ =>
          intro x36_1_4 i45 g45 H locs ls hhx36_1_4 hR45 hF45 hT hS hl hm46_
          refine lv_iload hx hb dX9_planFrom_36 (lv_at hl 3 rfl) ?_
          refine lv_iload_n hx hb dX9_planFrom_38 rfl (lv_at hl 1 rfl) ?_
          refine lv_icmp_ge (tgt := 62) hx hb dX9_planFrom_39 (by decide) (fun c47 => ?_) (fun c47 => ?_)
          ·
            have q47 : a_b.toInt ≤ x36_1_4.toInt := i_le c47
            have h48 : rg 4 4 x36_1_4 := t_ley 4 4 h30 hhx36_1_4 (i_le c47) (by decide)
            exact J62_33 i45 g45 _ _ _ hR45 hF45 hT hS (lv_sub hl [0, 2] rfl)
          ·
            have q47 : x36_1_4.toInt < a_b.toInt := i_nle c47
            have h49 : rg 0 3 x36_1_4 := t_ltx 0 3 hhx36_1_4 h30 (i_nle c47) (by decide)
            refine lv_aload_n hx hb dX9_planFrom_42 rfl (lv_at hl 0 rfl) ?_
            refine r_getr X hT 96 39 116 fk_9_74 rfl rfl (by decide) dX9_planFrom_43 ?_
            refine lv_iload hx hb dX9_planFrom_46 (lv_at hl 3 rfl) ?_
            refine lv_aload_n hx hb dX9_planFrom_48 rfl (lv_at hl 0 rfl) ?_
            refine r_getr X hT 96 40 117 fk_9_77 rfl rfl (by decide) dX9_planFrom_49 ?_
            refine lv_iload hx hb dX9_planFrom_52 (lv_at hl 3 rfl) ?_
            refine r_iald X hT 117 rfl (by decide) (v_in h49 (by decide)) dX9_planFrom_54 ?_
            refine r_iast X hT hS 116 rfl (by decide) (v_in h49 (by decide)) dX9_planFrom_55 (fun H locs i50 ei50 hT hS => ?_)
            have hR50 := Rg_put hR45 ei50 (-2147483648) 2147483647 rfl (rg_top (i45 117 x36_1_4.toNatClampNeg)) (by decide)
            have hF50 := Fr_puti hF45 ei50 (by decide)
            obtain ⟨x51, ex51⟩ : ∃ y : Int32, y = x36_1_4 + 1 := ⟨_, rfl⟩
            refine lv_iinc (v := x51) (lv' := [(4, .int x51), (0, .ref (h 96)), (2, .int a_b), (3, .int r31)]) hx hb dX9_planFrom_56 hl (k := 3) rfl (by rw [ex51]; rfl) (by decide) rfl (fun ls hl => ?_)
            obtain ⟨hx51, ax51⟩ := rg_add 1 4 ex51 h49 (rg_k (by decide) : rg 1 1 1) (by decide)
            replace ax51 : x51.toInt = x36_1_4.toInt + 1 := ax51
            refine lv_goto (tgt := 36) hx hb dX9_planFrom_59 (by decide) ?_
            exact ih46_ x51 i50 g45 _ _ _ (rg_w hx51 (by decide) : rg 0 4 x51) hR50 hF50 hT hS (lv_sub hl [1, 2, 3, 0] rfl) (m_up ax51 hx51 (by decide) hm46_)
      exact L36_44 _ (0) i43 g1 _ _ _ (rg_w (rg_k (by decide) : rg 0 0 0) (by decide) : rg 0 4 0) hR43 hF43 hT hS (lv_sub hl [2, 4, 1, 0] rfl) (Nat.lt_succ_self _)
set_option maxRecDepth 100000 in
set_option maxHeartbeats 4000000 in
theorem m_X9_planFrom_3 {l : Launch} {D : va_G} {h : Nat → Nat} {cz : Nat → ClassId} {z : EZ} {i : Nat → Nat → Int32} {g : Nat → Nat → Int64} (hR : Rg rA i) (a_a : Int32) (a_b : Int32) (ha_a : rg 3 3 a_a) (ha_b : rg 3 5 a_b) : DtV l yX9_planFrom cX9_planFrom 5 none ({ frames := 8, cells := 0, slots := 0, locals := 182 } : Room) D h cz z i g [.ref (h 96), .int a_a, .int a_b] (fun u => Rg rA u.1 ∧ Fr [96, 109, 110, 111, 112, 113, 114, 115, 116, 117] [] i g u) := by
  refine e_V pn_X9_planFrom (Nat.le_of_ble_eq_true rfl) ?_
  intro p e s m args below meth c ls Q X Y hret hT hl hS
  have hx := X.1
  have hb := X.2.1
  have hl : lv_has ls 5 [(0, .ref (h 96)), (1, .int a_a), (2, .int a_b)] := hl
  have hF : Fr [96, 109, 110, 111, 112, 113, 114, 115, 116, 117] [] i g (i, g) := Fr_rf _ _ _ _
  refine lv_aload_n hx hb dX9_planFrom_0 rfl (lv_at hl 0 rfl) ?_
  refine lv_iload_n hx hb dX9_planFrom_1 rfl (lv_at hl 1 rfl) ?_
  refine e_Vv (As := [.int a_a]) (rest := []) X Y hT hS (m_X9_runsPlan hR a_a (rg_w ha_a (by decide) : rg 0 5 a_a)) mk_X9_runsPlan gm_1931 rfl rfl (by decide) hd_X9_runsPlan ⟨rfl, rfl⟩ ⟨Nat.le_of_ble_eq_true rfl, Nat.le_of_ble_eq_true rfl⟩ hl.1 rfl (Nat.le_of_ble_eq_true rfl) dX9_planFrom_2 ⟨Nat.zero_le _, Nat.zero_le _⟩ (fun i1 g1 H locs hq hT hS => ?_)
  obtain ⟨hR1, hf1⟩ := hq
  have hF1 := Fr_tr hF hf1 (by decide)
  refine lv_iload_n hx hb dX9_planFrom_5 rfl (lv_at hl 1 rfl) ?_
  refine lv_iload_n hx hb dX9_planFrom_6 rfl (lv_at hl 2 rfl) ?_
  refine lv_icmp_ne (tgt := 85) hx hb dX9_planFrom_7 (by decide) (fun c2 => ?_) (fun c2 => ?_)
  ·
    have q2 : ¬ a_a.toInt = a_b.toInt := i_ne c2
    have h3 : rg 4 5 a_b := t_nelo 4 ha_b ha_a (Ne.symm (i_ne c2)) (by decide)
    refine lv_aload_n hx hb dX9_planFrom_85 rfl (lv_at hl 0 rfl) ?_
    refine e_Vi (As := []) (rest := []) X Y hT hS (m_X9_every hR1) mk_X9_every gm_1814 rfl rfl (by decide) hd_X9_every ⟨rfl, rfl⟩ ⟨Nat.le_of_ble_eq_true rfl, Nat.le_of_ble_eq_true rfl⟩ hl.1 rfl (Nat.le_of_ble_eq_true rfl) dX9_planFrom_86 ⟨Nat.zero_le _, Nat.zero_le _⟩ (fun r4 i4 g4 H locs hq hT hS => ?_)
    obtain ⟨eh4, hr4⟩ := hq
    rw [(Prod.mk.inj eh4).1, (Prod.mk.inj eh4).2] at hT
    refine lv_aload_n hx hb dX9_planFrom_89 rfl (lv_at hl 0 rfl) ?_
    refine r_getr X hT 96 31 112 fk_9_62 rfl rfl (by decide) dX9_planFrom_90 ?_
    refine lv_iload_n hx hb dX9_planFrom_93 rfl (lv_at hl 1 rfl) ?_
    refine r_ialdc X hT 112 3 rfl (by decide) (v_in ha_a (by decide)) (cl_c ha_a 3 rfl (by decide)) dX9_planFrom_94 ?_
    refine lv_iconst (v := (-1)) hx hb dX9_planFrom_95 (by decide) ?_
    refine q_ixor hx hb dX9_planFrom_96 (fun x5 ex5 => ?_)
    refine q_iand hx hb dX9_planFrom_97 (fun x6 ex6 => ?_)
    have h7 : rg 0 63 x6 := rg_andl ex6 hr4 (by decide)
    refine lv_istore_n (lv' := [(3, .int x6), (0, .ref (h 96)), (1, .int a_a), (2, .int a_b)]) hx hb dX9_planFrom_98 rfl hl (by decide) rfl (fun ls hl => ?_)
    refine lv_iconst (v := (-1)) hx hb dX9_planFrom_99 (by decide) ?_
    refine lv_istore (lv' := [(4, .int (-1)), (3, .int x6), (0, .ref (h 96)), (1, .int a_a), (2, .int a_b)]) hx hb dX9_planFrom_100 hl (by decide) rfl (fun ls hl => ?_)
    have L102_8 : ∀ (n10_ : Nat) (x102_4 : Int32) (i9 : Nat → Nat → Int32) (g9 : Nat → Nat → Int64) (H : Heap) (locs : List Loc) (ls : Array Slot), rg (-1) 6 x102_4 → Rg rA i9 → Fr [96, 109, 110, 111, 112, 113, 114, 115, 116, 117] [] i g (i9, g9) → TH D h cz i9 g9 H → va_S (hA h) s.heap H locs → lv_has ls 5 [(0, .ref (h 96)), (1, .int a_a), (2, .int a_b), (3, .int x6), (4, .int x102_4)] → (6 - x102_4.toInt).toNat < n10_ → W p l e ({ frames := 8, cells := 0, slots := 0, locals := 182 } : Room) s m args below meth c H locs 0 0 Q (F0 m 102 ls []) := by
      intro n10_
      induction n10_ with
      | zero => intro x102_4 i9 g9 H locs ls hhx102_4 hR9 hF9 hT hS hl hm10_; exact absurd hm10_ (Nat.not_lt_zero _)
      | succ n10_ ih10_ =>
        intro x102_4 i9 g9 H locs ls hhx102_4 hR9 hF9 hT hS hl hm10_
        refine lv_iload hx hb dX9_planFrom_102 (lv_at hl 4 rfl) ?_
        refine lv_aload_n hx hb dX9_planFrom_104 rfl (lv_at hl 0 rfl) ?_
        refine e_Vi (As := []) (rest := [.int x102_4]) X Y hT hS (m_X9_parts hR9) mk_X9_parts gm_1649 rfl rfl (by decide) hd_X9_parts ⟨rfl, rfl⟩ ⟨Nat.le_of_ble_eq_true rfl, Nat.le_of_ble_eq_true rfl⟩ hl.1 rfl (Nat.le_of_ble_eq_true rfl) dX9_planFrom_105 ⟨Nat.zero_le _, Nat.zero_le _⟩ (fun r11 i11 g11 H locs hq hT hS => ?_)
        obtain ⟨eh11, hr11⟩ := hq
        rw [(Prod.mk.inj eh11).1, (Prod.mk.inj eh11).2] at hT
        refine lv_icmp_ge (tgt := 151) hx hb dX9_planFrom_108 (by decide) (fun c12 => ?_) (fun c12 => ?_)
        ·
          have q12 : r11.toInt ≤ x102_4.toInt := i_le c12
          have h13 : rg 0 6 x102_4 := t_ley 0 6 hr11 hhx102_4 (i_le c12) (by decide)
          exact hret _ _ _ _ _ _ dX9_planFrom_151 hT hS ⟨hR9, hF9⟩
        ·
          have q12 : x102_4.toInt < r11.toInt := i_nle c12
          have h14 : rg (-1) 5 x102_4 := t_ltx (-1) 5 hhx102_4 hr11 (i_nle c12) (by decide)
          refine lv_iload hx hb dX9_planFrom_111 (lv_at hl 4 rfl) ?_
          refine lv_iconst (v := (-1)) hx hb dX9_planFrom_113 (by decide) ?_
          refine lv_icmp_eq (tgt := 129) hx hb dX9_planFrom_114 (by decide) (fun c15 => ?_) (fun c15 => ?_)
          ·
            have q15 : x102_4.toInt = (-1) := i_eq c15
            have h16 : rg (-1) (-1) x102_4 := t_eqx (-1) (-1) h14 (rg_k (by decide) : rg (-1) (-1) (-1)) (i_eq c15) (by decide)
            refine lv_aload_n hx hb dX9_planFrom_129 rfl (lv_at hl 0 rfl) ?_
            refine r_getr X hT 96 40 117 fk_9_77 rfl rfl (by decide) dX9_planFrom_130 ?_
            refine lv_iload_n hx hb dX9_planFrom_133 rfl (lv_at hl 1 rfl) ?_
            refine lv_iload hx hb dX9_planFrom_134 (lv_at hl 4 rfl) ?_
            refine r_iastc X hT hS 117 3 rfl (by decide) (v_in ha_a (by decide)) (cl_c ha_a 3 rfl (by decide)) dX9_planFrom_136 (fun H locs i17 ei17 hT hS => ?_)
            have hR17 := Rg_put hR9 ei17 (-2147483648) 2147483647 rfl h16 (by decide)
            have hF17 := Fr_puti hF9 ei17 (by decide)
            refine lv_aload_n hx hb dX9_planFrom_137 rfl (lv_at hl 0 rfl) ?_
            refine lv_iload_n hx hb dX9_planFrom_138 rfl (lv_at hl 1 rfl) ?_
            refine lv_iconst (v := 1) hx hb dX9_planFrom_139 (by decide) ?_
            refine q_iadd hx hb dX9_planFrom_140 (fun x18 ex18 => ?_)
            obtain ⟨hx18, ax18⟩ := rg_add 4 4 ex18 ha_a (rg_k (by decide) : rg 1 1 1) (by decide)
            replace ax18 : x18.toInt = a_a.toInt + 1 := ax18
            refine lv_iload_n hx hb dX9_planFrom_141 rfl (lv_at hl 2 rfl) ?_
            refine e_Vv (As := [.int x18, .int a_b]) (rest := []) X Y hT hS (m_X9_planFrom_4 hR17 x18 a_b hx18 h3) mk_X9_planFrom gm_1927 rfl rfl (by decide) hd_X9_planFrom ⟨rfl, rfl⟩ ⟨Nat.le_of_ble_eq_true rfl, Nat.le_of_ble_eq_true rfl⟩ hl.1 rfl (Nat.le_of_ble_eq_true rfl) dX9_planFrom_142 ⟨Nat.zero_le _, Nat.zero_le _⟩ (fun i19 g19 H locs hq hT hS => ?_)
            obtain ⟨hR19, hf19⟩ := hq
            have hF19 := Fr_tr hF17 hf19 (by decide)
            obtain ⟨x20, ex20⟩ : ∃ y : Int32, y = x102_4 + 1 := ⟨_, rfl⟩
            refine lv_iinc (v := x20) (lv' := [(4, .int x20), (0, .ref (h 96)), (1, .int a_a), (2, .int a_b), (3, .int x6)]) hx hb dX9_planFrom_145 hl (k := 4) rfl (by rw [ex20]; rfl) (by decide) rfl (fun ls hl => ?_)
            obtain ⟨hx20, ax20⟩ := rg_add 0 0 ex20 h16 (rg_k (by decide) : rg 1 1 1) (by decide)
            replace ax20 : x20.toInt = x102_4.toInt + 1 := ax20
            refine lv_goto (tgt := 102) hx hb dX9_planFrom_148 (by decide) ?_
            exact ih10_ x20 i19 g19 _ _ _ (rg_w hx20 (by decide) : rg (-1) 6 x20) hR19 hF19 hT hS (lv_sub hl [1, 2, 3, 4, 0] rfl) (m_up ax20 hx20 (by decide) hm10_)
          ·
            have q15 : ¬ x102_4.toInt = (-1) := i_ne c15
            have h21 : rg 0 5 x102_4 := t_nelo 0 h14 (rg_k (by decide) : rg (-1) (-1) (-1)) (i_ne c15) (by decide)
            refine lv_iload_n hx hb dX9_planFrom_117 rfl (lv_at hl 3 rfl) ?_
            refine lv_iload hx hb dX9_planFrom_118 (lv_at hl 4 rfl) ?_
            refine e_Si (As := [.int x6, .int x102_4]) (rest := []) X Y hT hS (m_X9_isBit x6 x102_4) sk_X9_isBit gm_1670 hd_X9_isBit ⟨rfl, rfl⟩ ⟨Nat.le_of_ble_eq_true rfl, Nat.le_of_ble_eq_true rfl⟩ hl.1 rfl (Nat.le_of_ble_eq_true rfl) dX9_planFrom_120 ⟨Nat.zero_le _, Nat.zero_le _⟩ (fun r22 i22 g22 H locs hq hT hS => ?_)
            rcases hq with hq | hq
            ·
              obtain ⟨eh22, rfl, hf22_0⟩ := hq
              rw [(Prod.mk.inj eh22).1, (Prod.mk.inj eh22).2] at hT
              replace hf22_0 : (((x6 : Int32) >>> ((x102_4 : Int32) &&& 31)) &&& 1 = 1) := hf22_0
              refine lv_if_ne (tgt := 129) hx hb dX9_planFrom_123 (by decide) (fun c23 => ?_) (fun c23 => (x_eq (rg_k (by decide) : rg 1 1 1) (rg_k (by decide) : rg 0 0 0) (i_eq c23) (by decide)).elim)
              refine lv_aload_n hx hb dX9_planFrom_129 rfl (lv_at hl 0 rfl) ?_
              refine r_getr X hT 96 40 117 fk_9_77 rfl rfl (by decide) dX9_planFrom_130 ?_
              refine lv_iload_n hx hb dX9_planFrom_133 rfl (lv_at hl 1 rfl) ?_
              refine lv_iload hx hb dX9_planFrom_134 (lv_at hl 4 rfl) ?_
              refine r_iastc X hT hS 117 3 rfl (by decide) (v_in ha_a (by decide)) (cl_c ha_a 3 rfl (by decide)) dX9_planFrom_136 (fun H locs i24 ei24 hT hS => ?_)
              have hR24 := Rg_put hR9 ei24 (-2147483648) 2147483647 rfl h21 (by decide)
              have hF24 := Fr_puti hF9 ei24 (by decide)
              refine lv_aload_n hx hb dX9_planFrom_137 rfl (lv_at hl 0 rfl) ?_
              refine lv_iload_n hx hb dX9_planFrom_138 rfl (lv_at hl 1 rfl) ?_
              refine lv_iconst (v := 1) hx hb dX9_planFrom_139 (by decide) ?_
              refine q_iadd hx hb dX9_planFrom_140 (fun x25 ex25 => ?_)
              obtain ⟨hx25, ax25⟩ := rg_add 4 4 ex25 ha_a (rg_k (by decide) : rg 1 1 1) (by decide)
              replace ax25 : x25.toInt = a_a.toInt + 1 := ax25
              refine lv_iload_n hx hb dX9_planFrom_141 rfl (lv_at hl 2 rfl) ?_
              refine e_Vv (As := [.int x25, .int a_b]) (rest := []) X Y hT hS (m_X9_planFrom_4 hR24 x25 a_b hx25 h3) mk_X9_planFrom gm_1927 rfl rfl (by decide) hd_X9_planFrom ⟨rfl, rfl⟩ ⟨Nat.le_of_ble_eq_true rfl, Nat.le_of_ble_eq_true rfl⟩ hl.1 rfl (Nat.le_of_ble_eq_true rfl) dX9_planFrom_142 ⟨Nat.zero_le _, Nat.zero_le _⟩ (fun i26 g26 H locs hq hT hS => ?_)
              obtain ⟨hR26, hf26⟩ := hq
              have hF26 := Fr_tr hF24 hf26 (by decide)
              obtain ⟨x27, ex27⟩ : ∃ y : Int32, y = x102_4 + 1 := ⟨_, rfl⟩
              refine lv_iinc (v := x27) (lv' := [(4, .int x27), (0, .ref (h 96)), (1, .int a_a), (2, .int a_b), (3, .int x6)]) hx hb dX9_planFrom_145 hl (k := 4) rfl (by rw [ex27]; rfl) (by decide) rfl (fun ls hl => ?_)
              obtain ⟨hx27, ax27⟩ := rg_add 1 6 ex27 h21 (rg_k (by decide) : rg 1 1 1) (by decide)
              replace ax27 : x27.toInt = x102_4.toInt + 1 := ax27
              refine lv_goto (tgt := 102) hx hb dX9_planFrom_148 (by decide) ?_
              exact ih10_ x27 i26 g26 _ _ _ (rg_w hx27 (by decide) : rg (-1) 6 x27) hR26 hF26 hT hS (lv_sub hl [1, 2, 3, 4, 0] rfl) (m_up ax27 hx27 (by decide) hm10_)
            ·
              obtain ⟨eh22, rfl, hf22_0⟩ := hq
              rw [(Prod.mk.inj eh22).1, (Prod.mk.inj eh22).2] at hT
              replace hf22_0 : ¬ (((x6 : Int32) >>> ((x102_4 : Int32) &&& 31)) &&& 1 = 1) := hf22_0
              refine lv_if_ne (tgt := 129) hx hb dX9_planFrom_123 (by decide) (fun c28 => (x_ne (rg_k (by decide) : rg 0 0 0) (rg_k (by decide) : rg 0 0 0) (i_ne c28) (by decide)).elim) (fun c28 => ?_)
              refine lv_goto (tgt := 145) hx hb dX9_planFrom_126 (by decide) ?_
              obtain ⟨x29, ex29⟩ : ∃ y : Int32, y = x102_4 + 1 := ⟨_, rfl⟩
              refine lv_iinc (v := x29) (lv' := [(4, .int x29), (0, .ref (h 96)), (1, .int a_a), (2, .int a_b), (3, .int x6)]) hx hb dX9_planFrom_145 hl (k := 4) rfl (by rw [ex29]; rfl) (by decide) rfl (fun ls hl => ?_)
              obtain ⟨hx29, ax29⟩ := rg_add 1 6 ex29 h21 (rg_k (by decide) : rg 1 1 1) (by decide)
              replace ax29 : x29.toInt = x102_4.toInt + 1 := ax29
              refine lv_goto (tgt := 102) hx hb dX9_planFrom_148 (by decide) ?_
              exact ih10_ x29 i9 g9 _ _ _ (rg_w hx29 (by decide) : rg (-1) 6 x29) hR9 hF9 hT hS (lv_sub hl [1, 2, 3, 4, 0] rfl) (m_up ax29 hx29 (by decide) hm10_)
    exact L102_8 _ ((-1)) i1 g1 _ _ _ (rg_w (rg_k (by decide) : rg (-1) (-1) (-1)) (by decide) : rg (-1) 6 (-1)) hR1 hF1 hT hS (lv_sub hl [2, 3, 4, 1, 0] rfl) (Nat.lt_succ_self _)
  ·
    have q2 : a_a.toInt = a_b.toInt := i_eq c2
    have h30 : rg 3 3 a_b := t_eqy 3 3 ha_a ha_b (i_eq c2) (by decide)
    refine lv_aload_n hx hb dX9_planFrom_10 rfl (lv_at hl 0 rfl) ?_
    refine e_Vi (As := []) (rest := []) X Y hT hS (m_X9_readAll hR1) mk_X9_readAll gm_1770 rfl rfl (by decide) hd_X9_readAll ⟨rfl, rfl⟩ ⟨Nat.le_of_ble_eq_true rfl, Nat.le_of_ble_eq_true rfl⟩ hl.1 rfl (Nat.le_of_ble_eq_true rfl) dX9_planFrom_11 ⟨Nat.zero_le _, Nat.zero_le _⟩ (fun r31 i31 g31 H locs hq hT hS => ?_)
    have eh31 := hq
    rw [(Prod.mk.inj eh31).1, (Prod.mk.inj eh31).2] at hT
    refine lv_istore_n (lv' := [(3, .int r31), (0, .ref (h 96)), (1, .int a_a), (2, .int a_b)]) hx hb dX9_planFrom_14 rfl hl (by decide) rfl (fun ls hl => ?_)
    refine lv_iload_n hx hb dX9_planFrom_15 rfl (lv_at hl 0 rfl) ?_
    refine lv_aload_n hx hb dX9_planFrom_16 rfl (lv_at hl 1 rfl) ?_
    refine r_geti X hT 96 37 fk_9_375 rfl rfl (by decide) dX9_planFrom_17 ?_
    have J62_33 : ∀  (i34 : Nat → Nat → Int32) (g34 : Nat → Nat → Int64) (H : Heap) (locs : List Loc) (ls : Array Slot), Rg rA i34 → Fr [96, 109, 110, 111, 112, 113, 114, 115, 116, 117] [] i g (i34, g34) → TH D h cz i34 g34 H → va_S (hA h) s.heap H locs → lv_has ls 5 [(0, .ref (h 96)), (3, .int r31)] → W p l e ({ frames := 8, cells := 0, slots := 0, locals := 182 } : Room) s m args below meth c H locs 0 0 Q (F0 m 62 ls []) := by
      intro  i34 g34 H locs ls hR34 hF34 hT hS hl
      refine lv_aload_n hx hb dX9_planFrom_62 rfl (lv_at hl 0 rfl) ?_
      refine lv_dup hx hb dX9_planFrom_63 rfl ?_
      refine r_geti X hT 96 38 fk_9_378 rfl rfl (by decide) dX9_planFrom_64 ?_
      refine lv_iload_n hx hb dX9_planFrom_67 rfl (lv_at hl 1 rfl) ?_
      refine lv_aload_n hx hb dX9_planFrom_68 rfl (lv_at hl 0 rfl) ?_
      refine r_geti X hT 96 37 fk_9_375 rfl rfl (by decide) dX9_planFrom_69 ?_
      refine lv_icmp_ne (tgt := 79) hx hb dX9_planFrom_72 (by decide) (fun c35 => ?_) (fun c35 => ?_)
      ·
        have q35 : ¬ r31.toInt = (i34 96 37).toInt := i_ne c35
        refine lv_iconst (v := 0) hx hb dX9_planFrom_79 (by decide) ?_
        refine q_iadd hx hb dX9_planFrom_80 (fun x36 ex36 => ?_)
        obtain ⟨hx36, ax36⟩ := rg_add (-2147483648) 2147483647 ex36 (rg_top (i34 96 38)) (rg_k (by decide) : rg 0 0 0) (by decide)
        replace ax36 : x36.toInt = (i34 96 38).toInt + 0 := ax36
        refine r_puti X hT hS 96 38 pk_9_378 rfl rfl rfl rfl (by decide) dX9_planFrom_81 (fun H locs i37 ei37 hT hS => ?_)
        have hR37 := Rg_put hR34 ei37 (-2147483648) 2147483647 rfl hx36 (by decide)
        have hF37 := Fr_puti hF34 ei37 (by decide)
        exact hret _ _ _ _ _ _ dX9_planFrom_84 hT hS ⟨hR37, hF37⟩
      ·
        have q35 : r31.toInt = (i34 96 37).toInt := i_eq c35
        refine lv_iconst (v := 1) hx hb dX9_planFrom_75 (by decide) ?_
        refine lv_goto (tgt := 80) hx hb dX9_planFrom_76 (by decide) ?_
        refine q_iadd hx hb dX9_planFrom_80 (fun x38 ex38 => ?_)
        refine r_puti X hT hS 96 38 pk_9_378 rfl rfl rfl rfl (by decide) dX9_planFrom_81 (fun H locs i39 ei39 hT hS => ?_)
        have hR39 := Rg_put hR34 ei39 (-2147483648) 2147483647 rfl (rg_top x38) (by decide)
        have hF39 := Fr_puti hF34 ei39 (by decide)
        exact hret _ _ _ _ _ _ dX9_planFrom_84 hT hS ⟨hR39, hF39⟩
    refine lv_icmp_le (tgt := 62) hx hb dX9_planFrom_20 (by decide) (fun c32 => ?_) (fun c32 => ?_)
    ·
      have q32 : r31.toInt ≤ (i1 96 37).toInt := i_le c32
      exact J62_33 i1 g1 _ _ _ hR1 hF1 hT hS (lv_sub hl [1, 0] rfl)
    ·
      have q32 : (i1 96 37).toInt < r31.toInt := i_nle c32
      have h40 : rg (-2147483648) 2147483646 (i1 96 37) := t_ltx (-2147483648) 2147483646 (rg_top (i1 96 37)) (rg_top r31) (i_nle c32) (by decide)
      have h41 : rg (-2147483647) 2147483647 r31 := t_lty (-2147483647) 2147483647 (rg_top (i1 96 37)) (rg_top r31) (i_nle c32) (by decide)
      refine lv_aload_n hx hb dX9_planFrom_23 rfl (lv_at hl 1 rfl) ?_
      refine lv_iload_n hx hb dX9_planFrom_24 rfl (lv_at hl 0 rfl) ?_
      refine r_puti X hT hS 96 37 pk_9_375 rfl rfl rfl rfl (by decide) dX9_planFrom_25 (fun H locs i42 ei42 hT hS => ?_)
      have hR42 := Rg_put hR1 ei42 (-2147483648) 2147483647 rfl h41 (by decide)
      have hF42 := Fr_puti hF1 ei42 (by decide)
      refine lv_aload_n hx hb dX9_planFrom_28 rfl (lv_at hl 1 rfl) ?_
      refine lv_iconst (v := 0) hx hb dX9_planFrom_29 (by decide) ?_
      refine r_puti X hT hS 96 38 pk_9_378 rfl rfl rfl rfl (by decide) dX9_planFrom_30 (fun H locs i43 ei43 hT hS => ?_)
      have hR43 := Rg_put hR42 ei43 (-2147483648) 2147483647 rfl (rg_k (by decide) : rg 0 0 0) (by decide)
      have hF43 := Fr_puti hF42 ei43 (by decide)
      refine lv_iconst (v := 0) hx hb dX9_planFrom_33 (by decide) ?_
      refine lv_istore (lv' := [(4, .int 0), (3, .int r31), (0, .ref (h 96)), (1, .int a_a), (2, .int a_b)]) hx hb dX9_planFrom_34 hl (by decide) rfl (fun ls hl => ?_)
      have L36_44 : ∀ (n46_ : Nat) (x36_1_4 : Int32) (i45 : Nat → Nat → Int32) (g45 : Nat → Nat → Int64) (H : Heap) (locs : List Loc) (ls : Array Slot), rg 0 3 x36_1_4 → Rg rA i45 → Fr [96, 109, 110, 111, 112, 113, 114, 115, 116, 117] [] i g (i45, g45) → TH D h cz i45 g45 H → va_S (hA h) s.heap H locs → lv_has ls 5 [(0, .ref (h 96)), (2, .int a_b), (3, .int r31), (4, .int x36_1_4)] → (3 - x36_1_4.toInt).toNat < n46_ → W p l e ({ frames := 8, cells := 0, slots := 0, locals := 182 } : Room) s m args below meth c H locs 0 0 Q (F0 m 36 ls []) := by
        intro n46_
        induction n46_ with
        | zero => intro x36_1_4 i45 g45 H locs ls hhx36_1_4 hR45 hF45 hT hS hl hm46_; exact absurd hm46_ (Nat.not_lt_zero _)
        | succ n46_ ih46_ =>
          intro x36_1_4 i45 g45 H locs ls hhx36_1_4 hR45 hF45 hT hS hl hm46_
          refine lv_iload hx hb dX9_planFrom_36 (lv_at hl 3 rfl) ?_
          refine lv_iload_n hx hb dX9_planFrom_38 rfl (lv_at hl 1 rfl) ?_
          refine lv_icmp_ge (tgt := 62) hx hb dX9_planFrom_39 (by decide) (fun c47 => ?_) (fun c47 => ?_)
          ·
            have q47 : a_b.toInt ≤ x36_1_4.toInt := i_le c47
            have h48 : rg 3 3 x36_1_4 := t_ley 3 3 h30 hhx36_1_4 (i_le c47) (by decide)
            exact J62_33 i45 g45 _ _ _ hR45 hF45 hT hS (lv_sub hl [0, 2] rfl)
          ·
            have q47 : x36_1_4.toInt < a_b.toInt := i_nle c47
            have h49 : rg 0 2 x36_1_4 := t_ltx 0 2 hhx36_1_4 h30 (i_nle c47) (by decide)
            refine lv_aload_n hx hb dX9_planFrom_42 rfl (lv_at hl 0 rfl) ?_
            refine r_getr X hT 96 39 116 fk_9_74 rfl rfl (by decide) dX9_planFrom_43 ?_
            refine lv_iload hx hb dX9_planFrom_46 (lv_at hl 3 rfl) ?_
            refine lv_aload_n hx hb dX9_planFrom_48 rfl (lv_at hl 0 rfl) ?_
            refine r_getr X hT 96 40 117 fk_9_77 rfl rfl (by decide) dX9_planFrom_49 ?_
            refine lv_iload hx hb dX9_planFrom_52 (lv_at hl 3 rfl) ?_
            refine r_iald X hT 117 rfl (by decide) (v_in h49 (by decide)) dX9_planFrom_54 ?_
            refine r_iast X hT hS 116 rfl (by decide) (v_in h49 (by decide)) dX9_planFrom_55 (fun H locs i50 ei50 hT hS => ?_)
            have hR50 := Rg_put hR45 ei50 (-2147483648) 2147483647 rfl (rg_top (i45 117 x36_1_4.toNatClampNeg)) (by decide)
            have hF50 := Fr_puti hF45 ei50 (by decide)
            obtain ⟨x51, ex51⟩ : ∃ y : Int32, y = x36_1_4 + 1 := ⟨_, rfl⟩
            refine lv_iinc (v := x51) (lv' := [(4, .int x51), (0, .ref (h 96)), (2, .int a_b), (3, .int r31)]) hx hb dX9_planFrom_56 hl (k := 3) rfl (by rw [ex51]; rfl) (by decide) rfl (fun ls hl => ?_)
            obtain ⟨hx51, ax51⟩ := rg_add 1 3 ex51 h49 (rg_k (by decide) : rg 1 1 1) (by decide)
            replace ax51 : x51.toInt = x36_1_4.toInt + 1 := ax51
            refine lv_goto (tgt := 36) hx hb dX9_planFrom_59 (by decide) ?_
            exact ih46_ x51 i50 g45 _ _ _ (rg_w hx51 (by decide) : rg 0 3 x51) hR50 hF50 hT hS (lv_sub hl [1, 2, 3, 0] rfl) (m_up ax51 hx51 (by decide) hm46_)
      exact L36_44 _ (0) i43 g1 _ _ _ (rg_w (rg_k (by decide) : rg 0 0 0) (by decide) : rg 0 3 0) hR43 hF43 hT hS (lv_sub hl [2, 4, 1, 0] rfl) (Nat.lt_succ_self _)
set_option maxRecDepth 100000 in
set_option maxHeartbeats 4000000 in
theorem m_X9_planFrom_2 {l : Launch} {D : va_G} {h : Nat → Nat} {cz : Nat → ClassId} {z : EZ} {i : Nat → Nat → Int32} {g : Nat → Nat → Int64} (hR : Rg rA i) (a_a : Int32) (a_b : Int32) (ha_a : rg 2 2 a_a) (ha_b : rg 2 5 a_b) : DtV l yX9_planFrom cX9_planFrom 5 none ({ frames := 9, cells := 0, slots := 0, locals := 206 } : Room) D h cz z i g [.ref (h 96), .int a_a, .int a_b] (fun u => Rg rA u.1 ∧ Fr [96, 109, 110, 111, 112, 113, 114, 115, 116, 117] [] i g u) := by
  refine e_V pn_X9_planFrom (Nat.le_of_ble_eq_true rfl) ?_
  intro p e s m args below meth c ls Q X Y hret hT hl hS
  have hx := X.1
  have hb := X.2.1
  have hl : lv_has ls 5 [(0, .ref (h 96)), (1, .int a_a), (2, .int a_b)] := hl
  have hF : Fr [96, 109, 110, 111, 112, 113, 114, 115, 116, 117] [] i g (i, g) := Fr_rf _ _ _ _
  refine lv_aload_n hx hb dX9_planFrom_0 rfl (lv_at hl 0 rfl) ?_
  refine lv_iload_n hx hb dX9_planFrom_1 rfl (lv_at hl 1 rfl) ?_
  refine e_Vv (As := [.int a_a]) (rest := []) X Y hT hS (m_X9_runsPlan hR a_a (rg_w ha_a (by decide) : rg 0 5 a_a)) mk_X9_runsPlan gm_1931 rfl rfl (by decide) hd_X9_runsPlan ⟨rfl, rfl⟩ ⟨Nat.le_of_ble_eq_true rfl, Nat.le_of_ble_eq_true rfl⟩ hl.1 rfl (Nat.le_of_ble_eq_true rfl) dX9_planFrom_2 ⟨Nat.zero_le _, Nat.zero_le _⟩ (fun i1 g1 H locs hq hT hS => ?_)
  obtain ⟨hR1, hf1⟩ := hq
  have hF1 := Fr_tr hF hf1 (by decide)
  refine lv_iload_n hx hb dX9_planFrom_5 rfl (lv_at hl 1 rfl) ?_
  refine lv_iload_n hx hb dX9_planFrom_6 rfl (lv_at hl 2 rfl) ?_
  refine lv_icmp_ne (tgt := 85) hx hb dX9_planFrom_7 (by decide) (fun c2 => ?_) (fun c2 => ?_)
  ·
    have q2 : ¬ a_a.toInt = a_b.toInt := i_ne c2
    have h3 : rg 3 5 a_b := t_nelo 3 ha_b ha_a (Ne.symm (i_ne c2)) (by decide)
    refine lv_aload_n hx hb dX9_planFrom_85 rfl (lv_at hl 0 rfl) ?_
    refine e_Vi (As := []) (rest := []) X Y hT hS (m_X9_every hR1) mk_X9_every gm_1814 rfl rfl (by decide) hd_X9_every ⟨rfl, rfl⟩ ⟨Nat.le_of_ble_eq_true rfl, Nat.le_of_ble_eq_true rfl⟩ hl.1 rfl (Nat.le_of_ble_eq_true rfl) dX9_planFrom_86 ⟨Nat.zero_le _, Nat.zero_le _⟩ (fun r4 i4 g4 H locs hq hT hS => ?_)
    obtain ⟨eh4, hr4⟩ := hq
    rw [(Prod.mk.inj eh4).1, (Prod.mk.inj eh4).2] at hT
    refine lv_aload_n hx hb dX9_planFrom_89 rfl (lv_at hl 0 rfl) ?_
    refine r_getr X hT 96 31 112 fk_9_62 rfl rfl (by decide) dX9_planFrom_90 ?_
    refine lv_iload_n hx hb dX9_planFrom_93 rfl (lv_at hl 1 rfl) ?_
    refine r_ialdc X hT 112 2 rfl (by decide) (v_in ha_a (by decide)) (cl_c ha_a 2 rfl (by decide)) dX9_planFrom_94 ?_
    refine lv_iconst (v := (-1)) hx hb dX9_planFrom_95 (by decide) ?_
    refine q_ixor hx hb dX9_planFrom_96 (fun x5 ex5 => ?_)
    refine q_iand hx hb dX9_planFrom_97 (fun x6 ex6 => ?_)
    have h7 : rg 0 63 x6 := rg_andl ex6 hr4 (by decide)
    refine lv_istore_n (lv' := [(3, .int x6), (0, .ref (h 96)), (1, .int a_a), (2, .int a_b)]) hx hb dX9_planFrom_98 rfl hl (by decide) rfl (fun ls hl => ?_)
    refine lv_iconst (v := (-1)) hx hb dX9_planFrom_99 (by decide) ?_
    refine lv_istore (lv' := [(4, .int (-1)), (3, .int x6), (0, .ref (h 96)), (1, .int a_a), (2, .int a_b)]) hx hb dX9_planFrom_100 hl (by decide) rfl (fun ls hl => ?_)
    have L102_8 : ∀ (n10_ : Nat) (x102_4 : Int32) (i9 : Nat → Nat → Int32) (g9 : Nat → Nat → Int64) (H : Heap) (locs : List Loc) (ls : Array Slot), rg (-1) 6 x102_4 → Rg rA i9 → Fr [96, 109, 110, 111, 112, 113, 114, 115, 116, 117] [] i g (i9, g9) → TH D h cz i9 g9 H → va_S (hA h) s.heap H locs → lv_has ls 5 [(0, .ref (h 96)), (1, .int a_a), (2, .int a_b), (3, .int x6), (4, .int x102_4)] → (6 - x102_4.toInt).toNat < n10_ → W p l e ({ frames := 9, cells := 0, slots := 0, locals := 206 } : Room) s m args below meth c H locs 0 0 Q (F0 m 102 ls []) := by
      intro n10_
      induction n10_ with
      | zero => intro x102_4 i9 g9 H locs ls hhx102_4 hR9 hF9 hT hS hl hm10_; exact absurd hm10_ (Nat.not_lt_zero _)
      | succ n10_ ih10_ =>
        intro x102_4 i9 g9 H locs ls hhx102_4 hR9 hF9 hT hS hl hm10_
        refine lv_iload hx hb dX9_planFrom_102 (lv_at hl 4 rfl) ?_
        refine lv_aload_n hx hb dX9_planFrom_104 rfl (lv_at hl 0 rfl) ?_
        refine e_Vi (As := []) (rest := [.int x102_4]) X Y hT hS (m_X9_parts hR9) mk_X9_parts gm_1649 rfl rfl (by decide) hd_X9_parts ⟨rfl, rfl⟩ ⟨Nat.le_of_ble_eq_true rfl, Nat.le_of_ble_eq_true rfl⟩ hl.1 rfl (Nat.le_of_ble_eq_true rfl) dX9_planFrom_105 ⟨Nat.zero_le _, Nat.zero_le _⟩ (fun r11 i11 g11 H locs hq hT hS => ?_)
        obtain ⟨eh11, hr11⟩ := hq
        rw [(Prod.mk.inj eh11).1, (Prod.mk.inj eh11).2] at hT
        refine lv_icmp_ge (tgt := 151) hx hb dX9_planFrom_108 (by decide) (fun c12 => ?_) (fun c12 => ?_)
        ·
          have q12 : r11.toInt ≤ x102_4.toInt := i_le c12
          have h13 : rg 0 6 x102_4 := t_ley 0 6 hr11 hhx102_4 (i_le c12) (by decide)
          exact hret _ _ _ _ _ _ dX9_planFrom_151 hT hS ⟨hR9, hF9⟩
        ·
          have q12 : x102_4.toInt < r11.toInt := i_nle c12
          have h14 : rg (-1) 5 x102_4 := t_ltx (-1) 5 hhx102_4 hr11 (i_nle c12) (by decide)
          refine lv_iload hx hb dX9_planFrom_111 (lv_at hl 4 rfl) ?_
          refine lv_iconst (v := (-1)) hx hb dX9_planFrom_113 (by decide) ?_
          refine lv_icmp_eq (tgt := 129) hx hb dX9_planFrom_114 (by decide) (fun c15 => ?_) (fun c15 => ?_)
          ·
            have q15 : x102_4.toInt = (-1) := i_eq c15
            have h16 : rg (-1) (-1) x102_4 := t_eqx (-1) (-1) h14 (rg_k (by decide) : rg (-1) (-1) (-1)) (i_eq c15) (by decide)
            refine lv_aload_n hx hb dX9_planFrom_129 rfl (lv_at hl 0 rfl) ?_
            refine r_getr X hT 96 40 117 fk_9_77 rfl rfl (by decide) dX9_planFrom_130 ?_
            refine lv_iload_n hx hb dX9_planFrom_133 rfl (lv_at hl 1 rfl) ?_
            refine lv_iload hx hb dX9_planFrom_134 (lv_at hl 4 rfl) ?_
            refine r_iastc X hT hS 117 2 rfl (by decide) (v_in ha_a (by decide)) (cl_c ha_a 2 rfl (by decide)) dX9_planFrom_136 (fun H locs i17 ei17 hT hS => ?_)
            have hR17 := Rg_put hR9 ei17 (-2147483648) 2147483647 rfl h16 (by decide)
            have hF17 := Fr_puti hF9 ei17 (by decide)
            refine lv_aload_n hx hb dX9_planFrom_137 rfl (lv_at hl 0 rfl) ?_
            refine lv_iload_n hx hb dX9_planFrom_138 rfl (lv_at hl 1 rfl) ?_
            refine lv_iconst (v := 1) hx hb dX9_planFrom_139 (by decide) ?_
            refine q_iadd hx hb dX9_planFrom_140 (fun x18 ex18 => ?_)
            obtain ⟨hx18, ax18⟩ := rg_add 3 3 ex18 ha_a (rg_k (by decide) : rg 1 1 1) (by decide)
            replace ax18 : x18.toInt = a_a.toInt + 1 := ax18
            refine lv_iload_n hx hb dX9_planFrom_141 rfl (lv_at hl 2 rfl) ?_
            refine e_Vv (As := [.int x18, .int a_b]) (rest := []) X Y hT hS (m_X9_planFrom_3 hR17 x18 a_b hx18 h3) mk_X9_planFrom gm_1927 rfl rfl (by decide) hd_X9_planFrom ⟨rfl, rfl⟩ ⟨Nat.le_of_ble_eq_true rfl, Nat.le_of_ble_eq_true rfl⟩ hl.1 rfl (Nat.le_of_ble_eq_true rfl) dX9_planFrom_142 ⟨Nat.zero_le _, Nat.zero_le _⟩ (fun i19 g19 H locs hq hT hS => ?_)
            obtain ⟨hR19, hf19⟩ := hq
            have hF19 := Fr_tr hF17 hf19 (by decide)
            obtain ⟨x20, ex20⟩ : ∃ y : Int32, y = x102_4 + 1 := ⟨_, rfl⟩
            refine lv_iinc (v := x20) (lv' := [(4, .int x20), (0, .ref (h 96)), (1, .int a_a), (2, .int a_b), (3, .int x6)]) hx hb dX9_planFrom_145 hl (k := 4) rfl (by rw [ex20]; rfl) (by decide) rfl (fun ls hl => ?_)
            obtain ⟨hx20, ax20⟩ := rg_add 0 0 ex20 h16 (rg_k (by decide) : rg 1 1 1) (by decide)
            replace ax20 : x20.toInt = x102_4.toInt + 1 := ax20
            refine lv_goto (tgt := 102) hx hb dX9_planFrom_148 (by decide) ?_
            exact ih10_ x20 i19 g19 _ _ _ (rg_w hx20 (by decide) : rg (-1) 6 x20) hR19 hF19 hT hS (lv_sub hl [1, 2, 3, 4, 0] rfl) (m_up ax20 hx20 (by decide) hm10_)
          ·
            have q15 : ¬ x102_4.toInt = (-1) := i_ne c15
            have h21 : rg 0 5 x102_4 := t_nelo 0 h14 (rg_k (by decide) : rg (-1) (-1) (-1)) (i_ne c15) (by decide)
            refine lv_iload_n hx hb dX9_planFrom_117 rfl (lv_at hl 3 rfl) ?_
            refine lv_iload hx hb dX9_planFrom_118 (lv_at hl 4 rfl) ?_
            refine e_Si (As := [.int x6, .int x102_4]) (rest := []) X Y hT hS (m_X9_isBit x6 x102_4) sk_X9_isBit gm_1670 hd_X9_isBit ⟨rfl, rfl⟩ ⟨Nat.le_of_ble_eq_true rfl, Nat.le_of_ble_eq_true rfl⟩ hl.1 rfl (Nat.le_of_ble_eq_true rfl) dX9_planFrom_120 ⟨Nat.zero_le _, Nat.zero_le _⟩ (fun r22 i22 g22 H locs hq hT hS => ?_)
            rcases hq with hq | hq
            ·
              obtain ⟨eh22, rfl, hf22_0⟩ := hq
              rw [(Prod.mk.inj eh22).1, (Prod.mk.inj eh22).2] at hT
              replace hf22_0 : (((x6 : Int32) >>> ((x102_4 : Int32) &&& 31)) &&& 1 = 1) := hf22_0
              refine lv_if_ne (tgt := 129) hx hb dX9_planFrom_123 (by decide) (fun c23 => ?_) (fun c23 => (x_eq (rg_k (by decide) : rg 1 1 1) (rg_k (by decide) : rg 0 0 0) (i_eq c23) (by decide)).elim)
              refine lv_aload_n hx hb dX9_planFrom_129 rfl (lv_at hl 0 rfl) ?_
              refine r_getr X hT 96 40 117 fk_9_77 rfl rfl (by decide) dX9_planFrom_130 ?_
              refine lv_iload_n hx hb dX9_planFrom_133 rfl (lv_at hl 1 rfl) ?_
              refine lv_iload hx hb dX9_planFrom_134 (lv_at hl 4 rfl) ?_
              refine r_iastc X hT hS 117 2 rfl (by decide) (v_in ha_a (by decide)) (cl_c ha_a 2 rfl (by decide)) dX9_planFrom_136 (fun H locs i24 ei24 hT hS => ?_)
              have hR24 := Rg_put hR9 ei24 (-2147483648) 2147483647 rfl h21 (by decide)
              have hF24 := Fr_puti hF9 ei24 (by decide)
              refine lv_aload_n hx hb dX9_planFrom_137 rfl (lv_at hl 0 rfl) ?_
              refine lv_iload_n hx hb dX9_planFrom_138 rfl (lv_at hl 1 rfl) ?_
              refine lv_iconst (v := 1) hx hb dX9_planFrom_139 (by decide) ?_
              refine q_iadd hx hb dX9_planFrom_140 (fun x25 ex25 => ?_)
              obtain ⟨hx25, ax25⟩ := rg_add 3 3 ex25 ha_a (rg_k (by decide) : rg 1 1 1) (by decide)
              replace ax25 : x25.toInt = a_a.toInt + 1 := ax25
              refine lv_iload_n hx hb dX9_planFrom_141 rfl (lv_at hl 2 rfl) ?_
              refine e_Vv (As := [.int x25, .int a_b]) (rest := []) X Y hT hS (m_X9_planFrom_3 hR24 x25 a_b hx25 h3) mk_X9_planFrom gm_1927 rfl rfl (by decide) hd_X9_planFrom ⟨rfl, rfl⟩ ⟨Nat.le_of_ble_eq_true rfl, Nat.le_of_ble_eq_true rfl⟩ hl.1 rfl (Nat.le_of_ble_eq_true rfl) dX9_planFrom_142 ⟨Nat.zero_le _, Nat.zero_le _⟩ (fun i26 g26 H locs hq hT hS => ?_)
              obtain ⟨hR26, hf26⟩ := hq
              have hF26 := Fr_tr hF24 hf26 (by decide)
              obtain ⟨x27, ex27⟩ : ∃ y : Int32, y = x102_4 + 1 := ⟨_, rfl⟩
              refine lv_iinc (v := x27) (lv' := [(4, .int x27), (0, .ref (h 96)), (1, .int a_a), (2, .int a_b), (3, .int x6)]) hx hb dX9_planFrom_145 hl (k := 4) rfl (by rw [ex27]; rfl) (by decide) rfl (fun ls hl => ?_)
              obtain ⟨hx27, ax27⟩ := rg_add 1 6 ex27 h21 (rg_k (by decide) : rg 1 1 1) (by decide)
              replace ax27 : x27.toInt = x102_4.toInt + 1 := ax27
              refine lv_goto (tgt := 102) hx hb dX9_planFrom_148 (by decide) ?_
              exact ih10_ x27 i26 g26 _ _ _ (rg_w hx27 (by decide) : rg (-1) 6 x27) hR26 hF26 hT hS (lv_sub hl [1, 2, 3, 4, 0] rfl) (m_up ax27 hx27 (by decide) hm10_)
            ·
              obtain ⟨eh22, rfl, hf22_0⟩ := hq
              rw [(Prod.mk.inj eh22).1, (Prod.mk.inj eh22).2] at hT
              replace hf22_0 : ¬ (((x6 : Int32) >>> ((x102_4 : Int32) &&& 31)) &&& 1 = 1) := hf22_0
              refine lv_if_ne (tgt := 129) hx hb dX9_planFrom_123 (by decide) (fun c28 => (x_ne (rg_k (by decide) : rg 0 0 0) (rg_k (by decide) : rg 0 0 0) (i_ne c28) (by decide)).elim) (fun c28 => ?_)
              refine lv_goto (tgt := 145) hx hb dX9_planFrom_126 (by decide) ?_
              obtain ⟨x29, ex29⟩ : ∃ y : Int32, y = x102_4 + 1 := ⟨_, rfl⟩
              refine lv_iinc (v := x29) (lv' := [(4, .int x29), (0, .ref (h 96)), (1, .int a_a), (2, .int a_b), (3, .int x6)]) hx hb dX9_planFrom_145 hl (k := 4) rfl (by rw [ex29]; rfl) (by decide) rfl (fun ls hl => ?_)
              obtain ⟨hx29, ax29⟩ := rg_add 1 6 ex29 h21 (rg_k (by decide) : rg 1 1 1) (by decide)
              replace ax29 : x29.toInt = x102_4.toInt + 1 := ax29
              refine lv_goto (tgt := 102) hx hb dX9_planFrom_148 (by decide) ?_
              exact ih10_ x29 i9 g9 _ _ _ (rg_w hx29 (by decide) : rg (-1) 6 x29) hR9 hF9 hT hS (lv_sub hl [1, 2, 3, 4, 0] rfl) (m_up ax29 hx29 (by decide) hm10_)
    exact L102_8 _ ((-1)) i1 g1 _ _ _ (rg_w (rg_k (by decide) : rg (-1) (-1) (-1)) (by decide) : rg (-1) 6 (-1)) hR1 hF1 hT hS (lv_sub hl [2, 3, 4, 1, 0] rfl) (Nat.lt_succ_self _)
  ·
    have q2 : a_a.toInt = a_b.toInt := i_eq c2
    have h30 : rg 2 2 a_b := t_eqy 2 2 ha_a ha_b (i_eq c2) (by decide)
    refine lv_aload_n hx hb dX9_planFrom_10 rfl (lv_at hl 0 rfl) ?_
    refine e_Vi (As := []) (rest := []) X Y hT hS (m_X9_readAll hR1) mk_X9_readAll gm_1770 rfl rfl (by decide) hd_X9_readAll ⟨rfl, rfl⟩ ⟨Nat.le_of_ble_eq_true rfl, Nat.le_of_ble_eq_true rfl⟩ hl.1 rfl (Nat.le_of_ble_eq_true rfl) dX9_planFrom_11 ⟨Nat.zero_le _, Nat.zero_le _⟩ (fun r31 i31 g31 H locs hq hT hS => ?_)
    have eh31 := hq
    rw [(Prod.mk.inj eh31).1, (Prod.mk.inj eh31).2] at hT
    refine lv_istore_n (lv' := [(3, .int r31), (0, .ref (h 96)), (1, .int a_a), (2, .int a_b)]) hx hb dX9_planFrom_14 rfl hl (by decide) rfl (fun ls hl => ?_)
    refine lv_iload_n hx hb dX9_planFrom_15 rfl (lv_at hl 0 rfl) ?_
    refine lv_aload_n hx hb dX9_planFrom_16 rfl (lv_at hl 1 rfl) ?_
    refine r_geti X hT 96 37 fk_9_375 rfl rfl (by decide) dX9_planFrom_17 ?_
    have J62_33 : ∀  (i34 : Nat → Nat → Int32) (g34 : Nat → Nat → Int64) (H : Heap) (locs : List Loc) (ls : Array Slot), Rg rA i34 → Fr [96, 109, 110, 111, 112, 113, 114, 115, 116, 117] [] i g (i34, g34) → TH D h cz i34 g34 H → va_S (hA h) s.heap H locs → lv_has ls 5 [(0, .ref (h 96)), (3, .int r31)] → W p l e ({ frames := 9, cells := 0, slots := 0, locals := 206 } : Room) s m args below meth c H locs 0 0 Q (F0 m 62 ls []) := by
      intro  i34 g34 H locs ls hR34 hF34 hT hS hl
      refine lv_aload_n hx hb dX9_planFrom_62 rfl (lv_at hl 0 rfl) ?_
      refine lv_dup hx hb dX9_planFrom_63 rfl ?_
      refine r_geti X hT 96 38 fk_9_378 rfl rfl (by decide) dX9_planFrom_64 ?_
      refine lv_iload_n hx hb dX9_planFrom_67 rfl (lv_at hl 1 rfl) ?_
      refine lv_aload_n hx hb dX9_planFrom_68 rfl (lv_at hl 0 rfl) ?_
      refine r_geti X hT 96 37 fk_9_375 rfl rfl (by decide) dX9_planFrom_69 ?_
      refine lv_icmp_ne (tgt := 79) hx hb dX9_planFrom_72 (by decide) (fun c35 => ?_) (fun c35 => ?_)
      ·
        have q35 : ¬ r31.toInt = (i34 96 37).toInt := i_ne c35
        refine lv_iconst (v := 0) hx hb dX9_planFrom_79 (by decide) ?_
        refine q_iadd hx hb dX9_planFrom_80 (fun x36 ex36 => ?_)
        obtain ⟨hx36, ax36⟩ := rg_add (-2147483648) 2147483647 ex36 (rg_top (i34 96 38)) (rg_k (by decide) : rg 0 0 0) (by decide)
        replace ax36 : x36.toInt = (i34 96 38).toInt + 0 := ax36
        refine r_puti X hT hS 96 38 pk_9_378 rfl rfl rfl rfl (by decide) dX9_planFrom_81 (fun H locs i37 ei37 hT hS => ?_)
        have hR37 := Rg_put hR34 ei37 (-2147483648) 2147483647 rfl hx36 (by decide)
        have hF37 := Fr_puti hF34 ei37 (by decide)
        exact hret _ _ _ _ _ _ dX9_planFrom_84 hT hS ⟨hR37, hF37⟩
      ·
        have q35 : r31.toInt = (i34 96 37).toInt := i_eq c35
        refine lv_iconst (v := 1) hx hb dX9_planFrom_75 (by decide) ?_
        refine lv_goto (tgt := 80) hx hb dX9_planFrom_76 (by decide) ?_
        refine q_iadd hx hb dX9_planFrom_80 (fun x38 ex38 => ?_)
        refine r_puti X hT hS 96 38 pk_9_378 rfl rfl rfl rfl (by decide) dX9_planFrom_81 (fun H locs i39 ei39 hT hS => ?_)
        have hR39 := Rg_put hR34 ei39 (-2147483648) 2147483647 rfl (rg_top x38) (by decide)
        have hF39 := Fr_puti hF34 ei39 (by decide)
        exact hret _ _ _ _ _ _ dX9_planFrom_84 hT hS ⟨hR39, hF39⟩
    refine lv_icmp_le (tgt := 62) hx hb dX9_planFrom_20 (by decide) (fun c32 => ?_) (fun c32 => ?_)
    ·
      have q32 : r31.toInt ≤ (i1 96 37).toInt := i_le c32
      exact J62_33 i1 g1 _ _ _ hR1 hF1 hT hS (lv_sub hl [1, 0] rfl)
    ·
      have q32 : (i1 96 37).toInt < r31.toInt := i_nle c32
      have h40 : rg (-2147483648) 2147483646 (i1 96 37) := t_ltx (-2147483648) 2147483646 (rg_top (i1 96 37)) (rg_top r31) (i_nle c32) (by decide)
      have h41 : rg (-2147483647) 2147483647 r31 := t_lty (-2147483647) 2147483647 (rg_top (i1 96 37)) (rg_top r31) (i_nle c32) (by decide)
      refine lv_aload_n hx hb dX9_planFrom_23 rfl (lv_at hl 1 rfl) ?_
      refine lv_iload_n hx hb dX9_planFrom_24 rfl (lv_at hl 0 rfl) ?_
      refine r_puti X hT hS 96 37 pk_9_375 rfl rfl rfl rfl (by decide) dX9_planFrom_25 (fun H locs i42 ei42 hT hS => ?_)
      have hR42 := Rg_put hR1 ei42 (-2147483648) 2147483647 rfl h41 (by decide)
      have hF42 := Fr_puti hF1 ei42 (by decide)
      refine lv_aload_n hx hb dX9_planFrom_28 rfl (lv_at hl 1 rfl) ?_
      refine lv_iconst (v := 0) hx hb dX9_planFrom_29 (by decide) ?_
      refine r_puti X hT hS 96 38 pk_9_378 rfl rfl rfl rfl (by decide) dX9_planFrom_30 (fun H locs i43 ei43 hT hS => ?_)
      have hR43 := Rg_put hR42 ei43 (-2147483648) 2147483647 rfl (rg_k (by decide) : rg 0 0 0) (by decide)
      have hF43 := Fr_puti hF42 ei43 (by decide)
      refine lv_iconst (v := 0) hx hb dX9_planFrom_33 (by decide) ?_
      refine lv_istore (lv' := [(4, .int 0), (3, .int r31), (0, .ref (h 96)), (1, .int a_a), (2, .int a_b)]) hx hb dX9_planFrom_34 hl (by decide) rfl (fun ls hl => ?_)
      have L36_44 : ∀ (n46_ : Nat) (x36_1_4 : Int32) (i45 : Nat → Nat → Int32) (g45 : Nat → Nat → Int64) (H : Heap) (locs : List Loc) (ls : Array Slot), rg 0 2 x36_1_4 → Rg rA i45 → Fr [96, 109, 110, 111, 112, 113, 114, 115, 116, 117] [] i g (i45, g45) → TH D h cz i45 g45 H → va_S (hA h) s.heap H locs → lv_has ls 5 [(0, .ref (h 96)), (2, .int a_b), (3, .int r31), (4, .int x36_1_4)] → (2 - x36_1_4.toInt).toNat < n46_ → W p l e ({ frames := 9, cells := 0, slots := 0, locals := 206 } : Room) s m args below meth c H locs 0 0 Q (F0 m 36 ls []) := by
        intro n46_
        induction n46_ with
        | zero => intro x36_1_4 i45 g45 H locs ls hhx36_1_4 hR45 hF45 hT hS hl hm46_; exact absurd hm46_ (Nat.not_lt_zero _)
        | succ n46_ ih46_ =>
          intro x36_1_4 i45 g45 H locs ls hhx36_1_4 hR45 hF45 hT hS hl hm46_
          refine lv_iload hx hb dX9_planFrom_36 (lv_at hl 3 rfl) ?_
          refine lv_iload_n hx hb dX9_planFrom_38 rfl (lv_at hl 1 rfl) ?_
          refine lv_icmp_ge (tgt := 62) hx hb dX9_planFrom_39 (by decide) (fun c47 => ?_) (fun c47 => ?_)
          ·
            have q47 : a_b.toInt ≤ x36_1_4.toInt := i_le c47
            have h48 : rg 2 2 x36_1_4 := t_ley 2 2 h30 hhx36_1_4 (i_le c47) (by decide)
            exact J62_33 i45 g45 _ _ _ hR45 hF45 hT hS (lv_sub hl [0, 2] rfl)
          ·
            have q47 : x36_1_4.toInt < a_b.toInt := i_nle c47
            have h49 : rg 0 1 x36_1_4 := t_ltx 0 1 hhx36_1_4 h30 (i_nle c47) (by decide)
            refine lv_aload_n hx hb dX9_planFrom_42 rfl (lv_at hl 0 rfl) ?_
            refine r_getr X hT 96 39 116 fk_9_74 rfl rfl (by decide) dX9_planFrom_43 ?_
            refine lv_iload hx hb dX9_planFrom_46 (lv_at hl 3 rfl) ?_
            refine lv_aload_n hx hb dX9_planFrom_48 rfl (lv_at hl 0 rfl) ?_
            refine r_getr X hT 96 40 117 fk_9_77 rfl rfl (by decide) dX9_planFrom_49 ?_
            refine lv_iload hx hb dX9_planFrom_52 (lv_at hl 3 rfl) ?_
            refine r_iald X hT 117 rfl (by decide) (v_in h49 (by decide)) dX9_planFrom_54 ?_
            refine r_iast X hT hS 116 rfl (by decide) (v_in h49 (by decide)) dX9_planFrom_55 (fun H locs i50 ei50 hT hS => ?_)
            have hR50 := Rg_put hR45 ei50 (-2147483648) 2147483647 rfl (rg_top (i45 117 x36_1_4.toNatClampNeg)) (by decide)
            have hF50 := Fr_puti hF45 ei50 (by decide)
            obtain ⟨x51, ex51⟩ : ∃ y : Int32, y = x36_1_4 + 1 := ⟨_, rfl⟩
            refine lv_iinc (v := x51) (lv' := [(4, .int x51), (0, .ref (h 96)), (2, .int a_b), (3, .int r31)]) hx hb dX9_planFrom_56 hl (k := 3) rfl (by rw [ex51]; rfl) (by decide) rfl (fun ls hl => ?_)
            obtain ⟨hx51, ax51⟩ := rg_add 1 2 ex51 h49 (rg_k (by decide) : rg 1 1 1) (by decide)
            replace ax51 : x51.toInt = x36_1_4.toInt + 1 := ax51
            refine lv_goto (tgt := 36) hx hb dX9_planFrom_59 (by decide) ?_
            exact ih46_ x51 i50 g45 _ _ _ (rg_w hx51 (by decide) : rg 0 2 x51) hR50 hF50 hT hS (lv_sub hl [1, 2, 3, 0] rfl) (m_up ax51 hx51 (by decide) hm46_)
      exact L36_44 _ (0) i43 g1 _ _ _ (rg_w (rg_k (by decide) : rg 0 0 0) (by decide) : rg 0 2 0) hR43 hF43 hT hS (lv_sub hl [2, 4, 1, 0] rfl) (Nat.lt_succ_self _)
