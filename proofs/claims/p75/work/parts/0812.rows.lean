set_option maxRecDepth 100000 in
set_option maxHeartbeats 4000000 in
theorem m_X9_dull {l : Launch} {D : va_G} {h : Nat → Nat} {cz : Nat → ClassId} {z : EZ} {i : Nat → Nat → Int32} {g : Nat → Nat → Int64} (hR : Rg rA i) (a_a : Int32) : DtI l yX9_dull cX9_dull 4 (some .int) ({ frames := 6, cells := 0, slots := 0, locals := 132 } : Room) D h cz z i g [.ref (h 96), .int a_a] (fun r u => Rg rA u.1 ∧ Fr [96, 109, 110, 111, 112, 113, 114, 115] [] i g u ∧ rg (-2) 255 r) := by
  refine e_I pn_X9_dull (Nat.le_of_ble_eq_true rfl) ?_
  intro p e s m args below meth c ls Q X Y hret hT hl hS
  have hx := X.1
  have hb := X.2.1
  have hl : lv_has ls 4 [(0, .ref (h 96)), (1, .int a_a)] := hl
  have hF : Fr [96, 109, 110, 111, 112, 113, 114, 115] [] i g (i, g) := Fr_rf _ _ _ _
  refine lv_aload_n hx hb dX9_dull_0 rfl (lv_at hl 0 rfl) ?_
  refine lv_iconst (v := 0) hx hb dX9_dull_1 (by decide) ?_
  refine r_puti X hT hS 96 0 pk_9_83 rfl rfl rfl rfl (by decide) dX9_dull_2 (fun H locs i1 ei1 hT hS => ?_)
  have hR1 := Rg_put hR ei1 (-2147483648) 2147483647 rfl (rg_k (by decide) : rg 0 0 0) (by decide)
  have hF1 := Fr_puti hF ei1 (by decide)
  refine lv_aload_n hx hb dX9_dull_5 rfl (lv_at hl 0 rfl) ?_
  refine lv_iload_n hx hb dX9_dull_6 rfl (lv_at hl 1 rfl) ?_
  refine q_i2l hx hb dX9_dull_7 (fun y2 ey2 => ?_)
  obtain ⟨hy2, ay2⟩ := rg_i2l ey2 (rg_top a_a)
  refine e_Vi (As := [.long y2]) (rest := []) X Y hT hS (m_X9_isYear hR1 y2) mk_X9_isYear gm_1681 rfl rfl (by decide) hd_X9_isYear ⟨rfl, rfl⟩ ⟨Nat.le_of_ble_eq_true rfl, Nat.le_of_ble_eq_true rfl⟩ hl.1 rfl (Nat.le_of_ble_eq_true rfl) dX9_dull_8 ⟨Nat.zero_le _, Nat.zero_le _⟩ (fun r3 i3 g3 H locs hq hT hS => ?_)
  rcases hq with hq | hq
  ·
    obtain ⟨eh3, rfl, hf3_0⟩ := hq
    rw [(Prod.mk.inj eh3).1, (Prod.mk.inj eh3).2] at hT
    have h4 : rgL 0 12 y2 := ⟨by have := hy2.1; have := hf3_0.1; omega, by have := hy2.2; have := hf3_0.2; omega⟩
    have h5 : rg 0 12 a_a := ⟨by have := h4.1; have := (rg_top a_a).1; have := ay2; omega, by have := h4.2; have := (rg_top a_a).2; have := ay2; omega⟩
    refine lv_if_ne (tgt := 17) hx hb dX9_dull_11 (by decide) (fun c6 => ?_) (fun c6 => (x_eq (rg_k (by decide) : rg 1 1 1) (rg_k (by decide) : rg 0 0 0) (i_eq c6) (by decide)).elim)
    refine lv_aload_n hx hb dX9_dull_17 rfl (lv_at hl 0 rfl) ?_
    refine e_Vv (As := []) (rest := []) X Y hT hS (m_X9_laysNow hR1) mk_X9_laysNow gm_1693 rfl rfl (by decide) hd_X9_laysNow ⟨rfl, rfl⟩ ⟨Nat.le_of_ble_eq_true rfl, Nat.le_of_ble_eq_true rfl⟩ hl.1 rfl (Nat.le_of_ble_eq_true rfl) dX9_dull_18 ⟨Nat.zero_le _, Nat.zero_le _⟩ (fun i7 g7 H locs hq hT hS => ?_)
    obtain ⟨hR7, hf7⟩ := hq
    have hF7 := Fr_tr hF1 hf7 (by decide)
    refine lv_iconst (v := 0) hx hb dX9_dull_21 (by decide) ?_
    refine lv_istore_n (lv' := [(2, .int 0), (0, .ref (h 96)), (1, .int a_a)]) hx hb dX9_dull_22 rfl hl (by decide) rfl (fun ls hl => ?_)
    refine lv_iconst (v := 0) hx hb dX9_dull_23 (by decide) ?_
    refine lv_istore_n (lv' := [(3, .int 0), (2, .int 0), (0, .ref (h 96)), (1, .int a_a)]) hx hb dX9_dull_24 rfl hl (by decide) rfl (fun ls hl => ?_)
    have L25_8 : ∀ (n9_ : Nat) (x25_2 : Int32) (x25_3 : Int32) (H : Heap) (locs : List Loc) (ls : Array Slot), rg 0 255 x25_2 → rg 0 6 x25_3 → TH D h cz i7 g7 H → va_S (hA h) s.heap H locs → lv_has ls 4 [(0, .ref (h 96)), (1, .int a_a), (2, .int x25_2), (3, .int x25_3)] → (6 - x25_3.toInt).toNat < n9_ → W p l e ({ frames := 6, cells := 0, slots := 0, locals := 132 } : Room) s m args below meth c H locs 0 0 Q (F0 m 25 ls []) := by
      intro n9_
      induction n9_ with
      | zero => intro x25_2 x25_3 H locs ls hhx25_2 hhx25_3 hT hS hl hm9_; exact absurd hm9_ (Nat.not_lt_zero _)
      | succ n9_ ih9_ =>
        intro x25_2 x25_3 H locs ls hhx25_2 hhx25_3 hT hS hl hm9_
        refine lv_iload_n hx hb dX9_dull_25 rfl (lv_at hl 3 rfl) ?_
        refine lv_aload_n hx hb dX9_dull_26 rfl (lv_at hl 0 rfl) ?_
        refine e_Vi (As := []) (rest := [.int x25_3]) X Y hT hS (m_X9_parts hR7) mk_X9_parts gm_1649 rfl rfl (by decide) hd_X9_parts ⟨rfl, rfl⟩ ⟨Nat.le_of_ble_eq_true rfl, Nat.le_of_ble_eq_true rfl⟩ hl.1 rfl (Nat.le_of_ble_eq_true rfl) dX9_dull_27 ⟨Nat.zero_le _, Nat.zero_le _⟩ (fun r10 i10 g10 H locs hq hT hS => ?_)
        obtain ⟨eh10, hr10⟩ := hq
        rw [(Prod.mk.inj eh10).1, (Prod.mk.inj eh10).2] at hT
        refine lv_icmp_ge (tgt := 58) hx hb dX9_dull_30 (by decide) (fun c11 => ?_) (fun c11 => ?_)
        ·
          have q11 : r10.toInt ≤ x25_3.toInt := i_le c11
          refine lv_iload_n hx hb dX9_dull_58 rfl (lv_at hl 2 rfl) ?_
          exact hret x25_2 _ _ _ _ _ _ dX9_dull_59 hT hS ⟨hR7, hF7, (rg_w hhx25_2 (by decide) : rg (-2) 255 x25_2)⟩
        ·
          have q11 : x25_3.toInt < r10.toInt := i_nle c11
          have h12 : rg 0 5 x25_3 := t_ltx 0 5 hhx25_3 hr10 (i_nle c11) (by decide)
          have h13 : rg 1 6 r10 := t_lty 1 6 hhx25_3 hr10 (i_nle c11) (by decide)
          refine lv_iload_n hx hb dX9_dull_33 rfl (lv_at hl 2 rfl) ?_
          refine lv_aload_n hx hb dX9_dull_34 rfl (lv_at hl 0 rfl) ?_
          refine lv_iload_n hx hb dX9_dull_35 rfl (lv_at hl 3 rfl) ?_
          refine lv_iload_n hx hb dX9_dull_36 rfl (lv_at hl 1 rfl) ?_
          refine e_Vi (As := [.int x25_3, .int a_a]) (rest := [.int x25_2]) X Y hT hS (m_X9_keepsOf hR7 x25_3 a_a h12 h5) mk_X9_keepsOf gm_1778 rfl rfl (by decide) hd_X9_keepsOf ⟨rfl, rfl⟩ ⟨Nat.le_of_ble_eq_true rfl, Nat.le_of_ble_eq_true rfl⟩ hl.1 rfl (Nat.le_of_ble_eq_true rfl) dX9_dull_37 ⟨Nat.zero_le _, Nat.zero_le _⟩ (fun r14 i14 g14 H locs hq hT hS => ?_)
          obtain ⟨eh14, hr14⟩ := hq
          rw [(Prod.mk.inj eh14).1, (Prod.mk.inj eh14).2] at hT
          refine lv_if_ne (tgt := 49) hx hb dX9_dull_40 (by decide) (fun c15 => ?_) (fun c15 => ?_)
          ·
            have q15 : ¬ r14.toInt = 0 := i_ne c15
            refine lv_iconst (v := 0) hx hb dX9_dull_49 (by decide) ?_
            refine q_ior hx hb dX9_dull_50 (fun x16 ex16 => ?_)
            have h17 : rg 0 255 x16 := rg_or8 ex16 hhx25_2 (rg_k (by decide) : rg 0 0 0) (by decide)
            refine lv_istore_n (lv' := [(2, .int x16), (0, .ref (h 96)), (1, .int a_a), (3, .int x25_3)]) hx hb dX9_dull_51 rfl hl (by decide) rfl (fun ls hl => ?_)
            obtain ⟨x18, ex18⟩ : ∃ y : Int32, y = x25_3 + 1 := ⟨_, rfl⟩
            refine lv_iinc (v := x18) (lv' := [(3, .int x18), (2, .int x16), (0, .ref (h 96)), (1, .int a_a)]) hx hb dX9_dull_52 hl (k := 3) rfl (by rw [ex18]; rfl) (by decide) rfl (fun ls hl => ?_)
            obtain ⟨hx18, ax18⟩ := rg_add 1 6 ex18 h12 (rg_k (by decide) : rg 1 1 1) (by decide)
            replace ax18 : x18.toInt = x25_3.toInt + 1 := ax18
            refine lv_goto (tgt := 25) hx hb dX9_dull_55 (by decide) ?_
            exact ih9_ x16 x18 _ _ _ h17 (rg_w hx18 (by decide) : rg 0 6 x18) hT hS (lv_sub hl [2, 3, 1, 0] rfl) (m_up ax18 hx18 (by decide) hm9_)
          ·
            have q15 : r14.toInt = 0 := i_eq c15
            have h19 : rg 0 0 r14 := t_eqx 0 0 hr14 (rg_k (by decide) : rg 0 0 0) (i_eq c15) (by decide)
            refine lv_iconst (v := 1) hx hb dX9_dull_43 (by decide) ?_
            refine lv_iload_n hx hb dX9_dull_44 rfl (lv_at hl 3 rfl) ?_
            refine q_ishl hx hb dX9_dull_45 (fun x20 ex20 => ?_)
            have h21 : rg 1 32 x20 := rg_shl1 ex20 h12 (by decide)
            refine lv_goto (tgt := 50) hx hb dX9_dull_46 (by decide) ?_
            refine q_ior hx hb dX9_dull_50 (fun x22 ex22 => ?_)
            have h23 : rg 0 255 x22 := rg_or8 ex22 hhx25_2 h21 (by decide)
            refine lv_istore_n (lv' := [(2, .int x22), (0, .ref (h 96)), (1, .int a_a), (3, .int x25_3)]) hx hb dX9_dull_51 rfl hl (by decide) rfl (fun ls hl => ?_)
            obtain ⟨x24, ex24⟩ : ∃ y : Int32, y = x25_3 + 1 := ⟨_, rfl⟩
            refine lv_iinc (v := x24) (lv' := [(3, .int x24), (2, .int x22), (0, .ref (h 96)), (1, .int a_a)]) hx hb dX9_dull_52 hl (k := 3) rfl (by rw [ex24]; rfl) (by decide) rfl (fun ls hl => ?_)
            obtain ⟨hx24, ax24⟩ := rg_add 1 6 ex24 h12 (rg_k (by decide) : rg 1 1 1) (by decide)
            replace ax24 : x24.toInt = x25_3.toInt + 1 := ax24
            refine lv_goto (tgt := 25) hx hb dX9_dull_55 (by decide) ?_
            exact ih9_ x22 x24 _ _ _ h23 (rg_w hx24 (by decide) : rg 0 6 x24) hT hS (lv_sub hl [2, 3, 1, 0] rfl) (m_up ax24 hx24 (by decide) hm9_)
    exact L25_8 _ (0) (0) _ _ _ (rg_w (rg_k (by decide) : rg 0 0 0) (by decide) : rg 0 255 0) (rg_w (rg_k (by decide) : rg 0 0 0) (by decide) : rg 0 6 0) hT hS (lv_sub hl [2, 3, 1, 0] rfl) (Nat.lt_succ_self _)
  ·
    obtain ⟨eh3, rfl⟩ := hq
    rw [(Prod.mk.inj eh3).1, (Prod.mk.inj eh3).2] at hT
    refine lv_if_ne (tgt := 17) hx hb dX9_dull_11 (by decide) (fun c25 => (x_ne (rg_k (by decide) : rg 0 0 0) (rg_k (by decide) : rg 0 0 0) (i_ne c25) (by decide)).elim) (fun c25 => ?_)
    refine lv_bipush (v := (-2)) hx hb dX9_dull_14 (by decide) ?_
    exact hret (-2) _ _ _ _ _ _ dX9_dull_16 hT hS ⟨hR1, hF1, (rg_w (rg_k (by decide) : rg (-2) (-2) (-2)) (by decide) : rg (-2) 255 (-2))⟩
set_option maxRecDepth 100000 in
set_option maxHeartbeats 4000000 in
theorem m_X9_dies {l : Launch} {D : va_G} {h : Nat → Nat} {cz : Nat → ClassId} {z : EZ} {i : Nat → Nat → Int32} {g : Nat → Nat → Int64} (hR : Rg rA i) (a_a : Int32) : DtI l yX9_dies cX9_dies 3 (some .int) ({ frames := 6, cells := 0, slots := 0, locals := 132 } : Room) D h cz z i g [.ref (h 96), .int a_a] (fun r u => Rg rA u.1 ∧ Fr [96, 109, 110, 111, 112, 113, 114, 115] [] i g u ∧ rg (-2) 12 r) := by
  refine e_I pn_X9_dies (Nat.le_of_ble_eq_true rfl) ?_
  intro p e s m args below meth c ls Q X Y hret hT hl hS
  have hx := X.1
  have hb := X.2.1
  have hl : lv_has ls 3 [(0, .ref (h 96)), (1, .int a_a)] := hl
  have hF : Fr [96, 109, 110, 111, 112, 113, 114, 115] [] i g (i, g) := Fr_rf _ _ _ _
  refine lv_aload_n hx hb dX9_dies_0 rfl (lv_at hl 0 rfl) ?_
  refine lv_iconst (v := 0) hx hb dX9_dies_1 (by decide) ?_
  refine r_puti X hT hS 96 0 pk_9_83 rfl rfl rfl rfl (by decide) dX9_dies_2 (fun H locs i1 ei1 hT hS => ?_)
  have hR1 := Rg_put hR ei1 (-2147483648) 2147483647 rfl (rg_k (by decide) : rg 0 0 0) (by decide)
  have hF1 := Fr_puti hF ei1 (by decide)
  refine lv_aload_n hx hb dX9_dies_5 rfl (lv_at hl 0 rfl) ?_
  refine lv_iload_n hx hb dX9_dies_6 rfl (lv_at hl 1 rfl) ?_
  refine q_i2l hx hb dX9_dies_7 (fun y2 ey2 => ?_)
  obtain ⟨hy2, ay2⟩ := rg_i2l ey2 (rg_top a_a)
  refine e_Vi (As := [.long y2]) (rest := []) X Y hT hS (m_X9_isPart hR1 y2) mk_X9_isPart gm_1645 rfl rfl (by decide) hd_X9_isPart ⟨rfl, rfl⟩ ⟨Nat.le_of_ble_eq_true rfl, Nat.le_of_ble_eq_true rfl⟩ hl.1 rfl (Nat.le_of_ble_eq_true rfl) dX9_dies_8 ⟨Nat.zero_le _, Nat.zero_le _⟩ (fun r3 i3 g3 H locs hq hT hS => ?_)
  rcases hq with hq | hq
  ·
    obtain ⟨eh3, rfl, hf3_0⟩ := hq
    rw [(Prod.mk.inj eh3).1, (Prod.mk.inj eh3).2] at hT
    have h4 : rgL 0 5 y2 := ⟨by have := hy2.1; have := hf3_0.1; omega, by have := hy2.2; have := hf3_0.2; omega⟩
    have h5 : rg 0 5 a_a := ⟨by have := h4.1; have := (rg_top a_a).1; have := ay2; omega, by have := h4.2; have := (rg_top a_a).2; have := ay2; omega⟩
    refine lv_if_ne (tgt := 17) hx hb dX9_dies_11 (by decide) (fun c6 => ?_) (fun c6 => (x_eq (rg_k (by decide) : rg 1 1 1) (rg_k (by decide) : rg 0 0 0) (i_eq c6) (by decide)).elim)
    refine lv_aload_n hx hb dX9_dies_17 rfl (lv_at hl 0 rfl) ?_
    refine e_Vv (As := []) (rest := []) X Y hT hS (m_X9_laysNow hR1) mk_X9_laysNow gm_1693 rfl rfl (by decide) hd_X9_laysNow ⟨rfl, rfl⟩ ⟨Nat.le_of_ble_eq_true rfl, Nat.le_of_ble_eq_true rfl⟩ hl.1 rfl (Nat.le_of_ble_eq_true rfl) dX9_dies_18 ⟨Nat.zero_le _, Nat.zero_le _⟩ (fun i7 g7 H locs hq hT hS => ?_)
    obtain ⟨hR7, hf7⟩ := hq
    have hF7 := Fr_tr hF1 hf7 (by decide)
    refine lv_iconst (v := 0) hx hb dX9_dies_21 (by decide) ?_
    refine lv_istore_n (lv' := [(2, .int 0), (0, .ref (h 96)), (1, .int a_a)]) hx hb dX9_dies_22 rfl hl (by decide) rfl (fun ls hl => ?_)
    have L23_8 : ∀ (n9_ : Nat) (x23_2 : Int32) (H : Heap) (locs : List Loc) (ls : Array Slot), rg 0 13 x23_2 → TH D h cz i7 g7 H → va_S (hA h) s.heap H locs → lv_has ls 3 [(0, .ref (h 96)), (1, .int a_a), (2, .int x23_2)] → (13 - x23_2.toInt).toNat < n9_ → W p l e ({ frames := 6, cells := 0, slots := 0, locals := 132 } : Room) s m args below meth c H locs 0 0 Q (F0 m 23 ls []) := by
      intro n9_
      induction n9_ with
      | zero => intro x23_2 H locs ls hhx23_2 hT hS hl hm9_; exact absurd hm9_ (Nat.not_lt_zero _)
      | succ n9_ ih9_ =>
        intro x23_2 H locs ls hhx23_2 hT hS hl hm9_
        refine lv_iload_n hx hb dX9_dies_23 rfl (lv_at hl 2 rfl) ?_
        refine lv_aload_n hx hb dX9_dies_24 rfl (lv_at hl 0 rfl) ?_
        refine e_Vi (As := []) (rest := [.int x23_2]) X Y hT hS (m_X9_years hR7) mk_X9_years gm_1689 rfl rfl (by decide) hd_X9_years ⟨rfl, rfl⟩ ⟨Nat.le_of_ble_eq_true rfl, Nat.le_of_ble_eq_true rfl⟩ hl.1 rfl (Nat.le_of_ble_eq_true rfl) dX9_dies_25 ⟨Nat.zero_le _, Nat.zero_le _⟩ (fun r10 i10 g10 H locs hq hT hS => ?_)
        obtain ⟨eh10, hr10⟩ := hq
        rw [(Prod.mk.inj eh10).1, (Prod.mk.inj eh10).2] at hT
        refine lv_icmp_gt (tgt := 48) hx hb dX9_dies_28 (by decide) (fun c11 => ?_) (fun c11 => ?_)
        ·
          have q11 : r10.toInt < x23_2.toInt := i_lt c11
          have h12 : rg 1 13 x23_2 := t_lty 1 13 hr10 hhx23_2 (i_lt c11) (by decide)
          refine lv_iconst (v := (-1)) hx hb dX9_dies_48 (by decide) ?_
          exact hret (-1) _ _ _ _ _ _ dX9_dies_49 hT hS ⟨hR7, hF7, (rg_w (rg_k (by decide) : rg (-1) (-1) (-1)) (by decide) : rg (-2) 12 (-1))⟩
        ·
          have q11 : x23_2.toInt ≤ r10.toInt := i_nlt c11
          have h13 : rg 0 12 x23_2 := t_lex 0 12 hhx23_2 hr10 (i_nlt c11) (by decide)
          refine lv_aload_n hx hb dX9_dies_31 rfl (lv_at hl 0 rfl) ?_
          refine lv_iload_n hx hb dX9_dies_32 rfl (lv_at hl 1 rfl) ?_
          refine lv_iload_n hx hb dX9_dies_33 rfl (lv_at hl 2 rfl) ?_
          refine e_Vi (As := [.int a_a, .int x23_2]) (rest := []) X Y hT hS (m_X9_keepsOf hR7 a_a x23_2 h5 h13) mk_X9_keepsOf gm_1778 rfl rfl (by decide) hd_X9_keepsOf ⟨rfl, rfl⟩ ⟨Nat.le_of_ble_eq_true rfl, Nat.le_of_ble_eq_true rfl⟩ hl.1 rfl (Nat.le_of_ble_eq_true rfl) dX9_dies_34 ⟨Nat.zero_le _, Nat.zero_le _⟩ (fun r14 i14 g14 H locs hq hT hS => ?_)
          obtain ⟨eh14, hr14⟩ := hq
          rw [(Prod.mk.inj eh14).1, (Prod.mk.inj eh14).2] at hT
          refine lv_if_ne (tgt := 42) hx hb dX9_dies_37 (by decide) (fun c15 => ?_) (fun c15 => ?_)
          ·
            have q15 : ¬ r14.toInt = 0 := i_ne c15
            obtain ⟨x16, ex16⟩ : ∃ y : Int32, y = x23_2 + 1 := ⟨_, rfl⟩
            refine lv_iinc (v := x16) (lv' := [(2, .int x16), (0, .ref (h 96)), (1, .int a_a)]) hx hb dX9_dies_42 hl (k := 2) rfl (by rw [ex16]; rfl) (by decide) rfl (fun ls hl => ?_)
            obtain ⟨hx16, ax16⟩ := rg_add 1 13 ex16 h13 (rg_k (by decide) : rg 1 1 1) (by decide)
            replace ax16 : x16.toInt = x23_2.toInt + 1 := ax16
            refine lv_goto (tgt := 23) hx hb dX9_dies_45 (by decide) ?_
            exact ih9_ x16 _ _ _ (rg_w hx16 (by decide) : rg 0 13 x16) hT hS (lv_sub hl [1, 2, 0] rfl) (m_up ax16 hx16 (by decide) hm9_)
          ·
            have q15 : r14.toInt = 0 := i_eq c15
            have h17 : rg 0 0 r14 := t_eqx 0 0 hr14 (rg_k (by decide) : rg 0 0 0) (i_eq c15) (by decide)
            refine lv_iload_n hx hb dX9_dies_40 rfl (lv_at hl 2 rfl) ?_
            exact hret x23_2 _ _ _ _ _ _ dX9_dies_41 hT hS ⟨hR7, hF7, (rg_w h13 (by decide) : rg (-2) 12 x23_2)⟩
    exact L23_8 _ (0) _ _ _ (rg_w (rg_k (by decide) : rg 0 0 0) (by decide) : rg 0 13 0) hT hS (lv_sub hl [1, 2, 0] rfl) (Nat.lt_succ_self _)
  ·
    obtain ⟨eh3, rfl⟩ := hq
    rw [(Prod.mk.inj eh3).1, (Prod.mk.inj eh3).2] at hT
    refine lv_if_ne (tgt := 17) hx hb dX9_dies_11 (by decide) (fun c18 => (x_ne (rg_k (by decide) : rg 0 0 0) (rg_k (by decide) : rg 0 0 0) (i_ne c18) (by decide)).elim) (fun c18 => ?_)
    refine lv_bipush (v := (-2)) hx hb dX9_dies_14 (by decide) ?_
    exact hret (-2) _ _ _ _ _ _ dX9_dies_16 hT hS ⟨hR1, hF1, (rg_w (rg_k (by decide) : rg (-2) (-2) (-2)) (by decide) : rg (-2) 12 (-2))⟩
set_option maxRecDepth 100000 in
set_option maxHeartbeats 4000000 in
theorem m_X9_ages {l : Launch} {D : va_G} {h : Nat → Nat} {cz : Nat → ClassId} {z : EZ} {i : Nat → Nat → Int32} {g : Nat → Nat → Int64} (hR : Rg rA i) (a_a : Int32) : DtI l yX9_ages cX9_ages 2 (some .int) ({ frames := 6, cells := 0, slots := 0, locals := 132 } : Room) D h cz z i g [.ref (h 96), .int a_a] (fun r u => Rg rA u.1 ∧ Fr [96, 109, 110, 111, 112, 113, 114, 115] [] i g u ∧ rg (-100) 99 r) := by
  refine e_I pn_X9_ages (Nat.le_of_ble_eq_true rfl) ?_
  intro p e s m args below meth c ls Q X Y hret hT hl hS
  have hx := X.1
  have hb := X.2.1
  have hl : lv_has ls 2 [(0, .ref (h 96)), (1, .int a_a)] := hl
  have hF : Fr [96, 109, 110, 111, 112, 113, 114, 115] [] i g (i, g) := Fr_rf _ _ _ _
  refine lv_aload_n hx hb dX9_ages_0 rfl (lv_at hl 0 rfl) ?_
  refine lv_iconst (v := 0) hx hb dX9_ages_1 (by decide) ?_
  refine r_puti X hT hS 96 0 pk_9_83 rfl rfl rfl rfl (by decide) dX9_ages_2 (fun H locs i1 ei1 hT hS => ?_)
  have hR1 := Rg_put hR ei1 (-2147483648) 2147483647 rfl (rg_k (by decide) : rg 0 0 0) (by decide)
  have hF1 := Fr_puti hF ei1 (by decide)
  refine lv_aload_n hx hb dX9_ages_5 rfl (lv_at hl 0 rfl) ?_
  refine lv_iload_n hx hb dX9_ages_6 rfl (lv_at hl 1 rfl) ?_
  refine q_i2l hx hb dX9_ages_7 (fun y2 ey2 => ?_)
  obtain ⟨hy2, ay2⟩ := rg_i2l ey2 (rg_top a_a)
  refine e_Vi (As := [.long y2]) (rest := []) X Y hT hS (m_X9_isPart hR1 y2) mk_X9_isPart gm_1645 rfl rfl (by decide) hd_X9_isPart ⟨rfl, rfl⟩ ⟨Nat.le_of_ble_eq_true rfl, Nat.le_of_ble_eq_true rfl⟩ hl.1 rfl (Nat.le_of_ble_eq_true rfl) dX9_ages_8 ⟨Nat.zero_le _, Nat.zero_le _⟩ (fun r3 i3 g3 H locs hq hT hS => ?_)
  rcases hq with hq | hq
  ·
    obtain ⟨eh3, rfl, hf3_0⟩ := hq
    rw [(Prod.mk.inj eh3).1, (Prod.mk.inj eh3).2] at hT
    have h4 : rgL 0 5 y2 := ⟨by have := hy2.1; have := hf3_0.1; omega, by have := hy2.2; have := hf3_0.2; omega⟩
    have h5 : rg 0 5 a_a := ⟨by have := h4.1; have := (rg_top a_a).1; have := ay2; omega, by have := h4.2; have := (rg_top a_a).2; have := ay2; omega⟩
    refine lv_if_ne (tgt := 17) hx hb dX9_ages_11 (by decide) (fun c6 => ?_) (fun c6 => (x_eq (rg_k (by decide) : rg 1 1 1) (rg_k (by decide) : rg 0 0 0) (i_eq c6) (by decide)).elim)
    refine lv_aload_n hx hb dX9_ages_17 rfl (lv_at hl 0 rfl) ?_
    refine e_Vv (As := []) (rest := []) X Y hT hS (m_X9_laysNow hR1) mk_X9_laysNow gm_1693 rfl rfl (by decide) hd_X9_laysNow ⟨rfl, rfl⟩ ⟨Nat.le_of_ble_eq_true rfl, Nat.le_of_ble_eq_true rfl⟩ hl.1 rfl (Nat.le_of_ble_eq_true rfl) dX9_ages_18 ⟨Nat.zero_le _, Nat.zero_le _⟩ (fun i7 g7 H locs hq hT hS => ?_)
    obtain ⟨hR7, hf7⟩ := hq
    have hF7 := Fr_tr hF1 hf7 (by decide)
    refine lv_aload_n hx hb dX9_ages_21 rfl (lv_at hl 0 rfl) ?_
    refine lv_iload_n hx hb dX9_ages_22 rfl (lv_at hl 1 rfl) ?_
    refine lv_aload_n hx hb dX9_ages_23 rfl (lv_at hl 0 rfl) ?_
    refine e_Vi (As := []) (rest := [.int a_a, .ref (h 96)]) X Y hT hS (m_X9_years hR7) mk_X9_years gm_1689 rfl rfl (by decide) hd_X9_years ⟨rfl, rfl⟩ ⟨Nat.le_of_ble_eq_true rfl, Nat.le_of_ble_eq_true rfl⟩ hl.1 rfl (Nat.le_of_ble_eq_true rfl) dX9_ages_24 ⟨Nat.zero_le _, Nat.zero_le _⟩ (fun r8 i8 g8 H locs hq hT hS => ?_)
    obtain ⟨eh8, hr8⟩ := hq
    rw [(Prod.mk.inj eh8).1, (Prod.mk.inj eh8).2] at hT
    refine e_Vi (As := [.int a_a, .int r8]) (rest := []) X Y hT hS (m_X9_stiffAt hR7 a_a r8 h5 hr8) mk_X9_stiffAt gm_1701 rfl rfl (by decide) hd_X9_stiffAt ⟨rfl, rfl⟩ ⟨Nat.le_of_ble_eq_true rfl, Nat.le_of_ble_eq_true rfl⟩ hl.1 rfl (Nat.le_of_ble_eq_true rfl) dX9_ages_27 ⟨Nat.zero_le _, Nat.zero_le _⟩ (fun r9 i9 g9 H locs hq hT hS => ?_)
    obtain ⟨eh9, hr9⟩ := hq
    rw [(Prod.mk.inj eh9).1, (Prod.mk.inj eh9).2] at hT
    refine lv_aload_n hx hb dX9_ages_30 rfl (lv_at hl 0 rfl) ?_
    refine lv_iload_n hx hb dX9_ages_31 rfl (lv_at hl 1 rfl) ?_
    refine lv_iconst (v := 0) hx hb dX9_ages_32 (by decide) ?_
    refine e_Vi (As := [.int a_a, .int 0]) (rest := [.int r9]) X Y hT hS (m_X9_stiffAt hR7 a_a (0) h5 (rg_w (rg_k (by decide) : rg 0 0 0) (by decide) : rg 0 12 0)) mk_X9_stiffAt gm_1701 rfl rfl (by decide) hd_X9_stiffAt ⟨rfl, rfl⟩ ⟨Nat.le_of_ble_eq_true rfl, Nat.le_of_ble_eq_true rfl⟩ hl.1 rfl (Nat.le_of_ble_eq_true rfl) dX9_ages_33 ⟨Nat.zero_le _, Nat.zero_le _⟩ (fun r10 i10 g10 H locs hq hT hS => ?_)
    obtain ⟨eh10, hr10⟩ := hq
    rw [(Prod.mk.inj eh10).1, (Prod.mk.inj eh10).2] at hT
    refine q_isub hx hb dX9_ages_36 (fun x11 ex11 => ?_)
    obtain ⟨hx11, ax11⟩ := rg_sub (-99) 99 ex11 hr9 hr10 (by decide)
    replace ax11 : x11.toInt = r9.toInt - r10.toInt := ax11
    exact hret x11 _ _ _ _ _ _ dX9_ages_37 hT hS ⟨hR7, hF7, (rg_w hx11 (by decide) : rg (-100) 99 x11)⟩
  ·
    obtain ⟨eh3, rfl⟩ := hq
    rw [(Prod.mk.inj eh3).1, (Prod.mk.inj eh3).2] at hT
    refine lv_if_ne (tgt := 17) hx hb dX9_ages_11 (by decide) (fun c12 => (x_ne (rg_k (by decide) : rg 0 0 0) (rg_k (by decide) : rg 0 0 0) (i_ne c12) (by decide)).elim) (fun c12 => ?_)
    refine lv_bipush (v := (-100)) hx hb dX9_ages_14 (by decide) ?_
    exact hret (-100) _ _ _ _ _ _ dX9_ages_16 hT hS ⟨hR1, hF1, (rg_w (rg_k (by decide) : rg (-100) (-100) (-100)) (by decide) : rg (-100) 99 (-100))⟩
set_option maxRecDepth 100000 in
set_option maxHeartbeats 4000000 in
theorem m_X9_cut_ {l : Launch} {D : va_G} {h : Nat → Nat} {cz : Nat → ClassId} {z : EZ} {i : Nat → Nat → Int32} {g : Nat → Nat → Int64} (hR : Rg rA i) (a_a : Int32) : DtI l yX9_cut_ cX9_cut_ 4 (some .int) ({ frames := 6, cells := 0, slots := 0, locals := 132 } : Room) D h cz z i g [.ref (h 96), .int a_a] (fun r u => Rg rA u.1 ∧ Fr [96, 109, 110, 111, 112, 113, 114, 115] [] i g u) := by
  refine e_I pn_X9_cut_ (Nat.le_of_ble_eq_true rfl) ?_
  intro p e s m args below meth c ls Q X Y hret hT hl hS
  have hx := X.1
  have hb := X.2.1
  have hl : lv_has ls 4 [(0, .ref (h 96)), (1, .int a_a)] := hl
  have hF : Fr [96, 109, 110, 111, 112, 113, 114, 115] [] i g (i, g) := Fr_rf _ _ _ _
  refine lv_aload_n hx hb dX9_cut__0 rfl (lv_at hl 0 rfl) ?_
  refine lv_iconst (v := 0) hx hb dX9_cut__1 (by decide) ?_
  refine r_puti X hT hS 96 0 pk_9_83 rfl rfl rfl rfl (by decide) dX9_cut__2 (fun H locs i1 ei1 hT hS => ?_)
  have hR1 := Rg_put hR ei1 (-2147483648) 2147483647 rfl (rg_k (by decide) : rg 0 0 0) (by decide)
  have hF1 := Fr_puti hF ei1 (by decide)
  refine lv_aload_n hx hb dX9_cut__5 rfl (lv_at hl 0 rfl) ?_
  refine lv_iload_n hx hb dX9_cut__6 rfl (lv_at hl 1 rfl) ?_
  refine q_i2l hx hb dX9_cut__7 (fun y2 ey2 => ?_)
  obtain ⟨hy2, ay2⟩ := rg_i2l ey2 (rg_top a_a)
  refine e_Vi (As := [.long y2]) (rest := []) X Y hT hS (m_X9_isYear hR1 y2) mk_X9_isYear gm_1681 rfl rfl (by decide) hd_X9_isYear ⟨rfl, rfl⟩ ⟨Nat.le_of_ble_eq_true rfl, Nat.le_of_ble_eq_true rfl⟩ hl.1 rfl (Nat.le_of_ble_eq_true rfl) dX9_cut__8 ⟨Nat.zero_le _, Nat.zero_le _⟩ (fun r3 i3 g3 H locs hq hT hS => ?_)
  rcases hq with hq | hq
  ·
    obtain ⟨eh3, rfl, hf3_0⟩ := hq
    rw [(Prod.mk.inj eh3).1, (Prod.mk.inj eh3).2] at hT
    have h4 : rgL 0 12 y2 := ⟨by have := hy2.1; have := hf3_0.1; omega, by have := hy2.2; have := hf3_0.2; omega⟩
    have h5 : rg 0 12 a_a := ⟨by have := h4.1; have := (rg_top a_a).1; have := ay2; omega, by have := h4.2; have := (rg_top a_a).2; have := ay2; omega⟩
    refine lv_if_ne (tgt := 17) hx hb dX9_cut__11 (by decide) (fun c6 => ?_) (fun c6 => (x_eq (rg_k (by decide) : rg 1 1 1) (rg_k (by decide) : rg 0 0 0) (i_eq c6) (by decide)).elim)
    refine lv_aload_n hx hb dX9_cut__17 rfl (lv_at hl 0 rfl) ?_
    refine e_Vv (As := []) (rest := []) X Y hT hS (m_X9_laysNow hR1) mk_X9_laysNow gm_1693 rfl rfl (by decide) hd_X9_laysNow ⟨rfl, rfl⟩ ⟨Nat.le_of_ble_eq_true rfl, Nat.le_of_ble_eq_true rfl⟩ hl.1 rfl (Nat.le_of_ble_eq_true rfl) dX9_cut__18 ⟨Nat.zero_le _, Nat.zero_le _⟩ (fun i7 g7 H locs hq hT hS => ?_)
    obtain ⟨hR7, hf7⟩ := hq
    have hF7 := Fr_tr hF1 hf7 (by decide)
    refine lv_iconst (v := 0) hx hb dX9_cut__21 (by decide) ?_
    refine lv_istore_n (lv' := [(2, .int 0), (0, .ref (h 96)), (1, .int a_a)]) hx hb dX9_cut__22 rfl hl (by decide) rfl (fun ls hl => ?_)
    refine lv_iconst (v := 0) hx hb dX9_cut__23 (by decide) ?_
    refine lv_istore_n (lv' := [(3, .int 0), (2, .int 0), (0, .ref (h 96)), (1, .int a_a)]) hx hb dX9_cut__24 rfl hl (by decide) rfl (fun ls hl => ?_)
    have L25_8 : ∀ (n9_ : Nat) (x25_2 : Int32) (x25_3 : Int32) (H : Heap) (locs : List Loc) (ls : Array Slot), rg 0 10 x25_3 → TH D h cz i7 g7 H → va_S (hA h) s.heap H locs → lv_has ls 4 [(0, .ref (h 96)), (1, .int a_a), (2, .int x25_2), (3, .int x25_3)] → (10 - x25_3.toInt).toNat < n9_ → W p l e ({ frames := 6, cells := 0, slots := 0, locals := 132 } : Room) s m args below meth c H locs 0 0 Q (F0 m 25 ls []) := by
      intro n9_
      induction n9_ with
      | zero => intro x25_2 x25_3 H locs ls hhx25_3 hT hS hl hm9_; exact absurd hm9_ (Nat.not_lt_zero _)
      | succ n9_ ih9_ =>
        intro x25_2 x25_3 H locs ls hhx25_3 hT hS hl hm9_
        refine lv_iload_n hx hb dX9_cut__25 rfl (lv_at hl 3 rfl) ?_
        refine lv_aload_n hx hb dX9_cut__26 rfl (lv_at hl 0 rfl) ?_
        refine r_getr X hT 96 17 103 fk_9_34 rfl rfl (by decide) dX9_cut__27 ?_
        refine lv_iconst (v := 4) hx hb dX9_cut__30 (by decide) ?_
        refine r_ialdc X hT 103 4 rfl (by decide) (v_in (rg_k (by decide) : rg 4 4 4) (by decide)) (by decide) dX9_cut__31 ?_
        refine lv_icmp_ge (tgt := 93) hx hb dX9_cut__32 (by decide) (fun c10 => ?_) (fun c10 => ?_)
        ·
          have q10 : (i7 103 4).toInt ≤ x25_3.toInt := i_le c10
          refine lv_iload_n hx hb dX9_cut__93 rfl (lv_at hl 2 rfl) ?_
          exact hret x25_2 _ _ _ _ _ _ dX9_cut__94 hT hS ⟨hR7, hF7⟩
        ·
          have q10 : x25_3.toInt < (i7 103 4).toInt := i_nle c10
          have h11 : rg 0 9 x25_3 := t_ltx 0 9 hhx25_3 (Rg_at hR7 103 4 0 10 (by decide) rfl) (i_nle c10) (by decide)
          have h12 : rg 1 10 (i7 103 4) := t_lty 1 10 hhx25_3 (Rg_at hR7 103 4 0 10 (by decide) rfl) (i_nle c10) (by decide)
          refine lv_iload_n hx hb dX9_cut__35 rfl (lv_at hl 2 rfl) ?_
          refine lv_aload_n hx hb dX9_cut__36 rfl (lv_at hl 0 rfl) ?_
          refine r_getr X hT 96 31 112 fk_9_62 rfl rfl (by decide) dX9_cut__37 ?_
          refine lv_iload_n hx hb dX9_cut__40 rfl (lv_at hl 1 rfl) ?_
          refine r_iald X hT 112 rfl (by decide) (v_in h5 (by decide)) dX9_cut__41 ?_
          refine lv_aload_n hx hb dX9_cut__42 rfl (lv_at hl 0 rfl) ?_
          refine r_getr X hT 96 19 105 fk_9_40 rfl rfl (by decide) dX9_cut__43 ?_
          refine lv_iconst (v := 2) hx hb dX9_cut__46 (by decide) ?_
          refine lv_iload_n hx hb dX9_cut__47 rfl (lv_at hl 3 rfl) ?_
          refine q_imul hx hb dX9_cut__48 (fun x13 ex13 => ?_)
          obtain ⟨hx13, ax13⟩ := rg_mul 0 18 ex13 (rg_k (by decide) : rg 2 2 2) h11 (by decide)
          replace ax13 : x13.toInt = 2 * x25_3.toInt := ax13
          refine r_iald X hT 105 rfl (by decide) (v_in hx13 (by decide)) dX9_cut__49 ?_
          refine e_Si (As := [.int (i7 112 a_a.toNatClampNeg), .int (i7 105 x13.toNatClampNeg)]) (rest := [.int x25_2]) X Y hT hS (m_X9_isBit (i7 112 a_a.toNatClampNeg) (i7 105 x13.toNatClampNeg)) sk_X9_isBit gm_1670 hd_X9_isBit ⟨rfl, rfl⟩ ⟨Nat.le_of_ble_eq_true rfl, Nat.le_of_ble_eq_true rfl⟩ hl.1 rfl (Nat.le_of_ble_eq_true rfl) dX9_cut__50 ⟨Nat.zero_le _, Nat.zero_le _⟩ (fun r14 i14 g14 H locs hq hT hS => ?_)
          rcases hq with hq | hq
          ·
            obtain ⟨eh14, rfl, hf14_0⟩ := hq
            rw [(Prod.mk.inj eh14).1, (Prod.mk.inj eh14).2] at hT
            replace hf14_0 : ((((i7 112 a_a.toNatClampNeg) : Int32) >>> (((i7 105 x13.toNatClampNeg) : Int32) &&& 31)) &&& 1 = 1) := hf14_0
            refine lv_if_ne (tgt := 78) hx hb dX9_cut__53 (by decide) (fun c15 => ?_) (fun c15 => (x_eq (rg_k (by decide) : rg 1 1 1) (rg_k (by decide) : rg 0 0 0) (i_eq c15) (by decide)).elim)
            refine lv_iconst (v := 1) hx hb dX9_cut__78 (by decide) ?_
            refine lv_iload_n hx hb dX9_cut__79 rfl (lv_at hl 3 rfl) ?_
            refine q_ishl hx hb dX9_cut__80 (fun x16 ex16 => ?_)
            have h17 : rg 1 512 x16 := rg_shl1 ex16 h11 (by decide)
            refine lv_goto (tgt := 85) hx hb dX9_cut__81 (by decide) ?_
            refine q_ior hx hb dX9_cut__85 (fun x18 ex18 => ?_)
            refine lv_istore_n (lv' := [(2, .int x18), (0, .ref (h 96)), (1, .int a_a), (3, .int x25_3)]) hx hb dX9_cut__86 rfl hl (by decide) rfl (fun ls hl => ?_)
            obtain ⟨x19, ex19⟩ : ∃ y : Int32, y = x25_3 + 1 := ⟨_, rfl⟩
            refine lv_iinc (v := x19) (lv' := [(3, .int x19), (2, .int x18), (0, .ref (h 96)), (1, .int a_a)]) hx hb dX9_cut__87 hl (k := 3) rfl (by rw [ex19]; rfl) (by decide) rfl (fun ls hl => ?_)
            obtain ⟨hx19, ax19⟩ := rg_add 1 10 ex19 h11 (rg_k (by decide) : rg 1 1 1) (by decide)
            replace ax19 : x19.toInt = x25_3.toInt + 1 := ax19
            refine lv_goto (tgt := 25) hx hb dX9_cut__90 (by decide) ?_
            exact ih9_ x18 x19 _ _ _ (rg_w hx19 (by decide) : rg 0 10 x19) hT hS (lv_sub hl [2, 3, 1, 0] rfl) (m_up ax19 hx19 (by decide) hm9_)
          ·
            obtain ⟨eh14, rfl, hf14_0⟩ := hq
            rw [(Prod.mk.inj eh14).1, (Prod.mk.inj eh14).2] at hT
            replace hf14_0 : ¬ ((((i7 112 a_a.toNatClampNeg) : Int32) >>> (((i7 105 x13.toNatClampNeg) : Int32) &&& 31)) &&& 1 = 1) := hf14_0
            refine lv_if_ne (tgt := 78) hx hb dX9_cut__53 (by decide) (fun c20 => (x_ne (rg_k (by decide) : rg 0 0 0) (rg_k (by decide) : rg 0 0 0) (i_ne c20) (by decide)).elim) (fun c20 => ?_)
            refine lv_aload_n hx hb dX9_cut__56 rfl (lv_at hl 0 rfl) ?_
            refine r_getr X hT 96 31 112 fk_9_62 rfl rfl (by decide) dX9_cut__57 ?_
            refine lv_iload_n hx hb dX9_cut__60 rfl (lv_at hl 1 rfl) ?_
            refine r_iald X hT 112 rfl (by decide) (v_in h5 (by decide)) dX9_cut__61 ?_
            refine lv_aload_n hx hb dX9_cut__62 rfl (lv_at hl 0 rfl) ?_
            refine r_getr X hT 96 19 105 fk_9_40 rfl rfl (by decide) dX9_cut__63 ?_
            refine lv_iconst (v := 2) hx hb dX9_cut__66 (by decide) ?_
            refine lv_iload_n hx hb dX9_cut__67 rfl (lv_at hl 3 rfl) ?_
            refine q_imul hx hb dX9_cut__68 (fun x21 ex21 => ?_)
            obtain ⟨hx21, ax21⟩ := rg_mul 0 18 ex21 (rg_k (by decide) : rg 2 2 2) h11 (by decide)
            replace ax21 : x21.toInt = 2 * x25_3.toInt := ax21
            refine lv_iconst (v := 1) hx hb dX9_cut__69 (by decide) ?_
            refine q_iadd hx hb dX9_cut__70 (fun x22 ex22 => ?_)
            obtain ⟨hx22, ax22⟩ := rg_add 1 19 ex22 hx21 (rg_k (by decide) : rg 1 1 1) (by decide)
            replace ax22 : x22.toInt = x21.toInt + 1 := ax22
            refine r_iald X hT 105 rfl (by decide) (v_in hx22 (by decide)) dX9_cut__71 ?_
            refine e_Si (As := [.int (i7 112 a_a.toNatClampNeg), .int (i7 105 x22.toNatClampNeg)]) (rest := [.int x25_2]) X Y hT hS (m_X9_isBit (i7 112 a_a.toNatClampNeg) (i7 105 x22.toNatClampNeg)) sk_X9_isBit gm_1670 hd_X9_isBit ⟨rfl, rfl⟩ ⟨Nat.le_of_ble_eq_true rfl, Nat.le_of_ble_eq_true rfl⟩ hl.1 rfl (Nat.le_of_ble_eq_true rfl) dX9_cut__72 ⟨Nat.zero_le _, Nat.zero_le _⟩ (fun r23 i23 g23 H locs hq hT hS => ?_)
            rcases hq with hq | hq
            ·
              obtain ⟨eh23, rfl, hf23_0⟩ := hq
              rw [(Prod.mk.inj eh23).1, (Prod.mk.inj eh23).2] at hT
              replace hf23_0 : ((((i7 112 a_a.toNatClampNeg) : Int32) >>> (((i7 105 x22.toNatClampNeg) : Int32) &&& 31)) &&& 1 = 1) := hf23_0
              refine lv_if_eq (tgt := 84) hx hb dX9_cut__75 (by decide) (fun c24 => (x_eq (rg_k (by decide) : rg 1 1 1) (rg_k (by decide) : rg 0 0 0) (i_eq c24) (by decide)).elim) (fun c24 => ?_)
              refine lv_iconst (v := 1) hx hb dX9_cut__78 (by decide) ?_
              refine lv_iload_n hx hb dX9_cut__79 rfl (lv_at hl 3 rfl) ?_
              refine q_ishl hx hb dX9_cut__80 (fun x25 ex25 => ?_)
              have h26 : rg 1 512 x25 := rg_shl1 ex25 h11 (by decide)
              refine lv_goto (tgt := 85) hx hb dX9_cut__81 (by decide) ?_
              refine q_ior hx hb dX9_cut__85 (fun x27 ex27 => ?_)
              refine lv_istore_n (lv' := [(2, .int x27), (0, .ref (h 96)), (1, .int a_a), (3, .int x25_3)]) hx hb dX9_cut__86 rfl hl (by decide) rfl (fun ls hl => ?_)
              obtain ⟨x28, ex28⟩ : ∃ y : Int32, y = x25_3 + 1 := ⟨_, rfl⟩
              refine lv_iinc (v := x28) (lv' := [(3, .int x28), (2, .int x27), (0, .ref (h 96)), (1, .int a_a)]) hx hb dX9_cut__87 hl (k := 3) rfl (by rw [ex28]; rfl) (by decide) rfl (fun ls hl => ?_)
              obtain ⟨hx28, ax28⟩ := rg_add 1 10 ex28 h11 (rg_k (by decide) : rg 1 1 1) (by decide)
              replace ax28 : x28.toInt = x25_3.toInt + 1 := ax28
              refine lv_goto (tgt := 25) hx hb dX9_cut__90 (by decide) ?_
              exact ih9_ x27 x28 _ _ _ (rg_w hx28 (by decide) : rg 0 10 x28) hT hS (lv_sub hl [2, 3, 1, 0] rfl) (m_up ax28 hx28 (by decide) hm9_)
            ·
              obtain ⟨eh23, rfl, hf23_0⟩ := hq
              rw [(Prod.mk.inj eh23).1, (Prod.mk.inj eh23).2] at hT
              replace hf23_0 : ¬ ((((i7 112 a_a.toNatClampNeg) : Int32) >>> (((i7 105 x22.toNatClampNeg) : Int32) &&& 31)) &&& 1 = 1) := hf23_0
              refine lv_if_eq (tgt := 84) hx hb dX9_cut__75 (by decide) (fun c29 => ?_) (fun c29 => (x_ne (rg_k (by decide) : rg 0 0 0) (rg_k (by decide) : rg 0 0 0) (i_ne c29) (by decide)).elim)
              refine lv_iconst (v := 0) hx hb dX9_cut__84 (by decide) ?_
              refine q_ior hx hb dX9_cut__85 (fun x30 ex30 => ?_)
              refine lv_istore_n (lv' := [(2, .int x30), (0, .ref (h 96)), (1, .int a_a), (3, .int x25_3)]) hx hb dX9_cut__86 rfl hl (by decide) rfl (fun ls hl => ?_)
              obtain ⟨x31, ex31⟩ : ∃ y : Int32, y = x25_3 + 1 := ⟨_, rfl⟩
              refine lv_iinc (v := x31) (lv' := [(3, .int x31), (2, .int x30), (0, .ref (h 96)), (1, .int a_a)]) hx hb dX9_cut__87 hl (k := 3) rfl (by rw [ex31]; rfl) (by decide) rfl (fun ls hl => ?_)
              obtain ⟨hx31, ax31⟩ := rg_add 1 10 ex31 h11 (rg_k (by decide) : rg 1 1 1) (by decide)
              replace ax31 : x31.toInt = x25_3.toInt + 1 := ax31
              refine lv_goto (tgt := 25) hx hb dX9_cut__90 (by decide) ?_
              exact ih9_ x30 x31 _ _ _ (rg_w hx31 (by decide) : rg 0 10 x31) hT hS (lv_sub hl [2, 3, 1, 0] rfl) (m_up ax31 hx31 (by decide) hm9_)
    exact L25_8 _ (0) (0) _ _ _ (rg_w (rg_k (by decide) : rg 0 0 0) (by decide) : rg 0 10 0) hT hS (lv_sub hl [2, 3, 1, 0] rfl) (Nat.lt_succ_self _)
  ·
    obtain ⟨eh3, rfl⟩ := hq
    rw [(Prod.mk.inj eh3).1, (Prod.mk.inj eh3).2] at hT
    refine lv_if_ne (tgt := 17) hx hb dX9_cut__11 (by decide) (fun c32 => (x_ne (rg_k (by decide) : rg 0 0 0) (rg_k (by decide) : rg 0 0 0) (i_ne c32) (by decide)).elim) (fun c32 => ?_)
    refine lv_bipush (v := (-2)) hx hb dX9_cut__14 (by decide) ?_
    exact hret (-2) _ _ _ _ _ _ dX9_cut__16 hT hS ⟨hR1, hF1⟩
set_option maxRecDepth 100000 in
set_option maxHeartbeats 4000000 in
theorem m_X9_sharp {l : Launch} {D : va_G} {h : Nat → Nat} {cz : Nat → ClassId} {z : EZ} {i : Nat → Nat → Int32} {g : Nat → Nat → Int64} (hR : Rg rA i) : DtI l yX9_sharp cX9_sharp 1 (some .int) ({ frames := 6, cells := 0, slots := 0, locals := 132 } : Room) D h cz z i g [.ref (h 96)] (fun r u => Rg rA u.1 ∧ Fr [96, 109, 110, 111, 112, 113, 114, 115] [] i g u) := by
  refine e_I pn_X9_sharp (Nat.le_of_ble_eq_true rfl) ?_
  intro p e s m args below meth c ls Q X Y hret hT hl hS
  have hx := X.1
  have hb := X.2.1
  have hl : lv_has ls 1 [(0, .ref (h 96))] := hl
  have hF : Fr [96, 109, 110, 111, 112, 113, 114, 115] [] i g (i, g) := Fr_rf _ _ _ _
  refine lv_aload_n hx hb dX9_sharp_0 rfl (lv_at hl 0 rfl) ?_
  refine lv_iconst (v := 0) hx hb dX9_sharp_1 (by decide) ?_
  refine r_puti X hT hS 96 0 pk_9_83 rfl rfl rfl rfl (by decide) dX9_sharp_2 (fun H locs i1 ei1 hT hS => ?_)
  have hR1 := Rg_put hR ei1 (-2147483648) 2147483647 rfl (rg_k (by decide) : rg 0 0 0) (by decide)
  have hF1 := Fr_puti hF ei1 (by decide)
  refine lv_aload_n hx hb dX9_sharp_5 rfl (lv_at hl 0 rfl) ?_
  refine e_Vi (As := []) (rest := []) X Y hT hS (m_X9_isTale hR1) mk_X9_isTale gm_1685 rfl rfl (by decide) hd_X9_isTale ⟨rfl, rfl⟩ ⟨Nat.le_of_ble_eq_true rfl, Nat.le_of_ble_eq_true rfl⟩ hl.1 rfl (Nat.le_of_ble_eq_true rfl) dX9_sharp_6 ⟨Nat.zero_le _, Nat.zero_le _⟩ (fun r2 i2 g2 H locs hq hT hS => ?_)
  obtain ⟨eh2, hr2⟩ := hq
  rw [(Prod.mk.inj eh2).1, (Prod.mk.inj eh2).2] at hT
  refine lv_if_ne (tgt := 15) hx hb dX9_sharp_9 (by decide) (fun c3 => ?_) (fun c3 => ?_)
  ·
    have q3 : ¬ r2.toInt = 0 := i_ne c3
    have h4 : rg 1 1 r2 := t_nelo 1 hr2 (rg_k (by decide) : rg 0 0 0) (i_ne c3) (by decide)
    refine lv_aload_n hx hb dX9_sharp_15 rfl (lv_at hl 0 rfl) ?_
    refine e_Vv (As := []) (rest := []) X Y hT hS (m_X9_laysNow hR1) mk_X9_laysNow gm_1693 rfl rfl (by decide) hd_X9_laysNow ⟨rfl, rfl⟩ ⟨Nat.le_of_ble_eq_true rfl, Nat.le_of_ble_eq_true rfl⟩ hl.1 rfl (Nat.le_of_ble_eq_true rfl) dX9_sharp_16 ⟨Nat.zero_le _, Nat.zero_le _⟩ (fun i5 g5 H locs hq hT hS => ?_)
    obtain ⟨hR5, hf5⟩ := hq
    have hF5 := Fr_tr hF1 hf5 (by decide)
    refine lv_aload_n hx hb dX9_sharp_19 rfl (lv_at hl 0 rfl) ?_
    refine r_geti X hT 96 35 fk_9_285 rfl rfl (by decide) dX9_sharp_20 ?_
    exact hret (i5 96 35) _ _ _ _ _ _ dX9_sharp_23 hT hS ⟨hR5, hF5⟩
  ·
    have q3 : r2.toInt = 0 := i_eq c3
    have h6 : rg 0 0 r2 := t_eqx 0 0 hr2 (rg_k (by decide) : rg 0 0 0) (i_eq c3) (by decide)
    refine lv_bipush (v := (-2)) hx hb dX9_sharp_12 (by decide) ?_
    exact hret (-2) _ _ _ _ _ _ dX9_sharp_14 hT hS ⟨hR1, hF1⟩
set_option maxRecDepth 100000 in
set_option maxHeartbeats 4000000 in
theorem m_X9_every {l : Launch} {D : va_G} {h : Nat → Nat} {cz : Nat → ClassId} {z : EZ} {i : Nat → Nat → Int32} {g : Nat → Nat → Int64} (hR : Rg rA i) : DtI l yX9_every cX9_every 1 (some .int) ({ frames := 1, cells := 0, slots := 0, locals := 20 } : Room) D h cz z i g [.ref (h 96)] (fun r u => u = (i, g) ∧ rg 0 63 r) := by
  refine e_I pn_X9_every (Nat.le_of_ble_eq_true rfl) ?_
  intro p e s m args below meth c ls Q X Y hret hT hl hS
  have hx := X.1
  have hb := X.2.1
  have hl : lv_has ls 1 [(0, .ref (h 96))] := hl
  refine lv_iconst (v := 1) hx hb dX9_every_0 (by decide) ?_
  refine lv_aload_n hx hb dX9_every_1 rfl (lv_at hl 0 rfl) ?_
  refine e_Vi (As := []) (rest := [.int 1]) X Y hT hS (m_X9_parts hR) mk_X9_parts gm_1649 rfl rfl (by decide) hd_X9_parts ⟨rfl, rfl⟩ ⟨Nat.le_of_ble_eq_true rfl, Nat.le_of_ble_eq_true rfl⟩ hl.1 rfl (Nat.le_of_ble_eq_true rfl) dX9_every_2 ⟨Nat.zero_le _, Nat.zero_le _⟩ (fun r1 i1 g1 H locs hq hT hS => ?_)
  obtain ⟨eh1, hr1⟩ := hq
  rw [(Prod.mk.inj eh1).1, (Prod.mk.inj eh1).2] at hT
  refine q_ishl hx hb dX9_every_5 (fun x2 ex2 => ?_)
  have h3 : rg 1 64 x2 := rg_shl1 ex2 hr1 (by decide)
  refine lv_iconst (v := 1) hx hb dX9_every_6 (by decide) ?_
  refine q_isub hx hb dX9_every_7 (fun x4 ex4 => ?_)
  obtain ⟨hx4, ax4⟩ := rg_sub 0 63 ex4 h3 (rg_k (by decide) : rg 1 1 1) (by decide)
  replace ax4 : x4.toInt = x2.toInt - 1 := ax4
  exact hret x4 _ _ _ _ _ _ dX9_every_8 hT hS ⟨rfl, hx4⟩
set_option maxRecDepth 100000 in
set_option maxHeartbeats 4000000 in
theorem m_X9_uncut {l : Launch} {D : va_G} {h : Nat → Nat} {cz : Nat → ClassId} {z : EZ} {i : Nat → Nat → Int32} {g : Nat → Nat → Int64} (hR : Rg rA i) : DtI l yX9_uncut cX9_uncut 1 (some .int) ({ frames := 6, cells := 0, slots := 0, locals := 132 } : Room) D h cz z i g [.ref (h 96)] (fun r u => Rg rA u.1 ∧ Fr [96, 109, 110, 111, 112, 113, 114, 115] [] i g u ∧ rg (-2) 63 r) := by
  refine e_I pn_X9_uncut (Nat.le_of_ble_eq_true rfl) ?_
  intro p e s m args below meth c ls Q X Y hret hT hl hS
  have hx := X.1
  have hb := X.2.1
  have hl : lv_has ls 1 [(0, .ref (h 96))] := hl
  have hF : Fr [96, 109, 110, 111, 112, 113, 114, 115] [] i g (i, g) := Fr_rf _ _ _ _
  refine lv_aload_n hx hb dX9_uncut_0 rfl (lv_at hl 0 rfl) ?_
  refine lv_iconst (v := 0) hx hb dX9_uncut_1 (by decide) ?_
  refine r_puti X hT hS 96 0 pk_9_83 rfl rfl rfl rfl (by decide) dX9_uncut_2 (fun H locs i1 ei1 hT hS => ?_)
  have hR1 := Rg_put hR ei1 (-2147483648) 2147483647 rfl (rg_k (by decide) : rg 0 0 0) (by decide)
  have hF1 := Fr_puti hF ei1 (by decide)
  refine lv_aload_n hx hb dX9_uncut_5 rfl (lv_at hl 0 rfl) ?_
  refine e_Vi (As := []) (rest := []) X Y hT hS (m_X9_isTale hR1) mk_X9_isTale gm_1685 rfl rfl (by decide) hd_X9_isTale ⟨rfl, rfl⟩ ⟨Nat.le_of_ble_eq_true rfl, Nat.le_of_ble_eq_true rfl⟩ hl.1 rfl (Nat.le_of_ble_eq_true rfl) dX9_uncut_6 ⟨Nat.zero_le _, Nat.zero_le _⟩ (fun r2 i2 g2 H locs hq hT hS => ?_)
  obtain ⟨eh2, hr2⟩ := hq
  rw [(Prod.mk.inj eh2).1, (Prod.mk.inj eh2).2] at hT
  refine lv_if_ne (tgt := 15) hx hb dX9_uncut_9 (by decide) (fun c3 => ?_) (fun c3 => ?_)
  ·
    have q3 : ¬ r2.toInt = 0 := i_ne c3
    have h4 : rg 1 1 r2 := t_nelo 1 hr2 (rg_k (by decide) : rg 0 0 0) (i_ne c3) (by decide)
    refine lv_aload_n hx hb dX9_uncut_15 rfl (lv_at hl 0 rfl) ?_
    refine e_Vv (As := []) (rest := []) X Y hT hS (m_X9_laysNow hR1) mk_X9_laysNow gm_1693 rfl rfl (by decide) hd_X9_laysNow ⟨rfl, rfl⟩ ⟨Nat.le_of_ble_eq_true rfl, Nat.le_of_ble_eq_true rfl⟩ hl.1 rfl (Nat.le_of_ble_eq_true rfl) dX9_uncut_16 ⟨Nat.zero_le _, Nat.zero_le _⟩ (fun i5 g5 H locs hq hT hS => ?_)
    obtain ⟨hR5, hf5⟩ := hq
    have hF5 := Fr_tr hF1 hf5 (by decide)
    refine lv_aload_n hx hb dX9_uncut_19 rfl (lv_at hl 0 rfl) ?_
    refine e_Vi (As := []) (rest := []) X Y hT hS (m_X9_every hR5) mk_X9_every gm_1814 rfl rfl (by decide) hd_X9_every ⟨rfl, rfl⟩ ⟨Nat.le_of_ble_eq_true rfl, Nat.le_of_ble_eq_true rfl⟩ hl.1 rfl (Nat.le_of_ble_eq_true rfl) dX9_uncut_20 ⟨Nat.zero_le _, Nat.zero_le _⟩ (fun r6 i6 g6 H locs hq hT hS => ?_)
    obtain ⟨eh6, hr6⟩ := hq
    rw [(Prod.mk.inj eh6).1, (Prod.mk.inj eh6).2] at hT
    refine lv_aload_n hx hb dX9_uncut_23 rfl (lv_at hl 0 rfl) ?_
    refine r_getr X hT 96 31 112 fk_9_62 rfl rfl (by decide) dX9_uncut_24 ?_
    refine lv_aload_n hx hb dX9_uncut_27 rfl (lv_at hl 0 rfl) ?_
    refine e_Vi (As := []) (rest := [.ref (h 112), .int r6]) X Y hT hS (m_X9_years hR5) mk_X9_years gm_1689 rfl rfl (by decide) hd_X9_years ⟨rfl, rfl⟩ ⟨Nat.le_of_ble_eq_true rfl, Nat.le_of_ble_eq_true rfl⟩ hl.1 rfl (Nat.le_of_ble_eq_true rfl) dX9_uncut_28 ⟨Nat.zero_le _, Nat.zero_le _⟩ (fun r7 i7 g7 H locs hq hT hS => ?_)
    obtain ⟨eh7, hr7⟩ := hq
    rw [(Prod.mk.inj eh7).1, (Prod.mk.inj eh7).2] at hT
    refine r_iald X hT 112 rfl (by decide) (v_in hr7 (by decide)) dX9_uncut_31 ?_
    refine lv_iconst (v := (-1)) hx hb dX9_uncut_32 (by decide) ?_
    refine q_ixor hx hb dX9_uncut_33 (fun x8 ex8 => ?_)
    refine q_iand hx hb dX9_uncut_34 (fun x9 ex9 => ?_)
    have h10 : rg 0 63 x9 := rg_andl ex9 hr6 (by decide)
    exact hret x9 _ _ _ _ _ _ dX9_uncut_35 hT hS ⟨hR5, hF5, (rg_w h10 (by decide) : rg (-2) 63 x9)⟩
  ·
    have q3 : r2.toInt = 0 := i_eq c3
    have h11 : rg 0 0 r2 := t_eqx 0 0 hr2 (rg_k (by decide) : rg 0 0 0) (i_eq c3) (by decide)
    refine lv_bipush (v := (-2)) hx hb dX9_uncut_12 (by decide) ?_
    exact hret (-2) _ _ _ _ _ _ dX9_uncut_14 hT hS ⟨hR1, hF1, (rg_w (rg_k (by decide) : rg (-2) (-2) (-2)) (by decide) : rg (-2) 63 (-2))⟩
set_option maxRecDepth 100000 in
set_option maxHeartbeats 4000000 in
theorem m_X9_done {l : Launch} {D : va_G} {h : Nat → Nat} {cz : Nat → ClassId} {z : EZ} {i : Nat → Nat → Int32} {g : Nat → Nat → Int64} (hR : Rg rA i) : DtI l yX9_done cX9_done 2 (some .int) ({ frames := 6, cells := 0, slots := 0, locals := 132 } : Room) D h cz z i g [.ref (h 96)] (fun r u => Rg rA u.1 ∧ Fr [96, 109, 110, 111, 112, 113, 114, 115] [] i g u ∧ rg (-2) 12 r) := by
  refine e_I pn_X9_done (Nat.le_of_ble_eq_true rfl) ?_
  intro p e s m args below meth c ls Q X Y hret hT hl hS
  have hx := X.1
  have hb := X.2.1
  have hl : lv_has ls 2 [(0, .ref (h 96))] := hl
  have hF : Fr [96, 109, 110, 111, 112, 113, 114, 115] [] i g (i, g) := Fr_rf _ _ _ _
  refine lv_aload_n hx hb dX9_done_0 rfl (lv_at hl 0 rfl) ?_
  refine lv_iconst (v := 0) hx hb dX9_done_1 (by decide) ?_
  refine r_puti X hT hS 96 0 pk_9_83 rfl rfl rfl rfl (by decide) dX9_done_2 (fun H locs i1 ei1 hT hS => ?_)
  have hR1 := Rg_put hR ei1 (-2147483648) 2147483647 rfl (rg_k (by decide) : rg 0 0 0) (by decide)
  have hF1 := Fr_puti hF ei1 (by decide)
  refine lv_aload_n hx hb dX9_done_5 rfl (lv_at hl 0 rfl) ?_
  refine e_Vi (As := []) (rest := []) X Y hT hS (m_X9_isTale hR1) mk_X9_isTale gm_1685 rfl rfl (by decide) hd_X9_isTale ⟨rfl, rfl⟩ ⟨Nat.le_of_ble_eq_true rfl, Nat.le_of_ble_eq_true rfl⟩ hl.1 rfl (Nat.le_of_ble_eq_true rfl) dX9_done_6 ⟨Nat.zero_le _, Nat.zero_le _⟩ (fun r2 i2 g2 H locs hq hT hS => ?_)
  obtain ⟨eh2, hr2⟩ := hq
  rw [(Prod.mk.inj eh2).1, (Prod.mk.inj eh2).2] at hT
  refine lv_if_ne (tgt := 15) hx hb dX9_done_9 (by decide) (fun c3 => ?_) (fun c3 => ?_)
  ·
    have q3 : ¬ r2.toInt = 0 := i_ne c3
    have h4 : rg 1 1 r2 := t_nelo 1 hr2 (rg_k (by decide) : rg 0 0 0) (i_ne c3) (by decide)
    refine lv_aload_n hx hb dX9_done_15 rfl (lv_at hl 0 rfl) ?_
    refine e_Vv (As := []) (rest := []) X Y hT hS (m_X9_laysNow hR1) mk_X9_laysNow gm_1693 rfl rfl (by decide) hd_X9_laysNow ⟨rfl, rfl⟩ ⟨Nat.le_of_ble_eq_true rfl, Nat.le_of_ble_eq_true rfl⟩ hl.1 rfl (Nat.le_of_ble_eq_true rfl) dX9_done_16 ⟨Nat.zero_le _, Nat.zero_le _⟩ (fun i5 g5 H locs hq hT hS => ?_)
    obtain ⟨hR5, hf5⟩ := hq
    have hF5 := Fr_tr hF1 hf5 (by decide)
    refine lv_iconst (v := 0) hx hb dX9_done_19 (by decide) ?_
    refine lv_istore_n (lv' := [(1, .int 0), (0, .ref (h 96))]) hx hb dX9_done_20 rfl hl (by decide) rfl (fun ls hl => ?_)
    have L21_6 : ∀ (n7_ : Nat) (x21_1 : Int32) (H : Heap) (locs : List Loc) (ls : Array Slot), rg 0 13 x21_1 → TH D h cz i5 g5 H → va_S (hA h) s.heap H locs → lv_has ls 2 [(0, .ref (h 96)), (1, .int x21_1)] → (13 - x21_1.toInt).toNat < n7_ → W p l e ({ frames := 6, cells := 0, slots := 0, locals := 132 } : Room) s m args below meth c H locs 0 0 Q (F0 m 21 ls []) := by
      intro n7_
      induction n7_ with
      | zero => intro x21_1 H locs ls hhx21_1 hT hS hl hm7_; exact absurd hm7_ (Nat.not_lt_zero _)
      | succ n7_ ih7_ =>
        intro x21_1 H locs ls hhx21_1 hT hS hl hm7_
        refine lv_iload_n hx hb dX9_done_21 rfl (lv_at hl 1 rfl) ?_
        refine lv_aload_n hx hb dX9_done_22 rfl (lv_at hl 0 rfl) ?_
        refine e_Vi (As := []) (rest := [.int x21_1]) X Y hT hS (m_X9_years hR5) mk_X9_years gm_1689 rfl rfl (by decide) hd_X9_years ⟨rfl, rfl⟩ ⟨Nat.le_of_ble_eq_true rfl, Nat.le_of_ble_eq_true rfl⟩ hl.1 rfl (Nat.le_of_ble_eq_true rfl) dX9_done_23 ⟨Nat.zero_le _, Nat.zero_le _⟩ (fun r8 i8 g8 H locs hq hT hS => ?_)
        obtain ⟨eh8, hr8⟩ := hq
        rw [(Prod.mk.inj eh8).1, (Prod.mk.inj eh8).2] at hT
        refine lv_icmp_gt (tgt := 57) hx hb dX9_done_26 (by decide) (fun c9 => ?_) (fun c9 => ?_)
        ·
          have q9 : r8.toInt < x21_1.toInt := i_lt c9
          have h10 : rg 1 13 x21_1 := t_lty 1 13 hr8 hhx21_1 (i_lt c9) (by decide)
          refine lv_iconst (v := (-1)) hx hb dX9_done_57 (by decide) ?_
          exact hret (-1) _ _ _ _ _ _ dX9_done_58 hT hS ⟨hR5, hF5, (rg_w (rg_k (by decide) : rg (-1) (-1) (-1)) (by decide) : rg (-2) 12 (-1))⟩
        ·
          have q9 : x21_1.toInt ≤ r8.toInt := i_nlt c9
          have h11 : rg 0 12 x21_1 := t_lex 0 12 hhx21_1 hr8 (i_nlt c9) (by decide)
          refine lv_aload_n hx hb dX9_done_29 rfl (lv_at hl 0 rfl) ?_
          refine e_Vi (As := []) (rest := []) X Y hT hS (m_X9_parts hR5) mk_X9_parts gm_1649 rfl rfl (by decide) hd_X9_parts ⟨rfl, rfl⟩ ⟨Nat.le_of_ble_eq_true rfl, Nat.le_of_ble_eq_true rfl⟩ hl.1 rfl (Nat.le_of_ble_eq_true rfl) dX9_done_30 ⟨Nat.zero_le _, Nat.zero_le _⟩ (fun r12 i12 g12 H locs hq hT hS => ?_)
          obtain ⟨eh12, hr12⟩ := hq
          rw [(Prod.mk.inj eh12).1, (Prod.mk.inj eh12).2] at hT
          refine lv_if_le (tgt := 51) hx hb dX9_done_33 (by decide) (fun c13 => ?_) (fun c13 => ?_)
          ·
            have q13 : r12.toInt ≤ 0 := i_le c13
            have h14 : rg 0 0 r12 := t_lex 0 0 hr12 (rg_k (by decide) : rg 0 0 0) (i_le c13) (by decide)
            obtain ⟨x15, ex15⟩ : ∃ y : Int32, y = x21_1 + 1 := ⟨_, rfl⟩
            refine lv_iinc (v := x15) (lv' := [(1, .int x15), (0, .ref (h 96))]) hx hb dX9_done_51 hl (k := 1) rfl (by rw [ex15]; rfl) (by decide) rfl (fun ls hl => ?_)
            obtain ⟨hx15, ax15⟩ := rg_add 1 13 ex15 h11 (rg_k (by decide) : rg 1 1 1) (by decide)
            replace ax15 : x15.toInt = x21_1.toInt + 1 := ax15
            refine lv_goto (tgt := 21) hx hb dX9_done_54 (by decide) ?_
            exact ih7_ x15 _ _ _ (rg_w hx15 (by decide) : rg 0 13 x15) hT hS (lv_sub hl [1, 0] rfl) (m_up ax15 hx15 (by decide) hm7_)
          ·
            have q13 : 0 < r12.toInt := i_nle c13
            have h16 : rg 1 6 r12 := t_lty 1 6 (rg_k (by decide) : rg 0 0 0) hr12 (i_nle c13) (by decide)
            refine lv_aload_n hx hb dX9_done_36 rfl (lv_at hl 0 rfl) ?_
            refine r_getr X hT 96 31 112 fk_9_62 rfl rfl (by decide) dX9_done_37 ?_
            refine lv_iload_n hx hb dX9_done_40 rfl (lv_at hl 1 rfl) ?_
            refine r_iald X hT 112 rfl (by decide) (v_in h11 (by decide)) dX9_done_41 ?_
            refine lv_aload_n hx hb dX9_done_42 rfl (lv_at hl 0 rfl) ?_
            refine e_Vi (As := []) (rest := [.int (i5 112 x21_1.toNatClampNeg)]) X Y hT hS (m_X9_every hR5) mk_X9_every gm_1814 rfl rfl (by decide) hd_X9_every ⟨rfl, rfl⟩ ⟨Nat.le_of_ble_eq_true rfl, Nat.le_of_ble_eq_true rfl⟩ hl.1 rfl (Nat.le_of_ble_eq_true rfl) dX9_done_43 ⟨Nat.zero_le _, Nat.zero_le _⟩ (fun r17 i17 g17 H locs hq hT hS => ?_)
            obtain ⟨eh17, hr17⟩ := hq
            rw [(Prod.mk.inj eh17).1, (Prod.mk.inj eh17).2] at hT
            refine lv_icmp_ne (tgt := 51) hx hb dX9_done_46 (by decide) (fun c18 => ?_) (fun c18 => ?_)
            ·
              have q18 : ¬ (i5 112 x21_1.toNatClampNeg).toInt = r17.toInt := i_ne c18
              obtain ⟨x19, ex19⟩ : ∃ y : Int32, y = x21_1 + 1 := ⟨_, rfl⟩
              refine lv_iinc (v := x19) (lv' := [(1, .int x19), (0, .ref (h 96))]) hx hb dX9_done_51 hl (k := 1) rfl (by rw [ex19]; rfl) (by decide) rfl (fun ls hl => ?_)
              obtain ⟨hx19, ax19⟩ := rg_add 1 13 ex19 h11 (rg_k (by decide) : rg 1 1 1) (by decide)
              replace ax19 : x19.toInt = x21_1.toInt + 1 := ax19
              refine lv_goto (tgt := 21) hx hb dX9_done_54 (by decide) ?_
              exact ih7_ x19 _ _ _ (rg_w hx19 (by decide) : rg 0 13 x19) hT hS (lv_sub hl [1, 0] rfl) (m_up ax19 hx19 (by decide) hm7_)
            ·
              have q18 : (i5 112 x21_1.toNatClampNeg).toInt = r17.toInt := i_eq c18
              have h20 : rg 0 63 (i5 112 x21_1.toNatClampNeg) := t_eqx 0 63 (rg_top (i5 112 x21_1.toNatClampNeg)) hr17 (i_eq c18) (by decide)
              refine lv_iload_n hx hb dX9_done_49 rfl (lv_at hl 1 rfl) ?_
              exact hret x21_1 _ _ _ _ _ _ dX9_done_50 hT hS ⟨hR5, hF5, (rg_w h11 (by decide) : rg (-2) 12 x21_1)⟩
    exact L21_6 _ (0) _ _ _ (rg_w (rg_k (by decide) : rg 0 0 0) (by decide) : rg 0 13 0) hT hS (lv_sub hl [1, 0] rfl) (Nat.lt_succ_self _)
  ·
    have q3 : r2.toInt = 0 := i_eq c3
    have h21 : rg 0 0 r2 := t_eqx 0 0 hr2 (rg_k (by decide) : rg 0 0 0) (i_eq c3) (by decide)
    refine lv_bipush (v := (-2)) hx hb dX9_done_12 (by decide) ?_
    exact hret (-2) _ _ _ _ _ _ dX9_done_14 hT hS ⟨hR1, hF1, (rg_w (rg_k (by decide) : rg (-2) (-2) (-2)) (by decide) : rg (-2) 12 (-2))⟩
set_option maxRecDepth 100000 in
set_option maxHeartbeats 4000000 in
theorem m_X9_freshIn {l : Launch} {D : va_G} {h : Nat → Nat} {cz : Nat → ClassId} {z : EZ} {i : Nat → Nat → Int32} {g : Nat → Nat → Int64} (hR : Rg rA i) (a_a : Int32) (ha_a : rg 0 11 a_a) : DtI l yX9_freshIn cX9_freshIn 2 (some .int) ({ frames := 0, cells := 0, slots := 0, locals := 0 } : Room) D h cz z i g [.ref (h 96), .int a_a] (fun r u => u = (i, g)) := by
  refine e_I pn_X9_freshIn (Nat.le_of_ble_eq_true rfl) ?_
  intro p e s m args below meth c ls Q X Y hret hT hl hS
  have hx := X.1
  have hb := X.2.1
  have hl : lv_has ls 2 [(0, .ref (h 96)), (1, .int a_a)] := hl
  refine lv_aload_n hx hb dX9_freshIn_0 rfl (lv_at hl 0 rfl) ?_
  refine r_getr X hT 96 31 112 fk_9_62 rfl rfl (by decide) dX9_freshIn_1 ?_
  refine lv_iload_n hx hb dX9_freshIn_4 rfl (lv_at hl 1 rfl) ?_
  refine lv_iconst (v := 1) hx hb dX9_freshIn_5 (by decide) ?_
  refine q_iadd hx hb dX9_freshIn_6 (fun x1 ex1 => ?_)
  obtain ⟨hx1, ax1⟩ := rg_add 1 12 ex1 ha_a (rg_k (by decide) : rg 1 1 1) (by decide)
  replace ax1 : x1.toInt = a_a.toInt + 1 := ax1
  refine r_iald X hT 112 rfl (by decide) (v_in hx1 (by decide)) dX9_freshIn_7 ?_
  refine lv_aload_n hx hb dX9_freshIn_8 rfl (lv_at hl 0 rfl) ?_
  refine r_getr X hT 96 31 112 fk_9_62 rfl rfl (by decide) dX9_freshIn_9 ?_
  refine lv_iload_n hx hb dX9_freshIn_12 rfl (lv_at hl 1 rfl) ?_
  refine r_iald X hT 112 rfl (by decide) (v_in ha_a (by decide)) dX9_freshIn_13 ?_
  refine lv_iconst (v := (-1)) hx hb dX9_freshIn_14 (by decide) ?_
  refine q_ixor hx hb dX9_freshIn_15 (fun x2 ex2 => ?_)
  refine q_iand hx hb dX9_freshIn_16 (fun x3 ex3 => ?_)
  exact hret x3 _ _ _ _ _ _ dX9_freshIn_17 hT hS rfl
set_option maxRecDepth 100000 in
set_option maxHeartbeats 4000000 in
theorem m_X9_moreOf_0t0_0t32 {l : Launch} {D : va_G} {h : Nat → Nat} {cz : Nat → ClassId} {z : EZ} {i : Nat → Nat → Int32} {g : Nat → Nat → Int64} (a_a : Int32) (a_b : Int32) (ha_a : rg 0 0 a_a) (ha_b : rg 0 32 a_b) : DtI l yX9_moreOf cX9_moreOf 2 (some .int) ({ frames := 0, cells := 0, slots := 0, locals := 0 } : Room) D h cz z i g [.int a_a, .int a_b] (fun r u => u = (i, g) ∧ rg 0 32 r) := by
  refine e_I pn_X9_moreOf (Nat.le_of_ble_eq_true rfl) ?_
  intro p e s m args below meth c ls Q X Y hret hT hl hS
  have hx := X.1
  have hb := X.2.1
  have hl : lv_has ls 2 [(0, .int a_a), (1, .int a_b)] := hl
  refine lv_iload_n hx hb dX9_moreOf_0 rfl (lv_at hl 0 rfl) ?_
  refine lv_iload_n hx hb dX9_moreOf_1 rfl (lv_at hl 1 rfl) ?_
  refine lv_icmp_le (tgt := 9) hx hb dX9_moreOf_2 (by decide) (fun c1 => ?_) (fun c1 => (x_lt ha_b ha_a (i_nle c1) (by decide)).elim)
  have q1 : a_a.toInt ≤ a_b.toInt := i_le c1
  refine lv_iload_n hx hb dX9_moreOf_9 rfl (lv_at hl 1 rfl) ?_
  exact hret a_b _ _ _ _ _ _ dX9_moreOf_10 hT hS ⟨rfl, ha_b⟩
set_option maxRecDepth 100000 in
set_option maxHeartbeats 4000000 in
theorem m_X9_moreOf_0t32_0t32 {l : Launch} {D : va_G} {h : Nat → Nat} {cz : Nat → ClassId} {z : EZ} {i : Nat → Nat → Int32} {g : Nat → Nat → Int64} (a_a : Int32) (a_b : Int32) (ha_a : rg 0 32 a_a) (ha_b : rg 0 32 a_b) : DtI l yX9_moreOf cX9_moreOf 2 (some .int) ({ frames := 0, cells := 0, slots := 0, locals := 0 } : Room) D h cz z i g [.int a_a, .int a_b] (fun r u => u = (i, g) ∧ rg 0 32 r) := by
  refine e_I pn_X9_moreOf (Nat.le_of_ble_eq_true rfl) ?_
  intro p e s m args below meth c ls Q X Y hret hT hl hS
  have hx := X.1
  have hb := X.2.1
  have hl : lv_has ls 2 [(0, .int a_a), (1, .int a_b)] := hl
  refine lv_iload_n hx hb dX9_moreOf_0 rfl (lv_at hl 0 rfl) ?_
  refine lv_iload_n hx hb dX9_moreOf_1 rfl (lv_at hl 1 rfl) ?_
  refine lv_icmp_le (tgt := 9) hx hb dX9_moreOf_2 (by decide) (fun c1 => ?_) (fun c1 => ?_)
  ·
    have q1 : a_a.toInt ≤ a_b.toInt := i_le c1
    refine lv_iload_n hx hb dX9_moreOf_9 rfl (lv_at hl 1 rfl) ?_
    exact hret a_b _ _ _ _ _ _ dX9_moreOf_10 hT hS ⟨rfl, ha_b⟩
  ·
    have q1 : a_b.toInt < a_a.toInt := i_nle c1
    have h2 : rg 0 31 a_b := t_ltx 0 31 ha_b ha_a (i_nle c1) (by decide)
    have h3 : rg 1 32 a_a := t_lty 1 32 ha_b ha_a (i_nle c1) (by decide)
    refine lv_iload_n hx hb dX9_moreOf_5 rfl (lv_at hl 0 rfl) ?_
    refine lv_goto (tgt := 10) hx hb dX9_moreOf_6 (by decide) ?_
    exact hret a_a _ _ _ _ _ _ dX9_moreOf_10 hT hS ⟨rfl, (rg_w h3 (by decide) : rg 0 32 a_a)⟩
set_option maxRecDepth 100000 in
set_option maxHeartbeats 4000000 in
theorem m_X9_rush {l : Launch} {D : va_G} {h : Nat → Nat} {cz : Nat → ClassId} {z : EZ} {i : Nat → Nat → Int32} {g : Nat → Nat → Int64} (hR : Rg rA i) : DtI l yX9_rush cX9_rush 3 (some .int) ({ frames := 6, cells := 0, slots := 0, locals := 132 } : Room) D h cz z i g [.ref (h 96)] (fun r u => Rg rA u.1 ∧ Fr [96, 109, 110, 111, 112, 113, 114, 115] [] i g u ∧ rg (-2) 32 r) := by
  refine e_I pn_X9_rush (Nat.le_of_ble_eq_true rfl) ?_
  intro p e s m args below meth c ls Q X Y hret hT hl hS
  have hx := X.1
  have hb := X.2.1
  have hl : lv_has ls 3 [(0, .ref (h 96))] := hl
  have hF : Fr [96, 109, 110, 111, 112, 113, 114, 115] [] i g (i, g) := Fr_rf _ _ _ _
  refine lv_aload_n hx hb dX9_rush_0 rfl (lv_at hl 0 rfl) ?_
  refine lv_iconst (v := 0) hx hb dX9_rush_1 (by decide) ?_
  refine r_puti X hT hS 96 0 pk_9_83 rfl rfl rfl rfl (by decide) dX9_rush_2 (fun H locs i1 ei1 hT hS => ?_)
  have hR1 := Rg_put hR ei1 (-2147483648) 2147483647 rfl (rg_k (by decide) : rg 0 0 0) (by decide)
  have hF1 := Fr_puti hF ei1 (by decide)
  refine lv_aload_n hx hb dX9_rush_5 rfl (lv_at hl 0 rfl) ?_
  refine e_Vi (As := []) (rest := []) X Y hT hS (m_X9_isTale hR1) mk_X9_isTale gm_1685 rfl rfl (by decide) hd_X9_isTale ⟨rfl, rfl⟩ ⟨Nat.le_of_ble_eq_true rfl, Nat.le_of_ble_eq_true rfl⟩ hl.1 rfl (Nat.le_of_ble_eq_true rfl) dX9_rush_6 ⟨Nat.zero_le _, Nat.zero_le _⟩ (fun r2 i2 g2 H locs hq hT hS => ?_)
  obtain ⟨eh2, hr2⟩ := hq
  rw [(Prod.mk.inj eh2).1, (Prod.mk.inj eh2).2] at hT
  refine lv_if_ne (tgt := 15) hx hb dX9_rush_9 (by decide) (fun c3 => ?_) (fun c3 => ?_)
  ·
    have q3 : ¬ r2.toInt = 0 := i_ne c3
    have h4 : rg 1 1 r2 := t_nelo 1 hr2 (rg_k (by decide) : rg 0 0 0) (i_ne c3) (by decide)
    refine lv_aload_n hx hb dX9_rush_15 rfl (lv_at hl 0 rfl) ?_
    refine e_Vv (As := []) (rest := []) X Y hT hS (m_X9_laysNow hR1) mk_X9_laysNow gm_1693 rfl rfl (by decide) hd_X9_laysNow ⟨rfl, rfl⟩ ⟨Nat.le_of_ble_eq_true rfl, Nat.le_of_ble_eq_true rfl⟩ hl.1 rfl (Nat.le_of_ble_eq_true rfl) dX9_rush_16 ⟨Nat.zero_le _, Nat.zero_le _⟩ (fun i5 g5 H locs hq hT hS => ?_)
    obtain ⟨hR5, hf5⟩ := hq
    have hF5 := Fr_tr hF1 hf5 (by decide)
    refine lv_iconst (v := 0) hx hb dX9_rush_19 (by decide) ?_
    refine lv_istore_n (lv' := [(1, .int 0), (0, .ref (h 96))]) hx hb dX9_rush_20 rfl hl (by decide) rfl (fun ls hl => ?_)
    refine lv_iconst (v := 0) hx hb dX9_rush_21 (by decide) ?_
    refine lv_istore_n (lv' := [(2, .int 0), (1, .int 0), (0, .ref (h 96))]) hx hb dX9_rush_22 rfl hl (by decide) rfl (fun ls hl => ?_)
    have L23_6 : ∀ (n7_ : Nat) (x23_1 : Int32) (x23_2 : Int32) (H : Heap) (locs : List Loc) (ls : Array Slot), rg 0 32 x23_1 → rg 0 12 x23_2 → TH D h cz i5 g5 H → va_S (hA h) s.heap H locs → lv_has ls 3 [(0, .ref (h 96)), (1, .int x23_1), (2, .int x23_2)] → (12 - x23_2.toInt).toNat < n7_ → W p l e ({ frames := 6, cells := 0, slots := 0, locals := 132 } : Room) s m args below meth c H locs 0 0 Q (F0 m 23 ls []) := by
      intro n7_
      induction n7_ with
      | zero => intro x23_1 x23_2 H locs ls hhx23_1 hhx23_2 hT hS hl hm7_; exact absurd hm7_ (Nat.not_lt_zero _)
      | succ n7_ ih7_ =>
        intro x23_1 x23_2 H locs ls hhx23_1 hhx23_2 hT hS hl hm7_
        refine lv_iload_n hx hb dX9_rush_23 rfl (lv_at hl 2 rfl) ?_
        refine lv_aload_n hx hb dX9_rush_24 rfl (lv_at hl 0 rfl) ?_
        refine e_Vi (As := []) (rest := [.int x23_2]) X Y hT hS (m_X9_years hR5) mk_X9_years gm_1689 rfl rfl (by decide) hd_X9_years ⟨rfl, rfl⟩ ⟨Nat.le_of_ble_eq_true rfl, Nat.le_of_ble_eq_true rfl⟩ hl.1 rfl (Nat.le_of_ble_eq_true rfl) dX9_rush_25 ⟨Nat.zero_le _, Nat.zero_le _⟩ (fun r8 i8 g8 H locs hq hT hS => ?_)
        obtain ⟨eh8, hr8⟩ := hq
        rw [(Prod.mk.inj eh8).1, (Prod.mk.inj eh8).2] at hT
        refine lv_icmp_ge (tgt := 50) hx hb dX9_rush_28 (by decide) (fun c9 => ?_) (fun c9 => ?_)
        ·
          have q9 : r8.toInt ≤ x23_2.toInt := i_le c9
          refine lv_iload_n hx hb dX9_rush_50 rfl (lv_at hl 1 rfl) ?_
          exact hret x23_1 _ _ _ _ _ _ dX9_rush_51 hT hS ⟨hR5, hF5, (rg_w hhx23_1 (by decide) : rg (-2) 32 x23_1)⟩
        ·
          have q9 : x23_2.toInt < r8.toInt := i_nle c9
          have h10 : rg 0 11 x23_2 := t_ltx 0 11 hhx23_2 hr8 (i_nle c9) (by decide)
          have h11 : rg 1 12 r8 := t_lty 1 12 hhx23_2 hr8 (i_nle c9) (by decide)
          refine lv_iload_n hx hb dX9_rush_31 rfl (lv_at hl 1 rfl) ?_
          refine lv_aload_n hx hb dX9_rush_32 rfl (lv_at hl 0 rfl) ?_
          refine lv_iload_n hx hb dX9_rush_33 rfl (lv_at hl 2 rfl) ?_
          refine e_Vi (As := [.int x23_2]) (rest := [.int x23_1]) X Y hT hS (m_X9_freshIn hR5 x23_2 h10) mk_X9_freshIn gm_1826 rfl rfl (by decide) hd_X9_freshIn ⟨rfl, rfl⟩ ⟨Nat.le_of_ble_eq_true rfl, Nat.le_of_ble_eq_true rfl⟩ hl.1 rfl (Nat.le_of_ble_eq_true rfl) dX9_rush_34 ⟨Nat.zero_le _, Nat.zero_le _⟩ (fun r12 i12 g12 H locs hq hT hS => ?_)
          have eh12 := hq
          rw [(Prod.mk.inj eh12).1, (Prod.mk.inj eh12).2] at hT
          refine e_Si (As := [.int r12]) (rest := [.int x23_1]) X Y hT hS (m_X9_sizeOf r12) sk_X9_sizeOf gm_1732 hd_X9_sizeOf ⟨rfl, rfl⟩ ⟨Nat.le_of_ble_eq_true rfl, Nat.le_of_ble_eq_true rfl⟩ hl.1 rfl (Nat.le_of_ble_eq_true rfl) dX9_rush_37 ⟨Nat.zero_le _, Nat.zero_le _⟩ (fun r13 i13 g13 H locs hq hT hS => ?_)
          obtain ⟨eh13, hf13_0⟩ := hq
          rw [(Prod.mk.inj eh13).1, (Prod.mk.inj eh13).2] at hT
          replace hf13_0 : r13.toInt = (popF 32 (r12 : Int32).toBitVec.toNat : Int) := hf13_0
          have h14 : rg 0 32 r13 := pop_32 hf13_0
          refine e_Si (As := [.int x23_1, .int r13]) (rest := []) X Y hT hS (m_X9_moreOf_0t32_0t32 x23_1 r13 hhx23_1 h14) sk_X9_moreOf gm_1709 hd_X9_moreOf ⟨rfl, rfl⟩ ⟨Nat.le_of_ble_eq_true rfl, Nat.le_of_ble_eq_true rfl⟩ hl.1 rfl (Nat.le_of_ble_eq_true rfl) dX9_rush_40 ⟨Nat.zero_le _, Nat.zero_le _⟩ (fun r15 i15 g15 H locs hq hT hS => ?_)
          obtain ⟨eh15, hr15⟩ := hq
          rw [(Prod.mk.inj eh15).1, (Prod.mk.inj eh15).2] at hT
          refine lv_istore_n (lv' := [(1, .int r15), (0, .ref (h 96)), (2, .int x23_2)]) hx hb dX9_rush_43 rfl hl (by decide) rfl (fun ls hl => ?_)
          obtain ⟨x16, ex16⟩ : ∃ y : Int32, y = x23_2 + 1 := ⟨_, rfl⟩
          refine lv_iinc (v := x16) (lv' := [(2, .int x16), (1, .int r15), (0, .ref (h 96))]) hx hb dX9_rush_44 hl (k := 2) rfl (by rw [ex16]; rfl) (by decide) rfl (fun ls hl => ?_)
          obtain ⟨hx16, ax16⟩ := rg_add 1 12 ex16 h10 (rg_k (by decide) : rg 1 1 1) (by decide)
          replace ax16 : x16.toInt = x23_2.toInt + 1 := ax16
          refine lv_goto (tgt := 23) hx hb dX9_rush_47 (by decide) ?_
          exact ih7_ r15 x16 _ _ _ hr15 (rg_w hx16 (by decide) : rg 0 12 x16) hT hS (lv_sub hl [2, 1, 0] rfl) (m_up ax16 hx16 (by decide) hm7_)
    exact L23_6 _ (0) (0) _ _ _ (rg_w (rg_k (by decide) : rg 0 0 0) (by decide) : rg 0 32 0) (rg_w (rg_k (by decide) : rg 0 0 0) (by decide) : rg 0 12 0) hT hS (lv_sub hl [2, 1, 0] rfl) (Nat.lt_succ_self _)
  ·
    have q3 : r2.toInt = 0 := i_eq c3
    have h17 : rg 0 0 r2 := t_eqx 0 0 hr2 (rg_k (by decide) : rg 0 0 0) (i_eq c3) (by decide)
    refine lv_bipush (v := (-2)) hx hb dX9_rush_12 (by decide) ?_
    exact hret (-2) _ _ _ _ _ _ dX9_rush_14 hT hS ⟨hR1, hF1, (rg_w (rg_k (by decide) : rg (-2) (-2) (-2)) (by decide) : rg (-2) 32 (-2))⟩
set_option maxRecDepth 100000 in
set_option maxHeartbeats 4000000 in
theorem m_X9_with {l : Launch} {D : va_G} {h : Nat → Nat} {cz : Nat → ClassId} {z : EZ} {i : Nat → Nat → Int32} {g : Nat → Nat → Int64} (hR : Rg rA i) (a_a : Int32) : DtI l yX9_with cX9_with 4 (some .int) ({ frames := 6, cells := 0, slots := 0, locals := 132 } : Room) D h cz z i g [.ref (h 96), .int a_a] (fun r u => Rg rA u.1 ∧ Fr [96, 109, 110, 111, 112, 113, 114, 115] [] i g u ∧ rg (-2) 255 r) := by
  refine e_I pn_X9_with (Nat.le_of_ble_eq_true rfl) ?_
  intro p e s m args below meth c ls Q X Y hret hT hl hS
  have hx := X.1
  have hb := X.2.1
  have hl : lv_has ls 4 [(0, .ref (h 96)), (1, .int a_a)] := hl
  have hF : Fr [96, 109, 110, 111, 112, 113, 114, 115] [] i g (i, g) := Fr_rf _ _ _ _
  refine lv_aload_n hx hb dX9_with_0 rfl (lv_at hl 0 rfl) ?_
  refine lv_iconst (v := 0) hx hb dX9_with_1 (by decide) ?_
  refine r_puti X hT hS 96 0 pk_9_83 rfl rfl rfl rfl (by decide) dX9_with_2 (fun H locs i1 ei1 hT hS => ?_)
  have hR1 := Rg_put hR ei1 (-2147483648) 2147483647 rfl (rg_k (by decide) : rg 0 0 0) (by decide)
  have hF1 := Fr_puti hF ei1 (by decide)
  refine lv_aload_n hx hb dX9_with_5 rfl (lv_at hl 0 rfl) ?_
  refine lv_iload_n hx hb dX9_with_6 rfl (lv_at hl 1 rfl) ?_
  refine q_i2l hx hb dX9_with_7 (fun y2 ey2 => ?_)
  obtain ⟨hy2, ay2⟩ := rg_i2l ey2 (rg_top a_a)
  refine e_Vi (As := [.long y2]) (rest := []) X Y hT hS (m_X9_isPart hR1 y2) mk_X9_isPart gm_1645 rfl rfl (by decide) hd_X9_isPart ⟨rfl, rfl⟩ ⟨Nat.le_of_ble_eq_true rfl, Nat.le_of_ble_eq_true rfl⟩ hl.1 rfl (Nat.le_of_ble_eq_true rfl) dX9_with_8 ⟨Nat.zero_le _, Nat.zero_le _⟩ (fun r3 i3 g3 H locs hq hT hS => ?_)
  rcases hq with hq | hq
  ·
    obtain ⟨eh3, rfl, hf3_0⟩ := hq
    rw [(Prod.mk.inj eh3).1, (Prod.mk.inj eh3).2] at hT
    have h4 : rgL 0 5 y2 := ⟨by have := hy2.1; have := hf3_0.1; omega, by have := hy2.2; have := hf3_0.2; omega⟩
    have h5 : rg 0 5 a_a := ⟨by have := h4.1; have := (rg_top a_a).1; have := ay2; omega, by have := h4.2; have := (rg_top a_a).2; have := ay2; omega⟩
    refine lv_if_ne (tgt := 17) hx hb dX9_with_11 (by decide) (fun c6 => ?_) (fun c6 => (x_eq (rg_k (by decide) : rg 1 1 1) (rg_k (by decide) : rg 0 0 0) (i_eq c6) (by decide)).elim)
    refine lv_aload_n hx hb dX9_with_17 rfl (lv_at hl 0 rfl) ?_
    refine e_Vv (As := []) (rest := []) X Y hT hS (m_X9_laysNow hR1) mk_X9_laysNow gm_1693 rfl rfl (by decide) hd_X9_laysNow ⟨rfl, rfl⟩ ⟨Nat.le_of_ble_eq_true rfl, Nat.le_of_ble_eq_true rfl⟩ hl.1 rfl (Nat.le_of_ble_eq_true rfl) dX9_with_18 ⟨Nat.zero_le _, Nat.zero_le _⟩ (fun i7 g7 H locs hq hT hS => ?_)
    obtain ⟨hR7, hf7⟩ := hq
    have hF7 := Fr_tr hF1 hf7 (by decide)
    refine lv_iconst (v := 0) hx hb dX9_with_21 (by decide) ?_
    refine lv_istore_n (lv' := [(2, .int 0), (0, .ref (h 96)), (1, .int a_a)]) hx hb dX9_with_22 rfl hl (by decide) rfl (fun ls hl => ?_)
    refine lv_iconst (v := 0) hx hb dX9_with_23 (by decide) ?_
    refine lv_istore_n (lv' := [(3, .int 0), (2, .int 0), (0, .ref (h 96)), (1, .int a_a)]) hx hb dX9_with_24 rfl hl (by decide) rfl (fun ls hl => ?_)
    have L25_8 : ∀ (n9_ : Nat) (x25_2 : Int32) (x25_3 : Int32) (H : Heap) (locs : List Loc) (ls : Array Slot), rg 0 255 x25_2 → rg 0 6 x25_3 → TH D h cz i7 g7 H → va_S (hA h) s.heap H locs → lv_has ls 4 [(0, .ref (h 96)), (1, .int a_a), (2, .int x25_2), (3, .int x25_3)] → (6 - x25_3.toInt).toNat < n9_ → W p l e ({ frames := 6, cells := 0, slots := 0, locals := 132 } : Room) s m args below meth c H locs 0 0 Q (F0 m 25 ls []) := by
      intro n9_
      induction n9_ with
      | zero => intro x25_2 x25_3 H locs ls hhx25_2 hhx25_3 hT hS hl hm9_; exact absurd hm9_ (Nat.not_lt_zero _)
      | succ n9_ ih9_ =>
        intro x25_2 x25_3 H locs ls hhx25_2 hhx25_3 hT hS hl hm9_
        refine lv_iload_n hx hb dX9_with_25 rfl (lv_at hl 3 rfl) ?_
        refine lv_aload_n hx hb dX9_with_26 rfl (lv_at hl 0 rfl) ?_
        refine e_Vi (As := []) (rest := [.int x25_3]) X Y hT hS (m_X9_parts hR7) mk_X9_parts gm_1649 rfl rfl (by decide) hd_X9_parts ⟨rfl, rfl⟩ ⟨Nat.le_of_ble_eq_true rfl, Nat.le_of_ble_eq_true rfl⟩ hl.1 rfl (Nat.le_of_ble_eq_true rfl) dX9_with_27 ⟨Nat.zero_le _, Nat.zero_le _⟩ (fun r10 i10 g10 H locs hq hT hS => ?_)
        obtain ⟨eh10, hr10⟩ := hq
        rw [(Prod.mk.inj eh10).1, (Prod.mk.inj eh10).2] at hT
        refine lv_icmp_ge (tgt := 84) hx hb dX9_with_30 (by decide) (fun c11 => ?_) (fun c11 => ?_)
        ·
          have q11 : r10.toInt ≤ x25_3.toInt := i_le c11
          refine lv_iload_n hx hb dX9_with_84 rfl (lv_at hl 2 rfl) ?_
          exact hret x25_2 _ _ _ _ _ _ dX9_with_85 hT hS ⟨hR7, hF7, (rg_w hhx25_2 (by decide) : rg (-2) 255 x25_2)⟩
        ·
          have q11 : x25_3.toInt < r10.toInt := i_nle c11
          have h12 : rg 0 5 x25_3 := t_ltx 0 5 hhx25_3 hr10 (i_nle c11) (by decide)
          have h13 : rg 1 6 r10 := t_lty 1 6 hhx25_3 hr10 (i_nle c11) (by decide)
          refine lv_iload_n hx hb dX9_with_33 rfl (lv_at hl 2 rfl) ?_
          refine lv_aload_n hx hb dX9_with_34 rfl (lv_at hl 0 rfl) ?_
          refine r_getr X hT 96 32 113 fk_9_65 rfl rfl (by decide) dX9_with_35 ?_
          refine lv_iload_n hx hb dX9_with_38 rfl (lv_at hl 1 rfl) ?_
          refine r_iald X hT 113 rfl (by decide) (v_in h5 (by decide)) dX9_with_39 ?_
          refine lv_iconst (v := (-1)) hx hb dX9_with_40 (by decide) ?_
          refine lv_icmp_eq (tgt := 75) hx hb dX9_with_41 (by decide) (fun c14 => ?_) (fun c14 => ?_)
          ·
            have q14 : (i7 113 a_a.toNatClampNeg).toInt = (-1) := i_eq c14
            have h15 : rg (-1) (-1) (i7 113 a_a.toNatClampNeg) := t_eqx (-1) (-1) (rg_top (i7 113 a_a.toNatClampNeg)) (rg_k (by decide) : rg (-1) (-1) (-1)) (i_eq c14) (by decide)
            refine lv_iconst (v := 0) hx hb dX9_with_75 (by decide) ?_
            refine q_ior hx hb dX9_with_76 (fun x16 ex16 => ?_)
            have h17 : rg 0 255 x16 := rg_or8 ex16 hhx25_2 (rg_k (by decide) : rg 0 0 0) (by decide)
            refine lv_istore_n (lv' := [(2, .int x16), (0, .ref (h 96)), (1, .int a_a), (3, .int x25_3)]) hx hb dX9_with_77 rfl hl (by decide) rfl (fun ls hl => ?_)
            obtain ⟨x18, ex18⟩ : ∃ y : Int32, y = x25_3 + 1 := ⟨_, rfl⟩
            refine lv_iinc (v := x18) (lv' := [(3, .int x18), (2, .int x16), (0, .ref (h 96)), (1, .int a_a)]) hx hb dX9_with_78 hl (k := 3) rfl (by rw [ex18]; rfl) (by decide) rfl (fun ls hl => ?_)
            obtain ⟨hx18, ax18⟩ := rg_add 1 6 ex18 h12 (rg_k (by decide) : rg 1 1 1) (by decide)
            replace ax18 : x18.toInt = x25_3.toInt + 1 := ax18
            refine lv_goto (tgt := 25) hx hb dX9_with_81 (by decide) ?_
            exact ih9_ x16 x18 _ _ _ h17 (rg_w hx18 (by decide) : rg 0 6 x18) hT hS (lv_sub hl [2, 3, 1, 0] rfl) (m_up ax18 hx18 (by decide) hm9_)
          ·
            have q14 : ¬ (i7 113 a_a.toNatClampNeg).toInt = (-1) := i_ne c14
            refine lv_aload_n hx hb dX9_with_44 rfl (lv_at hl 0 rfl) ?_
            refine r_getr X hT 96 32 113 fk_9_65 rfl rfl (by decide) dX9_with_45 ?_
            refine lv_iload_n hx hb dX9_with_48 rfl (lv_at hl 3 rfl) ?_
            refine r_iald X hT 113 rfl (by decide) (v_in h12 (by decide)) dX9_with_49 ?_
            refine lv_aload_n hx hb dX9_with_50 rfl (lv_at hl 0 rfl) ?_
            refine r_getr X hT 96 32 113 fk_9_65 rfl rfl (by decide) dX9_with_51 ?_
            refine lv_iload_n hx hb dX9_with_54 rfl (lv_at hl 1 rfl) ?_
            refine r_iald X hT 113 rfl (by decide) (v_in h5 (by decide)) dX9_with_55 ?_
            refine lv_icmp_ne (tgt := 75) hx hb dX9_with_56 (by decide) (fun c19 => ?_) (fun c19 => ?_)
            ·
              have q19 : ¬ (i7 113 x25_3.toNatClampNeg).toInt = (i7 113 a_a.toNatClampNeg).toInt := i_ne c19
              refine lv_iconst (v := 0) hx hb dX9_with_75 (by decide) ?_
              refine q_ior hx hb dX9_with_76 (fun x20 ex20 => ?_)
              have h21 : rg 0 255 x20 := rg_or8 ex20 hhx25_2 (rg_k (by decide) : rg 0 0 0) (by decide)
              refine lv_istore_n (lv' := [(2, .int x20), (0, .ref (h 96)), (1, .int a_a), (3, .int x25_3)]) hx hb dX9_with_77 rfl hl (by decide) rfl (fun ls hl => ?_)
              obtain ⟨x22, ex22⟩ : ∃ y : Int32, y = x25_3 + 1 := ⟨_, rfl⟩
              refine lv_iinc (v := x22) (lv' := [(3, .int x22), (2, .int x20), (0, .ref (h 96)), (1, .int a_a)]) hx hb dX9_with_78 hl (k := 3) rfl (by rw [ex22]; rfl) (by decide) rfl (fun ls hl => ?_)
              obtain ⟨hx22, ax22⟩ := rg_add 1 6 ex22 h12 (rg_k (by decide) : rg 1 1 1) (by decide)
              replace ax22 : x22.toInt = x25_3.toInt + 1 := ax22
              refine lv_goto (tgt := 25) hx hb dX9_with_81 (by decide) ?_
              exact ih9_ x20 x22 _ _ _ h21 (rg_w hx22 (by decide) : rg 0 6 x22) hT hS (lv_sub hl [2, 3, 1, 0] rfl) (m_up ax22 hx22 (by decide) hm9_)
            ·
              have q19 : (i7 113 x25_3.toNatClampNeg).toInt = (i7 113 a_a.toNatClampNeg).toInt := i_eq c19
              refine lv_aload_n hx hb dX9_with_59 rfl (lv_at hl 0 rfl) ?_
              refine r_getr X hT 96 33 114 fk_9_68 rfl rfl (by decide) dX9_with_60 ?_
              refine lv_iload_n hx hb dX9_with_63 rfl (lv_at hl 3 rfl) ?_
              refine r_iald X hT 114 rfl (by decide) (v_in h12 (by decide)) dX9_with_64 ?_
              refine lv_iconst (v := 2) hx hb dX9_with_65 (by decide) ?_
              refine lv_icmp_ne (tgt := 75) hx hb dX9_with_66 (by decide) (fun c23 => ?_) (fun c23 => ?_)
              ·
                have q23 : ¬ (i7 114 x25_3.toNatClampNeg).toInt = 2 := i_ne c23
                refine lv_iconst (v := 0) hx hb dX9_with_75 (by decide) ?_
                refine q_ior hx hb dX9_with_76 (fun x24 ex24 => ?_)
                have h25 : rg 0 255 x24 := rg_or8 ex24 hhx25_2 (rg_k (by decide) : rg 0 0 0) (by decide)
                refine lv_istore_n (lv' := [(2, .int x24), (0, .ref (h 96)), (1, .int a_a), (3, .int x25_3)]) hx hb dX9_with_77 rfl hl (by decide) rfl (fun ls hl => ?_)
                obtain ⟨x26, ex26⟩ : ∃ y : Int32, y = x25_3 + 1 := ⟨_, rfl⟩
                refine lv_iinc (v := x26) (lv' := [(3, .int x26), (2, .int x24), (0, .ref (h 96)), (1, .int a_a)]) hx hb dX9_with_78 hl (k := 3) rfl (by rw [ex26]; rfl) (by decide) rfl (fun ls hl => ?_)
                obtain ⟨hx26, ax26⟩ := rg_add 1 6 ex26 h12 (rg_k (by decide) : rg 1 1 1) (by decide)
                replace ax26 : x26.toInt = x25_3.toInt + 1 := ax26
                refine lv_goto (tgt := 25) hx hb dX9_with_81 (by decide) ?_
                exact ih9_ x24 x26 _ _ _ h25 (rg_w hx26 (by decide) : rg 0 6 x26) hT hS (lv_sub hl [2, 3, 1, 0] rfl) (m_up ax26 hx26 (by decide) hm9_)
              ·
                have q23 : (i7 114 x25_3.toNatClampNeg).toInt = 2 := i_eq c23
                have h27 : rg 2 2 (i7 114 x25_3.toNatClampNeg) := t_eqx 2 2 (rg_top (i7 114 x25_3.toNatClampNeg)) (rg_k (by decide) : rg 2 2 2) (i_eq c23) (by decide)
                refine lv_iconst (v := 1) hx hb dX9_with_69 (by decide) ?_
                refine lv_iload_n hx hb dX9_with_70 rfl (lv_at hl 3 rfl) ?_
                refine q_ishl hx hb dX9_with_71 (fun x28 ex28 => ?_)
                have h29 : rg 1 32 x28 := rg_shl1 ex28 h12 (by decide)
                refine lv_goto (tgt := 76) hx hb dX9_with_72 (by decide) ?_
                refine q_ior hx hb dX9_with_76 (fun x30 ex30 => ?_)
                have h31 : rg 0 255 x30 := rg_or8 ex30 hhx25_2 h29 (by decide)
                refine lv_istore_n (lv' := [(2, .int x30), (0, .ref (h 96)), (1, .int a_a), (3, .int x25_3)]) hx hb dX9_with_77 rfl hl (by decide) rfl (fun ls hl => ?_)
                obtain ⟨x32, ex32⟩ : ∃ y : Int32, y = x25_3 + 1 := ⟨_, rfl⟩
                refine lv_iinc (v := x32) (lv' := [(3, .int x32), (2, .int x30), (0, .ref (h 96)), (1, .int a_a)]) hx hb dX9_with_78 hl (k := 3) rfl (by rw [ex32]; rfl) (by decide) rfl (fun ls hl => ?_)
                obtain ⟨hx32, ax32⟩ := rg_add 1 6 ex32 h12 (rg_k (by decide) : rg 1 1 1) (by decide)
                replace ax32 : x32.toInt = x25_3.toInt + 1 := ax32
                refine lv_goto (tgt := 25) hx hb dX9_with_81 (by decide) ?_
                exact ih9_ x30 x32 _ _ _ h31 (rg_w hx32 (by decide) : rg 0 6 x32) hT hS (lv_sub hl [2, 3, 1, 0] rfl) (m_up ax32 hx32 (by decide) hm9_)
    exact L25_8 _ (0) (0) _ _ _ (rg_w (rg_k (by decide) : rg 0 0 0) (by decide) : rg 0 255 0) (rg_w (rg_k (by decide) : rg 0 0 0) (by decide) : rg 0 6 0) hT hS (lv_sub hl [2, 3, 1, 0] rfl) (Nat.lt_succ_self _)
  ·
    obtain ⟨eh3, rfl⟩ := hq
    rw [(Prod.mk.inj eh3).1, (Prod.mk.inj eh3).2] at hT
    refine lv_if_ne (tgt := 17) hx hb dX9_with_11 (by decide) (fun c33 => (x_ne (rg_k (by decide) : rg 0 0 0) (rg_k (by decide) : rg 0 0 0) (i_ne c33) (by decide)).elim) (fun c33 => ?_)
    refine lv_bipush (v := (-2)) hx hb dX9_with_14 (by decide) ?_
    exact hret (-2) _ _ _ _ _ _ dX9_with_16 hT hS ⟨hR1, hF1, (rg_w (rg_k (by decide) : rg (-2) (-2) (-2)) (by decide) : rg (-2) 255 (-2))⟩
set_option maxRecDepth 100000 in
set_option maxHeartbeats 4000000 in
theorem m_X9_charms {l : Launch} {D : va_G} {h : Nat → Nat} {cz : Nat → ClassId} {z : EZ} {i : Nat → Nat → Int32} {g : Nat → Nat → Int64} (hR : Rg rA i) : DtI l yX9_charms cX9_charms 3 (some .int) ({ frames := 6, cells := 0, slots := 0, locals := 132 } : Room) D h cz z i g [.ref (h 96)] (fun r u => Rg rA u.1 ∧ Fr [96, 109, 110, 111, 112, 113, 114, 115] [] i g u) := by
  refine e_I pn_X9_charms (Nat.le_of_ble_eq_true rfl) ?_
  intro p e s m args below meth c ls Q X Y hret hT hl hS
  have hx := X.1
  have hb := X.2.1
  have hl : lv_has ls 3 [(0, .ref (h 96))] := hl
  have hF : Fr [96, 109, 110, 111, 112, 113, 114, 115] [] i g (i, g) := Fr_rf _ _ _ _
  refine lv_aload_n hx hb dX9_charms_0 rfl (lv_at hl 0 rfl) ?_
  refine lv_iconst (v := 0) hx hb dX9_charms_1 (by decide) ?_
  refine r_puti X hT hS 96 0 pk_9_83 rfl rfl rfl rfl (by decide) dX9_charms_2 (fun H locs i1 ei1 hT hS => ?_)
  have hR1 := Rg_put hR ei1 (-2147483648) 2147483647 rfl (rg_k (by decide) : rg 0 0 0) (by decide)
  have hF1 := Fr_puti hF ei1 (by decide)
  refine lv_aload_n hx hb dX9_charms_5 rfl (lv_at hl 0 rfl) ?_
  refine e_Vi (As := []) (rest := []) X Y hT hS (m_X9_isTale hR1) mk_X9_isTale gm_1685 rfl rfl (by decide) hd_X9_isTale ⟨rfl, rfl⟩ ⟨Nat.le_of_ble_eq_true rfl, Nat.le_of_ble_eq_true rfl⟩ hl.1 rfl (Nat.le_of_ble_eq_true rfl) dX9_charms_6 ⟨Nat.zero_le _, Nat.zero_le _⟩ (fun r2 i2 g2 H locs hq hT hS => ?_)
  obtain ⟨eh2, hr2⟩ := hq
  rw [(Prod.mk.inj eh2).1, (Prod.mk.inj eh2).2] at hT
  refine lv_if_ne (tgt := 15) hx hb dX9_charms_9 (by decide) (fun c3 => ?_) (fun c3 => ?_)
  ·
    have q3 : ¬ r2.toInt = 0 := i_ne c3
    have h4 : rg 1 1 r2 := t_nelo 1 hr2 (rg_k (by decide) : rg 0 0 0) (i_ne c3) (by decide)
    refine lv_aload_n hx hb dX9_charms_15 rfl (lv_at hl 0 rfl) ?_
    refine e_Vv (As := []) (rest := []) X Y hT hS (m_X9_laysNow hR1) mk_X9_laysNow gm_1693 rfl rfl (by decide) hd_X9_laysNow ⟨rfl, rfl⟩ ⟨Nat.le_of_ble_eq_true rfl, Nat.le_of_ble_eq_true rfl⟩ hl.1 rfl (Nat.le_of_ble_eq_true rfl) dX9_charms_16 ⟨Nat.zero_le _, Nat.zero_le _⟩ (fun i5 g5 H locs hq hT hS => ?_)
    obtain ⟨hR5, hf5⟩ := hq
    have hF5 := Fr_tr hF1 hf5 (by decide)
    refine lv_iconst (v := 0) hx hb dX9_charms_19 (by decide) ?_
    refine lv_istore_n (lv' := [(1, .int 0), (0, .ref (h 96))]) hx hb dX9_charms_20 rfl hl (by decide) rfl (fun ls hl => ?_)
    refine lv_iconst (v := 0) hx hb dX9_charms_21 (by decide) ?_
    refine lv_istore_n (lv' := [(2, .int 0), (1, .int 0), (0, .ref (h 96))]) hx hb dX9_charms_22 rfl hl (by decide) rfl (fun ls hl => ?_)
    have L23_6 : ∀ (n7_ : Nat) (x23_1 : Int32) (x23_2 : Int32) (H : Heap) (locs : List Loc) (ls : Array Slot), rg 0 6 x23_2 → TH D h cz i5 g5 H → va_S (hA h) s.heap H locs → lv_has ls 3 [(0, .ref (h 96)), (1, .int x23_1), (2, .int x23_2)] → (6 - x23_2.toInt).toNat < n7_ → W p l e ({ frames := 6, cells := 0, slots := 0, locals := 132 } : Room) s m args below meth c H locs 0 0 Q (F0 m 23 ls []) := by
      intro n7_
      induction n7_ with
      | zero => intro x23_1 x23_2 H locs ls hhx23_2 hT hS hl hm7_; exact absurd hm7_ (Nat.not_lt_zero _)
      | succ n7_ ih7_ =>
        intro x23_1 x23_2 H locs ls hhx23_2 hT hS hl hm7_
        refine lv_iload_n hx hb dX9_charms_23 rfl (lv_at hl 2 rfl) ?_
        refine lv_aload_n hx hb dX9_charms_24 rfl (lv_at hl 0 rfl) ?_
        refine e_Vi (As := []) (rest := [.int x23_2]) X Y hT hS (m_X9_parts hR5) mk_X9_parts gm_1649 rfl rfl (by decide) hd_X9_parts ⟨rfl, rfl⟩ ⟨Nat.le_of_ble_eq_true rfl, Nat.le_of_ble_eq_true rfl⟩ hl.1 rfl (Nat.le_of_ble_eq_true rfl) dX9_charms_25 ⟨Nat.zero_le _, Nat.zero_le _⟩ (fun r8 i8 g8 H locs hq hT hS => ?_)
        obtain ⟨eh8, hr8⟩ := hq
        rw [(Prod.mk.inj eh8).1, (Prod.mk.inj eh8).2] at hT
        refine lv_icmp_ge (tgt := 68) hx hb dX9_charms_28 (by decide) (fun c9 => ?_) (fun c9 => ?_)
        ·
          have q9 : r8.toInt ≤ x23_2.toInt := i_le c9
          refine lv_iload_n hx hb dX9_charms_68 rfl (lv_at hl 1 rfl) ?_
          exact hret x23_1 _ _ _ _ _ _ dX9_charms_69 hT hS ⟨hR5, hF5⟩
        ·
          have q9 : x23_2.toInt < r8.toInt := i_nle c9
          have h10 : rg 0 5 x23_2 := t_ltx 0 5 hhx23_2 hr8 (i_nle c9) (by decide)
          have h11 : rg 1 6 r8 := t_lty 1 6 hhx23_2 hr8 (i_nle c9) (by decide)
          refine lv_iload_n hx hb dX9_charms_31 rfl (lv_at hl 1 rfl) ?_
          refine lv_aload_n hx hb dX9_charms_32 rfl (lv_at hl 0 rfl) ?_
          refine r_getr X hT 96 31 112 fk_9_62 rfl rfl (by decide) dX9_charms_33 ?_
          refine lv_aload_n hx hb dX9_charms_36 rfl (lv_at hl 0 rfl) ?_
          refine e_Vi (As := []) (rest := [.ref (h 112), .int x23_1]) X Y hT hS (m_X9_years hR5) mk_X9_years gm_1689 rfl rfl (by decide) hd_X9_years ⟨rfl, rfl⟩ ⟨Nat.le_of_ble_eq_true rfl, Nat.le_of_ble_eq_true rfl⟩ hl.1 rfl (Nat.le_of_ble_eq_true rfl) dX9_charms_37 ⟨Nat.zero_le _, Nat.zero_le _⟩ (fun r12 i12 g12 H locs hq hT hS => ?_)
          obtain ⟨eh12, hr12⟩ := hq
          rw [(Prod.mk.inj eh12).1, (Prod.mk.inj eh12).2] at hT
          refine r_iald X hT 112 rfl (by decide) (v_in hr12 (by decide)) dX9_charms_40 ?_
          refine lv_iload_n hx hb dX9_charms_41 rfl (lv_at hl 2 rfl) ?_
          refine e_Si (As := [.int (i5 112 r12.toNatClampNeg), .int x23_2]) (rest := [.int x23_1]) X Y hT hS (m_X9_isBit (i5 112 r12.toNatClampNeg) x23_2) sk_X9_isBit gm_1670 hd_X9_isBit ⟨rfl, rfl⟩ ⟨Nat.le_of_ble_eq_true rfl, Nat.le_of_ble_eq_true rfl⟩ hl.1 rfl (Nat.le_of_ble_eq_true rfl) dX9_charms_42 ⟨Nat.zero_le _, Nat.zero_le _⟩ (fun r13 i13 g13 H locs hq hT hS => ?_)
          rcases hq with hq | hq
          ·
            obtain ⟨eh13, rfl, hf13_0⟩ := hq
            rw [(Prod.mk.inj eh13).1, (Prod.mk.inj eh13).2] at hT
            replace hf13_0 : ((((i5 112 r12.toNatClampNeg) : Int32) >>> ((x23_2 : Int32) &&& 31)) &&& 1 = 1) := hf13_0
            refine lv_if_eq (tgt := 52) hx hb dX9_charms_45 (by decide) (fun c14 => (x_eq (rg_k (by decide) : rg 1 1 1) (rg_k (by decide) : rg 0 0 0) (i_eq c14) (by decide)).elim) (fun c14 => ?_)
            refine lv_iconst (v := 0) hx hb dX9_charms_48 (by decide) ?_
            refine lv_goto (tgt := 60) hx hb dX9_charms_49 (by decide) ?_
            refine q_iadd hx hb dX9_charms_60 (fun x15 ex15 => ?_)
            obtain ⟨hx15, ax15⟩ := rg_add (-2147483648) 2147483647 ex15 (rg_top x23_1) (rg_k (by decide) : rg 0 0 0) (by decide)
            replace ax15 : x15.toInt = x23_1.toInt + 0 := ax15
            refine lv_istore_n (lv' := [(1, .int x15), (0, .ref (h 96)), (2, .int x23_2)]) hx hb dX9_charms_61 rfl hl (by decide) rfl (fun ls hl => ?_)
            obtain ⟨x16, ex16⟩ : ∃ y : Int32, y = x23_2 + 1 := ⟨_, rfl⟩
            refine lv_iinc (v := x16) (lv' := [(2, .int x16), (1, .int x15), (0, .ref (h 96))]) hx hb dX9_charms_62 hl (k := 2) rfl (by rw [ex16]; rfl) (by decide) rfl (fun ls hl => ?_)
            obtain ⟨hx16, ax16⟩ := rg_add 1 6 ex16 h10 (rg_k (by decide) : rg 1 1 1) (by decide)
            replace ax16 : x16.toInt = x23_2.toInt + 1 := ax16
            refine lv_goto (tgt := 23) hx hb dX9_charms_65 (by decide) ?_
            exact ih7_ x15 x16 _ _ _ (rg_w hx16 (by decide) : rg 0 6 x16) hT hS (lv_sub hl [2, 1, 0] rfl) (m_up ax16 hx16 (by decide) hm7_)
          ·
            obtain ⟨eh13, rfl, hf13_0⟩ := hq
            rw [(Prod.mk.inj eh13).1, (Prod.mk.inj eh13).2] at hT
            replace hf13_0 : ¬ ((((i5 112 r12.toNatClampNeg) : Int32) >>> ((x23_2 : Int32) &&& 31)) &&& 1 = 1) := hf13_0
            refine lv_if_eq (tgt := 52) hx hb dX9_charms_45 (by decide) (fun c17 => ?_) (fun c17 => (x_ne (rg_k (by decide) : rg 0 0 0) (rg_k (by decide) : rg 0 0 0) (i_ne c17) (by decide)).elim)
            refine lv_aload_n hx hb dX9_charms_52 rfl (lv_at hl 0 rfl) ?_
            refine r_getr X hT 96 18 104 fk_9_37 rfl rfl (by decide) dX9_charms_53 ?_
            refine lv_iconst (v := 3) hx hb dX9_charms_56 (by decide) ?_
            refine lv_iload_n hx hb dX9_charms_57 rfl (lv_at hl 2 rfl) ?_
            refine q_imul hx hb dX9_charms_58 (fun x18 ex18 => ?_)
            obtain ⟨hx18, ax18⟩ := rg_mul 0 15 ex18 (rg_k (by decide) : rg 3 3 3) h10 (by decide)
            replace ax18 : x18.toInt = 3 * x23_2.toInt := ax18
            refine r_iald X hT 104 rfl (by decide) (v_in hx18 (by decide)) dX9_charms_59 ?_
            refine q_iadd hx hb dX9_charms_60 (fun x19 ex19 => ?_)
            refine lv_istore_n (lv' := [(1, .int x19), (0, .ref (h 96)), (2, .int x23_2)]) hx hb dX9_charms_61 rfl hl (by decide) rfl (fun ls hl => ?_)
            obtain ⟨x20, ex20⟩ : ∃ y : Int32, y = x23_2 + 1 := ⟨_, rfl⟩
            refine lv_iinc (v := x20) (lv' := [(2, .int x20), (1, .int x19), (0, .ref (h 96))]) hx hb dX9_charms_62 hl (k := 2) rfl (by rw [ex20]; rfl) (by decide) rfl (fun ls hl => ?_)
            obtain ⟨hx20, ax20⟩ := rg_add 1 6 ex20 h10 (rg_k (by decide) : rg 1 1 1) (by decide)
            replace ax20 : x20.toInt = x23_2.toInt + 1 := ax20
            refine lv_goto (tgt := 23) hx hb dX9_charms_65 (by decide) ?_
            exact ih7_ x19 x20 _ _ _ (rg_w hx20 (by decide) : rg 0 6 x20) hT hS (lv_sub hl [2, 1, 0] rfl) (m_up ax20 hx20 (by decide) hm7_)
    exact L23_6 _ (0) (0) _ _ _ (rg_w (rg_k (by decide) : rg 0 0 0) (by decide) : rg 0 6 0) hT hS (lv_sub hl [2, 1, 0] rfl) (Nat.lt_succ_self _)
  ·
    have q3 : r2.toInt = 0 := i_eq c3
    have h21 : rg 0 0 r2 := t_eqx 0 0 hr2 (rg_k (by decide) : rg 0 0 0) (i_eq c3) (by decide)
    refine lv_bipush (v := (-2)) hx hb dX9_charms_12 (by decide) ?_
    exact hret (-2) _ _ _ _ _ _ dX9_charms_14 hT hS ⟨hR1, hF1⟩
set_option maxRecDepth 100000 in
set_option maxHeartbeats 4000000 in
theorem m_X9_moreOf_0t60_m1t60 {l : Launch} {D : va_G} {h : Nat → Nat} {cz : Nat → ClassId} {z : EZ} {i : Nat → Nat → Int32} {g : Nat → Nat → Int64} (a_a : Int32) (a_b : Int32) (ha_a : rg 0 60 a_a) (ha_b : rg (-1) 60 a_b) : DtI l yX9_moreOf cX9_moreOf 2 (some .int) ({ frames := 0, cells := 0, slots := 0, locals := 0 } : Room) D h cz z i g [.int a_a, .int a_b] (fun r u => u = (i, g) ∧ rg 0 60 r) := by
  refine e_I pn_X9_moreOf (Nat.le_of_ble_eq_true rfl) ?_
  intro p e s m args below meth c ls Q X Y hret hT hl hS
  have hx := X.1
  have hb := X.2.1
  have hl : lv_has ls 2 [(0, .int a_a), (1, .int a_b)] := hl
  refine lv_iload_n hx hb dX9_moreOf_0 rfl (lv_at hl 0 rfl) ?_
  refine lv_iload_n hx hb dX9_moreOf_1 rfl (lv_at hl 1 rfl) ?_
  refine lv_icmp_le (tgt := 9) hx hb dX9_moreOf_2 (by decide) (fun c1 => ?_) (fun c1 => ?_)
  ·
    have q1 : a_a.toInt ≤ a_b.toInt := i_le c1
    have h2 : rg 0 60 a_b := t_ley 0 60 ha_a ha_b (i_le c1) (by decide)
    refine lv_iload_n hx hb dX9_moreOf_9 rfl (lv_at hl 1 rfl) ?_
    exact hret a_b _ _ _ _ _ _ dX9_moreOf_10 hT hS ⟨rfl, h2⟩
  ·
    have q1 : a_b.toInt < a_a.toInt := i_nle c1
    have h3 : rg (-1) 59 a_b := t_ltx (-1) 59 ha_b ha_a (i_nle c1) (by decide)
    refine lv_iload_n hx hb dX9_moreOf_5 rfl (lv_at hl 0 rfl) ?_
    refine lv_goto (tgt := 10) hx hb dX9_moreOf_6 (by decide) ?_
    exact hret a_a _ _ _ _ _ _ dX9_moreOf_10 hT hS ⟨rfl, ha_a⟩
set_option maxRecDepth 100000 in
set_option maxHeartbeats 4000000 in
theorem m_X9_best {l : Launch} {D : va_G} {h : Nat → Nat} {cz : Nat → ClassId} {z : EZ} {i : Nat → Nat → Int32} {g : Nat → Nat → Int64} (hR : Rg rA i) (a_a : Int32) : DtI l yX9_best cX9_best 4 (some .int) ({ frames := 6, cells := 0, slots := 0, locals := 132 } : Room) D h cz z i g [.ref (h 96), .int a_a] (fun r u => Rg rA u.1 ∧ Fr [96, 109, 110, 111, 112, 113, 114, 115] [] i g u ∧ rg (-2) 60 r) := by
  refine e_I pn_X9_best (Nat.le_of_ble_eq_true rfl) ?_
  intro p e s m args below meth c ls Q X Y hret hT hl hS
  have hx := X.1
  have hb := X.2.1
  have hl : lv_has ls 4 [(0, .ref (h 96)), (1, .int a_a)] := hl
  have hF : Fr [96, 109, 110, 111, 112, 113, 114, 115] [] i g (i, g) := Fr_rf _ _ _ _
  refine lv_aload_n hx hb dX9_best_0 rfl (lv_at hl 0 rfl) ?_
  refine lv_iconst (v := 0) hx hb dX9_best_1 (by decide) ?_
  refine r_puti X hT hS 96 0 pk_9_83 rfl rfl rfl rfl (by decide) dX9_best_2 (fun H locs i1 ei1 hT hS => ?_)
  have hR1 := Rg_put hR ei1 (-2147483648) 2147483647 rfl (rg_k (by decide) : rg 0 0 0) (by decide)
  have hF1 := Fr_puti hF ei1 (by decide)
  refine lv_aload_n hx hb dX9_best_5 rfl (lv_at hl 0 rfl) ?_
  refine lv_iload_n hx hb dX9_best_6 rfl (lv_at hl 1 rfl) ?_
  refine q_i2l hx hb dX9_best_7 (fun y2 ey2 => ?_)
  obtain ⟨hy2, ay2⟩ := rg_i2l ey2 (rg_top a_a)
  refine e_Vi (As := [.long y2]) (rest := []) X Y hT hS (m_X9_isPart hR1 y2) mk_X9_isPart gm_1645 rfl rfl (by decide) hd_X9_isPart ⟨rfl, rfl⟩ ⟨Nat.le_of_ble_eq_true rfl, Nat.le_of_ble_eq_true rfl⟩ hl.1 rfl (Nat.le_of_ble_eq_true rfl) dX9_best_8 ⟨Nat.zero_le _, Nat.zero_le _⟩ (fun r3 i3 g3 H locs hq hT hS => ?_)
  rcases hq with hq | hq
  ·
    obtain ⟨eh3, rfl, hf3_0⟩ := hq
    rw [(Prod.mk.inj eh3).1, (Prod.mk.inj eh3).2] at hT
    have h4 : rgL 0 5 y2 := ⟨by have := hy2.1; have := hf3_0.1; omega, by have := hy2.2; have := hf3_0.2; omega⟩
    have h5 : rg 0 5 a_a := ⟨by have := h4.1; have := (rg_top a_a).1; have := ay2; omega, by have := h4.2; have := (rg_top a_a).2; have := ay2; omega⟩
    refine lv_if_ne (tgt := 17) hx hb dX9_best_11 (by decide) (fun c6 => ?_) (fun c6 => (x_eq (rg_k (by decide) : rg 1 1 1) (rg_k (by decide) : rg 0 0 0) (i_eq c6) (by decide)).elim)
    refine lv_aload_n hx hb dX9_best_17 rfl (lv_at hl 0 rfl) ?_
    refine e_Vv (As := []) (rest := []) X Y hT hS (m_X9_laysNow hR1) mk_X9_laysNow gm_1693 rfl rfl (by decide) hd_X9_laysNow ⟨rfl, rfl⟩ ⟨Nat.le_of_ble_eq_true rfl, Nat.le_of_ble_eq_true rfl⟩ hl.1 rfl (Nat.le_of_ble_eq_true rfl) dX9_best_18 ⟨Nat.zero_le _, Nat.zero_le _⟩ (fun i7 g7 H locs hq hT hS => ?_)
    obtain ⟨hR7, hf7⟩ := hq
    have hF7 := Fr_tr hF1 hf7 (by decide)
    refine lv_iconst (v := 0) hx hb dX9_best_21 (by decide) ?_
    refine lv_istore_n (lv' := [(2, .int 0), (0, .ref (h 96)), (1, .int a_a)]) hx hb dX9_best_22 rfl hl (by decide) rfl (fun ls hl => ?_)
    refine lv_iconst (v := 0) hx hb dX9_best_23 (by decide) ?_
    refine lv_istore_n (lv' := [(3, .int 0), (2, .int 0), (0, .ref (h 96)), (1, .int a_a)]) hx hb dX9_best_24 rfl hl (by decide) rfl (fun ls hl => ?_)
    have L25_8 : ∀ (n9_ : Nat) (x25_2 : Int32) (x25_3 : Int32) (H : Heap) (locs : List Loc) (ls : Array Slot), rg 0 60 x25_2 → rg 0 13 x25_3 → TH D h cz i7 g7 H → va_S (hA h) s.heap H locs → lv_has ls 4 [(0, .ref (h 96)), (1, .int a_a), (2, .int x25_2), (3, .int x25_3)] → (13 - x25_3.toInt).toNat < n9_ → W p l e ({ frames := 6, cells := 0, slots := 0, locals := 132 } : Room) s m args below meth c H locs 0 0 Q (F0 m 25 ls []) := by
      intro n9_
      induction n9_ with
      | zero => intro x25_2 x25_3 H locs ls hhx25_2 hhx25_3 hT hS hl hm9_; exact absurd hm9_ (Nat.not_lt_zero _)
      | succ n9_ ih9_ =>
        intro x25_2 x25_3 H locs ls hhx25_2 hhx25_3 hT hS hl hm9_
        refine lv_iload_n hx hb dX9_best_25 rfl (lv_at hl 3 rfl) ?_
        refine lv_aload_n hx hb dX9_best_26 rfl (lv_at hl 0 rfl) ?_
        refine e_Vi (As := []) (rest := [.int x25_3]) X Y hT hS (m_X9_years hR7) mk_X9_years gm_1689 rfl rfl (by decide) hd_X9_years ⟨rfl, rfl⟩ ⟨Nat.le_of_ble_eq_true rfl, Nat.le_of_ble_eq_true rfl⟩ hl.1 rfl (Nat.le_of_ble_eq_true rfl) dX9_best_27 ⟨Nat.zero_le _, Nat.zero_le _⟩ (fun r10 i10 g10 H locs hq hT hS => ?_)
        obtain ⟨eh10, hr10⟩ := hq
        rw [(Prod.mk.inj eh10).1, (Prod.mk.inj eh10).2] at hT
        refine lv_icmp_gt (tgt := 50) hx hb dX9_best_30 (by decide) (fun c11 => ?_) (fun c11 => ?_)
        ·
          have q11 : r10.toInt < x25_3.toInt := i_lt c11
          have h12 : rg 1 13 x25_3 := t_lty 1 13 hr10 hhx25_3 (i_lt c11) (by decide)
          refine lv_iload_n hx hb dX9_best_50 rfl (lv_at hl 2 rfl) ?_
          exact hret x25_2 _ _ _ _ _ _ dX9_best_51 hT hS ⟨hR7, hF7, (rg_w hhx25_2 (by decide) : rg (-2) 60 x25_2)⟩
        ·
          have q11 : x25_3.toInt ≤ r10.toInt := i_nlt c11
          have h13 : rg 0 12 x25_3 := t_lex 0 12 hhx25_3 hr10 (i_nlt c11) (by decide)
          refine lv_iload_n hx hb dX9_best_33 rfl (lv_at hl 2 rfl) ?_
          refine lv_aload_n hx hb dX9_best_34 rfl (lv_at hl 0 rfl) ?_
          refine lv_iload_n hx hb dX9_best_35 rfl (lv_at hl 1 rfl) ?_
          refine lv_iload_n hx hb dX9_best_36 rfl (lv_at hl 3 rfl) ?_
          refine e_Vi (As := [.int a_a, .int x25_3]) (rest := [.int x25_2]) X Y hT hS (m_X9_keepsOf hR7 a_a x25_3 h5 h13) mk_X9_keepsOf gm_1778 rfl rfl (by decide) hd_X9_keepsOf ⟨rfl, rfl⟩ ⟨Nat.le_of_ble_eq_true rfl, Nat.le_of_ble_eq_true rfl⟩ hl.1 rfl (Nat.le_of_ble_eq_true rfl) dX9_best_37 ⟨Nat.zero_le _, Nat.zero_le _⟩ (fun r14 i14 g14 H locs hq hT hS => ?_)
          obtain ⟨eh14, hr14⟩ := hq
          rw [(Prod.mk.inj eh14).1, (Prod.mk.inj eh14).2] at hT
          refine e_Si (As := [.int x25_2, .int r14]) (rest := []) X Y hT hS (m_X9_moreOf_0t60_m1t60 x25_2 r14 hhx25_2 hr14) sk_X9_moreOf gm_1709 hd_X9_moreOf ⟨rfl, rfl⟩ ⟨Nat.le_of_ble_eq_true rfl, Nat.le_of_ble_eq_true rfl⟩ hl.1 rfl (Nat.le_of_ble_eq_true rfl) dX9_best_40 ⟨Nat.zero_le _, Nat.zero_le _⟩ (fun r15 i15 g15 H locs hq hT hS => ?_)
          obtain ⟨eh15, hr15⟩ := hq
          rw [(Prod.mk.inj eh15).1, (Prod.mk.inj eh15).2] at hT
          refine lv_istore_n (lv' := [(2, .int r15), (0, .ref (h 96)), (1, .int a_a), (3, .int x25_3)]) hx hb dX9_best_43 rfl hl (by decide) rfl (fun ls hl => ?_)
          obtain ⟨x16, ex16⟩ : ∃ y : Int32, y = x25_3 + 1 := ⟨_, rfl⟩
          refine lv_iinc (v := x16) (lv' := [(3, .int x16), (2, .int r15), (0, .ref (h 96)), (1, .int a_a)]) hx hb dX9_best_44 hl (k := 3) rfl (by rw [ex16]; rfl) (by decide) rfl (fun ls hl => ?_)
          obtain ⟨hx16, ax16⟩ := rg_add 1 13 ex16 h13 (rg_k (by decide) : rg 1 1 1) (by decide)
          replace ax16 : x16.toInt = x25_3.toInt + 1 := ax16
          refine lv_goto (tgt := 25) hx hb dX9_best_47 (by decide) ?_
          exact ih9_ r15 x16 _ _ _ hr15 (rg_w hx16 (by decide) : rg 0 13 x16) hT hS (lv_sub hl [2, 3, 1, 0] rfl) (m_up ax16 hx16 (by decide) hm9_)
    exact L25_8 _ (0) (0) _ _ _ (rg_w (rg_k (by decide) : rg 0 0 0) (by decide) : rg 0 60 0) (rg_w (rg_k (by decide) : rg 0 0 0) (by decide) : rg 0 13 0) hT hS (lv_sub hl [2, 3, 1, 0] rfl) (Nat.lt_succ_self _)
  ·
    obtain ⟨eh3, rfl⟩ := hq
    rw [(Prod.mk.inj eh3).1, (Prod.mk.inj eh3).2] at hT
    refine lv_if_ne (tgt := 17) hx hb dX9_best_11 (by decide) (fun c17 => (x_ne (rg_k (by decide) : rg 0 0 0) (rg_k (by decide) : rg 0 0 0) (i_ne c17) (by decide)).elim) (fun c17 => ?_)
    refine lv_bipush (v := (-2)) hx hb dX9_best_14 (by decide) ?_
    exact hret (-2) _ _ _ _ _ _ dX9_best_16 hT hS ⟨hR1, hF1, (rg_w (rg_k (by decide) : rg (-2) (-2) (-2)) (by decide) : rg (-2) 60 (-2))⟩
set_option maxRecDepth 100000 in
set_option maxHeartbeats 4000000 in
theorem m_X9_peak {l : Launch} {D : va_G} {h : Nat → Nat} {cz : Nat → ClassId} {z : EZ} {i : Nat → Nat → Int32} {g : Nat → Nat → Int64} (hR : Rg rA i) : DtI l yX9_peak cX9_peak 3 (some .int) ({ frames := 6, cells := 0, slots := 0, locals := 132 } : Room) D h cz z i g [.ref (h 96)] (fun r u => Rg rA u.1 ∧ Fr [96, 109, 110, 111, 112, 113, 114, 115] [] i g u ∧ rg (-2) 11 r) := by
  refine e_I pn_X9_peak (Nat.le_of_ble_eq_true rfl) ?_
  intro p e s m args below meth c ls Q X Y hret hT hl hS
  have hx := X.1
  have hb := X.2.1
  have hl : lv_has ls 3 [(0, .ref (h 96))] := hl
  have hF : Fr [96, 109, 110, 111, 112, 113, 114, 115] [] i g (i, g) := Fr_rf _ _ _ _
  refine lv_aload_n hx hb dX9_peak_0 rfl (lv_at hl 0 rfl) ?_
  refine lv_iconst (v := 0) hx hb dX9_peak_1 (by decide) ?_
  refine r_puti X hT hS 96 0 pk_9_83 rfl rfl rfl rfl (by decide) dX9_peak_2 (fun H locs i1 ei1 hT hS => ?_)
  have hR1 := Rg_put hR ei1 (-2147483648) 2147483647 rfl (rg_k (by decide) : rg 0 0 0) (by decide)
  have hF1 := Fr_puti hF ei1 (by decide)
  refine lv_aload_n hx hb dX9_peak_5 rfl (lv_at hl 0 rfl) ?_
  refine e_Vi (As := []) (rest := []) X Y hT hS (m_X9_isTale hR1) mk_X9_isTale gm_1685 rfl rfl (by decide) hd_X9_isTale ⟨rfl, rfl⟩ ⟨Nat.le_of_ble_eq_true rfl, Nat.le_of_ble_eq_true rfl⟩ hl.1 rfl (Nat.le_of_ble_eq_true rfl) dX9_peak_6 ⟨Nat.zero_le _, Nat.zero_le _⟩ (fun r2 i2 g2 H locs hq hT hS => ?_)
  obtain ⟨eh2, hr2⟩ := hq
  rw [(Prod.mk.inj eh2).1, (Prod.mk.inj eh2).2] at hT
  refine lv_if_ne (tgt := 15) hx hb dX9_peak_9 (by decide) (fun c3 => ?_) (fun c3 => ?_)
  ·
    have q3 : ¬ r2.toInt = 0 := i_ne c3
    have h4 : rg 1 1 r2 := t_nelo 1 hr2 (rg_k (by decide) : rg 0 0 0) (i_ne c3) (by decide)
    refine lv_aload_n hx hb dX9_peak_15 rfl (lv_at hl 0 rfl) ?_
    refine e_Vv (As := []) (rest := []) X Y hT hS (m_X9_laysNow hR1) mk_X9_laysNow gm_1693 rfl rfl (by decide) hd_X9_laysNow ⟨rfl, rfl⟩ ⟨Nat.le_of_ble_eq_true rfl, Nat.le_of_ble_eq_true rfl⟩ hl.1 rfl (Nat.le_of_ble_eq_true rfl) dX9_peak_16 ⟨Nat.zero_le _, Nat.zero_le _⟩ (fun i5 g5 H locs hq hT hS => ?_)
    obtain ⟨hR5, hf5⟩ := hq
    have hF5 := Fr_tr hF1 hf5 (by decide)
    refine lv_iconst (v := 0) hx hb dX9_peak_19 (by decide) ?_
    refine lv_istore_n (lv' := [(1, .int 0), (0, .ref (h 96))]) hx hb dX9_peak_20 rfl hl (by decide) rfl (fun ls hl => ?_)
    refine lv_iconst (v := 1) hx hb dX9_peak_21 (by decide) ?_
    refine lv_istore_n (lv' := [(2, .int 1), (1, .int 0), (0, .ref (h 96))]) hx hb dX9_peak_22 rfl hl (by decide) rfl (fun ls hl => ?_)
    have L23_6 : ∀ (n7_ : Nat) (x23_1 : Int32) (x23_2 : Int32) (H : Heap) (locs : List Loc) (ls : Array Slot), rg 0 11 x23_1 → rg 1 12 x23_2 → TH D h cz i5 g5 H → va_S (hA h) s.heap H locs → lv_has ls 3 [(0, .ref (h 96)), (1, .int x23_1), (2, .int x23_2)] → (12 - x23_2.toInt).toNat < n7_ → W p l e ({ frames := 6, cells := 0, slots := 0, locals := 132 } : Room) s m args below meth c H locs 0 0 Q (F0 m 23 ls []) := by
      intro n7_
      induction n7_ with
      | zero => intro x23_1 x23_2 H locs ls hhx23_1 hhx23_2 hT hS hl hm7_; exact absurd hm7_ (Nat.not_lt_zero _)
      | succ n7_ ih7_ =>
        intro x23_1 x23_2 H locs ls hhx23_1 hhx23_2 hT hS hl hm7_
        refine lv_iload_n hx hb dX9_peak_23 rfl (lv_at hl 2 rfl) ?_
        refine lv_aload_n hx hb dX9_peak_24 rfl (lv_at hl 0 rfl) ?_
        refine e_Vi (As := []) (rest := [.int x23_2]) X Y hT hS (m_X9_years hR5) mk_X9_years gm_1689 rfl rfl (by decide) hd_X9_years ⟨rfl, rfl⟩ ⟨Nat.le_of_ble_eq_true rfl, Nat.le_of_ble_eq_true rfl⟩ hl.1 rfl (Nat.le_of_ble_eq_true rfl) dX9_peak_25 ⟨Nat.zero_le _, Nat.zero_le _⟩ (fun r8 i8 g8 H locs hq hT hS => ?_)
        obtain ⟨eh8, hr8⟩ := hq
        rw [(Prod.mk.inj eh8).1, (Prod.mk.inj eh8).2] at hT
        refine lv_icmp_ge (tgt := 52) hx hb dX9_peak_28 (by decide) (fun c9 => ?_) (fun c9 => ?_)
        ·
          have q9 : r8.toInt ≤ x23_2.toInt := i_le c9
          refine lv_iload_n hx hb dX9_peak_52 rfl (lv_at hl 1 rfl) ?_
          exact hret x23_1 _ _ _ _ _ _ dX9_peak_53 hT hS ⟨hR5, hF5, (rg_w hhx23_1 (by decide) : rg (-2) 11 x23_1)⟩
        ·
          have q9 : x23_2.toInt < r8.toInt := i_nle c9
          have h10 : rg 1 11 x23_2 := t_ltx 1 11 hhx23_2 hr8 (i_nle c9) (by decide)
          have h11 : rg 2 12 r8 := t_lty 2 12 hhx23_2 hr8 (i_nle c9) (by decide)
          refine lv_aload_n hx hb dX9_peak_31 rfl (lv_at hl 0 rfl) ?_
          refine lv_iload_n hx hb dX9_peak_32 rfl (lv_at hl 2 rfl) ?_
          refine e_Vi (As := [.int x23_2]) (rest := []) X Y hT hS (m_X9_readIn hR5 x23_2) mk_X9_readIn gm_1762 rfl rfl (by decide) hd_X9_readIn ⟨rfl, rfl⟩ ⟨Nat.le_of_ble_eq_true rfl, Nat.le_of_ble_eq_true rfl⟩ hl.1 rfl (Nat.le_of_ble_eq_true rfl) dX9_peak_33 ⟨Nat.zero_le _, Nat.zero_le _⟩ (fun r12 i12 g12 H locs hq hT hS => ?_)
          have eh12 := hq
          rw [(Prod.mk.inj eh12).1, (Prod.mk.inj eh12).2] at hT
          refine lv_aload_n hx hb dX9_peak_36 rfl (lv_at hl 0 rfl) ?_
          refine lv_iload_n hx hb dX9_peak_37 rfl (lv_at hl 1 rfl) ?_
          refine e_Vi (As := [.int x23_1]) (rest := [.int r12]) X Y hT hS (m_X9_readIn hR5 x23_1) mk_X9_readIn gm_1762 rfl rfl (by decide) hd_X9_readIn ⟨rfl, rfl⟩ ⟨Nat.le_of_ble_eq_true rfl, Nat.le_of_ble_eq_true rfl⟩ hl.1 rfl (Nat.le_of_ble_eq_true rfl) dX9_peak_38 ⟨Nat.zero_le _, Nat.zero_le _⟩ (fun r13 i13 g13 H locs hq hT hS => ?_)
          have eh13 := hq
          rw [(Prod.mk.inj eh13).1, (Prod.mk.inj eh13).2] at hT
          refine lv_icmp_le (tgt := 46) hx hb dX9_peak_41 (by decide) (fun c14 => ?_) (fun c14 => ?_)
          ·
            have q14 : r12.toInt ≤ r13.toInt := i_le c14
            obtain ⟨x15, ex15⟩ : ∃ y : Int32, y = x23_2 + 1 := ⟨_, rfl⟩
            refine lv_iinc (v := x15) (lv' := [(2, .int x15), (0, .ref (h 96)), (1, .int x23_1)]) hx hb dX9_peak_46 hl (k := 2) rfl (by rw [ex15]; rfl) (by decide) rfl (fun ls hl => ?_)
            obtain ⟨hx15, ax15⟩ := rg_add 2 12 ex15 h10 (rg_k (by decide) : rg 1 1 1) (by decide)
            replace ax15 : x15.toInt = x23_2.toInt + 1 := ax15
            refine lv_goto (tgt := 23) hx hb dX9_peak_49 (by decide) ?_
            exact ih7_ x23_1 x15 _ _ _ hhx23_1 (rg_w hx15 (by decide) : rg 1 12 x15) hT hS (lv_sub hl [1, 2, 0] rfl) (m_up ax15 hx15 (by decide) hm7_)
          ·
            have q14 : r13.toInt < r12.toInt := i_nle c14
            have h16 : rg (-2147483648) 2147483646 r13 := t_ltx (-2147483648) 2147483646 (rg_top r13) (rg_top r12) (i_nle c14) (by decide)
            have h17 : rg (-2147483647) 2147483647 r12 := t_lty (-2147483647) 2147483647 (rg_top r13) (rg_top r12) (i_nle c14) (by decide)
            refine lv_iload_n hx hb dX9_peak_44 rfl (lv_at hl 2 rfl) ?_
            refine lv_istore_n (lv' := [(1, .int x23_2), (0, .ref (h 96)), (2, .int x23_2)]) hx hb dX9_peak_45 rfl hl (by decide) rfl (fun ls hl => ?_)
            obtain ⟨x18, ex18⟩ : ∃ y : Int32, y = x23_2 + 1 := ⟨_, rfl⟩
            refine lv_iinc (v := x18) (lv' := [(2, .int x18), (1, .int x23_2), (0, .ref (h 96))]) hx hb dX9_peak_46 hl (k := 2) rfl (by rw [ex18]; rfl) (by decide) rfl (fun ls hl => ?_)
            obtain ⟨hx18, ax18⟩ := rg_add 2 12 ex18 h10 (rg_k (by decide) : rg 1 1 1) (by decide)
            replace ax18 : x18.toInt = x23_2.toInt + 1 := ax18
            refine lv_goto (tgt := 23) hx hb dX9_peak_49 (by decide) ?_
            exact ih7_ x23_2 x18 _ _ _ (rg_w h10 (by decide) : rg 0 11 x23_2) (rg_w hx18 (by decide) : rg 1 12 x18) hT hS (lv_sub hl [2, 1, 0] rfl) (m_up ax18 hx18 (by decide) hm7_)
    exact L23_6 _ (0) (1) _ _ _ (rg_w (rg_k (by decide) : rg 0 0 0) (by decide) : rg 0 11 0) (rg_w (rg_k (by decide) : rg 1 1 1) (by decide) : rg 1 12 1) hT hS (lv_sub hl [2, 1, 0] rfl) (Nat.lt_succ_self _)
  ·
    have q3 : r2.toInt = 0 := i_eq c3
    have h19 : rg 0 0 r2 := t_eqx 0 0 hr2 (rg_k (by decide) : rg 0 0 0) (i_eq c3) (by decide)
    refine lv_bipush (v := (-2)) hx hb dX9_peak_12 (by decide) ?_
    exact hret (-2) _ _ _ _ _ _ dX9_peak_14 hT hS ⟨hR1, hF1, (rg_w (rg_k (by decide) : rg (-2) (-2) (-2)) (by decide) : rg (-2) 11 (-2))⟩
set_option maxRecDepth 100000 in
set_option maxHeartbeats 4000000 in
theorem m_X9_first {l : Launch} {D : va_G} {h : Nat → Nat} {cz : Nat → ClassId} {z : EZ} {i : Nat → Nat → Int32} {g : Nat → Nat → Int64} (hR : Rg rA i) : DtI l yX9_first cX9_first 2 (some .int) ({ frames := 6, cells := 0, slots := 0, locals := 132 } : Room) D h cz z i g [.ref (h 96)] (fun r u => Rg rA u.1 ∧ Fr [96, 109, 110, 111, 112, 113, 114, 115] [] i g u ∧ rg (-2) 11 r) := by
  refine e_I pn_X9_first (Nat.le_of_ble_eq_true rfl) ?_
  intro p e s m args below meth c ls Q X Y hret hT hl hS
  have hx := X.1
  have hb := X.2.1
  have hl : lv_has ls 2 [(0, .ref (h 96))] := hl
  have hF : Fr [96, 109, 110, 111, 112, 113, 114, 115] [] i g (i, g) := Fr_rf _ _ _ _
  refine lv_aload_n hx hb dX9_first_0 rfl (lv_at hl 0 rfl) ?_
  refine lv_iconst (v := 0) hx hb dX9_first_1 (by decide) ?_
  refine r_puti X hT hS 96 0 pk_9_83 rfl rfl rfl rfl (by decide) dX9_first_2 (fun H locs i1 ei1 hT hS => ?_)
  have hR1 := Rg_put hR ei1 (-2147483648) 2147483647 rfl (rg_k (by decide) : rg 0 0 0) (by decide)
  have hF1 := Fr_puti hF ei1 (by decide)
  refine lv_aload_n hx hb dX9_first_5 rfl (lv_at hl 0 rfl) ?_
  refine e_Vi (As := []) (rest := []) X Y hT hS (m_X9_isTale hR1) mk_X9_isTale gm_1685 rfl rfl (by decide) hd_X9_isTale ⟨rfl, rfl⟩ ⟨Nat.le_of_ble_eq_true rfl, Nat.le_of_ble_eq_true rfl⟩ hl.1 rfl (Nat.le_of_ble_eq_true rfl) dX9_first_6 ⟨Nat.zero_le _, Nat.zero_le _⟩ (fun r2 i2 g2 H locs hq hT hS => ?_)
  obtain ⟨eh2, hr2⟩ := hq
  rw [(Prod.mk.inj eh2).1, (Prod.mk.inj eh2).2] at hT
  refine lv_if_ne (tgt := 15) hx hb dX9_first_9 (by decide) (fun c3 => ?_) (fun c3 => ?_)
  ·
    have q3 : ¬ r2.toInt = 0 := i_ne c3
    have h4 : rg 1 1 r2 := t_nelo 1 hr2 (rg_k (by decide) : rg 0 0 0) (i_ne c3) (by decide)
    refine lv_aload_n hx hb dX9_first_15 rfl (lv_at hl 0 rfl) ?_
    refine e_Vv (As := []) (rest := []) X Y hT hS (m_X9_laysNow hR1) mk_X9_laysNow gm_1693 rfl rfl (by decide) hd_X9_laysNow ⟨rfl, rfl⟩ ⟨Nat.le_of_ble_eq_true rfl, Nat.le_of_ble_eq_true rfl⟩ hl.1 rfl (Nat.le_of_ble_eq_true rfl) dX9_first_16 ⟨Nat.zero_le _, Nat.zero_le _⟩ (fun i5 g5 H locs hq hT hS => ?_)
    obtain ⟨hR5, hf5⟩ := hq
    have hF5 := Fr_tr hF1 hf5 (by decide)
    refine lv_iconst (v := 0) hx hb dX9_first_19 (by decide) ?_
    refine lv_istore_n (lv' := [(1, .int 0), (0, .ref (h 96))]) hx hb dX9_first_20 rfl hl (by decide) rfl (fun ls hl => ?_)
    have L21_6 : ∀ (n7_ : Nat) (x21_1 : Int32) (H : Heap) (locs : List Loc) (ls : Array Slot), rg 0 12 x21_1 → TH D h cz i5 g5 H → va_S (hA h) s.heap H locs → lv_has ls 2 [(0, .ref (h 96)), (1, .int x21_1)] → (12 - x21_1.toInt).toNat < n7_ → W p l e ({ frames := 6, cells := 0, slots := 0, locals := 132 } : Room) s m args below meth c H locs 0 0 Q (F0 m 21 ls []) := by
      intro n7_
      induction n7_ with
      | zero => intro x21_1 H locs ls hhx21_1 hT hS hl hm7_; exact absurd hm7_ (Nat.not_lt_zero _)
      | succ n7_ ih7_ =>
        intro x21_1 H locs ls hhx21_1 hT hS hl hm7_
        refine lv_iload_n hx hb dX9_first_21 rfl (lv_at hl 1 rfl) ?_
        refine lv_aload_n hx hb dX9_first_22 rfl (lv_at hl 0 rfl) ?_
        refine e_Vi (As := []) (rest := [.int x21_1]) X Y hT hS (m_X9_years hR5) mk_X9_years gm_1689 rfl rfl (by decide) hd_X9_years ⟨rfl, rfl⟩ ⟨Nat.le_of_ble_eq_true rfl, Nat.le_of_ble_eq_true rfl⟩ hl.1 rfl (Nat.le_of_ble_eq_true rfl) dX9_first_23 ⟨Nat.zero_le _, Nat.zero_le _⟩ (fun r8 i8 g8 H locs hq hT hS => ?_)
        obtain ⟨eh8, hr8⟩ := hq
        rw [(Prod.mk.inj eh8).1, (Prod.mk.inj eh8).2] at hT
        refine lv_icmp_ge (tgt := 45) hx hb dX9_first_26 (by decide) (fun c9 => ?_) (fun c9 => ?_)
        ·
          have q9 : r8.toInt ≤ x21_1.toInt := i_le c9
          refine lv_iconst (v := (-1)) hx hb dX9_first_45 (by decide) ?_
          exact hret (-1) _ _ _ _ _ _ dX9_first_46 hT hS ⟨hR5, hF5, (rg_w (rg_k (by decide) : rg (-1) (-1) (-1)) (by decide) : rg (-2) 11 (-1))⟩
        ·
          have q9 : x21_1.toInt < r8.toInt := i_nle c9
          have h10 : rg 0 11 x21_1 := t_ltx 0 11 hhx21_1 hr8 (i_nle c9) (by decide)
          have h11 : rg 1 12 r8 := t_lty 1 12 hhx21_1 hr8 (i_nle c9) (by decide)
          refine lv_aload_n hx hb dX9_first_29 rfl (lv_at hl 0 rfl) ?_
          refine lv_iload_n hx hb dX9_first_30 rfl (lv_at hl 1 rfl) ?_
          refine e_Vi (As := [.int x21_1]) (rest := []) X Y hT hS (m_X9_freshIn hR5 x21_1 h10) mk_X9_freshIn gm_1826 rfl rfl (by decide) hd_X9_freshIn ⟨rfl, rfl⟩ ⟨Nat.le_of_ble_eq_true rfl, Nat.le_of_ble_eq_true rfl⟩ hl.1 rfl (Nat.le_of_ble_eq_true rfl) dX9_first_31 ⟨Nat.zero_le _, Nat.zero_le _⟩ (fun r12 i12 g12 H locs hq hT hS => ?_)
          have eh12 := hq
          rw [(Prod.mk.inj eh12).1, (Prod.mk.inj eh12).2] at hT
          refine lv_if_eq (tgt := 39) hx hb dX9_first_34 (by decide) (fun c13 => ?_) (fun c13 => ?_)
          ·
            have q13 : r12.toInt = 0 := i_eq c13
            have h14 : rg 0 0 r12 := t_eqx 0 0 (rg_top r12) (rg_k (by decide) : rg 0 0 0) (i_eq c13) (by decide)
            obtain ⟨x15, ex15⟩ : ∃ y : Int32, y = x21_1 + 1 := ⟨_, rfl⟩
            refine lv_iinc (v := x15) (lv' := [(1, .int x15), (0, .ref (h 96))]) hx hb dX9_first_39 hl (k := 1) rfl (by rw [ex15]; rfl) (by decide) rfl (fun ls hl => ?_)
            obtain ⟨hx15, ax15⟩ := rg_add 1 12 ex15 h10 (rg_k (by decide) : rg 1 1 1) (by decide)
            replace ax15 : x15.toInt = x21_1.toInt + 1 := ax15
            refine lv_goto (tgt := 21) hx hb dX9_first_42 (by decide) ?_
            exact ih7_ x15 _ _ _ (rg_w hx15 (by decide) : rg 0 12 x15) hT hS (lv_sub hl [1, 0] rfl) (m_up ax15 hx15 (by decide) hm7_)
          ·
            have q13 : ¬ r12.toInt = 0 := i_ne c13
            refine lv_iload_n hx hb dX9_first_37 rfl (lv_at hl 1 rfl) ?_
            exact hret x21_1 _ _ _ _ _ _ dX9_first_38 hT hS ⟨hR5, hF5, (rg_w h10 (by decide) : rg (-2) 11 x21_1)⟩
    exact L21_6 _ (0) _ _ _ (rg_w (rg_k (by decide) : rg 0 0 0) (by decide) : rg 0 12 0) hT hS (lv_sub hl [1, 0] rfl) (Nat.lt_succ_self _)
  ·
    have q3 : r2.toInt = 0 := i_eq c3
    have h16 : rg 0 0 r2 := t_eqx 0 0 hr2 (rg_k (by decide) : rg 0 0 0) (i_eq c3) (by decide)
    refine lv_bipush (v := (-2)) hx hb dX9_first_12 (by decide) ?_
    exact hret (-2) _ _ _ _ _ _ dX9_first_14 hT hS ⟨hR1, hF1, (rg_w (rg_k (by decide) : rg (-2) (-2) (-2)) (by decide) : rg (-2) 11 (-2))⟩
set_option maxRecDepth 100000 in
set_option maxHeartbeats 4000000 in
theorem m_X9_quiet {l : Launch} {D : va_G} {h : Nat → Nat} {cz : Nat → ClassId} {z : EZ} {i : Nat → Nat → Int32} {g : Nat → Nat → Int64} (hR : Rg rA i) : DtI l yX9_quiet cX9_quiet 3 (some .int) ({ frames := 6, cells := 0, slots := 0, locals := 132 } : Room) D h cz z i g [.ref (h 96)] (fun r u => Rg rA u.1 ∧ Fr [96, 109, 110, 111, 112, 113, 114, 115] [] i g u) := by
  refine e_I pn_X9_quiet (Nat.le_of_ble_eq_true rfl) ?_
  intro p e s m args below meth c ls Q X Y hret hT hl hS
  have hx := X.1
  have hb := X.2.1
  have hl : lv_has ls 3 [(0, .ref (h 96))] := hl
  have hF : Fr [96, 109, 110, 111, 112, 113, 114, 115] [] i g (i, g) := Fr_rf _ _ _ _
  refine lv_aload_n hx hb dX9_quiet_0 rfl (lv_at hl 0 rfl) ?_
  refine lv_iconst (v := 0) hx hb dX9_quiet_1 (by decide) ?_
  refine r_puti X hT hS 96 0 pk_9_83 rfl rfl rfl rfl (by decide) dX9_quiet_2 (fun H locs i1 ei1 hT hS => ?_)
  have hR1 := Rg_put hR ei1 (-2147483648) 2147483647 rfl (rg_k (by decide) : rg 0 0 0) (by decide)
  have hF1 := Fr_puti hF ei1 (by decide)
  refine lv_aload_n hx hb dX9_quiet_5 rfl (lv_at hl 0 rfl) ?_
  refine e_Vi (As := []) (rest := []) X Y hT hS (m_X9_isTale hR1) mk_X9_isTale gm_1685 rfl rfl (by decide) hd_X9_isTale ⟨rfl, rfl⟩ ⟨Nat.le_of_ble_eq_true rfl, Nat.le_of_ble_eq_true rfl⟩ hl.1 rfl (Nat.le_of_ble_eq_true rfl) dX9_quiet_6 ⟨Nat.zero_le _, Nat.zero_le _⟩ (fun r2 i2 g2 H locs hq hT hS => ?_)
  obtain ⟨eh2, hr2⟩ := hq
  rw [(Prod.mk.inj eh2).1, (Prod.mk.inj eh2).2] at hT
  refine lv_if_ne (tgt := 15) hx hb dX9_quiet_9 (by decide) (fun c3 => ?_) (fun c3 => ?_)
  ·
    have q3 : ¬ r2.toInt = 0 := i_ne c3
    have h4 : rg 1 1 r2 := t_nelo 1 hr2 (rg_k (by decide) : rg 0 0 0) (i_ne c3) (by decide)
    refine lv_aload_n hx hb dX9_quiet_15 rfl (lv_at hl 0 rfl) ?_
    refine e_Vv (As := []) (rest := []) X Y hT hS (m_X9_laysNow hR1) mk_X9_laysNow gm_1693 rfl rfl (by decide) hd_X9_laysNow ⟨rfl, rfl⟩ ⟨Nat.le_of_ble_eq_true rfl, Nat.le_of_ble_eq_true rfl⟩ hl.1 rfl (Nat.le_of_ble_eq_true rfl) dX9_quiet_16 ⟨Nat.zero_le _, Nat.zero_le _⟩ (fun i5 g5 H locs hq hT hS => ?_)
    obtain ⟨hR5, hf5⟩ := hq
    have hF5 := Fr_tr hF1 hf5 (by decide)
    refine lv_iconst (v := 0) hx hb dX9_quiet_19 (by decide) ?_
    refine lv_istore_n (lv' := [(1, .int 0), (0, .ref (h 96))]) hx hb dX9_quiet_20 rfl hl (by decide) rfl (fun ls hl => ?_)
    refine lv_iconst (v := 0) hx hb dX9_quiet_21 (by decide) ?_
    refine lv_istore_n (lv' := [(2, .int 0), (1, .int 0), (0, .ref (h 96))]) hx hb dX9_quiet_22 rfl hl (by decide) rfl (fun ls hl => ?_)
    have L23_6 : ∀ (n7_ : Nat) (x23_1 : Int32) (x23_2 : Int32) (H : Heap) (locs : List Loc) (ls : Array Slot), rg 0 12 x23_2 → TH D h cz i5 g5 H → va_S (hA h) s.heap H locs → lv_has ls 3 [(0, .ref (h 96)), (1, .int x23_1), (2, .int x23_2)] → (12 - x23_2.toInt).toNat < n7_ → W p l e ({ frames := 6, cells := 0, slots := 0, locals := 132 } : Room) s m args below meth c H locs 0 0 Q (F0 m 23 ls []) := by
      intro n7_
      induction n7_ with
      | zero => intro x23_1 x23_2 H locs ls hhx23_2 hT hS hl hm7_; exact absurd hm7_ (Nat.not_lt_zero _)
      | succ n7_ ih7_ =>
        intro x23_1 x23_2 H locs ls hhx23_2 hT hS hl hm7_
        refine lv_iload_n hx hb dX9_quiet_23 rfl (lv_at hl 2 rfl) ?_
        refine lv_aload_n hx hb dX9_quiet_24 rfl (lv_at hl 0 rfl) ?_
        refine e_Vi (As := []) (rest := [.int x23_2]) X Y hT hS (m_X9_years hR5) mk_X9_years gm_1689 rfl rfl (by decide) hd_X9_years ⟨rfl, rfl⟩ ⟨Nat.le_of_ble_eq_true rfl, Nat.le_of_ble_eq_true rfl⟩ hl.1 rfl (Nat.le_of_ble_eq_true rfl) dX9_quiet_25 ⟨Nat.zero_le _, Nat.zero_le _⟩ (fun r8 i8 g8 H locs hq hT hS => ?_)
        obtain ⟨eh8, hr8⟩ := hq
        rw [(Prod.mk.inj eh8).1, (Prod.mk.inj eh8).2] at hT
        refine lv_icmp_ge (tgt := 53) hx hb dX9_quiet_28 (by decide) (fun c9 => ?_) (fun c9 => ?_)
        ·
          have q9 : r8.toInt ≤ x23_2.toInt := i_le c9
          refine lv_iload_n hx hb dX9_quiet_53 rfl (lv_at hl 1 rfl) ?_
          exact hret x23_1 _ _ _ _ _ _ dX9_quiet_54 hT hS ⟨hR5, hF5⟩
        ·
          have q9 : x23_2.toInt < r8.toInt := i_nle c9
          have h10 : rg 0 11 x23_2 := t_ltx 0 11 hhx23_2 hr8 (i_nle c9) (by decide)
          have h11 : rg 1 12 r8 := t_lty 1 12 hhx23_2 hr8 (i_nle c9) (by decide)
          refine lv_iload_n hx hb dX9_quiet_31 rfl (lv_at hl 1 rfl) ?_
          refine lv_aload_n hx hb dX9_quiet_32 rfl (lv_at hl 0 rfl) ?_
          refine lv_iload_n hx hb dX9_quiet_33 rfl (lv_at hl 2 rfl) ?_
          refine e_Vi (As := [.int x23_2]) (rest := [.int x23_1]) X Y hT hS (m_X9_freshIn hR5 x23_2 h10) mk_X9_freshIn gm_1826 rfl rfl (by decide) hd_X9_freshIn ⟨rfl, rfl⟩ ⟨Nat.le_of_ble_eq_true rfl, Nat.le_of_ble_eq_true rfl⟩ hl.1 rfl (Nat.le_of_ble_eq_true rfl) dX9_quiet_34 ⟨Nat.zero_le _, Nat.zero_le _⟩ (fun r12 i12 g12 H locs hq hT hS => ?_)
          have eh12 := hq
          rw [(Prod.mk.inj eh12).1, (Prod.mk.inj eh12).2] at hT
          refine lv_if_ne (tgt := 44) hx hb dX9_quiet_37 (by decide) (fun c13 => ?_) (fun c13 => ?_)
          ·
            have q13 : ¬ r12.toInt = 0 := i_ne c13
            refine lv_iconst (v := 0) hx hb dX9_quiet_44 (by decide) ?_
            refine q_iadd hx hb dX9_quiet_45 (fun x14 ex14 => ?_)
            obtain ⟨hx14, ax14⟩ := rg_add (-2147483648) 2147483647 ex14 (rg_top x23_1) (rg_k (by decide) : rg 0 0 0) (by decide)
            replace ax14 : x14.toInt = x23_1.toInt + 0 := ax14
            refine lv_istore_n (lv' := [(1, .int x14), (0, .ref (h 96)), (2, .int x23_2)]) hx hb dX9_quiet_46 rfl hl (by decide) rfl (fun ls hl => ?_)
            obtain ⟨x15, ex15⟩ : ∃ y : Int32, y = x23_2 + 1 := ⟨_, rfl⟩
            refine lv_iinc (v := x15) (lv' := [(2, .int x15), (1, .int x14), (0, .ref (h 96))]) hx hb dX9_quiet_47 hl (k := 2) rfl (by rw [ex15]; rfl) (by decide) rfl (fun ls hl => ?_)
            obtain ⟨hx15, ax15⟩ := rg_add 1 12 ex15 h10 (rg_k (by decide) : rg 1 1 1) (by decide)
            replace ax15 : x15.toInt = x23_2.toInt + 1 := ax15
            refine lv_goto (tgt := 23) hx hb dX9_quiet_50 (by decide) ?_
            exact ih7_ x14 x15 _ _ _ (rg_w hx15 (by decide) : rg 0 12 x15) hT hS (lv_sub hl [2, 1, 0] rfl) (m_up ax15 hx15 (by decide) hm7_)
          ·
            have q13 : r12.toInt = 0 := i_eq c13
            have h16 : rg 0 0 r12 := t_eqx 0 0 (rg_top r12) (rg_k (by decide) : rg 0 0 0) (i_eq c13) (by decide)
            refine lv_iconst (v := 1) hx hb dX9_quiet_40 (by decide) ?_
            refine lv_goto (tgt := 45) hx hb dX9_quiet_41 (by decide) ?_
            refine q_iadd hx hb dX9_quiet_45 (fun x17 ex17 => ?_)
            refine lv_istore_n (lv' := [(1, .int x17), (0, .ref (h 96)), (2, .int x23_2)]) hx hb dX9_quiet_46 rfl hl (by decide) rfl (fun ls hl => ?_)
            obtain ⟨x18, ex18⟩ : ∃ y : Int32, y = x23_2 + 1 := ⟨_, rfl⟩
            refine lv_iinc (v := x18) (lv' := [(2, .int x18), (1, .int x17), (0, .ref (h 96))]) hx hb dX9_quiet_47 hl (k := 2) rfl (by rw [ex18]; rfl) (by decide) rfl (fun ls hl => ?_)
            obtain ⟨hx18, ax18⟩ := rg_add 1 12 ex18 h10 (rg_k (by decide) : rg 1 1 1) (by decide)
            replace ax18 : x18.toInt = x23_2.toInt + 1 := ax18
            refine lv_goto (tgt := 23) hx hb dX9_quiet_50 (by decide) ?_
            exact ih7_ x17 x18 _ _ _ (rg_w hx18 (by decide) : rg 0 12 x18) hT hS (lv_sub hl [2, 1, 0] rfl) (m_up ax18 hx18 (by decide) hm7_)
    exact L23_6 _ (0) (0) _ _ _ (rg_w (rg_k (by decide) : rg 0 0 0) (by decide) : rg 0 12 0) hT hS (lv_sub hl [2, 1, 0] rfl) (Nat.lt_succ_self _)
  ·
    have q3 : r2.toInt = 0 := i_eq c3
    have h19 : rg 0 0 r2 := t_eqx 0 0 hr2 (rg_k (by decide) : rg 0 0 0) (i_eq c3) (by decide)
    refine lv_bipush (v := (-2)) hx hb dX9_quiet_12 (by decide) ?_
    exact hret (-2) _ _ _ _ _ _ dX9_quiet_14 hT hS ⟨hR1, hF1⟩
set_option maxRecDepth 100000 in
set_option maxHeartbeats 4000000 in
theorem m_X9_lone {l : Launch} {D : va_G} {h : Nat → Nat} {cz : Nat → ClassId} {z : EZ} {i : Nat → Nat → Int32} {g : Nat → Nat → Int64} (hR : Rg rA i) (a_a : Int32) : DtI l yX9_lone cX9_lone 4 (some .int) ({ frames := 6, cells := 0, slots := 0, locals := 132 } : Room) D h cz z i g [.ref (h 96), .int a_a] (fun r u => Rg rA u.1 ∧ Fr [96, 109, 110, 111, 112, 113, 114, 115] [] i g u ∧ rg (-2) 255 r) := by
  refine e_I pn_X9_lone (Nat.le_of_ble_eq_true rfl) ?_
  intro p e s m args below meth c ls Q X Y hret hT hl hS
  have hx := X.1
  have hb := X.2.1
  have hl : lv_has ls 4 [(0, .ref (h 96)), (1, .int a_a)] := hl
  have hF : Fr [96, 109, 110, 111, 112, 113, 114, 115] [] i g (i, g) := Fr_rf _ _ _ _
  refine lv_aload_n hx hb dX9_lone_0 rfl (lv_at hl 0 rfl) ?_
  refine lv_iconst (v := 0) hx hb dX9_lone_1 (by decide) ?_
  refine r_puti X hT hS 96 0 pk_9_83 rfl rfl rfl rfl (by decide) dX9_lone_2 (fun H locs i1 ei1 hT hS => ?_)
  have hR1 := Rg_put hR ei1 (-2147483648) 2147483647 rfl (rg_k (by decide) : rg 0 0 0) (by decide)
  have hF1 := Fr_puti hF ei1 (by decide)
  refine lv_aload_n hx hb dX9_lone_5 rfl (lv_at hl 0 rfl) ?_
  refine lv_iload_n hx hb dX9_lone_6 rfl (lv_at hl 1 rfl) ?_
  refine q_i2l hx hb dX9_lone_7 (fun y2 ey2 => ?_)
  obtain ⟨hy2, ay2⟩ := rg_i2l ey2 (rg_top a_a)
  refine e_Vi (As := [.long y2]) (rest := []) X Y hT hS (m_X9_isYear hR1 y2) mk_X9_isYear gm_1681 rfl rfl (by decide) hd_X9_isYear ⟨rfl, rfl⟩ ⟨Nat.le_of_ble_eq_true rfl, Nat.le_of_ble_eq_true rfl⟩ hl.1 rfl (Nat.le_of_ble_eq_true rfl) dX9_lone_8 ⟨Nat.zero_le _, Nat.zero_le _⟩ (fun r3 i3 g3 H locs hq hT hS => ?_)
  rcases hq with hq | hq
  ·
    obtain ⟨eh3, rfl, hf3_0⟩ := hq
    rw [(Prod.mk.inj eh3).1, (Prod.mk.inj eh3).2] at hT
    have h4 : rgL 0 12 y2 := ⟨by have := hy2.1; have := hf3_0.1; omega, by have := hy2.2; have := hf3_0.2; omega⟩
    have h5 : rg 0 12 a_a := ⟨by have := h4.1; have := (rg_top a_a).1; have := ay2; omega, by have := h4.2; have := (rg_top a_a).2; have := ay2; omega⟩
    refine lv_if_ne (tgt := 17) hx hb dX9_lone_11 (by decide) (fun c6 => ?_) (fun c6 => (x_eq (rg_k (by decide) : rg 1 1 1) (rg_k (by decide) : rg 0 0 0) (i_eq c6) (by decide)).elim)
    refine lv_aload_n hx hb dX9_lone_17 rfl (lv_at hl 0 rfl) ?_
    refine e_Vv (As := []) (rest := []) X Y hT hS (m_X9_laysNow hR1) mk_X9_laysNow gm_1693 rfl rfl (by decide) hd_X9_laysNow ⟨rfl, rfl⟩ ⟨Nat.le_of_ble_eq_true rfl, Nat.le_of_ble_eq_true rfl⟩ hl.1 rfl (Nat.le_of_ble_eq_true rfl) dX9_lone_18 ⟨Nat.zero_le _, Nat.zero_le _⟩ (fun i7 g7 H locs hq hT hS => ?_)
    obtain ⟨hR7, hf7⟩ := hq
    have hF7 := Fr_tr hF1 hf7 (by decide)
    refine lv_iconst (v := 0) hx hb dX9_lone_21 (by decide) ?_
    refine lv_istore_n (lv' := [(2, .int 0), (0, .ref (h 96)), (1, .int a_a)]) hx hb dX9_lone_22 rfl hl (by decide) rfl (fun ls hl => ?_)
    refine lv_iconst (v := 0) hx hb dX9_lone_23 (by decide) ?_
    refine lv_istore_n (lv' := [(3, .int 0), (2, .int 0), (0, .ref (h 96)), (1, .int a_a)]) hx hb dX9_lone_24 rfl hl (by decide) rfl (fun ls hl => ?_)
    have L25_8 : ∀ (n9_ : Nat) (x25_2 : Int32) (x25_3 : Int32) (H : Heap) (locs : List Loc) (ls : Array Slot), rg 0 255 x25_2 → rg 0 6 x25_3 → TH D h cz i7 g7 H → va_S (hA h) s.heap H locs → lv_has ls 4 [(0, .ref (h 96)), (1, .int a_a), (2, .int x25_2), (3, .int x25_3)] → (6 - x25_3.toInt).toNat < n9_ → W p l e ({ frames := 6, cells := 0, slots := 0, locals := 132 } : Room) s m args below meth c H locs 0 0 Q (F0 m 25 ls []) := by
      intro n9_
      induction n9_ with
      | zero => intro x25_2 x25_3 H locs ls hhx25_2 hhx25_3 hT hS hl hm9_; exact absurd hm9_ (Nat.not_lt_zero _)
      | succ n9_ ih9_ =>
        intro x25_2 x25_3 H locs ls hhx25_2 hhx25_3 hT hS hl hm9_
        refine lv_iload_n hx hb dX9_lone_25 rfl (lv_at hl 3 rfl) ?_
        refine lv_aload_n hx hb dX9_lone_26 rfl (lv_at hl 0 rfl) ?_
        refine e_Vi (As := []) (rest := [.int x25_3]) X Y hT hS (m_X9_parts hR7) mk_X9_parts gm_1649 rfl rfl (by decide) hd_X9_parts ⟨rfl, rfl⟩ ⟨Nat.le_of_ble_eq_true rfl, Nat.le_of_ble_eq_true rfl⟩ hl.1 rfl (Nat.le_of_ble_eq_true rfl) dX9_lone_27 ⟨Nat.zero_le _, Nat.zero_le _⟩ (fun r10 i10 g10 H locs hq hT hS => ?_)
        obtain ⟨eh10, hr10⟩ := hq
        rw [(Prod.mk.inj eh10).1, (Prod.mk.inj eh10).2] at hT
        refine lv_icmp_ge (tgt := 87) hx hb dX9_lone_30 (by decide) (fun c11 => ?_) (fun c11 => ?_)
        ·
          have q11 : r10.toInt ≤ x25_3.toInt := i_le c11
          refine lv_iload_n hx hb dX9_lone_87 rfl (lv_at hl 2 rfl) ?_
          exact hret x25_2 _ _ _ _ _ _ dX9_lone_88 hT hS ⟨hR7, hF7, (rg_w hhx25_2 (by decide) : rg (-2) 255 x25_2)⟩
        ·
          have q11 : x25_3.toInt < r10.toInt := i_nle c11
          have h12 : rg 0 5 x25_3 := t_ltx 0 5 hhx25_3 hr10 (i_nle c11) (by decide)
          have h13 : rg 1 6 r10 := t_lty 1 6 hhx25_3 hr10 (i_nle c11) (by decide)
          refine lv_iload_n hx hb dX9_lone_33 rfl (lv_at hl 2 rfl) ?_
          refine lv_aload_n hx hb dX9_lone_34 rfl (lv_at hl 0 rfl) ?_
          refine r_getr X hT 96 31 112 fk_9_62 rfl rfl (by decide) dX9_lone_35 ?_
          refine lv_iload_n hx hb dX9_lone_38 rfl (lv_at hl 1 rfl) ?_
          refine r_iald X hT 112 rfl (by decide) (v_in h5 (by decide)) dX9_lone_39 ?_
          refine lv_iload_n hx hb dX9_lone_40 rfl (lv_at hl 3 rfl) ?_
          refine e_Si (As := [.int (i7 112 a_a.toNatClampNeg), .int x25_3]) (rest := [.int x25_2]) X Y hT hS (m_X9_isBit (i7 112 a_a.toNatClampNeg) x25_3) sk_X9_isBit gm_1670 hd_X9_isBit ⟨rfl, rfl⟩ ⟨Nat.le_of_ble_eq_true rfl, Nat.le_of_ble_eq_true rfl⟩ hl.1 rfl (Nat.le_of_ble_eq_true rfl) dX9_lone_41 ⟨Nat.zero_le _, Nat.zero_le _⟩ (fun r14 i14 g14 H locs hq hT hS => ?_)
          rcases hq with hq | hq
          ·
            obtain ⟨eh14, rfl, hf14_0⟩ := hq
            rw [(Prod.mk.inj eh14).1, (Prod.mk.inj eh14).2] at hT
            replace hf14_0 : ((((i7 112 a_a.toNatClampNeg) : Int32) >>> ((x25_3 : Int32) &&& 31)) &&& 1 = 1) := hf14_0
            refine lv_if_ne (tgt := 78) hx hb dX9_lone_44 (by decide) (fun c15 => ?_) (fun c15 => (x_eq (rg_k (by decide) : rg 1 1 1) (rg_k (by decide) : rg 0 0 0) (i_eq c15) (by decide)).elim)
            refine lv_iconst (v := 0) hx hb dX9_lone_78 (by decide) ?_
            refine q_ior hx hb dX9_lone_79 (fun x16 ex16 => ?_)
            have h17 : rg 0 255 x16 := rg_or8 ex16 hhx25_2 (rg_k (by decide) : rg 0 0 0) (by decide)
            refine lv_istore_n (lv' := [(2, .int x16), (0, .ref (h 96)), (1, .int a_a), (3, .int x25_3)]) hx hb dX9_lone_80 rfl hl (by decide) rfl (fun ls hl => ?_)
            obtain ⟨x18, ex18⟩ : ∃ y : Int32, y = x25_3 + 1 := ⟨_, rfl⟩
            refine lv_iinc (v := x18) (lv' := [(3, .int x18), (2, .int x16), (0, .ref (h 96)), (1, .int a_a)]) hx hb dX9_lone_81 hl (k := 3) rfl (by rw [ex18]; rfl) (by decide) rfl (fun ls hl => ?_)
            obtain ⟨hx18, ax18⟩ := rg_add 1 6 ex18 h12 (rg_k (by decide) : rg 1 1 1) (by decide)
            replace ax18 : x18.toInt = x25_3.toInt + 1 := ax18
            refine lv_goto (tgt := 25) hx hb dX9_lone_84 (by decide) ?_
            exact ih9_ x16 x18 _ _ _ h17 (rg_w hx18 (by decide) : rg 0 6 x18) hT hS (lv_sub hl [2, 3, 1, 0] rfl) (m_up ax18 hx18 (by decide) hm9_)
          ·
            obtain ⟨eh14, rfl, hf14_0⟩ := hq
            rw [(Prod.mk.inj eh14).1, (Prod.mk.inj eh14).2] at hT
            replace hf14_0 : ¬ ((((i7 112 a_a.toNatClampNeg) : Int32) >>> ((x25_3 : Int32) &&& 31)) &&& 1 = 1) := hf14_0
            refine lv_if_ne (tgt := 78) hx hb dX9_lone_44 (by decide) (fun c19 => (x_ne (rg_k (by decide) : rg 0 0 0) (rg_k (by decide) : rg 0 0 0) (i_ne c19) (by decide)).elim) (fun c19 => ?_)
            refine lv_aload_n hx hb dX9_lone_47 rfl (lv_at hl 0 rfl) ?_
            refine lv_iload_n hx hb dX9_lone_48 rfl (lv_at hl 3 rfl) ?_
            refine e_Vi (As := [.int x25_3]) (rest := [.int x25_2]) X Y hT hS (m_X9_nearOf hR7 x25_3) mk_X9_nearOf gm_1662 rfl rfl (by decide) hd_X9_nearOf ⟨rfl, rfl⟩ ⟨Nat.le_of_ble_eq_true rfl, Nat.le_of_ble_eq_true rfl⟩ hl.1 rfl (Nat.le_of_ble_eq_true rfl) dX9_lone_49 ⟨Nat.zero_le _, Nat.zero_le _⟩ (fun r20 i20 g20 H locs hq hT hS => ?_)
            obtain ⟨eh20, hr20⟩ := hq
            rw [(Prod.mk.inj eh20).1, (Prod.mk.inj eh20).2] at hT
            refine lv_if_eq (tgt := 78) hx hb dX9_lone_52 (by decide) (fun c21 => ?_) (fun c21 => ?_)
            ·
              have q21 : r20.toInt = 0 := i_eq c21
              have h22 : rg 0 0 r20 := t_eqx 0 0 hr20 (rg_k (by decide) : rg 0 0 0) (i_eq c21) (by decide)
              refine lv_iconst (v := 0) hx hb dX9_lone_78 (by decide) ?_
              refine q_ior hx hb dX9_lone_79 (fun x23 ex23 => ?_)
              have h24 : rg 0 255 x23 := rg_or8 ex23 hhx25_2 (rg_k (by decide) : rg 0 0 0) (by decide)
              refine lv_istore_n (lv' := [(2, .int x23), (0, .ref (h 96)), (1, .int a_a), (3, .int x25_3)]) hx hb dX9_lone_80 rfl hl (by decide) rfl (fun ls hl => ?_)
              obtain ⟨x25, ex25⟩ : ∃ y : Int32, y = x25_3 + 1 := ⟨_, rfl⟩
              refine lv_iinc (v := x25) (lv' := [(3, .int x25), (2, .int x23), (0, .ref (h 96)), (1, .int a_a)]) hx hb dX9_lone_81 hl (k := 3) rfl (by rw [ex25]; rfl) (by decide) rfl (fun ls hl => ?_)
              obtain ⟨hx25, ax25⟩ := rg_add 1 6 ex25 h12 (rg_k (by decide) : rg 1 1 1) (by decide)
              replace ax25 : x25.toInt = x25_3.toInt + 1 := ax25
              refine lv_goto (tgt := 25) hx hb dX9_lone_84 (by decide) ?_
              exact ih9_ x23 x25 _ _ _ h24 (rg_w hx25 (by decide) : rg 0 6 x25) hT hS (lv_sub hl [2, 3, 1, 0] rfl) (m_up ax25 hx25 (by decide) hm9_)
            ·
              have q21 : ¬ r20.toInt = 0 := i_ne c21
              have h26 : rg 1 255 r20 := t_nelo 1 hr20 (rg_k (by decide) : rg 0 0 0) (i_ne c21) (by decide)
              refine lv_aload_n hx hb dX9_lone_55 rfl (lv_at hl 0 rfl) ?_
              refine lv_iload_n hx hb dX9_lone_56 rfl (lv_at hl 3 rfl) ?_
              refine e_Vi (As := [.int x25_3]) (rest := [.int x25_2]) X Y hT hS (m_X9_nearOf hR7 x25_3) mk_X9_nearOf gm_1662 rfl rfl (by decide) hd_X9_nearOf ⟨rfl, rfl⟩ ⟨Nat.le_of_ble_eq_true rfl, Nat.le_of_ble_eq_true rfl⟩ hl.1 rfl (Nat.le_of_ble_eq_true rfl) dX9_lone_57 ⟨Nat.zero_le _, Nat.zero_le _⟩ (fun r27 i27 g27 H locs hq hT hS => ?_)
              obtain ⟨eh27, hr27⟩ := hq
              rw [(Prod.mk.inj eh27).1, (Prod.mk.inj eh27).2] at hT
              refine lv_aload_n hx hb dX9_lone_60 rfl (lv_at hl 0 rfl) ?_
              refine r_getr X hT 96 31 112 fk_9_62 rfl rfl (by decide) dX9_lone_61 ?_
              refine lv_iload_n hx hb dX9_lone_64 rfl (lv_at hl 1 rfl) ?_
              refine r_iald X hT 112 rfl (by decide) (v_in h5 (by decide)) dX9_lone_65 ?_
              refine lv_iconst (v := (-1)) hx hb dX9_lone_66 (by decide) ?_
              refine q_ixor hx hb dX9_lone_67 (fun x28 ex28 => ?_)
              refine q_iand hx hb dX9_lone_68 (fun x29 ex29 => ?_)
              have h30 : rg 0 255 x29 := rg_andl ex29 hr27 (by decide)
              refine lv_if_ne (tgt := 78) hx hb dX9_lone_69 (by decide) (fun c31 => ?_) (fun c31 => ?_)
              ·
                have q31 : ¬ x29.toInt = 0 := i_ne c31
                have h32 : rg 1 255 x29 := t_nelo 1 h30 (rg_k (by decide) : rg 0 0 0) (i_ne c31) (by decide)
                refine lv_iconst (v := 0) hx hb dX9_lone_78 (by decide) ?_
                refine q_ior hx hb dX9_lone_79 (fun x33 ex33 => ?_)
                have h34 : rg 0 255 x33 := rg_or8 ex33 hhx25_2 (rg_k (by decide) : rg 0 0 0) (by decide)
                refine lv_istore_n (lv' := [(2, .int x33), (0, .ref (h 96)), (1, .int a_a), (3, .int x25_3)]) hx hb dX9_lone_80 rfl hl (by decide) rfl (fun ls hl => ?_)
                obtain ⟨x35, ex35⟩ : ∃ y : Int32, y = x25_3 + 1 := ⟨_, rfl⟩
                refine lv_iinc (v := x35) (lv' := [(3, .int x35), (2, .int x33), (0, .ref (h 96)), (1, .int a_a)]) hx hb dX9_lone_81 hl (k := 3) rfl (by rw [ex35]; rfl) (by decide) rfl (fun ls hl => ?_)
                obtain ⟨hx35, ax35⟩ := rg_add 1 6 ex35 h12 (rg_k (by decide) : rg 1 1 1) (by decide)
                replace ax35 : x35.toInt = x25_3.toInt + 1 := ax35
                refine lv_goto (tgt := 25) hx hb dX9_lone_84 (by decide) ?_
                exact ih9_ x33 x35 _ _ _ h34 (rg_w hx35 (by decide) : rg 0 6 x35) hT hS (lv_sub hl [2, 3, 1, 0] rfl) (m_up ax35 hx35 (by decide) hm9_)
              ·
                have q31 : x29.toInt = 0 := i_eq c31
                have h36 : rg 0 0 x29 := t_eqx 0 0 h30 (rg_k (by decide) : rg 0 0 0) (i_eq c31) (by decide)
                refine lv_iconst (v := 1) hx hb dX9_lone_72 (by decide) ?_
                refine lv_iload_n hx hb dX9_lone_73 rfl (lv_at hl 3 rfl) ?_
                refine q_ishl hx hb dX9_lone_74 (fun x37 ex37 => ?_)
                have h38 : rg 1 32 x37 := rg_shl1 ex37 h12 (by decide)
                refine lv_goto (tgt := 79) hx hb dX9_lone_75 (by decide) ?_
                refine q_ior hx hb dX9_lone_79 (fun x39 ex39 => ?_)
                have h40 : rg 0 255 x39 := rg_or8 ex39 hhx25_2 h38 (by decide)
                refine lv_istore_n (lv' := [(2, .int x39), (0, .ref (h 96)), (1, .int a_a), (3, .int x25_3)]) hx hb dX9_lone_80 rfl hl (by decide) rfl (fun ls hl => ?_)
                obtain ⟨x41, ex41⟩ : ∃ y : Int32, y = x25_3 + 1 := ⟨_, rfl⟩
                refine lv_iinc (v := x41) (lv' := [(3, .int x41), (2, .int x39), (0, .ref (h 96)), (1, .int a_a)]) hx hb dX9_lone_81 hl (k := 3) rfl (by rw [ex41]; rfl) (by decide) rfl (fun ls hl => ?_)
                obtain ⟨hx41, ax41⟩ := rg_add 1 6 ex41 h12 (rg_k (by decide) : rg 1 1 1) (by decide)
                replace ax41 : x41.toInt = x25_3.toInt + 1 := ax41
                refine lv_goto (tgt := 25) hx hb dX9_lone_84 (by decide) ?_
                exact ih9_ x39 x41 _ _ _ h40 (rg_w hx41 (by decide) : rg 0 6 x41) hT hS (lv_sub hl [2, 3, 1, 0] rfl) (m_up ax41 hx41 (by decide) hm9_)
    exact L25_8 _ (0) (0) _ _ _ (rg_w (rg_k (by decide) : rg 0 0 0) (by decide) : rg 0 255 0) (rg_w (rg_k (by decide) : rg 0 0 0) (by decide) : rg 0 6 0) hT hS (lv_sub hl [2, 3, 1, 0] rfl) (Nat.lt_succ_self _)
  ·
    obtain ⟨eh3, rfl⟩ := hq
    rw [(Prod.mk.inj eh3).1, (Prod.mk.inj eh3).2] at hT
    refine lv_if_ne (tgt := 17) hx hb dX9_lone_11 (by decide) (fun c42 => (x_ne (rg_k (by decide) : rg 0 0 0) (rg_k (by decide) : rg 0 0 0) (i_ne c42) (by decide)).elim) (fun c42 => ?_)
    refine lv_bipush (v := (-2)) hx hb dX9_lone_14 (by decide) ?_
    exact hret (-2) _ _ _ _ _ _ dX9_lone_16 hT hS ⟨hR1, hF1, (rg_w (rg_k (by decide) : rg (-2) (-2) (-2)) (by decide) : rg (-2) 255 (-2))⟩
set_option maxRecDepth 100000 in
set_option maxHeartbeats 4000000 in
theorem m_X9_stalest {l : Launch} {D : va_G} {h : Nat → Nat} {cz : Nat → ClassId} {z : EZ} {i : Nat → Nat → Int32} {g : Nat → Nat → Int64} (hR : Rg rA i) (a_a : Int32) : DtI l yX9_stalest cX9_stalest 4 (some .int) ({ frames := 6, cells := 0, slots := 0, locals := 132 } : Room) D h cz z i g [.ref (h 96), .int a_a] (fun r u => Rg rA u.1 ∧ Fr [96, 109, 110, 111, 112, 113, 114, 115] [] i g u ∧ rg (-2) 5 r) := by
  refine e_I pn_X9_stalest (Nat.le_of_ble_eq_true rfl) ?_
  intro p e s m args below meth c ls Q X Y hret hT hl hS
  have hx := X.1
  have hb := X.2.1
  have hl : lv_has ls 4 [(0, .ref (h 96)), (1, .int a_a)] := hl
  have hF : Fr [96, 109, 110, 111, 112, 113, 114, 115] [] i g (i, g) := Fr_rf _ _ _ _
  refine lv_aload_n hx hb dX9_stalest_0 rfl (lv_at hl 0 rfl) ?_
  refine lv_iconst (v := 0) hx hb dX9_stalest_1 (by decide) ?_
  refine r_puti X hT hS 96 0 pk_9_83 rfl rfl rfl rfl (by decide) dX9_stalest_2 (fun H locs i1 ei1 hT hS => ?_)
  have hR1 := Rg_put hR ei1 (-2147483648) 2147483647 rfl (rg_k (by decide) : rg 0 0 0) (by decide)
  have hF1 := Fr_puti hF ei1 (by decide)
  refine lv_aload_n hx hb dX9_stalest_5 rfl (lv_at hl 0 rfl) ?_
  refine lv_iload_n hx hb dX9_stalest_6 rfl (lv_at hl 1 rfl) ?_
  refine q_i2l hx hb dX9_stalest_7 (fun y2 ey2 => ?_)
  obtain ⟨hy2, ay2⟩ := rg_i2l ey2 (rg_top a_a)
  refine e_Vi (As := [.long y2]) (rest := []) X Y hT hS (m_X9_isYear hR1 y2) mk_X9_isYear gm_1681 rfl rfl (by decide) hd_X9_isYear ⟨rfl, rfl⟩ ⟨Nat.le_of_ble_eq_true rfl, Nat.le_of_ble_eq_true rfl⟩ hl.1 rfl (Nat.le_of_ble_eq_true rfl) dX9_stalest_8 ⟨Nat.zero_le _, Nat.zero_le _⟩ (fun r3 i3 g3 H locs hq hT hS => ?_)
  rcases hq with hq | hq
  ·
    obtain ⟨eh3, rfl, hf3_0⟩ := hq
    rw [(Prod.mk.inj eh3).1, (Prod.mk.inj eh3).2] at hT
    have h4 : rgL 0 12 y2 := ⟨by have := hy2.1; have := hf3_0.1; omega, by have := hy2.2; have := hf3_0.2; omega⟩
    have h5 : rg 0 12 a_a := ⟨by have := h4.1; have := (rg_top a_a).1; have := ay2; omega, by have := h4.2; have := (rg_top a_a).2; have := ay2; omega⟩
    refine lv_if_ne (tgt := 17) hx hb dX9_stalest_11 (by decide) (fun c6 => ?_) (fun c6 => (x_eq (rg_k (by decide) : rg 1 1 1) (rg_k (by decide) : rg 0 0 0) (i_eq c6) (by decide)).elim)
    refine lv_aload_n hx hb dX9_stalest_17 rfl (lv_at hl 0 rfl) ?_
    refine e_Vv (As := []) (rest := []) X Y hT hS (m_X9_laysNow hR1) mk_X9_laysNow gm_1693 rfl rfl (by decide) hd_X9_laysNow ⟨rfl, rfl⟩ ⟨Nat.le_of_ble_eq_true rfl, Nat.le_of_ble_eq_true rfl⟩ hl.1 rfl (Nat.le_of_ble_eq_true rfl) dX9_stalest_18 ⟨Nat.zero_le _, Nat.zero_le _⟩ (fun i7 g7 H locs hq hT hS => ?_)
    obtain ⟨hR7, hf7⟩ := hq
    have hF7 := Fr_tr hF1 hf7 (by decide)
    refine lv_iconst (v := (-1)) hx hb dX9_stalest_21 (by decide) ?_
    refine lv_istore_n (lv' := [(2, .int (-1)), (0, .ref (h 96)), (1, .int a_a)]) hx hb dX9_stalest_22 rfl hl (by decide) rfl (fun ls hl => ?_)
    refine lv_iconst (v := 0) hx hb dX9_stalest_23 (by decide) ?_
    refine lv_istore_n (lv' := [(3, .int 0), (2, .int (-1)), (0, .ref (h 96)), (1, .int a_a)]) hx hb dX9_stalest_24 rfl hl (by decide) rfl (fun ls hl => ?_)
    have L25_8 : ∀ (n9_ : Nat) (x25_2 : Int32) (x25_3 : Int32) (H : Heap) (locs : List Loc) (ls : Array Slot), rg (-1) 5 x25_2 → rg 0 6 x25_3 → TH D h cz i7 g7 H → va_S (hA h) s.heap H locs → lv_has ls 4 [(0, .ref (h 96)), (1, .int a_a), (2, .int x25_2), (3, .int x25_3)] → (6 - x25_3.toInt).toNat < n9_ → W p l e ({ frames := 6, cells := 0, slots := 0, locals := 132 } : Room) s m args below meth c H locs 0 0 Q (F0 m 25 ls []) := by
      intro n9_
      induction n9_ with
      | zero => intro x25_2 x25_3 H locs ls hhx25_2 hhx25_3 hT hS hl hm9_; exact absurd hm9_ (Nat.not_lt_zero _)
      | succ n9_ ih9_ =>
        intro x25_2 x25_3 H locs ls hhx25_2 hhx25_3 hT hS hl hm9_
        refine lv_iload_n hx hb dX9_stalest_25 rfl (lv_at hl 3 rfl) ?_
        refine lv_aload_n hx hb dX9_stalest_26 rfl (lv_at hl 0 rfl) ?_
        refine e_Vi (As := []) (rest := [.int x25_3]) X Y hT hS (m_X9_parts hR7) mk_X9_parts gm_1649 rfl rfl (by decide) hd_X9_parts ⟨rfl, rfl⟩ ⟨Nat.le_of_ble_eq_true rfl, Nat.le_of_ble_eq_true rfl⟩ hl.1 rfl (Nat.le_of_ble_eq_true rfl) dX9_stalest_27 ⟨Nat.zero_le _, Nat.zero_le _⟩ (fun r10 i10 g10 H locs hq hT hS => ?_)
        obtain ⟨eh10, hr10⟩ := hq
        rw [(Prod.mk.inj eh10).1, (Prod.mk.inj eh10).2] at hT
        refine lv_icmp_ge (tgt := 74) hx hb dX9_stalest_30 (by decide) (fun c11 => ?_) (fun c11 => ?_)
        ·
          have q11 : r10.toInt ≤ x25_3.toInt := i_le c11
          refine lv_iload_n hx hb dX9_stalest_74 rfl (lv_at hl 2 rfl) ?_
          exact hret x25_2 _ _ _ _ _ _ dX9_stalest_75 hT hS ⟨hR7, hF7, (rg_w hhx25_2 (by decide) : rg (-2) 5 x25_2)⟩
        ·
          have q11 : x25_3.toInt < r10.toInt := i_nle c11
          have h12 : rg 0 5 x25_3 := t_ltx 0 5 hhx25_3 hr10 (i_nle c11) (by decide)
          have h13 : rg 1 6 r10 := t_lty 1 6 hhx25_3 hr10 (i_nle c11) (by decide)
          refine lv_aload_n hx hb dX9_stalest_33 rfl (lv_at hl 0 rfl) ?_
          refine r_getr X hT 96 31 112 fk_9_62 rfl rfl (by decide) dX9_stalest_34 ?_
          refine lv_iload_n hx hb dX9_stalest_37 rfl (lv_at hl 1 rfl) ?_
          refine r_iald X hT 112 rfl (by decide) (v_in h5 (by decide)) dX9_stalest_38 ?_
          refine lv_iload_n hx hb dX9_stalest_39 rfl (lv_at hl 3 rfl) ?_
          refine e_Si (As := [.int (i7 112 a_a.toNatClampNeg), .int x25_3]) (rest := []) X Y hT hS (m_X9_isBit (i7 112 a_a.toNatClampNeg) x25_3) sk_X9_isBit gm_1670 hd_X9_isBit ⟨rfl, rfl⟩ ⟨Nat.le_of_ble_eq_true rfl, Nat.le_of_ble_eq_true rfl⟩ hl.1 rfl (Nat.le_of_ble_eq_true rfl) dX9_stalest_40 ⟨Nat.zero_le _, Nat.zero_le _⟩ (fun r14 i14 g14 H locs hq hT hS => ?_)
          rcases hq with hq | hq
          ·
            obtain ⟨eh14, rfl, hf14_0⟩ := hq
            rw [(Prod.mk.inj eh14).1, (Prod.mk.inj eh14).2] at hT
            replace hf14_0 : ((((i7 112 a_a.toNatClampNeg) : Int32) >>> ((x25_3 : Int32) &&& 31)) &&& 1 = 1) := hf14_0
            refine lv_if_ne (tgt := 68) hx hb dX9_stalest_43 (by decide) (fun c15 => ?_) (fun c15 => (x_eq (rg_k (by decide) : rg 1 1 1) (rg_k (by decide) : rg 0 0 0) (i_eq c15) (by decide)).elim)
            obtain ⟨x16, ex16⟩ : ∃ y : Int32, y = x25_3 + 1 := ⟨_, rfl⟩
            refine lv_iinc (v := x16) (lv' := [(3, .int x16), (0, .ref (h 96)), (1, .int a_a), (2, .int x25_2)]) hx hb dX9_stalest_68 hl (k := 3) rfl (by rw [ex16]; rfl) (by decide) rfl (fun ls hl => ?_)
            obtain ⟨hx16, ax16⟩ := rg_add 1 6 ex16 h12 (rg_k (by decide) : rg 1 1 1) (by decide)
            replace ax16 : x16.toInt = x25_3.toInt + 1 := ax16
            refine lv_goto (tgt := 25) hx hb dX9_stalest_71 (by decide) ?_
            exact ih9_ x25_2 x16 _ _ _ hhx25_2 (rg_w hx16 (by decide) : rg 0 6 x16) hT hS (lv_sub hl [1, 2, 3, 0] rfl) (m_up ax16 hx16 (by decide) hm9_)
          ·
            obtain ⟨eh14, rfl, hf14_0⟩ := hq
            rw [(Prod.mk.inj eh14).1, (Prod.mk.inj eh14).2] at hT
            replace hf14_0 : ¬ ((((i7 112 a_a.toNatClampNeg) : Int32) >>> ((x25_3 : Int32) &&& 31)) &&& 1 = 1) := hf14_0
            refine lv_if_ne (tgt := 68) hx hb dX9_stalest_43 (by decide) (fun c17 => (x_ne (rg_k (by decide) : rg 0 0 0) (rg_k (by decide) : rg 0 0 0) (i_ne c17) (by decide)).elim) (fun c17 => ?_)
            refine lv_iload_n hx hb dX9_stalest_46 rfl (lv_at hl 2 rfl) ?_
            refine lv_iconst (v := (-1)) hx hb dX9_stalest_47 (by decide) ?_
            refine lv_icmp_eq (tgt := 66) hx hb dX9_stalest_48 (by decide) (fun c18 => ?_) (fun c18 => ?_)
            ·
              have q18 : x25_2.toInt = (-1) := i_eq c18
              have h19 : rg (-1) (-1) x25_2 := t_eqx (-1) (-1) hhx25_2 (rg_k (by decide) : rg (-1) (-1) (-1)) (i_eq c18) (by decide)
              refine lv_iload_n hx hb dX9_stalest_66 rfl (lv_at hl 3 rfl) ?_
              refine lv_istore_n (lv' := [(2, .int x25_3), (0, .ref (h 96)), (1, .int a_a), (3, .int x25_3)]) hx hb dX9_stalest_67 rfl hl (by decide) rfl (fun ls hl => ?_)
              obtain ⟨x20, ex20⟩ : ∃ y : Int32, y = x25_3 + 1 := ⟨_, rfl⟩
              refine lv_iinc (v := x20) (lv' := [(3, .int x20), (2, .int x25_3), (0, .ref (h 96)), (1, .int a_a)]) hx hb dX9_stalest_68 hl (k := 3) rfl (by rw [ex20]; rfl) (by decide) rfl (fun ls hl => ?_)
              obtain ⟨hx20, ax20⟩ := rg_add 1 6 ex20 h12 (rg_k (by decide) : rg 1 1 1) (by decide)
              replace ax20 : x20.toInt = x25_3.toInt + 1 := ax20
              refine lv_goto (tgt := 25) hx hb dX9_stalest_71 (by decide) ?_
              exact ih9_ x25_3 x20 _ _ _ (rg_w h12 (by decide) : rg (-1) 5 x25_3) (rg_w hx20 (by decide) : rg 0 6 x20) hT hS (lv_sub hl [2, 3, 1, 0] rfl) (m_up ax20 hx20 (by decide) hm9_)
            ·
              have q18 : ¬ x25_2.toInt = (-1) := i_ne c18
              have h21 : rg 0 5 x25_2 := t_nelo 0 hhx25_2 (rg_k (by decide) : rg (-1) (-1) (-1)) (i_ne c18) (by decide)
              refine lv_aload_n hx hb dX9_stalest_51 rfl (lv_at hl 0 rfl) ?_
              refine lv_iload_n hx hb dX9_stalest_52 rfl (lv_at hl 3 rfl) ?_
              refine lv_iload_n hx hb dX9_stalest_53 rfl (lv_at hl 1 rfl) ?_
              refine e_Vi (As := [.int x25_3, .int a_a]) (rest := []) X Y hT hS (m_X9_stiffAt hR7 x25_3 a_a h12 h5) mk_X9_stiffAt gm_1701 rfl rfl (by decide) hd_X9_stiffAt ⟨rfl, rfl⟩ ⟨Nat.le_of_ble_eq_true rfl, Nat.le_of_ble_eq_true rfl⟩ hl.1 rfl (Nat.le_of_ble_eq_true rfl) dX9_stalest_54 ⟨Nat.zero_le _, Nat.zero_le _⟩ (fun r22 i22 g22 H locs hq hT hS => ?_)
              obtain ⟨eh22, hr22⟩ := hq
              rw [(Prod.mk.inj eh22).1, (Prod.mk.inj eh22).2] at hT
              refine lv_aload_n hx hb dX9_stalest_57 rfl (lv_at hl 0 rfl) ?_
              refine lv_iload_n hx hb dX9_stalest_58 rfl (lv_at hl 2 rfl) ?_
              refine lv_iload_n hx hb dX9_stalest_59 rfl (lv_at hl 1 rfl) ?_
              refine e_Vi (As := [.int x25_2, .int a_a]) (rest := [.int r22]) X Y hT hS (m_X9_stiffAt hR7 x25_2 a_a h21 h5) mk_X9_stiffAt gm_1701 rfl rfl (by decide) hd_X9_stiffAt ⟨rfl, rfl⟩ ⟨Nat.le_of_ble_eq_true rfl, Nat.le_of_ble_eq_true rfl⟩ hl.1 rfl (Nat.le_of_ble_eq_true rfl) dX9_stalest_60 ⟨Nat.zero_le _, Nat.zero_le _⟩ (fun r23 i23 g23 H locs hq hT hS => ?_)
              obtain ⟨eh23, hr23⟩ := hq
              rw [(Prod.mk.inj eh23).1, (Prod.mk.inj eh23).2] at hT
              refine lv_icmp_le (tgt := 68) hx hb dX9_stalest_63 (by decide) (fun c24 => ?_) (fun c24 => ?_)
              ·
                have q24 : r22.toInt ≤ r23.toInt := i_le c24
                obtain ⟨x25, ex25⟩ : ∃ y : Int32, y = x25_3 + 1 := ⟨_, rfl⟩
                refine lv_iinc (v := x25) (lv' := [(3, .int x25), (0, .ref (h 96)), (1, .int a_a), (2, .int x25_2)]) hx hb dX9_stalest_68 hl (k := 3) rfl (by rw [ex25]; rfl) (by decide) rfl (fun ls hl => ?_)
                obtain ⟨hx25, ax25⟩ := rg_add 1 6 ex25 h12 (rg_k (by decide) : rg 1 1 1) (by decide)
                replace ax25 : x25.toInt = x25_3.toInt + 1 := ax25
                refine lv_goto (tgt := 25) hx hb dX9_stalest_71 (by decide) ?_
                exact ih9_ x25_2 x25 _ _ _ (rg_w h21 (by decide) : rg (-1) 5 x25_2) (rg_w hx25 (by decide) : rg 0 6 x25) hT hS (lv_sub hl [1, 2, 3, 0] rfl) (m_up ax25 hx25 (by decide) hm9_)
              ·
                have q24 : r23.toInt < r22.toInt := i_nle c24
                have h26 : rg 0 98 r23 := t_ltx 0 98 hr23 hr22 (i_nle c24) (by decide)
                have h27 : rg 1 99 r22 := t_lty 1 99 hr23 hr22 (i_nle c24) (by decide)
                refine lv_iload_n hx hb dX9_stalest_66 rfl (lv_at hl 3 rfl) ?_
                refine lv_istore_n (lv' := [(2, .int x25_3), (0, .ref (h 96)), (1, .int a_a), (3, .int x25_3)]) hx hb dX9_stalest_67 rfl hl (by decide) rfl (fun ls hl => ?_)
                obtain ⟨x28, ex28⟩ : ∃ y : Int32, y = x25_3 + 1 := ⟨_, rfl⟩
                refine lv_iinc (v := x28) (lv' := [(3, .int x28), (2, .int x25_3), (0, .ref (h 96)), (1, .int a_a)]) hx hb dX9_stalest_68 hl (k := 3) rfl (by rw [ex28]; rfl) (by decide) rfl (fun ls hl => ?_)
                obtain ⟨hx28, ax28⟩ := rg_add 1 6 ex28 h12 (rg_k (by decide) : rg 1 1 1) (by decide)
                replace ax28 : x28.toInt = x25_3.toInt + 1 := ax28
                refine lv_goto (tgt := 25) hx hb dX9_stalest_71 (by decide) ?_
                exact ih9_ x25_3 x28 _ _ _ (rg_w h12 (by decide) : rg (-1) 5 x25_3) (rg_w hx28 (by decide) : rg 0 6 x28) hT hS (lv_sub hl [2, 3, 1, 0] rfl) (m_up ax28 hx28 (by decide) hm9_)
    exact L25_8 _ ((-1)) (0) _ _ _ (rg_w (rg_k (by decide) : rg (-1) (-1) (-1)) (by decide) : rg (-1) 5 (-1)) (rg_w (rg_k (by decide) : rg 0 0 0) (by decide) : rg 0 6 0) hT hS (lv_sub hl [2, 3, 1, 0] rfl) (Nat.lt_succ_self _)
  ·
    obtain ⟨eh3, rfl⟩ := hq
    rw [(Prod.mk.inj eh3).1, (Prod.mk.inj eh3).2] at hT
    refine lv_if_ne (tgt := 17) hx hb dX9_stalest_11 (by decide) (fun c29 => (x_ne (rg_k (by decide) : rg 0 0 0) (rg_k (by decide) : rg 0 0 0) (i_ne c29) (by decide)).elim) (fun c29 => ?_)
    refine lv_bipush (v := (-2)) hx hb dX9_stalest_14 (by decide) ?_
    exact hret (-2) _ _ _ _ _ _ dX9_stalest_16 hT hS ⟨hR1, hF1, (rg_w (rg_k (by decide) : rg (-2) (-2) (-2)) (by decide) : rg (-2) 5 (-2))⟩
set_option maxRecDepth 100000 in
set_option maxHeartbeats 4000000 in
theorem m_X9_pieces {l : Launch} {D : va_G} {h : Nat → Nat} {cz : Nat → ClassId} {z : EZ} {i : Nat → Nat → Int32} {g : Nat → Nat → Int64} (hR : Rg rA i) : DtI l yX9_pieces cX9_pieces 7 (some .int) ({ frames := 2, cells := 0, slots := 0, locals := 41 } : Room) D h cz z i g [.ref (h 96)] (fun r u => Rg rA u.1 ∧ Fr [96, 109, 110] [] i g u) := by
  refine e_I pn_X9_pieces (Nat.le_of_ble_eq_true rfl) ?_
  intro p e s m args below meth c ls Q X Y hret hT hl hS
  have hx := X.1
  have hb := X.2.1
  have hl : lv_has ls 7 [(0, .ref (h 96))] := hl
  have hF : Fr [96, 109, 110] [] i g (i, g) := Fr_rf _ _ _ _
  refine lv_aload_n hx hb dX9_pieces_0 rfl (lv_at hl 0 rfl) ?_
  refine lv_iconst (v := 0) hx hb dX9_pieces_1 (by decide) ?_
  refine r_puti X hT hS 96 0 pk_9_83 rfl rfl rfl rfl (by decide) dX9_pieces_2 (fun H locs i1 ei1 hT hS => ?_)
  have hR1 := Rg_put hR ei1 (-2147483648) 2147483647 rfl (rg_k (by decide) : rg 0 0 0) (by decide)
  have hF1 := Fr_puti hF ei1 (by decide)
  refine lv_aload_n hx hb dX9_pieces_5 rfl (lv_at hl 0 rfl) ?_
  refine e_Vi (As := []) (rest := []) X Y hT hS (m_X9_isTale hR1) mk_X9_isTale gm_1685 rfl rfl (by decide) hd_X9_isTale ⟨rfl, rfl⟩ ⟨Nat.le_of_ble_eq_true rfl, Nat.le_of_ble_eq_true rfl⟩ hl.1 rfl (Nat.le_of_ble_eq_true rfl) dX9_pieces_6 ⟨Nat.zero_le _, Nat.zero_le _⟩ (fun r2 i2 g2 H locs hq hT hS => ?_)
  obtain ⟨eh2, hr2⟩ := hq
  rw [(Prod.mk.inj eh2).1, (Prod.mk.inj eh2).2] at hT
  refine lv_if_ne (tgt := 15) hx hb dX9_pieces_9 (by decide) (fun c3 => ?_) (fun c3 => ?_)
  ·
    have q3 : ¬ r2.toInt = 0 := i_ne c3
    have h4 : rg 1 1 r2 := t_nelo 1 hr2 (rg_k (by decide) : rg 0 0 0) (i_ne c3) (by decide)
    refine lv_aload_n hx hb dX9_pieces_15 rfl (lv_at hl 0 rfl) ?_
    refine e_Vv (As := []) (rest := []) X Y hT hS (m_X9_lays hR1) mk_X9_lays gm_1658 rfl rfl (by decide) hd_X9_lays ⟨rfl, rfl⟩ ⟨Nat.le_of_ble_eq_true rfl, Nat.le_of_ble_eq_true rfl⟩ hl.1 rfl (Nat.le_of_ble_eq_true rfl) dX9_pieces_16 ⟨Nat.zero_le _, Nat.zero_le _⟩ (fun i5 g5 H locs hq hT hS => ?_)
    obtain ⟨hR5, hf5⟩ := hq
    have hF5 := Fr_tr hF1 hf5 (by decide)
    refine lv_iconst (v := 0) hx hb dX9_pieces_19 (by decide) ?_
    refine lv_istore_n (lv' := [(1, .int 0), (0, .ref (h 96))]) hx hb dX9_pieces_20 rfl hl (by decide) rfl (fun ls hl => ?_)
    refine lv_iconst (v := 0) hx hb dX9_pieces_21 (by decide) ?_
    refine lv_istore_n (lv' := [(2, .int 0), (1, .int 0), (0, .ref (h 96))]) hx hb dX9_pieces_22 rfl hl (by decide) rfl (fun ls hl => ?_)
    refine lv_iconst (v := 0) hx hb dX9_pieces_23 (by decide) ?_
    refine lv_istore_n (lv' := [(3, .int 0), (2, .int 0), (1, .int 0), (0, .ref (h 96))]) hx hb dX9_pieces_24 rfl hl (by decide) rfl (fun ls hl => ?_)
    have L25_6 : ∀ (n7_ : Nat) (x25_1 : Int32) (x25_2 : Int32) (x25_3 : Int32) (H : Heap) (locs : List Loc) (ls : Array Slot), rg 0 255 x25_2 → rg 0 6 x25_3 → TH D h cz i5 g5 H → va_S (hA h) s.heap H locs → lv_has ls 7 [(0, .ref (h 96)), (1, .int x25_1), (2, .int x25_2), (3, .int x25_3)] → (6 - x25_3.toInt).toNat < n7_ → W p l e ({ frames := 2, cells := 0, slots := 0, locals := 41 } : Room) s m args below meth c H locs 0 0 Q (F0 m 25 ls []) := by
      intro n7_
      induction n7_ with
      | zero => intro x25_1 x25_2 x25_3 H locs ls hhx25_2 hhx25_3 hT hS hl hm7_; exact absurd hm7_ (Nat.not_lt_zero _)
      | succ n7_ ih7_ =>
        intro x25_1 x25_2 x25_3 H locs ls hhx25_2 hhx25_3 hT hS hl hm7_
        refine lv_iload_n hx hb dX9_pieces_25 rfl (lv_at hl 3 rfl) ?_
        refine lv_aload_n hx hb dX9_pieces_26 rfl (lv_at hl 0 rfl) ?_
        refine e_Vi (As := []) (rest := [.int x25_3]) X Y hT hS (m_X9_parts hR5) mk_X9_parts gm_1649 rfl rfl (by decide) hd_X9_parts ⟨rfl, rfl⟩ ⟨Nat.le_of_ble_eq_true rfl, Nat.le_of_ble_eq_true rfl⟩ hl.1 rfl (Nat.le_of_ble_eq_true rfl) dX9_pieces_27 ⟨Nat.zero_le _, Nat.zero_le _⟩ (fun r8 i8 g8 H locs hq hT hS => ?_)
        obtain ⟨eh8, hr8⟩ := hq
        rw [(Prod.mk.inj eh8).1, (Prod.mk.inj eh8).2] at hT
        refine lv_icmp_ge (tgt := 126) hx hb dX9_pieces_30 (by decide) (fun c9 => ?_) (fun c9 => ?_)
        ·
          have q9 : r8.toInt ≤ x25_3.toInt := i_le c9
          refine lv_iload_n hx hb dX9_pieces_126 rfl (lv_at hl 1 rfl) ?_
          exact hret x25_1 _ _ _ _ _ _ dX9_pieces_127 hT hS ⟨hR5, hF5⟩
        ·
          have q9 : x25_3.toInt < r8.toInt := i_nle c9
          have h10 : rg 0 5 x25_3 := t_ltx 0 5 hhx25_3 hr8 (i_nle c9) (by decide)
          have h11 : rg 1 6 r8 := t_lty 1 6 hhx25_3 hr8 (i_nle c9) (by decide)
          refine lv_iload_n hx hb dX9_pieces_33 rfl (lv_at hl 1 rfl) ?_
          refine lv_iload_n hx hb dX9_pieces_34 rfl (lv_at hl 2 rfl) ?_
          refine lv_iload_n hx hb dX9_pieces_35 rfl (lv_at hl 3 rfl) ?_
          have J47_12 : ∀ (x47_12_s0 : Int32) (H : Heap) (locs : List Loc) (ls : Array Slot), rg 0 1 x47_12_s0 → TH D h cz i5 g5 H → va_S (hA h) s.heap H locs → lv_has ls 7 [(0, .ref (h 96)), (2, .int x25_2), (3, .int x25_3)] → W p l e ({ frames := 2, cells := 0, slots := 0, locals := 41 } : Room) s m args below meth c H locs 0 0 Q (F0 m 47 ls [.int x47_12_s0, .int x25_1]) := by
            intro x47_12_s0 H locs ls hhx47_12_s0 hT hS hl
            refine q_iadd hx hb dX9_pieces_47 (fun x13 ex13 => ?_)
            refine lv_istore_n (lv' := [(1, .int x13), (0, .ref (h 96)), (2, .int x25_2), (3, .int x25_3)]) hx hb dX9_pieces_48 rfl hl (by decide) rfl (fun ls hl => ?_)
            refine lv_iconst (v := 1) hx hb dX9_pieces_49 (by decide) ?_
            refine lv_iload_n hx hb dX9_pieces_50 rfl (lv_at hl 3 rfl) ?_
            refine q_ishl hx hb dX9_pieces_51 (fun x14 ex14 => ?_)
            have h15 : rg 1 32 x14 := rg_shl1 ex14 h10 (by decide)
            refine lv_istore (lv' := [(4, .int x14), (1, .int x13), (0, .ref (h 96)), (2, .int x25_2), (3, .int x25_3)]) hx hb dX9_pieces_52 hl (by decide) rfl (fun ls hl => ?_)
            refine lv_iconst (v := 0) hx hb dX9_pieces_54 (by decide) ?_
            refine lv_istore (lv' := [(5, .int 0), (4, .int x14), (1, .int x13), (0, .ref (h 96)), (2, .int x25_2), (3, .int x25_3)]) hx hb dX9_pieces_55 hl (by decide) rfl (fun ls hl => ?_)
            have L57_16 : ∀ (n17_ : Nat) (x57_1_4 : Int32) (x57_1_5 : Int32) (H : Heap) (locs : List Loc) (ls : Array Slot), rg 0 255 x57_1_4 → rg 0 6 x57_1_5 → TH D h cz i5 g5 H → va_S (hA h) s.heap H locs → lv_has ls 7 [(0, .ref (h 96)), (1, .int x13), (2, .int x25_2), (3, .int x25_3), (4, .int x57_1_4), (5, .int x57_1_5)] → (6 - x57_1_5.toInt).toNat < n17_ → W p l e ({ frames := 2, cells := 0, slots := 0, locals := 41 } : Room) s m args below meth c H locs 0 0 Q (F0 m 57 ls []) := by
              intro n17_
              induction n17_ with
              | zero => intro x57_1_4 x57_1_5 H locs ls hhx57_1_4 hhx57_1_5 hT hS hl hm17_; exact absurd hm17_ (Nat.not_lt_zero _)
              | succ n17_ ih17_ =>
                intro x57_1_4 x57_1_5 H locs ls hhx57_1_4 hhx57_1_5 hT hS hl hm17_
                refine lv_iload hx hb dX9_pieces_57 (lv_at hl 5 rfl) ?_
                refine lv_aload_n hx hb dX9_pieces_59 rfl (lv_at hl 0 rfl) ?_
                refine e_Vi (As := []) (rest := [.int x57_1_5]) X Y hT hS (m_X9_parts hR5) mk_X9_parts gm_1649 rfl rfl (by decide) hd_X9_parts ⟨rfl, rfl⟩ ⟨Nat.le_of_ble_eq_true rfl, Nat.le_of_ble_eq_true rfl⟩ hl.1 rfl (Nat.le_of_ble_eq_true rfl) dX9_pieces_60 ⟨Nat.zero_le _, Nat.zero_le _⟩ (fun r18 i18 g18 H locs hq hT hS => ?_)
                obtain ⟨eh18, hr18⟩ := hq
                rw [(Prod.mk.inj eh18).1, (Prod.mk.inj eh18).2] at hT
                refine lv_icmp_ge (tgt := 115) hx hb dX9_pieces_63 (by decide) (fun c19 => ?_) (fun c19 => ?_)
                ·
                  have q19 : r18.toInt ≤ x57_1_5.toInt := i_le c19
                  refine lv_iload_n hx hb dX9_pieces_115 rfl (lv_at hl 2 rfl) ?_
                  refine lv_iload hx hb dX9_pieces_116 (lv_at hl 4 rfl) ?_
                  refine q_ior hx hb dX9_pieces_118 (fun x20 ex20 => ?_)
                  have h21 : rg 0 255 x20 := rg_or8 ex20 hhx25_2 hhx57_1_4 (by decide)
                  refine lv_istore_n (lv' := [(2, .int x20), (0, .ref (h 96)), (1, .int x13), (3, .int x25_3), (4, .int x57_1_4), (5, .int x57_1_5)]) hx hb dX9_pieces_119 rfl hl (by decide) rfl (fun ls hl => ?_)
                  obtain ⟨x22, ex22⟩ : ∃ y : Int32, y = x25_3 + 1 := ⟨_, rfl⟩
                  refine lv_iinc (v := x22) (lv' := [(3, .int x22), (2, .int x20), (0, .ref (h 96)), (1, .int x13), (4, .int x57_1_4), (5, .int x57_1_5)]) hx hb dX9_pieces_120 hl (k := 3) rfl (by rw [ex22]; rfl) (by decide) rfl (fun ls hl => ?_)
                  obtain ⟨hx22, ax22⟩ := rg_add 1 6 ex22 h10 (rg_k (by decide) : rg 1 1 1) (by decide)
                  replace ax22 : x22.toInt = x25_3.toInt + 1 := ax22
                  refine lv_goto (tgt := 25) hx hb dX9_pieces_123 (by decide) ?_
                  exact ih7_ x13 x20 x22 _ _ _ h21 (rg_w hx22 (by decide) : rg 0 6 x22) hT hS (lv_sub hl [2, 3, 1, 0] rfl) (m_up ax22 hx22 (by decide) hm7_)
                ·
                  have q19 : x57_1_5.toInt < r18.toInt := i_nle c19
                  have h23 : rg 0 5 x57_1_5 := t_ltx 0 5 hhx57_1_5 hr18 (i_nle c19) (by decide)
                  have h24 : rg 1 6 r18 := t_lty 1 6 hhx57_1_5 hr18 (i_nle c19) (by decide)
                  refine lv_iconst (v := 0) hx hb dX9_pieces_66 (by decide) ?_
                  refine lv_istore (lv' := [(6, .int 0), (0, .ref (h 96)), (1, .int x13), (2, .int x25_2), (3, .int x25_3), (4, .int x57_1_4), (5, .int x57_1_5)]) hx hb dX9_pieces_67 hl (by decide) rfl (fun ls hl => ?_)
                  have L69_25 : ∀ (n26_ : Nat) (x69_2_4 : Int32) (x69_2_6 : Int32) (H : Heap) (locs : List Loc) (ls : Array Slot), rg 0 255 x69_2_4 → rg 0 6 x69_2_6 → TH D h cz i5 g5 H → va_S (hA h) s.heap H locs → lv_has ls 7 [(0, .ref (h 96)), (1, .int x13), (2, .int x25_2), (3, .int x25_3), (4, .int x69_2_4), (5, .int x57_1_5), (6, .int x69_2_6)] → (6 - x69_2_6.toInt).toNat < n26_ → W p l e ({ frames := 2, cells := 0, slots := 0, locals := 41 } : Room) s m args below meth c H locs 0 0 Q (F0 m 69 ls []) := by
                    intro n26_
                    induction n26_ with
                    | zero => intro x69_2_4 x69_2_6 H locs ls hhx69_2_4 hhx69_2_6 hT hS hl hm26_; exact absurd hm26_ (Nat.not_lt_zero _)
                    | succ n26_ ih26_ =>
                      intro x69_2_4 x69_2_6 H locs ls hhx69_2_4 hhx69_2_6 hT hS hl hm26_
                      refine lv_iload hx hb dX9_pieces_69 (lv_at hl 6 rfl) ?_
                      refine lv_aload_n hx hb dX9_pieces_71 rfl (lv_at hl 0 rfl) ?_
                      refine e_Vi (As := []) (rest := [.int x69_2_6]) X Y hT hS (m_X9_parts hR5) mk_X9_parts gm_1649 rfl rfl (by decide) hd_X9_parts ⟨rfl, rfl⟩ ⟨Nat.le_of_ble_eq_true rfl, Nat.le_of_ble_eq_true rfl⟩ hl.1 rfl (Nat.le_of_ble_eq_true rfl) dX9_pieces_72 ⟨Nat.zero_le _, Nat.zero_le _⟩ (fun r27 i27 g27 H locs hq hT hS => ?_)
                      obtain ⟨eh27, hr27⟩ := hq
                      rw [(Prod.mk.inj eh27).1, (Prod.mk.inj eh27).2] at hT
                      refine lv_icmp_ge (tgt := 109) hx hb dX9_pieces_75 (by decide) (fun c28 => ?_) (fun c28 => ?_)
                      ·
                        have q28 : r27.toInt ≤ x69_2_6.toInt := i_le c28
                        obtain ⟨x29, ex29⟩ : ∃ y : Int32, y = x57_1_5 + 1 := ⟨_, rfl⟩
                        refine lv_iinc (v := x29) (lv' := [(5, .int x29), (0, .ref (h 96)), (1, .int x13), (2, .int x25_2), (3, .int x25_3), (4, .int x69_2_4), (6, .int x69_2_6)]) hx hb dX9_pieces_109 hl (k := 5) rfl (by rw [ex29]; rfl) (by decide) rfl (fun ls hl => ?_)
                        obtain ⟨hx29, ax29⟩ := rg_add 1 6 ex29 h23 (rg_k (by decide) : rg 1 1 1) (by decide)
                        replace ax29 : x29.toInt = x57_1_5.toInt + 1 := ax29
                        refine lv_goto (tgt := 57) hx hb dX9_pieces_112 (by decide) ?_
                        exact ih17_ x69_2_4 x29 _ _ _ hhx69_2_4 (rg_w hx29 (by decide) : rg 0 6 x29) hT hS (lv_sub hl [1, 2, 3, 4, 5, 0] rfl) (m_up ax29 hx29 (by decide) hm17_)
                      ·
                        have q28 : x69_2_6.toInt < r27.toInt := i_nle c28
                        have h30 : rg 0 5 x69_2_6 := t_ltx 0 5 hhx69_2_6 hr27 (i_nle c28) (by decide)
                        have h31 : rg 1 6 r27 := t_lty 1 6 hhx69_2_6 hr27 (i_nle c28) (by decide)
                        refine lv_iload hx hb dX9_pieces_78 (lv_at hl 4 rfl) ?_
                        refine lv_iload hx hb dX9_pieces_80 (lv_at hl 4 rfl) ?_
                        refine lv_iload hx hb dX9_pieces_82 (lv_at hl 6 rfl) ?_
                        refine e_Si (As := [.int x69_2_4, .int x69_2_6]) (rest := [.int x69_2_4]) X Y hT hS (m_X9_isBit x69_2_4 x69_2_6) sk_X9_isBit gm_1670 hd_X9_isBit ⟨rfl, rfl⟩ ⟨Nat.le_of_ble_eq_true rfl, Nat.le_of_ble_eq_true rfl⟩ hl.1 rfl (Nat.le_of_ble_eq_true rfl) dX9_pieces_84 ⟨Nat.zero_le _, Nat.zero_le _⟩ (fun r32 i32 g32 H locs hq hT hS => ?_)
                        rcases hq with hq | hq
                        ·
                          obtain ⟨eh32, rfl, hf32_0⟩ := hq
                          rw [(Prod.mk.inj eh32).1, (Prod.mk.inj eh32).2] at hT
                          replace hf32_0 : (((x69_2_4 : Int32) >>> ((x69_2_6 : Int32) &&& 31)) &&& 1 = 1) := hf32_0
                          refine lv_if_eq (tgt := 99) hx hb dX9_pieces_87 (by decide) (fun c33 => (x_eq (rg_k (by decide) : rg 1 1 1) (rg_k (by decide) : rg 0 0 0) (i_eq c33) (by decide)).elim) (fun c33 => ?_)
                          refine lv_aload_n hx hb dX9_pieces_90 rfl (lv_at hl 0 rfl) ?_
                          refine lv_iload hx hb dX9_pieces_91 (lv_at hl 6 rfl) ?_
                          refine e_Vi (As := [.int x69_2_6]) (rest := [.int x69_2_4]) X Y hT hS (m_X9_nearOf hR5 x69_2_6) mk_X9_nearOf gm_1662 rfl rfl (by decide) hd_X9_nearOf ⟨rfl, rfl⟩ ⟨Nat.le_of_ble_eq_true rfl, Nat.le_of_ble_eq_true rfl⟩ hl.1 rfl (Nat.le_of_ble_eq_true rfl) dX9_pieces_93 ⟨Nat.zero_le _, Nat.zero_le _⟩ (fun r34 i34 g34 H locs hq hT hS => ?_)
                          obtain ⟨eh34, hr34⟩ := hq
                          rw [(Prod.mk.inj eh34).1, (Prod.mk.inj eh34).2] at hT
                          refine lv_goto (tgt := 100) hx hb dX9_pieces_96 (by decide) ?_
                          refine q_ior hx hb dX9_pieces_100 (fun x35 ex35 => ?_)
                          have h36 : rg 0 255 x35 := rg_or8 ex35 hhx69_2_4 hr34 (by decide)
                          refine lv_istore (lv' := [(4, .int x35), (0, .ref (h 96)), (1, .int x13), (2, .int x25_2), (3, .int x25_3), (5, .int x57_1_5), (6, .int x69_2_6)]) hx hb dX9_pieces_101 hl (by decide) rfl (fun ls hl => ?_)
                          obtain ⟨x37, ex37⟩ : ∃ y : Int32, y = x69_2_6 + 1 := ⟨_, rfl⟩
                          refine lv_iinc (v := x37) (lv' := [(6, .int x37), (4, .int x35), (0, .ref (h 96)), (1, .int x13), (2, .int x25_2), (3, .int x25_3), (5, .int x57_1_5)]) hx hb dX9_pieces_103 hl (k := 6) rfl (by rw [ex37]; rfl) (by decide) rfl (fun ls hl => ?_)
                          obtain ⟨hx37, ax37⟩ := rg_add 1 6 ex37 h30 (rg_k (by decide) : rg 1 1 1) (by decide)
                          replace ax37 : x37.toInt = x69_2_6.toInt + 1 := ax37
                          refine lv_goto (tgt := 69) hx hb dX9_pieces_106 (by decide) ?_
                          exact ih26_ x35 x37 _ _ _ h36 (rg_w hx37 (by decide) : rg 0 6 x37) hT hS (lv_sub hl [2, 3, 4, 5, 1, 6, 0] rfl) (m_up ax37 hx37 (by decide) hm26_)
                        ·
                          obtain ⟨eh32, rfl, hf32_0⟩ := hq
                          rw [(Prod.mk.inj eh32).1, (Prod.mk.inj eh32).2] at hT
                          replace hf32_0 : ¬ (((x69_2_4 : Int32) >>> ((x69_2_6 : Int32) &&& 31)) &&& 1 = 1) := hf32_0
                          refine lv_if_eq (tgt := 99) hx hb dX9_pieces_87 (by decide) (fun c38 => ?_) (fun c38 => (x_ne (rg_k (by decide) : rg 0 0 0) (rg_k (by decide) : rg 0 0 0) (i_ne c38) (by decide)).elim)
                          refine lv_iconst (v := 0) hx hb dX9_pieces_99 (by decide) ?_
                          refine q_ior hx hb dX9_pieces_100 (fun x39 ex39 => ?_)
                          have h40 : rg 0 255 x39 := rg_or8 ex39 hhx69_2_4 (rg_k (by decide) : rg 0 0 0) (by decide)
                          refine lv_istore (lv' := [(4, .int x39), (0, .ref (h 96)), (1, .int x13), (2, .int x25_2), (3, .int x25_3), (5, .int x57_1_5), (6, .int x69_2_6)]) hx hb dX9_pieces_101 hl (by decide) rfl (fun ls hl => ?_)
                          obtain ⟨x41, ex41⟩ : ∃ y : Int32, y = x69_2_6 + 1 := ⟨_, rfl⟩
                          refine lv_iinc (v := x41) (lv' := [(6, .int x41), (4, .int x39), (0, .ref (h 96)), (1, .int x13), (2, .int x25_2), (3, .int x25_3), (5, .int x57_1_5)]) hx hb dX9_pieces_103 hl (k := 6) rfl (by rw [ex41]; rfl) (by decide) rfl (fun ls hl => ?_)
                          obtain ⟨hx41, ax41⟩ := rg_add 1 6 ex41 h30 (rg_k (by decide) : rg 1 1 1) (by decide)
                          replace ax41 : x41.toInt = x69_2_6.toInt + 1 := ax41
                          refine lv_goto (tgt := 69) hx hb dX9_pieces_106 (by decide) ?_
                          exact ih26_ x39 x41 _ _ _ h40 (rg_w hx41 (by decide) : rg 0 6 x41) hT hS (lv_sub hl [2, 3, 4, 5, 1, 6, 0] rfl) (m_up ax41 hx41 (by decide) hm26_)
                  exact L69_25 _ x57_1_4 (0) _ _ _ hhx57_1_4 (rg_w (rg_k (by decide) : rg 0 0 0) (by decide) : rg 0 6 0) hT hS (lv_sub hl [1, 2, 3, 4, 5, 6, 0] rfl) (Nat.lt_succ_self _)
            exact L57_16 _ x14 (0) _ _ _ (rg_w h15 (by decide) : rg 0 255 x14) (rg_w (rg_k (by decide) : rg 0 0 0) (by decide) : rg 0 6 0) hT hS (lv_sub hl [3, 2, 4, 5, 1, 0] rfl) (Nat.lt_succ_self _)
          refine e_Si (As := [.int x25_2, .int x25_3]) (rest := [.int x25_1]) X Y hT hS (m_X9_isBit x25_2 x25_3) sk_X9_isBit gm_1670 hd_X9_isBit ⟨rfl, rfl⟩ ⟨Nat.le_of_ble_eq_true rfl, Nat.le_of_ble_eq_true rfl⟩ hl.1 rfl (Nat.le_of_ble_eq_true rfl) dX9_pieces_36 ⟨Nat.zero_le _, Nat.zero_le _⟩ (fun r42 i42 g42 H locs hq hT hS => ?_)
          rcases hq with hq | hq
          ·
            obtain ⟨eh42, rfl, hf42_0⟩ := hq
            rw [(Prod.mk.inj eh42).1, (Prod.mk.inj eh42).2] at hT
            replace hf42_0 : (((x25_2 : Int32) >>> ((x25_3 : Int32) &&& 31)) &&& 1 = 1) := hf42_0
            refine lv_if_eq (tgt := 46) hx hb dX9_pieces_39 (by decide) (fun c43 => (x_eq (rg_k (by decide) : rg 1 1 1) (rg_k (by decide) : rg 0 0 0) (i_eq c43) (by decide)).elim) (fun c43 => ?_)
            refine lv_iconst (v := 0) hx hb dX9_pieces_42 (by decide) ?_
            refine lv_goto (tgt := 47) hx hb dX9_pieces_43 (by decide) ?_
            exact J47_12 (0) _ _ _ (rg_w (rg_k (by decide) : rg 0 0 0) (by decide) : rg 0 1 0) hT hS (lv_sub hl [0, 2, 3] rfl)
          ·
            obtain ⟨eh42, rfl, hf42_0⟩ := hq
            rw [(Prod.mk.inj eh42).1, (Prod.mk.inj eh42).2] at hT
            replace hf42_0 : ¬ (((x25_2 : Int32) >>> ((x25_3 : Int32) &&& 31)) &&& 1 = 1) := hf42_0
            refine lv_if_eq (tgt := 46) hx hb dX9_pieces_39 (by decide) (fun c44 => ?_) (fun c44 => (x_ne (rg_k (by decide) : rg 0 0 0) (rg_k (by decide) : rg 0 0 0) (i_ne c44) (by decide)).elim)
            refine lv_iconst (v := 1) hx hb dX9_pieces_46 (by decide) ?_
            exact J47_12 (1) _ _ _ (rg_w (rg_k (by decide) : rg 1 1 1) (by decide) : rg 0 1 1) hT hS (lv_sub hl [0, 2, 3] rfl)
    exact L25_6 _ (0) (0) (0) _ _ _ (rg_w (rg_k (by decide) : rg 0 0 0) (by decide) : rg 0 255 0) (rg_w (rg_k (by decide) : rg 0 0 0) (by decide) : rg 0 6 0) hT hS (lv_sub hl [3, 2, 1, 0] rfl) (Nat.lt_succ_self _)
  ·
    have q3 : r2.toInt = 0 := i_eq c3
    have h45 : rg 0 0 r2 := t_eqx 0 0 hr2 (rg_k (by decide) : rg 0 0 0) (i_eq c3) (by decide)
    refine lv_bipush (v := (-2)) hx hb dX9_pieces_12 (by decide) ?_
    exact hret (-2) _ _ _ _ _ _ dX9_pieces_14 hT hS ⟨hR1, hF1⟩
