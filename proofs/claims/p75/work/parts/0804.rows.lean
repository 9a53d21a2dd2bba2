set_option maxRecDepth 100000 in
set_option maxHeartbeats 4000000 in
theorem m_X0_settle_72 {l : Launch} {D : va_G} {h : Nat → Nat} {cz : Nat → ClassId} {z : EZ} {i : Nat → Nat → Int32} {g : Nat → Nat → Int64} (hR : Rg rA i) (a_a : Int32) : DtI l yX0_settle cX0_settle 4 (some .int) ({ frames := 1, cells := 0, slots := 0, locals := 21 } : Room) D h cz z i g [.ref (h 72), .int a_a] (fun r u => u = (i, g)) := by
  refine e_I pn_X0_settle (Nat.le_of_ble_eq_true rfl) ?_
  intro p e s m args below meth c ls Q X Y hret hT hl hS
  have hx := X.1
  have hb := X.2.1
  have hl : lv_has ls 4 [(0, .ref (h 72)), (1, .int a_a)] := hl
  refine lv_iload_n hx hb dX0_settle_0 rfl (lv_at hl 1 rfl) ?_
  refine lv_istore_n (lv' := [(2, .int a_a), (0, .ref (h 72)), (1, .int a_a)]) hx hb dX0_settle_1 rfl hl (by decide) rfl (fun ls hl => ?_)
  refine lv_iconst (v := 0) hx hb dX0_settle_2 (by decide) ?_
  refine lv_istore_n (lv' := [(3, .int 0), (2, .int a_a), (0, .ref (h 72)), (1, .int a_a)]) hx hb dX0_settle_3 rfl hl (by decide) rfl (fun ls hl => ?_)
  have L4_1 : ∀ (n2_ : Nat) (x4_2 : Int32) (x4_3 : Int32) (H : Heap) (locs : List Loc) (ls : Array Slot), rg 0 6 x4_3 → TH D h cz i g H → va_S (hA h) s.heap H locs → lv_has ls 4 [(0, .ref (h 72)), (1, .int a_a), (2, .int x4_2), (3, .int x4_3)] → (6 - x4_3.toInt).toNat < n2_ → W p l e ({ frames := 1, cells := 0, slots := 0, locals := 21 } : Room) s m args below meth c H locs 0 0 Q (F0 m 4 ls []) := by
    intro n2_
    induction n2_ with
    | zero => intro x4_2 x4_3 H locs ls hhx4_3 hT hS hl hm2_; exact absurd hm2_ (Nat.not_lt_zero _)
    | succ n2_ ih2_ =>
      intro x4_2 x4_3 H locs ls hhx4_3 hT hS hl hm2_
      refine lv_iload_n hx hb dX0_settle_4 rfl (lv_at hl 3 rfl) ?_
      refine lv_aload_n hx hb dX0_settle_5 rfl (lv_at hl 0 rfl) ?_
      refine r_getr X hT 72 0 15 fk_0_30 rfl rfl (by decide) dX0_settle_6 ?_
      refine r_geti X hT 15 13 fk_0_44 rfl rfl (by decide) dX0_settle_9 ?_
      refine lv_icmp_ge (tgt := 62) hx hb dX0_settle_12 (by decide) (fun c3 => ?_) (fun c3 => ?_)
      ·
        have q3 : (i 15 13).toInt ≤ x4_3.toInt := i_le c3
        refine lv_iload_n hx hb dX0_settle_62 rfl (lv_at hl 2 rfl) ?_
        exact hret x4_2 _ _ _ _ _ _ dX0_settle_63 hT hS rfl
      ·
        have q3 : x4_3.toInt < (i 15 13).toInt := i_nle c3
        have h4 : rg 0 5 x4_3 := t_ltx 0 5 hhx4_3 (Rg_at hR 15 13 0 6 (by decide) rfl) (i_nle c3) (by decide)
        have h5 : rg 1 6 (i 15 13) := t_lty 1 6 hhx4_3 (Rg_at hR 15 13 0 6 (by decide) rfl) (i_nle c3) (by decide)
        refine lv_iload_n hx hb dX0_settle_15 rfl (lv_at hl 1 rfl) ?_
        refine lv_aload_n hx hb dX0_settle_16 rfl (lv_at hl 0 rfl) ?_
        refine r_geti X hT 72 8 fk_0_41 rfl rfl (by decide) dX0_settle_17 ?_
        refine q_ior hx hb dX0_settle_20 (fun x6 ex6 => ?_)
        refine lv_iload_n hx hb dX0_settle_21 rfl (lv_at hl 3 rfl) ?_
        refine e_Ni (As := [.int x6, .int x4_3]) (rest := []) X Y hT hS (m_X8_hasBit x6 x4_3) sk_X8_hasBit Y.n1 hd_X8_hasBit ⟨rfl, rfl⟩ ⟨Nat.le_of_ble_eq_true rfl, Nat.le_of_ble_eq_true rfl⟩ hl.1 rfl (Nat.le_of_ble_eq_true rfl) dX0_settle_22 ⟨Nat.zero_le _, Nat.zero_le _⟩ (fun r7 i7 g7 H locs hq hT hS => ?_)
        obtain ⟨eh7, hr7⟩ := hq
        rw [(Prod.mk.inj eh7).1, (Prod.mk.inj eh7).2] at hT
        refine lv_if_ne (tgt := 56) hx hb dX0_settle_25 (by decide) (fun c8 => ?_) (fun c8 => ?_)
        ·
          have q8 : ¬ r7.toInt = 0 := i_ne c8
          have h9 : rg 1 1 r7 := t_nelo 1 hr7 (rg_k (by decide) : rg 0 0 0) (i_ne c8) (by decide)
          obtain ⟨x10, ex10⟩ : ∃ y : Int32, y = x4_3 + 1 := ⟨_, rfl⟩
          refine lv_iinc (v := x10) (lv' := [(3, .int x10), (0, .ref (h 72)), (1, .int a_a), (2, .int x4_2)]) hx hb dX0_settle_56 hl (k := 3) rfl (by rw [ex10]; rfl) (by decide) rfl (fun ls hl => ?_)
          obtain ⟨hx10, ax10⟩ := rg_add 1 6 ex10 h4 (rg_k (by decide) : rg 1 1 1) (by decide)
          replace ax10 : x10.toInt = x4_3.toInt + 1 := ax10
          refine lv_goto (tgt := 4) hx hb dX0_settle_59 (by decide) ?_
          exact ih2_ x4_2 x10 _ _ _ (rg_w hx10 (by decide) : rg 0 6 x10) hT hS (lv_sub hl [1, 2, 3, 0] rfl) (m_up ax10 hx10 (by decide) hm2_)
        ·
          have q8 : r7.toInt = 0 := i_eq c8
          have h11 : rg 0 0 r7 := t_eqx 0 0 hr7 (rg_k (by decide) : rg 0 0 0) (i_eq c8) (by decide)
          refine lv_aload_n hx hb dX0_settle_28 rfl (lv_at hl 0 rfl) ?_
          refine r_getr X hT 72 1 73 fk_0_9 rfl rfl (by decide) dX0_settle_29 ?_
          refine lv_iload_n hx hb dX0_settle_32 rfl (lv_at hl 3 rfl) ?_
          refine r_iald X hT 73 rfl (by decide) (v_in h4 (by decide)) dX0_settle_33 ?_
          refine lv_if_eq (tgt := 56) hx hb dX0_settle_34 (by decide) (fun c12 => ?_) (fun c12 => ?_)
          ·
            have q12 : (i 73 x4_3.toNatClampNeg).toInt = 0 := i_eq c12
            have h13 : rg 0 0 (i 73 x4_3.toNatClampNeg) := t_eqx 0 0 (rg_top (i 73 x4_3.toNatClampNeg)) (rg_k (by decide) : rg 0 0 0) (i_eq c12) (by decide)
            obtain ⟨x14, ex14⟩ : ∃ y : Int32, y = x4_3 + 1 := ⟨_, rfl⟩
            refine lv_iinc (v := x14) (lv' := [(3, .int x14), (0, .ref (h 72)), (1, .int a_a), (2, .int x4_2)]) hx hb dX0_settle_56 hl (k := 3) rfl (by rw [ex14]; rfl) (by decide) rfl (fun ls hl => ?_)
            obtain ⟨hx14, ax14⟩ := rg_add 1 6 ex14 h4 (rg_k (by decide) : rg 1 1 1) (by decide)
            replace ax14 : x14.toInt = x4_3.toInt + 1 := ax14
            refine lv_goto (tgt := 4) hx hb dX0_settle_59 (by decide) ?_
            exact ih2_ x4_2 x14 _ _ _ (rg_w hx14 (by decide) : rg 0 6 x14) hT hS (lv_sub hl [1, 2, 3, 0] rfl) (m_up ax14 hx14 (by decide) hm2_)
          ·
            have q12 : ¬ (i 73 x4_3.toNatClampNeg).toInt = 0 := i_ne c12
            refine lv_aload_n hx hb dX0_settle_37 rfl (lv_at hl 0 rfl) ?_
            refine r_getr X hT 72 1 73 fk_0_9 rfl rfl (by decide) dX0_settle_38 ?_
            refine lv_iload_n hx hb dX0_settle_41 rfl (lv_at hl 3 rfl) ?_
            refine r_iald X hT 73 rfl (by decide) (v_in h4 (by decide)) dX0_settle_42 ?_
            refine lv_iload_n hx hb dX0_settle_43 rfl (lv_at hl 1 rfl) ?_
            refine lv_iconst (v := (-1)) hx hb dX0_settle_44 (by decide) ?_
            refine q_ixor hx hb dX0_settle_45 (fun x15 ex15 => ?_)
            refine q_iand hx hb dX0_settle_46 (fun x16 ex16 => ?_)
            refine lv_if_ne (tgt := 56) hx hb dX0_settle_47 (by decide) (fun c17 => ?_) (fun c17 => ?_)
            ·
              have q17 : ¬ x16.toInt = 0 := i_ne c17
              obtain ⟨x18, ex18⟩ : ∃ y : Int32, y = x4_3 + 1 := ⟨_, rfl⟩
              refine lv_iinc (v := x18) (lv' := [(3, .int x18), (0, .ref (h 72)), (1, .int a_a), (2, .int x4_2)]) hx hb dX0_settle_56 hl (k := 3) rfl (by rw [ex18]; rfl) (by decide) rfl (fun ls hl => ?_)
              obtain ⟨hx18, ax18⟩ := rg_add 1 6 ex18 h4 (rg_k (by decide) : rg 1 1 1) (by decide)
              replace ax18 : x18.toInt = x4_3.toInt + 1 := ax18
              refine lv_goto (tgt := 4) hx hb dX0_settle_59 (by decide) ?_
              exact ih2_ x4_2 x18 _ _ _ (rg_w hx18 (by decide) : rg 0 6 x18) hT hS (lv_sub hl [1, 2, 3, 0] rfl) (m_up ax18 hx18 (by decide) hm2_)
            ·
              have q17 : x16.toInt = 0 := i_eq c17
              have h19 : rg 0 0 x16 := t_eqx 0 0 (rg_top x16) (rg_k (by decide) : rg 0 0 0) (i_eq c17) (by decide)
              refine lv_iload_n hx hb dX0_settle_50 rfl (lv_at hl 2 rfl) ?_
              refine lv_iconst (v := 1) hx hb dX0_settle_51 (by decide) ?_
              refine lv_iload_n hx hb dX0_settle_52 rfl (lv_at hl 3 rfl) ?_
              refine q_ishl hx hb dX0_settle_53 (fun x20 ex20 => ?_)
              have h21 : rg 1 32 x20 := rg_shl1 ex20 h4 (by decide)
              refine q_ior hx hb dX0_settle_54 (fun x22 ex22 => ?_)
              refine lv_istore_n (lv' := [(2, .int x22), (0, .ref (h 72)), (1, .int a_a), (3, .int x4_3)]) hx hb dX0_settle_55 rfl hl (by decide) rfl (fun ls hl => ?_)
              obtain ⟨x23, ex23⟩ : ∃ y : Int32, y = x4_3 + 1 := ⟨_, rfl⟩
              refine lv_iinc (v := x23) (lv' := [(3, .int x23), (2, .int x22), (0, .ref (h 72)), (1, .int a_a)]) hx hb dX0_settle_56 hl (k := 3) rfl (by rw [ex23]; rfl) (by decide) rfl (fun ls hl => ?_)
              obtain ⟨hx23, ax23⟩ := rg_add 1 6 ex23 h4 (rg_k (by decide) : rg 1 1 1) (by decide)
              replace ax23 : x23.toInt = x4_3.toInt + 1 := ax23
              refine lv_goto (tgt := 4) hx hb dX0_settle_59 (by decide) ?_
              exact ih2_ x22 x23 _ _ _ (rg_w hx23 (by decide) : rg 0 6 x23) hT hS (lv_sub hl [2, 3, 1, 0] rfl) (m_up ax23 hx23 (by decide) hm2_)
  exact L4_1 _ a_a (0) _ _ _ (rg_w (rg_k (by decide) : rg 0 0 0) (by decide) : rg 0 6 0) hT hS (lv_sub hl [2, 3, 1, 0] rfl) (Nat.lt_succ_self _)
set_option maxRecDepth 100000 in
set_option maxHeartbeats 4000000 in
theorem m_X8_fewest {l : Launch} {D : va_G} {h : Nat → Nat} {cz : Nat → ClassId} {z : EZ} {i : Nat → Nat → Int32} {g : Nat → Nat → Int64} (hR : Rg rA i) : DtI l yX8_fewest cX8_fewest 4 (some .int) ({ frames := 2, cells := 0, slots := 0, locals := 46 } : Room) D h cz z i g [.ref (h 0)] (fun r u => Rg rA u.1 ∧ Fr [72, 73, 74] [] i g u ∧ rg 0 63 r) := by
  refine e_I pn_X8_fewest (Nat.le_of_ble_eq_true rfl) ?_
  intro p e s m args below meth c ls Q X Y hret hT hl hS
  have hx := X.1
  have hb := X.2.1
  have hl : lv_has ls 4 [(0, .ref (h 0))] := hl
  have hF : Fr [72, 73, 74] [] i g (i, g) := Fr_rf _ _ _ _
  refine lv_aload_n hx hb dX8_fewest_0 rfl (lv_at hl 0 rfl) ?_
  refine r_getr X hT 0 8 72 fk_8_59 rfl rfl (by decide) dX8_fewest_1 ?_
  refine lv_iconst (v := (-1)) hx hb dX8_fewest_4 (by decide) ?_
  refine e_Vv (As := [.int (-1)]) (rest := []) X Y hT hS (m_X0_begin_72 hR ((-1))) mk_X0_begin gm_740 rfl rfl (by decide) hd_X0_begin ⟨rfl, rfl⟩ ⟨Nat.le_of_ble_eq_true rfl, Nat.le_of_ble_eq_true rfl⟩ hl.1 rfl (Nat.le_of_ble_eq_true rfl) dX8_fewest_5 ⟨Nat.zero_le _, Nat.zero_le _⟩ (fun i1 g1 H locs hq hT hS => ?_)
  obtain ⟨hR1, hf1⟩ := hq
  have hF1 := Fr_tr hF hf1 (by decide)
  refine lv_aload_n hx hb dX8_fewest_8 rfl (lv_at hl 0 rfl) ?_
  refine r_getr X hT 0 3 15 fk_8_32 rfl rfl (by decide) dX8_fewest_9 ?_
  refine e_Vi (As := []) (rest := []) X Y hT hS (m_X6_everyPart_15 hR1) mk_X6_everyPart gm_913 rfl rfl (by decide) hd_X6_everyPart ⟨rfl, rfl⟩ ⟨Nat.le_of_ble_eq_true rfl, Nat.le_of_ble_eq_true rfl⟩ hl.1 rfl (Nat.le_of_ble_eq_true rfl) dX8_fewest_12 ⟨Nat.zero_le _, Nat.zero_le _⟩ (fun r2 i2 g2 H locs hq hT hS => ?_)
  obtain ⟨eh2, hr2⟩ := hq
  rw [(Prod.mk.inj eh2).1, (Prod.mk.inj eh2).2] at hT
  refine lv_istore_n (lv' := [(1, .int r2), (0, .ref (h 0))]) hx hb dX8_fewest_15 rfl hl (by decide) rfl (fun ls hl => ?_)
  refine lv_iconst (v := 0) hx hb dX8_fewest_16 (by decide) ?_
  refine lv_istore_n (lv' := [(2, .int 0), (1, .int r2), (0, .ref (h 0))]) hx hb dX8_fewest_17 rfl hl (by decide) rfl (fun ls hl => ?_)
  have L18_3 : ∀ (n4_ : Nat) (x18_1 : Int32) (x18_2 : Int32) (H : Heap) (locs : List Loc) (ls : Array Slot), rg 0 63 x18_1 → rg 0 64 x18_2 → TH D h cz i1 g1 H → va_S (hA h) s.heap H locs → lv_has ls 4 [(0, .ref (h 0)), (1, .int x18_1), (2, .int x18_2)] → (64 - x18_2.toInt).toNat < n4_ → W p l e ({ frames := 2, cells := 0, slots := 0, locals := 46 } : Room) s m args below meth c H locs 0 0 Q (F0 m 18 ls []) := by
    intro n4_
    induction n4_ with
    | zero => intro x18_1 x18_2 H locs ls hhx18_1 hhx18_2 hT hS hl hm4_; exact absurd hm4_ (Nat.not_lt_zero _)
    | succ n4_ ih4_ =>
      intro x18_1 x18_2 H locs ls hhx18_1 hhx18_2 hT hS hl hm4_
      refine lv_iload_n hx hb dX8_fewest_18 rfl (lv_at hl 2 rfl) ?_
      refine lv_aload_n hx hb dX8_fewest_19 rfl (lv_at hl 0 rfl) ?_
      refine r_getr X hT 0 3 15 fk_8_32 rfl rfl (by decide) dX8_fewest_20 ?_
      refine e_Vi (As := []) (rest := [.int x18_2]) X Y hT hS (m_X6_everyPart_15 hR1) mk_X6_everyPart gm_913 rfl rfl (by decide) hd_X6_everyPart ⟨rfl, rfl⟩ ⟨Nat.le_of_ble_eq_true rfl, Nat.le_of_ble_eq_true rfl⟩ hl.1 rfl (Nat.le_of_ble_eq_true rfl) dX8_fewest_23 ⟨Nat.zero_le _, Nat.zero_le _⟩ (fun r5 i5 g5 H locs hq hT hS => ?_)
      obtain ⟨eh5, hr5⟩ := hq
      rw [(Prod.mk.inj eh5).1, (Prod.mk.inj eh5).2] at hT
      refine lv_icmp_gt (tgt := 76) hx hb dX8_fewest_26 (by decide) (fun c6 => ?_) (fun c6 => ?_)
      ·
        have q6 : r5.toInt < x18_2.toInt := i_lt c6
        have h7 : rg 1 64 x18_2 := t_lty 1 64 hr5 hhx18_2 (i_lt c6) (by decide)
        refine lv_iload_n hx hb dX8_fewest_76 rfl (lv_at hl 1 rfl) ?_
        exact hret x18_1 _ _ _ _ _ _ dX8_fewest_77 hT hS ⟨hR1, hF1, hhx18_1⟩
      ·
        have q6 : x18_2.toInt ≤ r5.toInt := i_nlt c6
        have h8 : rg 0 63 x18_2 := t_lex 0 63 hhx18_2 hr5 (i_nlt c6) (by decide)
        refine lv_aload_n hx hb dX8_fewest_29 rfl (lv_at hl 0 rfl) ?_
        refine r_getr X hT 0 8 72 fk_8_59 rfl rfl (by decide) dX8_fewest_30 ?_
        refine lv_iload_n hx hb dX8_fewest_33 rfl (lv_at hl 2 rfl) ?_
        refine e_Vi (As := [.int x18_2]) (rest := []) X Y hT hS (m_X0_settle_72 hR1 x18_2) mk_X0_settle gm_962 rfl rfl (by decide) hd_X0_settle ⟨rfl, rfl⟩ ⟨Nat.le_of_ble_eq_true rfl, Nat.le_of_ble_eq_true rfl⟩ hl.1 rfl (Nat.le_of_ble_eq_true rfl) dX8_fewest_34 ⟨Nat.zero_le _, Nat.zero_le _⟩ (fun r9 i9 g9 H locs hq hT hS => ?_)
        have eh9 := hq
        rw [(Prod.mk.inj eh9).1, (Prod.mk.inj eh9).2] at hT
        refine lv_aload_n hx hb dX8_fewest_37 rfl (lv_at hl 0 rfl) ?_
        refine r_getr X hT 0 3 15 fk_8_32 rfl rfl (by decide) dX8_fewest_38 ?_
        refine e_Vi (As := []) (rest := [.int r9]) X Y hT hS (m_X6_everyPart_15 hR1) mk_X6_everyPart gm_913 rfl rfl (by decide) hd_X6_everyPart ⟨rfl, rfl⟩ ⟨Nat.le_of_ble_eq_true rfl, Nat.le_of_ble_eq_true rfl⟩ hl.1 rfl (Nat.le_of_ble_eq_true rfl) dX8_fewest_41 ⟨Nat.zero_le _, Nat.zero_le _⟩ (fun r10 i10 g10 H locs hq hT hS => ?_)
        obtain ⟨eh10, hr10⟩ := hq
        rw [(Prod.mk.inj eh10).1, (Prod.mk.inj eh10).2] at hT
        have J52_12 : ∀ (x52_12_s0 : Int32) (H : Heap) (locs : List Loc) (ls : Array Slot), rg 0 1 x52_12_s0 → TH D h cz i1 g1 H → va_S (hA h) s.heap H locs → lv_has ls 4 [(0, .ref (h 0)), (1, .int x18_1), (2, .int x18_2)] → W p l e ({ frames := 2, cells := 0, slots := 0, locals := 46 } : Room) s m args below meth c H locs 0 0 Q (F0 m 52 ls [.int x52_12_s0]) := by
          intro x52_12_s0 H locs ls hhx52_12_s0 hT hS hl
          refine lv_istore_n (lv' := [(3, .int x52_12_s0), (0, .ref (h 0)), (1, .int x18_1), (2, .int x18_2)]) hx hb dX8_fewest_52 rfl hl (by decide) rfl (fun ls hl => ?_)
          refine lv_iload_n hx hb dX8_fewest_53 rfl (lv_at hl 0 rfl) ?_
          refine lv_if_eq (tgt := 70) hx hb dX8_fewest_54 (by decide) (fun c13 => ?_) (fun c13 => ?_)
          ·
            have q13 : x52_12_s0.toInt = 0 := i_eq c13
            have h14 : rg 0 0 x52_12_s0 := t_eqx 0 0 hhx52_12_s0 (rg_k (by decide) : rg 0 0 0) (i_eq c13) (by decide)
            obtain ⟨x15, ex15⟩ : ∃ y : Int32, y = x18_2 + 1 := ⟨_, rfl⟩
            refine lv_iinc (v := x15) (lv' := [(2, .int x15), (3, .int x52_12_s0), (0, .ref (h 0)), (1, .int x18_1)]) hx hb dX8_fewest_70 hl (k := 3) rfl (by rw [ex15]; rfl) (by decide) rfl (fun ls hl => ?_)
            obtain ⟨hx15, ax15⟩ := rg_add 1 64 ex15 h8 (rg_k (by decide) : rg 1 1 1) (by decide)
            replace ax15 : x15.toInt = x18_2.toInt + 1 := ax15
            refine lv_goto (tgt := 18) hx hb dX8_fewest_73 (by decide) ?_
            exact ih4_ x18_1 x15 _ _ _ hhx18_1 (rg_w hx15 (by decide) : rg 0 64 x15) hT hS (lv_sub hl [2, 3, 0] rfl) (m_up ax15 hx15 (by decide) hm4_)
          ·
            have q13 : ¬ x52_12_s0.toInt = 0 := i_ne c13
            have h16 : rg 1 1 x52_12_s0 := t_nelo 1 hhx52_12_s0 (rg_k (by decide) : rg 0 0 0) (i_ne c13) (by decide)
            refine lv_iload_n hx hb dX8_fewest_57 rfl (lv_at hl 3 rfl) ?_
            refine e_Si (As := [.int x18_2]) (rest := []) X Y hT hS (m_J6_bitCount_0f7a4 x18_2) sk_J6_bitCount_0f7a4 gm_929 hd_J6_bitCount_0f7a4 ⟨rfl, rfl⟩ ⟨Nat.le_of_ble_eq_true rfl, Nat.le_of_ble_eq_true rfl⟩ hl.1 rfl (Nat.le_of_ble_eq_true rfl) dX8_fewest_58 ⟨Nat.zero_le _, Nat.zero_le _⟩ (fun r17 i17 g17 H locs hq hT hS => ?_)
            obtain ⟨eh17, hr17⟩ := hq
            rw [(Prod.mk.inj eh17).1, (Prod.mk.inj eh17).2] at hT
            refine lv_iload_n hx hb dX8_fewest_61 rfl (lv_at hl 2 rfl) ?_
            refine e_Si (As := [.int x18_1]) (rest := [.int r17]) X Y hT hS (m_J6_bitCount_0f7a4 x18_1) sk_J6_bitCount_0f7a4 gm_929 hd_J6_bitCount_0f7a4 ⟨rfl, rfl⟩ ⟨Nat.le_of_ble_eq_true rfl, Nat.le_of_ble_eq_true rfl⟩ hl.1 rfl (Nat.le_of_ble_eq_true rfl) dX8_fewest_62 ⟨Nat.zero_le _, Nat.zero_le _⟩ (fun r18 i18 g18 H locs hq hT hS => ?_)
            obtain ⟨eh18, hr18⟩ := hq
            rw [(Prod.mk.inj eh18).1, (Prod.mk.inj eh18).2] at hT
            refine lv_icmp_ge (tgt := 70) hx hb dX8_fewest_65 (by decide) (fun c19 => ?_) (fun c19 => ?_)
            ·
              have q19 : r18.toInt ≤ r17.toInt := i_le c19
              obtain ⟨x20, ex20⟩ : ∃ y : Int32, y = x18_2 + 1 := ⟨_, rfl⟩
              refine lv_iinc (v := x20) (lv' := [(2, .int x20), (3, .int x52_12_s0), (0, .ref (h 0)), (1, .int x18_1)]) hx hb dX8_fewest_70 hl (k := 3) rfl (by rw [ex20]; rfl) (by decide) rfl (fun ls hl => ?_)
              obtain ⟨hx20, ax20⟩ := rg_add 1 64 ex20 h8 (rg_k (by decide) : rg 1 1 1) (by decide)
              replace ax20 : x20.toInt = x18_2.toInt + 1 := ax20
              refine lv_goto (tgt := 18) hx hb dX8_fewest_73 (by decide) ?_
              exact ih4_ x18_1 x20 _ _ _ hhx18_1 (rg_w hx20 (by decide) : rg 0 64 x20) hT hS (lv_sub hl [2, 3, 0] rfl) (m_up ax20 hx20 (by decide) hm4_)
            ·
              have q19 : r17.toInt < r18.toInt := i_nle c19
              have h21 : rg 0 62 r17 := t_ltx 0 62 hr17 hr18 (i_nle c19) (by decide)
              have h22 : rg 1 63 r18 := t_lty 1 63 hr17 hr18 (i_nle c19) (by decide)
              refine lv_iload_n hx hb dX8_fewest_68 rfl (lv_at hl 3 rfl) ?_
              refine lv_istore_n (lv' := [(1, .int x18_2), (3, .int x52_12_s0), (0, .ref (h 0)), (2, .int x18_2)]) hx hb dX8_fewest_69 rfl hl (by decide) rfl (fun ls hl => ?_)
              obtain ⟨x23, ex23⟩ : ∃ y : Int32, y = x18_2 + 1 := ⟨_, rfl⟩
              refine lv_iinc (v := x23) (lv' := [(2, .int x23), (1, .int x18_2), (3, .int x52_12_s0), (0, .ref (h 0))]) hx hb dX8_fewest_70 hl (k := 3) rfl (by rw [ex23]; rfl) (by decide) rfl (fun ls hl => ?_)
              obtain ⟨hx23, ax23⟩ := rg_add 1 64 ex23 h8 (rg_k (by decide) : rg 1 1 1) (by decide)
              replace ax23 : x23.toInt = x18_2.toInt + 1 := ax23
              refine lv_goto (tgt := 18) hx hb dX8_fewest_73 (by decide) ?_
              exact ih4_ x18_2 x23 _ _ _ h8 (rg_w hx23 (by decide) : rg 0 64 x23) hT hS (lv_sub hl [3, 1, 0] rfl) (m_up ax23 hx23 (by decide) hm4_)
        refine lv_icmp_ne (tgt := 51) hx hb dX8_fewest_44 (by decide) (fun c11 => ?_) (fun c11 => ?_)
        ·
          have q11 : ¬ r9.toInt = r10.toInt := i_ne c11
          refine lv_iconst (v := 0) hx hb dX8_fewest_51 (by decide) ?_
          exact J52_12 (0) _ _ _ (rg_w (rg_k (by decide) : rg 0 0 0) (by decide) : rg 0 1 0) hT hS (lv_sub hl [0, 1, 2] rfl)
        ·
          have q11 : r9.toInt = r10.toInt := i_eq c11
          have h24 : rg 0 63 r9 := t_eqx 0 63 (rg_top r9) hr10 (i_eq c11) (by decide)
          refine lv_iconst (v := 1) hx hb dX8_fewest_47 (by decide) ?_
          refine lv_goto (tgt := 52) hx hb dX8_fewest_48 (by decide) ?_
          exact J52_12 (1) _ _ _ (rg_w (rg_k (by decide) : rg 1 1 1) (by decide) : rg 0 1 1) hT hS (lv_sub hl [0, 1, 2] rfl)
  exact L18_3 _ r2 (0) _ _ _ hr2 (rg_w (rg_k (by decide) : rg 0 0 0) (by decide) : rg 0 64 0) hT hS (lv_sub hl [2, 1, 0] rfl) (Nat.lt_succ_self _)
set_option maxRecDepth 100000 in
set_option maxHeartbeats 4000000 in
theorem m_X8_few {l : Launch} {D : va_G} {h : Nat → Nat} {cz : Nat → ClassId} {z : EZ} {i : Nat → Nat → Int32} {g : Nat → Nat → Int64} (hR : Rg rA i) : DtI l yX8_few cX8_few 1 (some .int) ({ frames := 3, cells := 0, slots := 0, locals := 69 } : Room) D h cz z i g [.ref (h 0)] (fun r u => Rg rA u.1 ∧ Fr [72, 73, 74] [] i g u ∧ rg (-2) 63 r) := by
  refine e_I pn_X8_few (Nat.le_of_ble_eq_true rfl) ?_
  intro p e s m args below meth c ls Q X Y hret hT hl hS
  have hx := X.1
  have hb := X.2.1
  have hl : lv_has ls 1 [(0, .ref (h 0))] := hl
  have hF : Fr [72, 73, 74] [] i g (i, g) := Fr_rf _ _ _ _
  refine lv_aload_n hx hb dX8_few_0 rfl (lv_at hl 0 rfl) ?_
  refine r_getr X hT 0 3 15 fk_8_32 rfl rfl (by decide) dX8_few_1 ?_
  refine e_Vi (As := []) (rest := []) X Y hT hS (m_X6_isTold_15 hR) mk_X6_isTold gm_698 rfl rfl (by decide) hd_X6_isTold ⟨rfl, rfl⟩ ⟨Nat.le_of_ble_eq_true rfl, Nat.le_of_ble_eq_true rfl⟩ hl.1 rfl (Nat.le_of_ble_eq_true rfl) dX8_few_4 ⟨Nat.zero_le _, Nat.zero_le _⟩ (fun r1 i1 g1 H locs hq hT hS => ?_)
  obtain ⟨eh1, hr1⟩ := hq
  rw [(Prod.mk.inj eh1).1, (Prod.mk.inj eh1).2] at hT
  refine lv_if_eq (tgt := 20) hx hb dX8_few_7 (by decide) (fun c2 => ?_) (fun c2 => ?_)
  ·
    have q2 : r1.toInt = 0 := i_eq c2
    have h3 : rg 0 0 r1 := t_eqx 0 0 hr1 (rg_k (by decide) : rg 0 0 0) (i_eq c2) (by decide)
    refine lv_bipush (v := (-2)) hx hb dX8_few_20 (by decide) ?_
    exact hret (-2) _ _ _ _ _ _ dX8_few_22 hT hS ⟨hR, hF, (rg_w (rg_k (by decide) : rg (-2) (-2) (-2)) (by decide) : rg (-2) 63 (-2))⟩
  ·
    have q2 : ¬ r1.toInt = 0 := i_ne c2
    have h4 : rg 1 1 r1 := t_nelo 1 hr1 (rg_k (by decide) : rg 0 0 0) (i_ne c2) (by decide)
    refine lv_aload_n hx hb dX8_few_10 rfl (lv_at hl 0 rfl) ?_
    refine e_Vi (As := []) (rest := []) X Y hT hS (m_X8_fewest hR) mk_X8_fewest gm_958 rfl rfl (by decide) hd_X8_fewest ⟨rfl, rfl⟩ ⟨Nat.le_of_ble_eq_true rfl, Nat.le_of_ble_eq_true rfl⟩ hl.1 rfl (Nat.le_of_ble_eq_true rfl) dX8_few_11 ⟨Nat.zero_le _, Nat.zero_le _⟩ (fun r5 i5 g5 H locs hq hT hS => ?_)
    obtain ⟨hR5, hf5, hr5⟩ := hq
    have hF5 := Fr_tr hF hf5 (by decide)
    refine e_Si (As := [.int r5]) (rest := []) X Y hT hS (m_J6_bitCount_0f7a4 r5) sk_J6_bitCount_0f7a4 gm_929 hd_J6_bitCount_0f7a4 ⟨rfl, rfl⟩ ⟨Nat.le_of_ble_eq_true rfl, Nat.le_of_ble_eq_true rfl⟩ hl.1 rfl (Nat.le_of_ble_eq_true rfl) dX8_few_14 ⟨Nat.zero_le _, Nat.zero_le _⟩ (fun r6 i6 g6 H locs hq hT hS => ?_)
    obtain ⟨eh6, hr6⟩ := hq
    rw [(Prod.mk.inj eh6).1, (Prod.mk.inj eh6).2] at hT
    refine lv_goto (tgt := 22) hx hb dX8_few_17 (by decide) ?_
    exact hret r6 _ _ _ _ _ _ dX8_few_22 hT hS ⟨hR5, hF5, (rg_w hr6 (by decide) : rg (-2) 63 r6)⟩
set_option maxRecDepth 100000 in
set_option maxHeartbeats 4000000 in
theorem m_X8_fews {l : Launch} {D : va_G} {h : Nat → Nat} {cz : Nat → ClassId} {z : EZ} {i : Nat → Nat → Int32} {g : Nat → Nat → Int64} (hR : Rg rA i) : DtI l yX8_fews cX8_fews 1 (some .int) ({ frames := 3, cells := 0, slots := 0, locals := 69 } : Room) D h cz z i g [.ref (h 0)] (fun r u => Rg rA u.1 ∧ Fr [72, 73, 74] [] i g u ∧ rg (-2) 63 r) := by
  refine e_I pn_X8_fews (Nat.le_of_ble_eq_true rfl) ?_
  intro p e s m args below meth c ls Q X Y hret hT hl hS
  have hx := X.1
  have hb := X.2.1
  have hl : lv_has ls 1 [(0, .ref (h 0))] := hl
  have hF : Fr [72, 73, 74] [] i g (i, g) := Fr_rf _ _ _ _
  refine lv_aload_n hx hb dX8_fews_0 rfl (lv_at hl 0 rfl) ?_
  refine r_getr X hT 0 3 15 fk_8_32 rfl rfl (by decide) dX8_fews_1 ?_
  refine e_Vi (As := []) (rest := []) X Y hT hS (m_X6_isTold_15 hR) mk_X6_isTold gm_698 rfl rfl (by decide) hd_X6_isTold ⟨rfl, rfl⟩ ⟨Nat.le_of_ble_eq_true rfl, Nat.le_of_ble_eq_true rfl⟩ hl.1 rfl (Nat.le_of_ble_eq_true rfl) dX8_fews_4 ⟨Nat.zero_le _, Nat.zero_le _⟩ (fun r1 i1 g1 H locs hq hT hS => ?_)
  obtain ⟨eh1, hr1⟩ := hq
  rw [(Prod.mk.inj eh1).1, (Prod.mk.inj eh1).2] at hT
  refine lv_if_eq (tgt := 17) hx hb dX8_fews_7 (by decide) (fun c2 => ?_) (fun c2 => ?_)
  ·
    have q2 : r1.toInt = 0 := i_eq c2
    have h3 : rg 0 0 r1 := t_eqx 0 0 hr1 (rg_k (by decide) : rg 0 0 0) (i_eq c2) (by decide)
    refine lv_bipush (v := (-2)) hx hb dX8_fews_17 (by decide) ?_
    exact hret (-2) _ _ _ _ _ _ dX8_fews_19 hT hS ⟨hR, hF, (rg_w (rg_k (by decide) : rg (-2) (-2) (-2)) (by decide) : rg (-2) 63 (-2))⟩
  ·
    have q2 : ¬ r1.toInt = 0 := i_ne c2
    have h4 : rg 1 1 r1 := t_nelo 1 hr1 (rg_k (by decide) : rg 0 0 0) (i_ne c2) (by decide)
    refine lv_aload_n hx hb dX8_fews_10 rfl (lv_at hl 0 rfl) ?_
    refine e_Vi (As := []) (rest := []) X Y hT hS (m_X8_fewest hR) mk_X8_fewest gm_958 rfl rfl (by decide) hd_X8_fewest ⟨rfl, rfl⟩ ⟨Nat.le_of_ble_eq_true rfl, Nat.le_of_ble_eq_true rfl⟩ hl.1 rfl (Nat.le_of_ble_eq_true rfl) dX8_fews_11 ⟨Nat.zero_le _, Nat.zero_le _⟩ (fun r5 i5 g5 H locs hq hT hS => ?_)
    obtain ⟨hR5, hf5, hr5⟩ := hq
    have hF5 := Fr_tr hF hf5 (by decide)
    refine lv_goto (tgt := 19) hx hb dX8_fews_14 (by decide) ?_
    exact hret r5 _ _ _ _ _ _ dX8_fews_19 hT hS ⟨hR5, hF5, (rg_w hr5 (by decide) : rg (-2) 63 r5)⟩
set_option maxRecDepth 100000 in
set_option maxHeartbeats 4000000 in
theorem m_J7_fill_53178_75_0 {l : Launch} {D : va_G} {h : Nat → Nat} {cz : Nat → ClassId} {z : EZ} {i : Nat → Nat → Int32} {g : Nat → Nat → Int64} (hR : Rg rA i) (a_b : Int32) (ha_b : rg 0 0 a_b) : DtV l yJ7_fill_53178 cJ7_fill_53178 4 none ({ frames := 0, cells := 0, slots := 0, locals := 0 } : Room) D h cz z i g [.ref (h 75), .int a_b] (fun u => Rg rA u.1 ∧ Fr [75] [] i g u ∧ (∀ k : Nat, k < 12 → u.1 75 k = a_b)) := by
  refine e_V pn_J7_fill_53178 (Nat.le_of_ble_eq_true rfl) ?_
  intro p e s m args below meth c ls Q X Y hret hT hl hS
  have hx := X.1
  have hb := X.2.1
  have hl : lv_has ls 4 [(0, .ref (h 75)), (1, .int a_b)] := hl
  have hF : Fr [75] [] i g (i, g) := Fr_rf _ _ _ _
  refine lv_iconst (v := 0) hx hb dJ7_fill_53178_0 (by decide) ?_
  refine lv_istore_n (lv' := [(2, .int 0), (0, .ref (h 75)), (1, .int a_b)]) hx hb dJ7_fill_53178_1 rfl hl (by decide) rfl (fun ls hl => ?_)
  refine lv_aload_n hx hb dJ7_fill_53178_2 rfl (lv_at hl 1 rfl) ?_
  refine r_alen (v := 12) X hT 75 rfl (by decide) (by decide) (by decide) dJ7_fill_53178_3 ?_
  refine lv_istore_n (lv' := [(3, .int 12), (2, .int 0), (0, .ref (h 75)), (1, .int a_b)]) hx hb dJ7_fill_53178_4 rfl hl (by decide) rfl (fun ls hl => ?_)
  have L5_1 : ∀ (n3_ : Nat) (x5_2 : Int32) (i2 : Nat → Nat → Int32) (g2 : Nat → Nat → Int64) (H : Heap) (locs : List Loc) (ls : Array Slot), rg 0 12 x5_2 → Rg rA i2 → Fr [75] [] i g (i2, g2) → (∀ k : Nat, (k : Int) < x5_2.toInt → i2 75 k = a_b) → TH D h cz i2 g2 H → va_S (hA h) s.heap H locs → lv_has ls 4 [(0, .ref (h 75)), (1, .int a_b), (2, .int x5_2), (3, .int 12)] → (12 - x5_2.toInt).toNat < n3_ → W p l e ({ frames := 0, cells := 0, slots := 0, locals := 0 } : Room) s m args below meth c H locs 0 0 Q (F0 m 5 ls []) := by
    intro n3_
    induction n3_ with
    | zero => intro x5_2 i2 g2 H locs ls hhx5_2 hR2 hF2 hfl hT hS hl hm3_; exact absurd hm3_ (Nat.not_lt_zero _)
    | succ n3_ ih3_ =>
      intro x5_2 i2 g2 H locs ls hhx5_2 hR2 hF2 hfl hT hS hl hm3_
      refine lv_iload_n hx hb dJ7_fill_53178_5 rfl (lv_at hl 2 rfl) ?_
      refine lv_iload_n hx hb dJ7_fill_53178_6 rfl (lv_at hl 3 rfl) ?_
      refine lv_icmp_ge (tgt := 20) hx hb dJ7_fill_53178_7 (by decide) (fun c4 => ?_) (fun c4 => ?_)
      ·
        have q4 : 12 ≤ x5_2.toInt := i_le c4
        have h5 : rg 12 12 x5_2 := t_ley 12 12 (rg_k (by decide) : rg 12 12 12) hhx5_2 (i_le c4) (by decide)
        exact hret _ _ _ _ _ _ dJ7_fill_53178_20 hT hS ⟨hR2, hF2, (fun k hk => hfl k (by have := q4; omega))⟩
      ·
        have q4 : x5_2.toInt < 12 := i_nle c4
        have h6 : rg 0 11 x5_2 := t_ltx 0 11 hhx5_2 (rg_k (by decide) : rg 12 12 12) (i_nle c4) (by decide)
        refine lv_aload_n hx hb dJ7_fill_53178_10 rfl (lv_at hl 0 rfl) ?_
        refine lv_iload_n hx hb dJ7_fill_53178_11 rfl (lv_at hl 2 rfl) ?_
        refine lv_iload_n hx hb dJ7_fill_53178_12 rfl (lv_at hl 1 rfl) ?_
        refine r_iast X hT hS 75 rfl (by decide) (v_in h6 (by decide)) dJ7_fill_53178_13 (fun H locs i7 ei7 hT hS => ?_)
        have hR7 := Rg_put hR2 ei7 (-2147483648) 2147483647 rfl ha_b (by decide)
        have hF7 := Fr_puti hF2 ei7 (by decide)
        obtain ⟨x8, ex8⟩ : ∃ y : Int32, y = x5_2 + 1 := ⟨_, rfl⟩
        refine lv_iinc (v := x8) (lv' := [(2, .int x8), (0, .ref (h 75)), (1, .int a_b), (3, .int 12)]) hx hb dJ7_fill_53178_14 hl (k := 2) rfl (by rw [ex8]; rfl) (by decide) rfl (fun ls hl => ?_)
        obtain ⟨hx8, ax8⟩ := rg_add 1 12 ex8 h6 (rg_k (by decide) : rg 1 1 1) (by decide)
        replace ax8 : x8.toInt = x5_2.toInt + 1 := ax8
        refine lv_goto (tgt := 5) hx hb dJ7_fill_53178_17 (by decide) ?_
        exact ih3_ x8 i7 g2 _ _ _ (rg_w hx8 (by decide) : rg 0 12 x8) hR7 hF7 (fill_st hfl hhx5_2 ei7 ax8) hT hS (lv_sub hl [1, 2, 0, 3] rfl) (m_up ax8 hx8 (by decide) hm3_)
  exact L5_1 _ (0) i g _ _ _ (rg_w (rg_k (by decide) : rg 0 0 0) (by decide) : rg 0 12 0) hR hF (fun k hk => absurd hk (by have : (0 : Int32).toInt = 0 := rfl; omega)) hT hS (lv_sub hl [2, 3, 1, 0] rfl) (Nat.lt_succ_self _)
set_option maxRecDepth 100000 in
set_option maxHeartbeats 4000000 in
theorem m_J7_fill_53178_77_m1 {l : Launch} {D : va_G} {h : Nat → Nat} {cz : Nat → ClassId} {z : EZ} {i : Nat → Nat → Int32} {g : Nat → Nat → Int64} (hR : Rg rA i) (a_b : Int32) (ha_b : rg (-1) (-1) a_b) : DtV l yJ7_fill_53178 cJ7_fill_53178 4 none ({ frames := 0, cells := 0, slots := 0, locals := 0 } : Room) D h cz z i g [.ref (h 77), .int a_b] (fun u => Rg rA u.1 ∧ Fr [77] [] i g u ∧ (∀ k : Nat, k < 6 → u.1 77 k = a_b)) := by
  refine e_V pn_J7_fill_53178 (Nat.le_of_ble_eq_true rfl) ?_
  intro p e s m args below meth c ls Q X Y hret hT hl hS
  have hx := X.1
  have hb := X.2.1
  have hl : lv_has ls 4 [(0, .ref (h 77)), (1, .int a_b)] := hl
  have hF : Fr [77] [] i g (i, g) := Fr_rf _ _ _ _
  refine lv_iconst (v := 0) hx hb dJ7_fill_53178_0 (by decide) ?_
  refine lv_istore_n (lv' := [(2, .int 0), (0, .ref (h 77)), (1, .int a_b)]) hx hb dJ7_fill_53178_1 rfl hl (by decide) rfl (fun ls hl => ?_)
  refine lv_aload_n hx hb dJ7_fill_53178_2 rfl (lv_at hl 1 rfl) ?_
  refine r_alen (v := 6) X hT 77 rfl (by decide) (by decide) (by decide) dJ7_fill_53178_3 ?_
  refine lv_istore_n (lv' := [(3, .int 6), (2, .int 0), (0, .ref (h 77)), (1, .int a_b)]) hx hb dJ7_fill_53178_4 rfl hl (by decide) rfl (fun ls hl => ?_)
  have L5_1 : ∀ (n3_ : Nat) (x5_2 : Int32) (i2 : Nat → Nat → Int32) (g2 : Nat → Nat → Int64) (H : Heap) (locs : List Loc) (ls : Array Slot), rg 0 6 x5_2 → Rg rA i2 → Fr [77] [] i g (i2, g2) → (∀ k : Nat, (k : Int) < x5_2.toInt → i2 77 k = a_b) → TH D h cz i2 g2 H → va_S (hA h) s.heap H locs → lv_has ls 4 [(0, .ref (h 77)), (1, .int a_b), (2, .int x5_2), (3, .int 6)] → (6 - x5_2.toInt).toNat < n3_ → W p l e ({ frames := 0, cells := 0, slots := 0, locals := 0 } : Room) s m args below meth c H locs 0 0 Q (F0 m 5 ls []) := by
    intro n3_
    induction n3_ with
    | zero => intro x5_2 i2 g2 H locs ls hhx5_2 hR2 hF2 hfl hT hS hl hm3_; exact absurd hm3_ (Nat.not_lt_zero _)
    | succ n3_ ih3_ =>
      intro x5_2 i2 g2 H locs ls hhx5_2 hR2 hF2 hfl hT hS hl hm3_
      refine lv_iload_n hx hb dJ7_fill_53178_5 rfl (lv_at hl 2 rfl) ?_
      refine lv_iload_n hx hb dJ7_fill_53178_6 rfl (lv_at hl 3 rfl) ?_
      refine lv_icmp_ge (tgt := 20) hx hb dJ7_fill_53178_7 (by decide) (fun c4 => ?_) (fun c4 => ?_)
      ·
        have q4 : 6 ≤ x5_2.toInt := i_le c4
        have h5 : rg 6 6 x5_2 := t_ley 6 6 (rg_k (by decide) : rg 6 6 6) hhx5_2 (i_le c4) (by decide)
        exact hret _ _ _ _ _ _ dJ7_fill_53178_20 hT hS ⟨hR2, hF2, (fun k hk => hfl k (by have := q4; omega))⟩
      ·
        have q4 : x5_2.toInt < 6 := i_nle c4
        have h6 : rg 0 5 x5_2 := t_ltx 0 5 hhx5_2 (rg_k (by decide) : rg 6 6 6) (i_nle c4) (by decide)
        refine lv_aload_n hx hb dJ7_fill_53178_10 rfl (lv_at hl 0 rfl) ?_
        refine lv_iload_n hx hb dJ7_fill_53178_11 rfl (lv_at hl 2 rfl) ?_
        refine lv_iload_n hx hb dJ7_fill_53178_12 rfl (lv_at hl 1 rfl) ?_
        refine r_iast X hT hS 77 rfl (by decide) (v_in h6 (by decide)) dJ7_fill_53178_13 (fun H locs i7 ei7 hT hS => ?_)
        have hR7 := Rg_put hR2 ei7 (-2147483648) 2147483647 rfl ha_b (by decide)
        have hF7 := Fr_puti hF2 ei7 (by decide)
        obtain ⟨x8, ex8⟩ : ∃ y : Int32, y = x5_2 + 1 := ⟨_, rfl⟩
        refine lv_iinc (v := x8) (lv' := [(2, .int x8), (0, .ref (h 77)), (1, .int a_b), (3, .int 6)]) hx hb dJ7_fill_53178_14 hl (k := 2) rfl (by rw [ex8]; rfl) (by decide) rfl (fun ls hl => ?_)
        obtain ⟨hx8, ax8⟩ := rg_add 1 6 ex8 h6 (rg_k (by decide) : rg 1 1 1) (by decide)
        replace ax8 : x8.toInt = x5_2.toInt + 1 := ax8
        refine lv_goto (tgt := 5) hx hb dJ7_fill_53178_17 (by decide) ?_
        exact ih3_ x8 i7 g2 _ _ _ (rg_w hx8 (by decide) : rg 0 6 x8) hR7 hF7 (fill_st hfl hhx5_2 ei7 ax8) hT hS (lv_sub hl [1, 2, 0, 3] rfl) (m_up ax8 hx8 (by decide) hm3_)
  exact L5_1 _ (0) i g _ _ _ (rg_w (rg_k (by decide) : rg 0 0 0) (by decide) : rg 0 6 0) hR hF (fun k hk => absurd hk (by have : (0 : Int32).toInt = 0 := rfl; omega)) hT hS (lv_sub hl [2, 3, 1, 0] rfl) (Nat.lt_succ_self _)
set_option maxRecDepth 100000 in
set_option maxHeartbeats 4000000 in
theorem m_X0_noteOpenings_72 {l : Launch} {D : va_G} {h : Nat → Nat} {cz : Nat → ClassId} {z : EZ} {i : Nat → Nat → Int32} {g : Nat → Nat → Int64} (hR : Rg rA i) (a_a : Int32) (a_b : Int32) : DtV l yX0_noteOpenings cX0_noteOpenings 4 none ({ frames := 1, cells := 0, slots := 0, locals := 21 } : Room) D h cz z i g [.ref (h 72), .int a_a, .int a_b] (fun u => Rg rA u.1 ∧ Fr [77] [] i g u) := by
  refine e_V pn_X0_noteOpenings (Nat.le_of_ble_eq_true rfl) ?_
  intro p e s m args below meth c ls Q X Y hret hT hl hS
  have hx := X.1
  have hb := X.2.1
  have hl : lv_has ls 4 [(0, .ref (h 72)), (1, .int a_a), (2, .int a_b)] := hl
  have hF : Fr [77] [] i g (i, g) := Fr_rf _ _ _ _
  refine lv_iconst (v := 0) hx hb dX0_noteOpenings_0 (by decide) ?_
  refine lv_istore_n (lv' := [(3, .int 0), (0, .ref (h 72)), (1, .int a_a), (2, .int a_b)]) hx hb dX0_noteOpenings_1 rfl hl (by decide) rfl (fun ls hl => ?_)
  have L2_1 : ∀ (n3_ : Nat) (x2_3 : Int32) (i2 : Nat → Nat → Int32) (g2 : Nat → Nat → Int64) (H : Heap) (locs : List Loc) (ls : Array Slot), rg 0 6 x2_3 → Rg rA i2 → Fr [77] [] i g (i2, g2) → TH D h cz i2 g2 H → va_S (hA h) s.heap H locs → lv_has ls 4 [(0, .ref (h 72)), (1, .int a_a), (2, .int a_b), (3, .int x2_3)] → (6 - x2_3.toInt).toNat < n3_ → W p l e ({ frames := 1, cells := 0, slots := 0, locals := 21 } : Room) s m args below meth c H locs 0 0 Q (F0 m 2 ls []) := by
    intro n3_
    induction n3_ with
    | zero => intro x2_3 i2 g2 H locs ls hhx2_3 hR2 hF2 hT hS hl hm3_; exact absurd hm3_ (Nat.not_lt_zero _)
    | succ n3_ ih3_ =>
      intro x2_3 i2 g2 H locs ls hhx2_3 hR2 hF2 hT hS hl hm3_
      refine lv_iload_n hx hb dX0_noteOpenings_2 rfl (lv_at hl 3 rfl) ?_
      refine lv_aload_n hx hb dX0_noteOpenings_3 rfl (lv_at hl 0 rfl) ?_
      refine r_getr X hT 72 0 15 fk_0_30 rfl rfl (by decide) dX0_noteOpenings_4 ?_
      refine r_geti X hT 15 13 fk_0_44 rfl rfl (by decide) dX0_noteOpenings_7 ?_
      refine lv_icmp_ge (tgt := 38) hx hb dX0_noteOpenings_10 (by decide) (fun c4 => ?_) (fun c4 => ?_)
      ·
        have q4 : (i2 15 13).toInt ≤ x2_3.toInt := i_le c4
        exact hret _ _ _ _ _ _ dX0_noteOpenings_38 hT hS ⟨hR2, hF2⟩
      ·
        have q4 : x2_3.toInt < (i2 15 13).toInt := i_nle c4
        have h5 : rg 0 5 x2_3 := t_ltx 0 5 hhx2_3 (Rg_at hR2 15 13 0 6 (by decide) rfl) (i_nle c4) (by decide)
        have h6 : rg 1 6 (i2 15 13) := t_lty 1 6 hhx2_3 (Rg_at hR2 15 13 0 6 (by decide) rfl) (i_nle c4) (by decide)
        refine lv_iload_n hx hb dX0_noteOpenings_13 rfl (lv_at hl 1 rfl) ?_
        refine lv_if_eq (tgt := 38) hx hb dX0_noteOpenings_14 (by decide) (fun c7 => ?_) (fun c7 => ?_)
        ·
          have q7 : a_a.toInt = 0 := i_eq c7
          have h8 : rg 0 0 a_a := t_eqx 0 0 (rg_top a_a) (rg_k (by decide) : rg 0 0 0) (i_eq c7) (by decide)
          exact hret _ _ _ _ _ _ dX0_noteOpenings_38 hT hS ⟨hR2, hF2⟩
        ·
          have q7 : ¬ a_a.toInt = 0 := i_ne c7
          refine lv_iload_n hx hb dX0_noteOpenings_17 rfl (lv_at hl 1 rfl) ?_
          refine lv_iload_n hx hb dX0_noteOpenings_18 rfl (lv_at hl 3 rfl) ?_
          refine e_Ni (As := [.int a_a, .int x2_3]) (rest := []) X Y hT hS (m_X8_hasBit a_a x2_3) sk_X8_hasBit Y.n1 hd_X8_hasBit ⟨rfl, rfl⟩ ⟨Nat.le_of_ble_eq_true rfl, Nat.le_of_ble_eq_true rfl⟩ hl.1 rfl (Nat.le_of_ble_eq_true rfl) dX0_noteOpenings_19 ⟨Nat.zero_le _, Nat.zero_le _⟩ (fun r9 i9 g9 H locs hq hT hS => ?_)
          obtain ⟨eh9, hr9⟩ := hq
          rw [(Prod.mk.inj eh9).1, (Prod.mk.inj eh9).2] at hT
          refine lv_if_eq (tgt := 32) hx hb dX0_noteOpenings_22 (by decide) (fun c10 => ?_) (fun c10 => ?_)
          ·
            have q10 : r9.toInt = 0 := i_eq c10
            have h11 : rg 0 0 r9 := t_eqx 0 0 hr9 (rg_k (by decide) : rg 0 0 0) (i_eq c10) (by decide)
            obtain ⟨x12, ex12⟩ : ∃ y : Int32, y = x2_3 + 1 := ⟨_, rfl⟩
            refine lv_iinc (v := x12) (lv' := [(3, .int x12), (0, .ref (h 72)), (1, .int a_a), (2, .int a_b)]) hx hb dX0_noteOpenings_32 hl (k := 3) rfl (by rw [ex12]; rfl) (by decide) rfl (fun ls hl => ?_)
            obtain ⟨hx12, ax12⟩ := rg_add 1 6 ex12 h5 (rg_k (by decide) : rg 1 1 1) (by decide)
            replace ax12 : x12.toInt = x2_3.toInt + 1 := ax12
            refine lv_goto (tgt := 2) hx hb dX0_noteOpenings_35 (by decide) ?_
            exact ih3_ x12 i2 g2 _ _ _ (rg_w hx12 (by decide) : rg 0 6 x12) hR2 hF2 hT hS (lv_sub hl [1, 2, 3, 0] rfl) (m_up ax12 hx12 (by decide) hm3_)
          ·
            have q10 : ¬ r9.toInt = 0 := i_ne c10
            have h13 : rg 1 1 r9 := t_nelo 1 hr9 (rg_k (by decide) : rg 0 0 0) (i_ne c10) (by decide)
            refine lv_aload_n hx hb dX0_noteOpenings_25 rfl (lv_at hl 0 rfl) ?_
            refine r_getr X hT 72 5 77 fk_0_24 rfl rfl (by decide) dX0_noteOpenings_26 ?_
            refine lv_iload_n hx hb dX0_noteOpenings_29 rfl (lv_at hl 3 rfl) ?_
            refine lv_iload_n hx hb dX0_noteOpenings_30 rfl (lv_at hl 2 rfl) ?_
            refine r_iast X hT hS 77 rfl (by decide) (v_in h5 (by decide)) dX0_noteOpenings_31 (fun H locs i14 ei14 hT hS => ?_)
            have hR14 := Rg_put hR2 ei14 (-2147483648) 2147483647 rfl (rg_top a_b) (by decide)
            have hF14 := Fr_puti hF2 ei14 (by decide)
            obtain ⟨x15, ex15⟩ : ∃ y : Int32, y = x2_3 + 1 := ⟨_, rfl⟩
            refine lv_iinc (v := x15) (lv' := [(3, .int x15), (0, .ref (h 72)), (1, .int a_a), (2, .int a_b)]) hx hb dX0_noteOpenings_32 hl (k := 3) rfl (by rw [ex15]; rfl) (by decide) rfl (fun ls hl => ?_)
            obtain ⟨hx15, ax15⟩ := rg_add 1 6 ex15 h5 (rg_k (by decide) : rg 1 1 1) (by decide)
            replace ax15 : x15.toInt = x2_3.toInt + 1 := ax15
            refine lv_goto (tgt := 2) hx hb dX0_noteOpenings_35 (by decide) ?_
            exact ih3_ x15 i14 g2 _ _ _ (rg_w hx15 (by decide) : rg 0 6 x15) hR14 hF14 hT hS (lv_sub hl [1, 2, 3, 0] rfl) (m_up ax15 hx15 (by decide) hm3_)
  exact L2_1 _ (0) i g _ _ _ (rg_w (rg_k (by decide) : rg 0 0 0) (by decide) : rg 0 6 0) hR hF hT hS (lv_sub hl [1, 2, 3, 0] rfl) (Nat.lt_succ_self _)
set_option maxRecDepth 100000 in
set_option maxHeartbeats 4000000 in
theorem m_X0_unfold_72 {l : Launch} {D : va_G} {h : Nat → Nat} {cz : Nat → ClassId} {z : EZ} {i : Nat → Nat → Int32} {g : Nat → Nat → Int64} (hR : Rg rA i) : DtV l yX0_unfold cX0_unfold 5 none ({ frames := 2, cells := 0, slots := 0, locals := 44 } : Room) D h cz z i g [.ref (h 72)] (fun u => Rg rA u.1 ∧ Fr [72, 76, 77] [] i g u) := by
  refine e_V pn_X0_unfold (Nat.le_of_ble_eq_true rfl) ?_
  intro p e s m args below meth c ls Q X Y hret hT hl hS
  have hx := X.1
  have hb := X.2.1
  have hl : lv_has ls 5 [(0, .ref (h 72))] := hl
  have hF : Fr [72, 76, 77] [] i g (i, g) := Fr_rf _ _ _ _
  refine lv_aload_n hx hb dX0_unfold_0 rfl (lv_at hl 0 rfl) ?_
  refine r_getr X hT 72 5 77 fk_0_24 rfl rfl (by decide) dX0_unfold_1 ?_
  refine lv_iconst (v := (-1)) hx hb dX0_unfold_4 (by decide) ?_
  refine e_Sv (As := [.ref (h 77), .int (-1)]) (rest := []) X Y hT hS (m_J7_fill_53178_77_m1 hR ((-1)) (rg_k (by decide) : rg (-1) (-1) (-1))) sk_J7_fill_53178 gm_745 hd_J7_fill_53178 ⟨rfl, rfl⟩ ⟨Nat.le_of_ble_eq_true rfl, Nat.le_of_ble_eq_true rfl⟩ hl.1 rfl (Nat.le_of_ble_eq_true rfl) dX0_unfold_5 ⟨Nat.zero_le _, Nat.zero_le _⟩ (fun i1 g1 H locs hq hT hS => ?_)
  obtain ⟨hR1, hf1, hf1_0⟩ := hq
  have hF1 := Fr_tr hF hf1 (by decide)
  refine lv_aload_n hx hb dX0_unfold_8 rfl (lv_at hl 0 rfl) ?_
  refine lv_iconst (v := 0) hx hb dX0_unfold_9 (by decide) ?_
  refine r_puti X hT hS 72 9 pk_0_85 rfl rfl rfl rfl (by decide) dX0_unfold_10 (fun H locs i2 ei2 hT hS => ?_)
  have hR2 := Rg_put hR1 ei2 (-2147483648) 2147483647 rfl (rg_k (by decide) : rg 0 0 0) (by decide)
  have hF2 := Fr_puti hF1 ei2 (by decide)
  refine lv_aload_n hx hb dX0_unfold_13 rfl (lv_at hl 0 rfl) ?_
  refine r_getr X hT 72 4 76 fk_0_21 rfl rfl (by decide) dX0_unfold_14 ?_
  refine lv_iconst (v := 0) hx hb dX0_unfold_17 (by decide) ?_
  refine lv_iconst (v := 0) hx hb dX0_unfold_18 (by decide) ?_
  refine r_iastc X hT hS 76 0 rfl (by decide) (v_in (rg_k (by decide) : rg 0 0 0) (by decide)) (by decide) dX0_unfold_19 (fun H locs i3 ei3 hT hS => ?_)
  have hR3 := Rg_put hR2 ei3 (-2147483648) 2147483647 rfl (rg_k (by decide) : rg 0 0 0) (by decide)
  have hF3 := Fr_puti hF2 ei3 (by decide)
  refine lv_iconst (v := 0) hx hb dX0_unfold_20 (by decide) ?_
  refine lv_istore_n (lv' := [(1, .int 0), (0, .ref (h 72))]) hx hb dX0_unfold_21 rfl hl (by decide) rfl (fun ls hl => ?_)
  have L22_4 : ∀ (n6_ : Nat) (x22_1 : Int32) (i5 : Nat → Nat → Int32) (g5 : Nat → Nat → Int64) (H : Heap) (locs : List Loc) (ls : Array Slot), rg 0 12 x22_1 → Rg rA i5 → Fr [72, 76, 77] [] i g (i5, g5) → TH D h cz i5 g5 H → va_S (hA h) s.heap H locs → lv_has ls 5 [(0, .ref (h 72)), (1, .int x22_1)] → (12 - x22_1.toInt).toNat < n6_ → W p l e ({ frames := 2, cells := 0, slots := 0, locals := 44 } : Room) s m args below meth c H locs 0 0 Q (F0 m 22 ls []) := by
    intro n6_
    induction n6_ with
    | zero => intro x22_1 i5 g5 H locs ls hhx22_1 hR5 hF5 hT hS hl hm6_; exact absurd hm6_ (Nat.not_lt_zero _)
    | succ n6_ ih6_ =>
      intro x22_1 i5 g5 H locs ls hhx22_1 hR5 hF5 hT hS hl hm6_
      refine lv_iload_n hx hb dX0_unfold_22 rfl (lv_at hl 1 rfl) ?_
      refine lv_aload_n hx hb dX0_unfold_23 rfl (lv_at hl 0 rfl) ?_
      refine r_getr X hT 72 0 15 fk_0_30 rfl rfl (by decide) dX0_unfold_24 ?_
      refine r_geti X hT 15 10 fk_0_88 rfl rfl (by decide) dX0_unfold_27 ?_
      refine lv_icmp_ge (tgt := 107) hx hb dX0_unfold_30 (by decide) (fun c7 => ?_) (fun c7 => ?_)
      ·
        have q7 : (i5 15 10).toInt ≤ x22_1.toInt := i_le c7
        exact hret _ _ _ _ _ _ dX0_unfold_107 hT hS ⟨hR5, hF5⟩
      ·
        have q7 : x22_1.toInt < (i5 15 10).toInt := i_nle c7
        have h8 : rg 0 11 x22_1 := t_ltx 0 11 hhx22_1 (Rg_at hR5 15 10 (-1) 12 (by decide) rfl) (i_nle c7) (by decide)
        have h9 : rg 1 12 (i5 15 10) := t_lty 1 12 hhx22_1 (Rg_at hR5 15 10 (-1) 12 (by decide) rfl) (i_nle c7) (by decide)
        refine lv_aload_n hx hb dX0_unfold_33 rfl (lv_at hl 0 rfl) ?_
        refine r_getr X hT 72 4 76 fk_0_21 rfl rfl (by decide) dX0_unfold_34 ?_
        refine lv_iload_n hx hb dX0_unfold_37 rfl (lv_at hl 1 rfl) ?_
        refine r_iald X hT 76 rfl (by decide) (v_in h8 (by decide)) dX0_unfold_38 ?_
        refine lv_istore_n (lv' := [(2, .int (i5 76 x22_1.toNatClampNeg)), (0, .ref (h 72)), (1, .int x22_1)]) hx hb dX0_unfold_39 rfl hl (by decide) rfl (fun ls hl => ?_)
        refine lv_iload_n hx hb dX0_unfold_40 rfl (lv_at hl 0 rfl) ?_
        refine lv_aload_n hx hb dX0_unfold_41 rfl (lv_at hl 1 rfl) ?_
        refine r_getr X hT 72 3 75 fk_0_18 rfl rfl (by decide) dX0_unfold_42 ?_
        refine lv_iload_n hx hb dX0_unfold_45 rfl (lv_at hl 2 rfl) ?_
        refine r_iald X hT 75 rfl (by decide) (v_in h8 (by decide)) dX0_unfold_46 ?_
        refine q_ior hx hb dX0_unfold_47 (fun x10 ex10 => ?_)
        refine lv_istore_n (lv' := [(3, .int x10), (2, .int (i5 76 x22_1.toNatClampNeg)), (0, .ref (h 72)), (1, .int x22_1)]) hx hb dX0_unfold_48 rfl hl (by decide) rfl (fun ls hl => ?_)
        refine lv_iload_n hx hb dX0_unfold_49 rfl (lv_at hl 0 rfl) ?_
        refine lv_iload_n hx hb dX0_unfold_50 rfl (lv_at hl 1 rfl) ?_
        have J63_12 : ∀ (x63_12_s0 : Int32) (H : Heap) (locs : List Loc) (ls : Array Slot), TH D h cz i5 g5 H → va_S (hA h) s.heap H locs → lv_has ls 5 [(0, .ref (h 72)), (1, .int x22_1), (2, .int (i5 76 x22_1.toNatClampNeg)), (3, .int x10)] → W p l e ({ frames := 2, cells := 0, slots := 0, locals := 44 } : Room) s m args below meth c H locs 0 0 Q (F0 m 63 ls [.int x63_12_s0]) := by
          intro x63_12_s0 H locs ls hT hS hl
          refine lv_istore (lv' := [(4, .int x63_12_s0), (0, .ref (h 72)), (1, .int x22_1), (2, .int (i5 76 x22_1.toNatClampNeg)), (3, .int x10)]) hx hb dX0_unfold_63 hl (by decide) rfl (fun ls hl => ?_)
          refine lv_aload_n hx hb dX0_unfold_65 rfl (lv_at hl 1 rfl) ?_
          refine lv_dup hx hb dX0_unfold_66 rfl ?_
          refine r_geti X hT 72 9 fk_0_85 rfl rfl (by decide) dX0_unfold_67 ?_
          refine lv_iload hx hb dX0_unfold_70 (lv_at hl 0 rfl) ?_
          refine lv_iload_n hx hb dX0_unfold_72 rfl (lv_at hl 4 rfl) ?_
          refine lv_iconst (v := (-1)) hx hb dX0_unfold_73 (by decide) ?_
          refine q_ixor hx hb dX0_unfold_74 (fun x13 ex13 => ?_)
          refine q_iand hx hb dX0_unfold_75 (fun x14 ex14 => ?_)
          refine q_ior hx hb dX0_unfold_76 (fun x15 ex15 => ?_)
          refine r_puti X hT hS 72 9 pk_0_85 rfl rfl rfl rfl (by decide) dX0_unfold_77 (fun H locs i16 ei16 hT hS => ?_)
          have hR16 := Rg_put hR5 ei16 (-2147483648) 2147483647 rfl (rg_top x15) (by decide)
          have hF16 := Fr_puti hF5 ei16 (by decide)
          refine lv_aload_n hx hb dX0_unfold_80 rfl (lv_at hl 1 rfl) ?_
          refine lv_iload hx hb dX0_unfold_81 (lv_at hl 0 rfl) ?_
          refine lv_iload_n hx hb dX0_unfold_83 rfl (lv_at hl 3 rfl) ?_
          refine lv_iconst (v := (-1)) hx hb dX0_unfold_84 (by decide) ?_
          refine q_ixor hx hb dX0_unfold_85 (fun x17 ex17 => ?_)
          refine q_iand hx hb dX0_unfold_86 (fun x18 ex18 => ?_)
          refine lv_iload_n hx hb dX0_unfold_87 rfl (lv_at hl 2 rfl) ?_
          refine e_Vv (As := [.int x18, .int x22_1]) (rest := []) X Y hT hS (m_X0_noteOpenings_72 hR16 x18 x22_1) mk_X0_noteOpenings gm_765 rfl rfl (by decide) hd_X0_noteOpenings ⟨rfl, rfl⟩ ⟨Nat.le_of_ble_eq_true rfl, Nat.le_of_ble_eq_true rfl⟩ hl.1 rfl (Nat.le_of_ble_eq_true rfl) dX0_unfold_88 ⟨Nat.zero_le _, Nat.zero_le _⟩ (fun i19 g19 H locs hq hT hS => ?_)
          obtain ⟨hR19, hf19⟩ := hq
          have hF19 := Fr_tr hF16 hf19 (by decide)
          refine lv_aload_n hx hb dX0_unfold_91 rfl (lv_at hl 1 rfl) ?_
          refine r_getr X hT 72 4 76 fk_0_21 rfl rfl (by decide) dX0_unfold_92 ?_
          refine lv_iload_n hx hb dX0_unfold_95 rfl (lv_at hl 2 rfl) ?_
          refine lv_iconst (v := 1) hx hb dX0_unfold_96 (by decide) ?_
          refine q_iadd hx hb dX0_unfold_97 (fun x20 ex20 => ?_)
          obtain ⟨hx20, ax20⟩ := rg_add 1 12 ex20 h8 (rg_k (by decide) : rg 1 1 1) (by decide)
          replace ax20 : x20.toInt = x22_1.toInt + 1 := ax20
          refine lv_iload hx hb dX0_unfold_98 (lv_at hl 0 rfl) ?_
          refine r_iast X hT hS 76 rfl (by decide) (v_in hx20 (by decide)) dX0_unfold_100 (fun H locs i21 ei21 hT hS => ?_)
          have hR21 := Rg_put hR19 ei21 (-2147483648) 2147483647 rfl (rg_top x63_12_s0) (by decide)
          have hF21 := Fr_puti hF19 ei21 (by decide)
          obtain ⟨x22, ex22⟩ : ∃ y : Int32, y = x22_1 + 1 := ⟨_, rfl⟩
          refine lv_iinc (v := x22) (lv' := [(1, .int x22), (4, .int x63_12_s0), (0, .ref (h 72)), (2, .int (i5 76 x22_1.toNatClampNeg)), (3, .int x10)]) hx hb dX0_unfold_101 hl (k := 2) rfl (by rw [ex22]; rfl) (by decide) rfl (fun ls hl => ?_)
          obtain ⟨hx22, ax22⟩ := rg_add 1 12 ex22 h8 (rg_k (by decide) : rg 1 1 1) (by decide)
          replace ax22 : x22.toInt = x22_1.toInt + 1 := ax22
          refine lv_goto (tgt := 22) hx hb dX0_unfold_104 (by decide) ?_
          exact ih6_ x22 i21 g19 _ _ _ (rg_w hx22 (by decide) : rg 0 12 x22) hR21 hF21 hT hS (lv_sub hl [2, 0] rfl) (m_up ax22 hx22 (by decide) hm6_)
        refine lv_icmp_ne (tgt := 58) hx hb dX0_unfold_51 (by decide) (fun c11 => ?_) (fun c11 => ?_)
        ·
          have q11 : ¬ x10.toInt = (i5 76 x22_1.toNatClampNeg).toInt := i_ne c11
          refine lv_aload_n hx hb dX0_unfold_58 rfl (lv_at hl 2 rfl) ?_
          refine lv_iload_n hx hb dX0_unfold_59 rfl (lv_at hl 0 rfl) ?_
          refine e_Vi (As := [.int x10]) (rest := []) X Y hT hS (m_X0_settle_72 hR5 x10) mk_X0_settle gm_761 rfl rfl (by decide) hd_X0_settle ⟨rfl, rfl⟩ ⟨Nat.le_of_ble_eq_true rfl, Nat.le_of_ble_eq_true rfl⟩ hl.1 rfl (Nat.le_of_ble_eq_true rfl) dX0_unfold_60 ⟨Nat.zero_le _, Nat.zero_le _⟩ (fun r23 i23 g23 H locs hq hT hS => ?_)
          have eh23 := hq
          rw [(Prod.mk.inj eh23).1, (Prod.mk.inj eh23).2] at hT
          exact J63_12 r23 _ _ _ hT hS (lv_sub hl [2, 3, 1, 0] rfl)
        ·
          have q11 : x10.toInt = (i5 76 x22_1.toNatClampNeg).toInt := i_eq c11
          refine lv_iload_n hx hb dX0_unfold_54 rfl (lv_at hl 1 rfl) ?_
          refine lv_goto (tgt := 63) hx hb dX0_unfold_55 (by decide) ?_
          exact J63_12 (i5 76 x22_1.toNatClampNeg) _ _ _ hT hS (lv_sub hl [2, 3, 1, 0] rfl)
  exact L22_4 _ (0) i3 g1 _ _ _ (rg_w (rg_k (by decide) : rg 0 0 0) (by decide) : rg 0 12 0) hR3 hF3 hT hS (lv_sub hl [1, 0] rfl) (Nat.lt_succ_self _)
set_option maxRecDepth 100000 in
set_option maxHeartbeats 4000000 in
theorem m_X0_unfoldBy_72 {l : Launch} {D : va_G} {h : Nat → Nat} {cz : Nat → ClassId} {z : EZ} {i : Nat → Nat → Int32} {g : Nat → Nat → Int64} (hR : Rg rA i) (a_a : Int32) (a_b : Int32) : DtV l yX0_unfoldBy cX0_unfoldBy 3 none ({ frames := 3, cells := 0, slots := 0, locals := 68 } : Room) D h cz z i g [.ref (h 72), .int a_a, .int a_b] (fun u => Rg rA u.1 ∧ Fr [72, 75, 76, 77] [] i g u) := by
  refine e_V pn_X0_unfoldBy (Nat.le_of_ble_eq_true rfl) ?_
  intro p e s m args below meth c ls Q X Y hret hT hl hS
  have hx := X.1
  have hb := X.2.1
  have hl : lv_has ls 3 [(0, .ref (h 72)), (1, .int a_a), (2, .int a_b)] := hl
  have hF : Fr [72, 75, 76, 77] [] i g (i, g) := Fr_rf _ _ _ _
  refine lv_aload_n hx hb dX0_unfoldBy_0 rfl (lv_at hl 0 rfl) ?_
  refine r_getr X hT 72 3 75 fk_0_18 rfl rfl (by decide) dX0_unfoldBy_1 ?_
  refine lv_iconst (v := 0) hx hb dX0_unfoldBy_4 (by decide) ?_
  refine e_Sv (As := [.ref (h 75), .int 0]) (rest := []) X Y hT hS (m_J7_fill_53178_75_0 hR (0) (rg_k (by decide) : rg 0 0 0)) sk_J7_fill_53178 gm_745 hd_J7_fill_53178 ⟨rfl, rfl⟩ ⟨Nat.le_of_ble_eq_true rfl, Nat.le_of_ble_eq_true rfl⟩ hl.1 rfl (Nat.le_of_ble_eq_true rfl) dX0_unfoldBy_5 ⟨Nat.zero_le _, Nat.zero_le _⟩ (fun i1 g1 H locs hq hT hS => ?_)
  obtain ⟨hR1, hf1, hf1_0⟩ := hq
  have hF1 := Fr_tr hF hf1 (by decide)
  refine lv_aload_n hx hb dX0_unfoldBy_8 rfl (lv_at hl 0 rfl) ?_
  refine r_getr X hT 72 3 75 fk_0_18 rfl rfl (by decide) dX0_unfoldBy_9 ?_
  refine lv_iconst (v := 0) hx hb dX0_unfoldBy_12 (by decide) ?_
  refine lv_iload_n hx hb dX0_unfoldBy_13 rfl (lv_at hl 1 rfl) ?_
  refine r_iastc X hT hS 75 0 rfl (by decide) (v_in (rg_k (by decide) : rg 0 0 0) (by decide)) (by decide) dX0_unfoldBy_14 (fun H locs i2 ei2 hT hS => ?_)
  have hR2 := Rg_put hR1 ei2 (-2147483648) 2147483647 rfl (rg_top a_a) (by decide)
  have hF2 := Fr_puti hF1 ei2 (by decide)
  refine lv_aload_n hx hb dX0_unfoldBy_15 rfl (lv_at hl 0 rfl) ?_
  refine r_getr X hT 72 3 75 fk_0_18 rfl rfl (by decide) dX0_unfoldBy_16 ?_
  refine lv_iconst (v := 1) hx hb dX0_unfoldBy_19 (by decide) ?_
  refine lv_iload_n hx hb dX0_unfoldBy_20 rfl (lv_at hl 2 rfl) ?_
  refine r_iastc X hT hS 75 1 rfl (by decide) (v_in (rg_k (by decide) : rg 1 1 1) (by decide)) (by decide) dX0_unfoldBy_21 (fun H locs i3 ei3 hT hS => ?_)
  have hR3 := Rg_put hR2 ei3 (-2147483648) 2147483647 rfl (rg_top a_b) (by decide)
  have hF3 := Fr_puti hF2 ei3 (by decide)
  refine lv_aload_n hx hb dX0_unfoldBy_22 rfl (lv_at hl 0 rfl) ?_
  refine e_Vv (As := []) (rest := []) X Y hT hS (m_X0_unfold_72 hR3) mk_X0_unfold gm_757 rfl rfl (by decide) hd_X0_unfold ⟨rfl, rfl⟩ ⟨Nat.le_of_ble_eq_true rfl, Nat.le_of_ble_eq_true rfl⟩ hl.1 rfl (Nat.le_of_ble_eq_true rfl) dX0_unfoldBy_23 ⟨Nat.zero_le _, Nat.zero_le _⟩ (fun i4 g4 H locs hq hT hS => ?_)
  obtain ⟨hR4, hf4⟩ := hq
  have hF4 := Fr_tr hF3 hf4 (by decide)
  exact hret _ _ _ _ _ _ dX0_unfoldBy_26 hT hS ⟨hR4, hF4⟩
set_option maxRecDepth 100000 in
set_option maxHeartbeats 4000000 in
theorem m_X0_aired_72 {l : Launch} {D : va_G} {h : Nat → Nat} {cz : Nat → ClassId} {z : EZ} {i : Nat → Nat → Int32} {g : Nat → Nat → Int64} (hR : Rg rA i) (a_a : Int32) (a_b : Int32) (a_c : Int32) (ha_a : rg 0 5 a_a) (ha_b : rg 0 99 a_b) (ha_c : rg 0 11 a_c) : DtI l yX0_aired cX0_aired 4 (some .int) ({ frames := 1, cells := 0, slots := 0, locals := 40 } : Room) D h cz z i g [.ref (h 72), .int a_a, .int a_b, .int a_c] (fun r u => u = (i, g) ∧ rg 0 99 r) := by
  refine e_I pn_X0_aired (Nat.le_of_ble_eq_true rfl) ?_
  intro p e s m args below meth c ls Q X Y hret hT hl hS
  have hx := X.1
  have hb := X.2.1
  have hl : lv_has ls 4 [(0, .ref (h 72)), (1, .int a_a), (2, .int a_b), (3, .int a_c)] := hl
  refine lv_iconst (v := 0) hx hb dX0_aired_0 (by decide) ?_
  refine lv_iload_n hx hb dX0_aired_1 rfl (lv_at hl 2 rfl) ?_
  refine lv_bipush (v := 10) hx hb dX0_aired_2 (by decide) ?_
  refine lv_aload_n hx hb dX0_aired_4 rfl (lv_at hl 0 rfl) ?_
  refine r_getr X hT 72 2 74 fk_0_15 rfl rfl (by decide) dX0_aired_5 ?_
  refine lv_iload_n hx hb dX0_aired_8 rfl (lv_at hl 3 rfl) ?_
  refine lv_bipush (v := 6) hx hb dX0_aired_9 (by decide) ?_
  refine q_imul hx hb dX0_aired_11 (fun x1 ex1 => ?_)
  obtain ⟨hx1, ax1⟩ := rg_mul 0 66 ex1 ha_c (rg_k (by decide) : rg 6 6 6) (by decide)
  replace ax1 : x1.toInt = a_c.toInt * 6 := ax1
  refine lv_iload_n hx hb dX0_aired_12 rfl (lv_at hl 1 rfl) ?_
  refine q_iadd hx hb dX0_aired_13 (fun x2 ex2 => ?_)
  obtain ⟨hx2, ax2⟩ := rg_add 0 71 ex2 hx1 ha_a (by decide)
  replace ax2 : x2.toInt = x1.toInt + a_a.toInt := ax2
  refine r_iald X hT 74 rfl (by decide) (v_in hx2 (by decide)) dX0_aired_14 ?_
  refine q_imul hx hb dX0_aired_15 (fun x3 ex3 => ?_)
  obtain ⟨hx3, ax3⟩ := rg_mul 0 200 ex3 (rg_k (by decide) : rg 10 10 10) (Rg_at hR 74 x2.toNatClampNeg 0 20 (v_lt (v_in hx2 (by decide))) rfl) (by decide)
  replace ax3 : x3.toInt = 10 * (i 74 x2.toNatClampNeg).toInt := ax3
  refine q_isub hx hb dX0_aired_16 (fun x4 ex4 => ?_)
  obtain ⟨hx4, ax4⟩ := rg_sub (-200) 99 ex4 ha_b hx3 (by decide)
  replace ax4 : x4.toInt = a_b.toInt - x3.toInt := ax4
  refine e_mmax X hl.1 gm_781 gm_782 gm_118 mw_e_mmax (Nat.le_of_ble_eq_true rfl) (Nat.le_of_ble_eq_true rfl) ⟨Nat.zero_le _, Nat.zero_le _⟩ dX0_aired_17 (fun x5 ex5 => ?_)
  have h6 : rg 0 99 x5 := rg_mx ex5 (rg_k (by decide) : rg 0 0 0) hx4 (by decide)
  exact hret x5 _ _ _ _ _ _ dX0_aired_20 hT hS ⟨rfl, h6⟩
set_option maxRecDepth 100000 in
set_option maxHeartbeats 4000000 in
theorem m_X0_waited_72 {l : Launch} {D : va_G} {h : Nat → Nat} {cz : Nat → ClassId} {z : EZ} {i : Nat → Nat → Int32} {g : Nat → Nat → Int64} (hR : Rg rA i) (a_a : Int32) (a_b : Int32) (a_c : Int32) (ha_a : rg 0 5 a_a) (ha_b : rg 0 99 a_b) : DtI l yX0_waited cX0_waited 5 (some .int) ({ frames := 1, cells := 0, slots := 0, locals := 40 } : Room) D h cz z i g [.ref (h 72), .int a_a, .int a_b, .int a_c] (fun r u => u = (i, g) ∧ rg 0 99 r) := by
  refine e_I pn_X0_waited (Nat.le_of_ble_eq_true rfl) ?_
  intro p e s m args below meth c ls Q X Y hret hT hl hS
  have hx := X.1
  have hb := X.2.1
  have hl : lv_has ls 5 [(0, .ref (h 72)), (1, .int a_a), (2, .int a_b), (3, .int a_c)] := hl
  refine lv_aload_n hx hb dX0_waited_0 rfl (lv_at hl 0 rfl) ?_
  refine r_getr X hT 72 0 15 fk_0_30 rfl rfl (by decide) dX0_waited_1 ?_
  refine r_getr X hT 15 1 17 fk_0_117 rfl rfl (by decide) dX0_waited_4 ?_
  refine lv_iload_n hx hb dX0_waited_7 rfl (lv_at hl 1 rfl) ?_
  refine r_iald X hT 17 rfl (by decide) (v_in ha_a (by decide)) dX0_waited_8 ?_
  refine lv_istore (lv' := [(4, .int (i 17 a_a.toNatClampNeg)), (0, .ref (h 72)), (1, .int a_a), (2, .int a_b), (3, .int a_c)]) hx hb dX0_waited_9 hl (by decide) rfl (fun ls hl => ?_)
  refine lv_aload_n hx hb dX0_waited_11 rfl (lv_at hl 1 rfl) ?_
  refine r_geti X hT 72 7 fk_0_40 rfl rfl (by decide) dX0_waited_12 ?_
  rcases Int.lt_or_le (i 72 7).toInt 1 with c1 | c1
  ·
    refine lv_tableOut (tgt := 101) hx hb dX0_waited_15 (Or.inl c1) (by decide) ?_
    refine lv_bipush (v := 99) hx hb dX0_waited_101 (by decide) ?_
    refine lv_iload_n hx hb dX0_waited_103 rfl (lv_at hl 3 rfl) ?_
    refine lv_iload hx hb dX0_waited_104 (lv_at hl 0 rfl) ?_
    refine q_iadd hx hb dX0_waited_106 (fun x2 ex2 => ?_)
    obtain ⟨hx2, ax2⟩ := rg_add 0 108 ex2 ha_b (Rg_at hR 17 a_a.toNatClampNeg 0 9 (v_lt (v_in ha_a (by decide))) rfl) (by decide)
    replace ax2 : x2.toInt = a_b.toInt + (i 17 a_a.toNatClampNeg).toInt := ax2
    refine e_mmin X hl.1 gm_794 gm_529 gm_118 mw_e_mmin (Nat.le_of_ble_eq_true rfl) (Nat.le_of_ble_eq_true rfl) ⟨Nat.zero_le _, Nat.zero_le _⟩ dX0_waited_107 (fun x3 ex3 => ?_)
    have h4 : rg 0 99 x3 := rg_mn ex3 (rg_k (by decide) : rg 99 99 99) hx2 (by decide)
    exact hret x3 _ _ _ _ _ _ dX0_waited_110 hT hS ⟨rfl, h4⟩
  ·
    rcases Int.lt_or_le 3 (i 72 7).toInt with d1 | d1
    ·
      refine lv_tableOut (tgt := 101) hx hb dX0_waited_15 (Or.inr d1) (by decide) ?_
      refine lv_bipush (v := 99) hx hb dX0_waited_101 (by decide) ?_
      refine lv_iload_n hx hb dX0_waited_103 rfl (lv_at hl 3 rfl) ?_
      refine lv_iload hx hb dX0_waited_104 (lv_at hl 0 rfl) ?_
      refine q_iadd hx hb dX0_waited_106 (fun x5 ex5 => ?_)
      obtain ⟨hx5, ax5⟩ := rg_add 0 108 ex5 ha_b (Rg_at hR 17 a_a.toNatClampNeg 0 9 (v_lt (v_in ha_a (by decide))) rfl) (by decide)
      replace ax5 : x5.toInt = a_b.toInt + (i 17 a_a.toNatClampNeg).toInt := ax5
      refine e_mmin X hl.1 gm_794 gm_529 gm_118 mw_e_mmin (Nat.le_of_ble_eq_true rfl) (Nat.le_of_ble_eq_true rfl) ⟨Nat.zero_le _, Nat.zero_le _⟩ dX0_waited_107 (fun x6 ex6 => ?_)
      have h7 : rg 0 99 x6 := rg_mn ex6 (rg_k (by decide) : rg 99 99 99) hx5 (by decide)
      exact hret x6 _ _ _ _ _ _ dX0_waited_110 hT hS ⟨rfl, h7⟩
    ·
      rcases (show (i 72 7).toInt = 1 ∨ (i 72 7).toInt = 2 ∨ (i 72 7).toInt = 3 by omega) with f1 | f1 | f1
      ·
        refine lv_tableIn (tgt := 40) (off := 25) hx hb dX0_waited_15 (by omega) (by omega) (by rw [f1]; rfl) (by decide) ?_
        have h8 : rg 1 1 (i 72 7) := ⟨by omega, by omega⟩
        refine lv_bipush (v := 99) hx hb dX0_waited_40 (by decide) ?_
        refine lv_iload_n hx hb dX0_waited_42 rfl (lv_at hl 3 rfl) ?_
        refine lv_iload hx hb dX0_waited_43 (lv_at hl 0 rfl) ?_
        refine q_iadd hx hb dX0_waited_45 (fun x9 ex9 => ?_)
        obtain ⟨hx9, ax9⟩ := rg_add 0 108 ex9 ha_b (Rg_at hR 17 a_a.toNatClampNeg 0 9 (v_lt (v_in ha_a (by decide))) rfl) (by decide)
        replace ax9 : x9.toInt = a_b.toInt + (i 17 a_a.toNatClampNeg).toInt := ax9
        refine lv_aload_n hx hb dX0_waited_46 rfl (lv_at hl 1 rfl) ?_
        refine r_getr X hT 72 1 73 fk_0_9 rfl rfl (by decide) dX0_waited_47 ?_
        refine lv_iload_n hx hb dX0_waited_50 rfl (lv_at hl 2 rfl) ?_
        refine r_iald X hT 73 rfl (by decide) (v_in ha_a (by decide)) dX0_waited_51 ?_
        refine lv_iload_n hx hb dX0_waited_52 rfl (lv_at hl 4 rfl) ?_
        refine q_iand hx hb dX0_waited_53 (fun x10 ex10 => ?_)
        refine e_Si (As := [.int x10]) (rest := [.int x9, .int 99]) X Y hT hS (m_J6_bitCount_0f7a4 x10) sk_J6_bitCount_0f7a4 gm_788 hd_J6_bitCount_0f7a4 ⟨rfl, rfl⟩ ⟨Nat.le_of_ble_eq_true rfl, Nat.le_of_ble_eq_true rfl⟩ hl.1 rfl (Nat.le_of_ble_eq_true rfl) dX0_waited_54 ⟨Nat.zero_le _, Nat.zero_le _⟩ (fun r11 i11 g11 H locs hq hT hS => ?_)
        obtain ⟨eh11, hr11⟩ := hq
        rw [(Prod.mk.inj eh11).1, (Prod.mk.inj eh11).2] at hT
        refine q_iadd hx hb dX0_waited_57 (fun x12 ex12 => ?_)
        obtain ⟨hx12, ax12⟩ := rg_add 0 171 ex12 hx9 hr11 (by decide)
        replace ax12 : x12.toInt = x9.toInt + r11.toInt := ax12
        refine e_mmin X hl.1 gm_794 gm_529 gm_118 mw_e_mmin (Nat.le_of_ble_eq_true rfl) (Nat.le_of_ble_eq_true rfl) ⟨Nat.zero_le _, Nat.zero_le _⟩ dX0_waited_58 (fun x13 ex13 => ?_)
        have h14 : rg 0 99 x13 := rg_mn ex13 (rg_k (by decide) : rg 99 99 99) hx12 (by decide)
        exact hret x13 _ _ _ _ _ _ dX0_waited_61 hT hS ⟨rfl, h14⟩
      ·
        refine lv_tableIn (tgt := 62) (off := 47) hx hb dX0_waited_15 (by omega) (by omega) (by rw [f1]; rfl) (by decide) ?_
        have h15 : rg 2 2 (i 72 7) := ⟨by omega, by omega⟩
        refine lv_bipush (v := 99) hx hb dX0_waited_62 (by decide) ?_
        refine lv_iload_n hx hb dX0_waited_64 rfl (lv_at hl 3 rfl) ?_
        refine lv_iload hx hb dX0_waited_65 (lv_at hl 0 rfl) ?_
        refine q_iadd hx hb dX0_waited_67 (fun x16 ex16 => ?_)
        obtain ⟨hx16, ax16⟩ := rg_add 0 108 ex16 ha_b (Rg_at hR 17 a_a.toNatClampNeg 0 9 (v_lt (v_in ha_a (by decide))) rfl) (by decide)
        replace ax16 : x16.toInt = a_b.toInt + (i 17 a_a.toNatClampNeg).toInt := ax16
        refine lv_iload_n hx hb dX0_waited_68 rfl (lv_at hl 3 rfl) ?_
        refine q_iadd hx hb dX0_waited_69 (fun x17 ex17 => ?_)
        obtain ⟨hx17, ax17⟩ := rg_add 0 207 ex17 hx16 ha_b (by decide)
        replace ax17 : x17.toInt = x16.toInt + a_b.toInt := ax17
        refine e_mmin X hl.1 gm_794 gm_529 gm_118 mw_e_mmin (Nat.le_of_ble_eq_true rfl) (Nat.le_of_ble_eq_true rfl) ⟨Nat.zero_le _, Nat.zero_le _⟩ dX0_waited_70 (fun x18 ex18 => ?_)
        have h19 : rg 0 99 x18 := rg_mn ex18 (rg_k (by decide) : rg 99 99 99) hx17 (by decide)
        exact hret x18 _ _ _ _ _ _ dX0_waited_73 hT hS ⟨rfl, h19⟩
      ·
        refine lv_tableIn (tgt := 74) (off := 59) hx hb dX0_waited_15 (by omega) (by omega) (by rw [f1]; rfl) (by decide) ?_
        have h20 : rg 3 3 (i 72 7) := ⟨by omega, by omega⟩
        refine lv_aload_n hx hb dX0_waited_74 rfl (lv_at hl 1 rfl) ?_
        refine r_getr X hT 72 1 73 fk_0_9 rfl rfl (by decide) dX0_waited_75 ?_
        refine lv_iload_n hx hb dX0_waited_78 rfl (lv_at hl 2 rfl) ?_
        refine r_iald X hT 73 rfl (by decide) (v_in ha_a (by decide)) dX0_waited_79 ?_
        refine lv_iload_n hx hb dX0_waited_80 rfl (lv_at hl 4 rfl) ?_
        refine lv_iconst (v := (-1)) hx hb dX0_waited_81 (by decide) ?_
        refine q_ixor hx hb dX0_waited_82 (fun x21 ex21 => ?_)
        refine q_iand hx hb dX0_waited_83 (fun x22 ex22 => ?_)
        refine lv_if_ne (tgt := 99) hx hb dX0_waited_84 (by decide) (fun c23 => ?_) (fun c23 => ?_)
        ·
          have q23 : ¬ x22.toInt = 0 := i_ne c23
          refine lv_iload_n hx hb dX0_waited_99 rfl (lv_at hl 3 rfl) ?_
          exact hret a_b _ _ _ _ _ _ dX0_waited_100 hT hS ⟨rfl, ha_b⟩
        ·
          have q23 : x22.toInt = 0 := i_eq c23
          have h24 : rg 0 0 x22 := t_eqx 0 0 (rg_top x22) (rg_k (by decide) : rg 0 0 0) (i_eq c23) (by decide)
          refine lv_bipush (v := 99) hx hb dX0_waited_87 (by decide) ?_
          refine lv_iload_n hx hb dX0_waited_89 rfl (lv_at hl 3 rfl) ?_
          refine lv_iload hx hb dX0_waited_90 (lv_at hl 0 rfl) ?_
          refine q_iadd hx hb dX0_waited_92 (fun x25 ex25 => ?_)
          obtain ⟨hx25, ax25⟩ := rg_add 0 108 ex25 ha_b (Rg_at hR 17 a_a.toNatClampNeg 0 9 (v_lt (v_in ha_a (by decide))) rfl) (by decide)
          replace ax25 : x25.toInt = a_b.toInt + (i 17 a_a.toNatClampNeg).toInt := ax25
          refine e_mmin X hl.1 gm_794 gm_529 gm_118 mw_e_mmin (Nat.le_of_ble_eq_true rfl) (Nat.le_of_ble_eq_true rfl) ⟨Nat.zero_le _, Nat.zero_le _⟩ dX0_waited_93 (fun x26 ex26 => ?_)
          have h27 : rg 0 99 x26 := rg_mn ex26 (rg_k (by decide) : rg 99 99 99) hx25 (by decide)
          refine lv_goto (tgt := 100) hx hb dX0_waited_96 (by decide) ?_
          exact hret x26 _ _ _ _ _ _ dX0_waited_100 hT hS ⟨rfl, h27⟩
set_option maxRecDepth 100000 in
set_option maxHeartbeats 4000000 in
theorem m_X0_follow_72 {l : Launch} {D : va_G} {h : Nat → Nat} {cz : Nat → ClassId} {z : EZ} {i : Nat → Nat → Int32} {g : Nat → Nat → Int64} (hR : Rg rA i) (a_a : Int32) (a_b : Int32) (a_c : Int32) (ha_a : rg 0 5 a_a) (ha_b : rg 0 60 a_b) : DtI l yX0_follow cX0_follow 6 (some .int) ({ frames := 2, cells := 0, slots := 0, locals := 64 } : Room) D h cz z i g [.ref (h 72), .int a_a, .int a_b, .int a_c] (fun r u => Rg rA u.1 ∧ Fr [78] [] i g u ∧ rg 0 99 r) := by
  refine e_I pn_X0_follow (Nat.le_of_ble_eq_true rfl) ?_
  intro p e s m args below meth c ls Q X Y hret hT hl hS
  have hx := X.1
  have hb := X.2.1
  have hl : lv_has ls 6 [(0, .ref (h 72)), (1, .int a_a), (2, .int a_b), (3, .int a_c)] := hl
  have hF : Fr [78] [] i g (i, g) := Fr_rf _ _ _ _
  refine lv_iload_n hx hb dX0_follow_0 rfl (lv_at hl 2 rfl) ?_
  refine lv_istore (lv' := [(4, .int a_b), (0, .ref (h 72)), (1, .int a_a), (2, .int a_b), (3, .int a_c)]) hx hb dX0_follow_1 hl (by decide) rfl (fun ls hl => ?_)
  refine lv_aload_n hx hb dX0_follow_3 rfl (lv_at hl 1 rfl) ?_
  refine r_getr X hT 72 6 78 fk_0_27 rfl rfl (by decide) dX0_follow_4 ?_
  refine lv_iconst (v := 0) hx hb dX0_follow_7 (by decide) ?_
  refine lv_iload hx hb dX0_follow_8 (lv_at hl 0 rfl) ?_
  refine r_iastc X hT hS 78 0 rfl (by decide) (v_in (rg_k (by decide) : rg 0 0 0) (by decide)) (by decide) dX0_follow_10 (fun H locs i1 ei1 hT hS => ?_)
  have hR1 := Rg_put hR ei1 0 99 rfl ha_b (by decide)
  have hF1 := Fr_puti hF ei1 (by decide)
  refine lv_iconst (v := 0) hx hb dX0_follow_11 (by decide) ?_
  refine lv_istore (lv' := [(5, .int 0), (4, .int a_b), (0, .ref (h 72)), (1, .int a_a), (2, .int a_b), (3, .int a_c)]) hx hb dX0_follow_12 hl (by decide) rfl (fun ls hl => ?_)
  have L14_2 : ∀ (n4_ : Nat) (x14_4 : Int32) (x14_5 : Int32) (i3 : Nat → Nat → Int32) (g3 : Nat → Nat → Int64) (H : Heap) (locs : List Loc) (ls : Array Slot), rg 0 99 x14_4 → rg 0 12 x14_5 → Rg rA i3 → Fr [78] [] i g (i3, g3) → TH D h cz i3 g3 H → va_S (hA h) s.heap H locs → lv_has ls 6 [(0, .ref (h 72)), (1, .int a_a), (3, .int a_c), (4, .int x14_4), (5, .int x14_5)] → (12 - x14_5.toInt).toNat < n4_ → W p l e ({ frames := 2, cells := 0, slots := 0, locals := 64 } : Room) s m args below meth c H locs 0 0 Q (F0 m 14 ls []) := by
    intro n4_
    induction n4_ with
    | zero => intro x14_4 x14_5 i3 g3 H locs ls hhx14_4 hhx14_5 hR3 hF3 hT hS hl hm4_; exact absurd hm4_ (Nat.not_lt_zero _)
    | succ n4_ ih4_ =>
      intro x14_4 x14_5 i3 g3 H locs ls hhx14_4 hhx14_5 hR3 hF3 hT hS hl hm4_
      refine lv_iload hx hb dX0_follow_14 (lv_at hl 4 rfl) ?_
      refine lv_iload_n hx hb dX0_follow_16 rfl (lv_at hl 2 rfl) ?_
      refine lv_icmp_ge (tgt := 103) hx hb dX0_follow_17 (by decide) (fun c5 => ?_) (fun c5 => ?_)
      ·
        have q5 : a_c.toInt ≤ x14_5.toInt := i_le c5
        have h6 : rg (-2147483648) 12 a_c := t_lex (-2147483648) 12 (rg_top a_c) hhx14_5 (i_le c5) (by decide)
        refine lv_iload hx hb dX0_follow_103 (lv_at hl 3 rfl) ?_
        exact hret x14_4 _ _ _ _ _ _ dX0_follow_105 hT hS ⟨hR3, hF3, hhx14_4⟩
      ·
        have q5 : x14_5.toInt < a_c.toInt := i_nle c5
        have h7 : rg 1 2147483647 a_c := t_lty 1 2147483647 hhx14_5 (rg_top a_c) (i_nle c5) (by decide)
        refine lv_iload hx hb dX0_follow_20 (lv_at hl 4 rfl) ?_
        refine lv_bipush (v := 12) hx hb dX0_follow_22 (by decide) ?_
        refine lv_icmp_ge (tgt := 103) hx hb dX0_follow_24 (by decide) (fun c8 => ?_) (fun c8 => ?_)
        ·
          have q8 : 12 ≤ x14_5.toInt := i_le c8
          have h9 : rg 12 12 x14_5 := t_ley 12 12 (rg_k (by decide) : rg 12 12 12) hhx14_5 (i_le c8) (by decide)
          refine lv_iload hx hb dX0_follow_103 (lv_at hl 3 rfl) ?_
          exact hret x14_4 _ _ _ _ _ _ dX0_follow_105 hT hS ⟨hR3, hF3, hhx14_4⟩
        ·
          have q8 : x14_5.toInt < 12 := i_nle c8
          have h10 : rg 0 11 x14_5 := t_ltx 0 11 hhx14_5 (rg_k (by decide) : rg 12 12 12) (i_nle c8) (by decide)
          refine lv_aload_n hx hb dX0_follow_27 rfl (lv_at hl 0 rfl) ?_
          refine r_getr X hT 72 4 76 fk_0_21 rfl rfl (by decide) dX0_follow_28 ?_
          refine lv_iload hx hb dX0_follow_31 (lv_at hl 4 rfl) ?_
          refine r_iald X hT 76 rfl (by decide) (v_in h10 (by decide)) dX0_follow_33 ?_
          refine lv_iload_n hx hb dX0_follow_34 rfl (lv_at hl 1 rfl) ?_
          refine e_Ni (As := [.int (i3 76 x14_5.toNatClampNeg), .int a_a]) (rest := []) X Y hT hS (m_X8_hasBit (i3 76 x14_5.toNatClampNeg) a_a) sk_X8_hasBit Y.n1 hd_X8_hasBit ⟨rfl, rfl⟩ ⟨Nat.le_of_ble_eq_true rfl, Nat.le_of_ble_eq_true rfl⟩ hl.1 rfl (Nat.le_of_ble_eq_true rfl) dX0_follow_35 ⟨Nat.zero_le _, Nat.zero_le _⟩ (fun r11 i11 g11 H locs hq hT hS => ?_)
          obtain ⟨eh11, hr11⟩ := hq
          rw [(Prod.mk.inj eh11).1, (Prod.mk.inj eh11).2] at hT
          have J86_13 : ∀ (x86_13_4 : Int32) (H : Heap) (locs : List Loc) (ls : Array Slot), rg 0 99 x86_13_4 → TH D h cz i3 g3 H → va_S (hA h) s.heap H locs → lv_has ls 6 [(0, .ref (h 72)), (1, .int a_a), (3, .int a_c), (4, .int x86_13_4), (5, .int x14_5)] → W p l e ({ frames := 2, cells := 0, slots := 0, locals := 64 } : Room) s m args below meth c H locs 0 0 Q (F0 m 86 ls []) := by
            intro x86_13_4 H locs ls hhx86_13_4 hT hS hl
            refine lv_aload_n hx hb dX0_follow_86 rfl (lv_at hl 0 rfl) ?_
            refine r_getr X hT 72 6 78 fk_0_27 rfl rfl (by decide) dX0_follow_87 ?_
            refine lv_iload hx hb dX0_follow_90 (lv_at hl 4 rfl) ?_
            refine lv_iconst (v := 1) hx hb dX0_follow_92 (by decide) ?_
            refine q_iadd hx hb dX0_follow_93 (fun x14 ex14 => ?_)
            obtain ⟨hx14, ax14⟩ := rg_add 1 12 ex14 h10 (rg_k (by decide) : rg 1 1 1) (by decide)
            replace ax14 : x14.toInt = x14_5.toInt + 1 := ax14
            refine lv_iload hx hb dX0_follow_94 (lv_at hl 3 rfl) ?_
            refine r_iast X hT hS 78 rfl (by decide) (v_in hx14 (by decide)) dX0_follow_96 (fun H locs i15 ei15 hT hS => ?_)
            have hR15 := Rg_put hR3 ei15 0 99 rfl hhx86_13_4 (by decide)
            have hF15 := Fr_puti hF3 ei15 (by decide)
            obtain ⟨x16, ex16⟩ : ∃ y : Int32, y = x14_5 + 1 := ⟨_, rfl⟩
            refine lv_iinc (v := x16) (lv' := [(5, .int x16), (0, .ref (h 72)), (1, .int a_a), (3, .int a_c), (4, .int x86_13_4)]) hx hb dX0_follow_97 hl (k := 4) rfl (by rw [ex16]; rfl) (by decide) rfl (fun ls hl => ?_)
            obtain ⟨hx16, ax16⟩ := rg_add 1 12 ex16 h10 (rg_k (by decide) : rg 1 1 1) (by decide)
            replace ax16 : x16.toInt = x14_5.toInt + 1 := ax16
            refine lv_goto (tgt := 14) hx hb dX0_follow_100 (by decide) ?_
            exact ih4_ x86_13_4 x16 i15 g3 _ _ _ hhx86_13_4 (rg_w hx16 (by decide) : rg 0 12 x16) hR15 hF15 hT hS (lv_sub hl [1, 2, 3, 4, 0] rfl) (m_up ax16 hx16 (by decide) hm4_)
          refine lv_if_ne (tgt := 86) hx hb dX0_follow_38 (by decide) (fun c12 => ?_) (fun c12 => ?_)
          ·
            have q12 : ¬ r11.toInt = 0 := i_ne c12
            have h17 : rg 1 1 r11 := t_nelo 1 hr11 (rg_k (by decide) : rg 0 0 0) (i_ne c12) (by decide)
            exact J86_13 x14_4 _ _ _ hhx14_4 hT hS (lv_sub hl [0, 1, 2, 3, 4] rfl)
          ·
            have q12 : r11.toInt = 0 := i_eq c12
            have h18 : rg 0 0 r11 := t_eqx 0 0 hr11 (rg_k (by decide) : rg 0 0 0) (i_eq c12) (by decide)
            refine lv_aload_n hx hb dX0_follow_41 rfl (lv_at hl 0 rfl) ?_
            refine lv_iload_n hx hb dX0_follow_42 rfl (lv_at hl 1 rfl) ?_
            refine lv_iload hx hb dX0_follow_43 (lv_at hl 3 rfl) ?_
            refine lv_iload hx hb dX0_follow_45 (lv_at hl 4 rfl) ?_
            refine e_Vi (As := [.int a_a, .int x14_4, .int x14_5]) (rest := []) X Y hT hS (m_X0_aired_72 hR3 a_a x14_4 x14_5 ha_a hhx14_4 h10) mk_X0_aired gm_777 rfl rfl (by decide) hd_X0_aired ⟨rfl, rfl⟩ ⟨Nat.le_of_ble_eq_true rfl, Nat.le_of_ble_eq_true rfl⟩ hl.1 rfl (Nat.le_of_ble_eq_true rfl) dX0_follow_47 ⟨Nat.zero_le _, Nat.zero_le _⟩ (fun r19 i19 g19 H locs hq hT hS => ?_)
            obtain ⟨eh19, hr19⟩ := hq
            rw [(Prod.mk.inj eh19).1, (Prod.mk.inj eh19).2] at hT
            refine lv_istore (lv' := [(4, .int r19), (0, .ref (h 72)), (1, .int a_a), (3, .int a_c), (5, .int x14_5)]) hx hb dX0_follow_50 hl (by decide) rfl (fun ls hl => ?_)
            refine lv_aload_n hx hb dX0_follow_52 rfl (lv_at hl 1 rfl) ?_
            refine r_getr X hT 72 4 76 fk_0_21 rfl rfl (by decide) dX0_follow_53 ?_
            refine lv_iload hx hb dX0_follow_56 (lv_at hl 4 rfl) ?_
            refine lv_iconst (v := 1) hx hb dX0_follow_58 (by decide) ?_
            refine q_iadd hx hb dX0_follow_59 (fun x20 ex20 => ?_)
            obtain ⟨hx20, ax20⟩ := rg_add 1 12 ex20 h10 (rg_k (by decide) : rg 1 1 1) (by decide)
            replace ax20 : x20.toInt = x14_5.toInt + 1 := ax20
            refine r_iald X hT 76 rfl (by decide) (v_in hx20 (by decide)) dX0_follow_60 ?_
            refine lv_iload_n hx hb dX0_follow_61 rfl (lv_at hl 2 rfl) ?_
            refine e_Ni (As := [.int (i3 76 x20.toNatClampNeg), .int a_a]) (rest := []) X Y hT hS (m_X8_hasBit (i3 76 x20.toNatClampNeg) a_a) sk_X8_hasBit Y.n1 hd_X8_hasBit ⟨rfl, rfl⟩ ⟨Nat.le_of_ble_eq_true rfl, Nat.le_of_ble_eq_true rfl⟩ hl.1 rfl (Nat.le_of_ble_eq_true rfl) dX0_follow_62 ⟨Nat.zero_le _, Nat.zero_le _⟩ (fun r21 i21 g21 H locs hq hT hS => ?_)
            obtain ⟨eh21, hr21⟩ := hq
            rw [(Prod.mk.inj eh21).1, (Prod.mk.inj eh21).2] at hT
            refine lv_if_ne (tgt := 86) hx hb dX0_follow_65 (by decide) (fun c22 => ?_) (fun c22 => ?_)
            ·
              have q22 : ¬ r21.toInt = 0 := i_ne c22
              have h23 : rg 1 1 r21 := t_nelo 1 hr21 (rg_k (by decide) : rg 0 0 0) (i_ne c22) (by decide)
              exact J86_13 r19 _ _ _ hr19 hT hS (lv_sub hl [1, 2, 3, 0, 4] rfl)
            ·
              have q22 : r21.toInt = 0 := i_eq c22
              have h24 : rg 0 0 r21 := t_eqx 0 0 hr21 (rg_k (by decide) : rg 0 0 0) (i_eq c22) (by decide)
              refine lv_aload_n hx hb dX0_follow_68 rfl (lv_at hl 1 rfl) ?_
              refine lv_iload_n hx hb dX0_follow_69 rfl (lv_at hl 2 rfl) ?_
              refine lv_iload hx hb dX0_follow_70 (lv_at hl 0 rfl) ?_
              refine lv_aload_n hx hb dX0_follow_72 rfl (lv_at hl 1 rfl) ?_
              refine r_getr X hT 72 4 76 fk_0_21 rfl rfl (by decide) dX0_follow_73 ?_
              refine lv_iload hx hb dX0_follow_76 (lv_at hl 4 rfl) ?_
              refine lv_iconst (v := 1) hx hb dX0_follow_78 (by decide) ?_
              refine q_iadd hx hb dX0_follow_79 (fun x25 ex25 => ?_)
              obtain ⟨hx25, ax25⟩ := rg_add 1 12 ex25 h10 (rg_k (by decide) : rg 1 1 1) (by decide)
              replace ax25 : x25.toInt = x14_5.toInt + 1 := ax25
              refine r_iald X hT 76 rfl (by decide) (v_in hx25 (by decide)) dX0_follow_80 ?_
              refine e_Vi (As := [.int a_a, .int r19, .int (i3 76 x25.toNatClampNeg)]) (rest := []) X Y hT hS (m_X0_waited_72 hR3 a_a r19 (i3 76 x25.toNatClampNeg) ha_a hr19) mk_X0_waited gm_784 rfl rfl (by decide) hd_X0_waited ⟨rfl, rfl⟩ ⟨Nat.le_of_ble_eq_true rfl, Nat.le_of_ble_eq_true rfl⟩ hl.1 rfl (Nat.le_of_ble_eq_true rfl) dX0_follow_81 ⟨Nat.zero_le _, Nat.zero_le _⟩ (fun r26 i26 g26 H locs hq hT hS => ?_)
              obtain ⟨eh26, hr26⟩ := hq
              rw [(Prod.mk.inj eh26).1, (Prod.mk.inj eh26).2] at hT
              refine lv_istore (lv' := [(4, .int r26), (0, .ref (h 72)), (1, .int a_a), (3, .int a_c), (5, .int x14_5)]) hx hb dX0_follow_84 hl (by decide) rfl (fun ls hl => ?_)
              exact J86_13 r26 _ _ _ hr26 hT hS (lv_sub hl [1, 2, 3, 0, 4] rfl)
  exact L14_2 _ a_b (0) i1 g _ _ _ (rg_w ha_b (by decide) : rg 0 99 a_b) (rg_w (rg_k (by decide) : rg 0 0 0) (by decide) : rg 0 12 0) hR1 hF1 hT hS (lv_sub hl [2, 3, 5, 1, 0] rfl) (Nat.lt_succ_self _)
set_option maxRecDepth 100000 in
set_option maxHeartbeats 4000000 in
theorem m_X0_readFor_72 {l : Launch} {D : va_G} {h : Nat → Nat} {cz : Nat → ClassId} {z : EZ} {i : Nat → Nat → Int32} {g : Nat → Nat → Int64} (hR : Rg rA i) (a_a : Int32) (ha_a : rg 0 5 a_a) : DtI l yX0_readFor cX0_readFor 3 (some .int) ({ frames := 3, cells := 0, slots := 0, locals := 89 } : Room) D h cz z i g [.ref (h 72), .int a_a] (fun r u => Rg rA u.1 ∧ Fr [78] [] i g u ∧ rg (-1) 60 r) := by
  refine e_I pn_X0_readFor (Nat.le_of_ble_eq_true rfl) ?_
  intro p e s m args below meth c ls Q X Y hret hT hl hS
  have hx := X.1
  have hb := X.2.1
  have hl : lv_has ls 3 [(0, .ref (h 72)), (1, .int a_a)] := hl
  have hF : Fr [78] [] i g (i, g) := Fr_rf _ _ _ _
  refine lv_aload_n hx hb dX0_readFor_0 rfl (lv_at hl 0 rfl) ?_
  refine r_getr X hT 72 5 77 fk_0_24 rfl rfl (by decide) dX0_readFor_1 ?_
  refine lv_iload_n hx hb dX0_readFor_4 rfl (lv_at hl 1 rfl) ?_
  refine r_iald X hT 77 rfl (by decide) (v_in ha_a (by decide)) dX0_readFor_5 ?_
  refine lv_istore_n (lv' := [(2, .int (i 77 a_a.toNatClampNeg)), (0, .ref (h 72)), (1, .int a_a)]) hx hb dX0_readFor_6 rfl hl (by decide) rfl (fun ls hl => ?_)
  refine lv_iload_n hx hb dX0_readFor_7 rfl (lv_at hl 0 rfl) ?_
  refine lv_iconst (v := (-1)) hx hb dX0_readFor_8 (by decide) ?_
  refine lv_icmp_ne (tgt := 14) hx hb dX0_readFor_9 (by decide) (fun c1 => ?_) (fun c1 => ?_)
  ·
    have q1 : ¬ (i 77 a_a.toNatClampNeg).toInt = (-1) := i_ne c1
    refine lv_iconst (v := 0) hx hb dX0_readFor_14 (by decide) ?_
    refine lv_aload_n hx hb dX0_readFor_15 rfl (lv_at hl 1 rfl) ?_
    refine r_getr X hT 72 0 15 fk_0_30 rfl rfl (by decide) dX0_readFor_16 ?_
    refine r_getr X hT 15 0 16 fk_0_128 rfl rfl (by decide) dX0_readFor_19 ?_
    refine lv_iload_n hx hb dX0_readFor_22 rfl (lv_at hl 2 rfl) ?_
    refine r_iald X hT 16 rfl (by decide) (v_in ha_a (by decide)) dX0_readFor_23 ?_
    refine lv_aload_n hx hb dX0_readFor_24 rfl (lv_at hl 1 rfl) ?_
    refine lv_iload_n hx hb dX0_readFor_25 rfl (lv_at hl 2 rfl) ?_
    refine lv_aload_n hx hb dX0_readFor_26 rfl (lv_at hl 1 rfl) ?_
    refine r_getr X hT 72 0 15 fk_0_30 rfl rfl (by decide) dX0_readFor_27 ?_
    refine r_getr X hT 15 2 18 fk_0_99 rfl rfl (by decide) dX0_readFor_30 ?_
    refine lv_iload_n hx hb dX0_readFor_33 rfl (lv_at hl 2 rfl) ?_
    refine r_iald X hT 18 rfl (by decide) (v_in ha_a (by decide)) dX0_readFor_34 ?_
    refine lv_iload_n hx hb dX0_readFor_35 rfl (lv_at hl 0 rfl) ?_
    refine lv_iconst (v := 1) hx hb dX0_readFor_36 (by decide) ?_
    refine q_iadd hx hb dX0_readFor_37 (fun x2 ex2 => ?_)
    refine e_Vi (As := [.int a_a, .int (i 18 a_a.toNatClampNeg), .int x2]) (rest := [.int (i 16 a_a.toNatClampNeg), .int 0]) X Y hT hS (m_X0_follow_72 hR a_a (i 18 a_a.toNatClampNeg) x2 ha_a (Rg_at hR 18 a_a.toNatClampNeg 0 60 (v_lt (v_in ha_a (by decide))) rfl)) mk_X0_follow gm_773 rfl rfl (by decide) hd_X0_follow ⟨rfl, rfl⟩ ⟨Nat.le_of_ble_eq_true rfl, Nat.le_of_ble_eq_true rfl⟩ hl.1 rfl (Nat.le_of_ble_eq_true rfl) dX0_readFor_38 ⟨Nat.zero_le _, Nat.zero_le _⟩ (fun r3 i3 g3 H locs hq hT hS => ?_)
    obtain ⟨hR3, hf3, hr3⟩ := hq
    have hF3 := Fr_tr hF hf3 (by decide)
    refine q_isub hx hb dX0_readFor_41 (fun x4 ex4 => ?_)
    obtain ⟨hx4, ax4⟩ := rg_sub (-99) 60 ex4 (Rg_at hR 16 a_a.toNatClampNeg 0 60 (v_lt (v_in ha_a (by decide))) rfl) hr3 (by decide)
    replace ax4 : x4.toInt = (i 16 a_a.toNatClampNeg).toInt - r3.toInt := ax4
    refine e_mmax X hl.1 gm_781 gm_782 gm_118 mw_e_mmax (Nat.le_of_ble_eq_true rfl) (Nat.le_of_ble_eq_true rfl) ⟨Nat.zero_le _, Nat.zero_le _⟩ dX0_readFor_42 (fun x5 ex5 => ?_)
    have h6 : rg 0 60 x5 := rg_mx ex5 (rg_k (by decide) : rg 0 0 0) hx4 (by decide)
    exact hret x5 _ _ _ _ _ _ dX0_readFor_45 hT hS ⟨hR3, hF3, (rg_w h6 (by decide) : rg (-1) 60 x5)⟩
  ·
    have q1 : (i 77 a_a.toNatClampNeg).toInt = (-1) := i_eq c1
    have h7 : rg (-1) (-1) (i 77 a_a.toNatClampNeg) := t_eqx (-1) (-1) (rg_top (i 77 a_a.toNatClampNeg)) (rg_k (by decide) : rg (-1) (-1) (-1)) (i_eq c1) (by decide)
    refine lv_iconst (v := (-1)) hx hb dX0_readFor_12 (by decide) ?_
    exact hret (-1) _ _ _ _ _ _ dX0_readFor_13 hT hS ⟨hR, hF, (rg_w (rg_k (by decide) : rg (-1) (-1) (-1)) (by decide) : rg (-1) 60 (-1))⟩
set_option maxRecDepth 100000 in
set_option maxHeartbeats 4000000 in
theorem m_X0_readInAll_72 {l : Launch} {D : va_G} {h : Nat → Nat} {cz : Nat → ClassId} {z : EZ} {i : Nat → Nat → Int32} {g : Nat → Nat → Int64} (hR : Rg rA i) : DtI l yX0_readInAll cX0_readInAll 3 (some .int) ({ frames := 4, cells := 0, slots := 0, locals := 111 } : Room) D h cz z i g [.ref (h 72)] (fun r u => Rg rA u.1 ∧ Fr [78] [] i g u) := by
  refine e_I pn_X0_readInAll (Nat.le_of_ble_eq_true rfl) ?_
  intro p e s m args below meth c ls Q X Y hret hT hl hS
  have hx := X.1
  have hb := X.2.1
  have hl : lv_has ls 3 [(0, .ref (h 72))] := hl
  have hF : Fr [78] [] i g (i, g) := Fr_rf _ _ _ _
  refine lv_iconst (v := 0) hx hb dX0_readInAll_0 (by decide) ?_
  refine lv_istore_n (lv' := [(1, .int 0), (0, .ref (h 72))]) hx hb dX0_readInAll_1 rfl hl (by decide) rfl (fun ls hl => ?_)
  refine lv_iconst (v := 0) hx hb dX0_readInAll_2 (by decide) ?_
  refine lv_istore_n (lv' := [(2, .int 0), (1, .int 0), (0, .ref (h 72))]) hx hb dX0_readInAll_3 rfl hl (by decide) rfl (fun ls hl => ?_)
  have L4_1 : ∀ (n3_ : Nat) (x4_1 : Int32) (x4_2 : Int32) (i2 : Nat → Nat → Int32) (g2 : Nat → Nat → Int64) (H : Heap) (locs : List Loc) (ls : Array Slot), rg 0 6 x4_2 → Rg rA i2 → Fr [78] [] i g (i2, g2) → TH D h cz i2 g2 H → va_S (hA h) s.heap H locs → lv_has ls 3 [(0, .ref (h 72)), (1, .int x4_1), (2, .int x4_2)] → (6 - x4_2.toInt).toNat < n3_ → W p l e ({ frames := 4, cells := 0, slots := 0, locals := 111 } : Room) s m args below meth c H locs 0 0 Q (F0 m 4 ls []) := by
    intro n3_
    induction n3_ with
    | zero => intro x4_1 x4_2 i2 g2 H locs ls hhx4_2 hR2 hF2 hT hS hl hm3_; exact absurd hm3_ (Nat.not_lt_zero _)
    | succ n3_ ih3_ =>
      intro x4_1 x4_2 i2 g2 H locs ls hhx4_2 hR2 hF2 hT hS hl hm3_
      refine lv_iload_n hx hb dX0_readInAll_4 rfl (lv_at hl 2 rfl) ?_
      refine lv_aload_n hx hb dX0_readInAll_5 rfl (lv_at hl 0 rfl) ?_
      refine r_getr X hT 72 0 15 fk_0_30 rfl rfl (by decide) dX0_readInAll_6 ?_
      refine r_geti X hT 15 13 fk_0_44 rfl rfl (by decide) dX0_readInAll_9 ?_
      refine lv_icmp_ge (tgt := 33) hx hb dX0_readInAll_12 (by decide) (fun c4 => ?_) (fun c4 => ?_)
      ·
        have q4 : (i2 15 13).toInt ≤ x4_2.toInt := i_le c4
        refine lv_iload_n hx hb dX0_readInAll_33 rfl (lv_at hl 1 rfl) ?_
        exact hret x4_1 _ _ _ _ _ _ dX0_readInAll_34 hT hS ⟨hR2, hF2⟩
      ·
        have q4 : x4_2.toInt < (i2 15 13).toInt := i_nle c4
        have h5 : rg 0 5 x4_2 := t_ltx 0 5 hhx4_2 (Rg_at hR2 15 13 0 6 (by decide) rfl) (i_nle c4) (by decide)
        have h6 : rg 1 6 (i2 15 13) := t_lty 1 6 hhx4_2 (Rg_at hR2 15 13 0 6 (by decide) rfl) (i_nle c4) (by decide)
        refine lv_iload_n hx hb dX0_readInAll_15 rfl (lv_at hl 1 rfl) ?_
        refine lv_iconst (v := 0) hx hb dX0_readInAll_16 (by decide) ?_
        refine lv_aload_n hx hb dX0_readInAll_17 rfl (lv_at hl 0 rfl) ?_
        refine lv_iload_n hx hb dX0_readInAll_18 rfl (lv_at hl 2 rfl) ?_
        refine e_Vi (As := [.int x4_2]) (rest := [.int 0, .int x4_1]) X Y hT hS (m_X0_readFor_72 hR2 x4_2 h5) mk_X0_readFor gm_835 rfl rfl (by decide) hd_X0_readFor ⟨rfl, rfl⟩ ⟨Nat.le_of_ble_eq_true rfl, Nat.le_of_ble_eq_true rfl⟩ hl.1 rfl (Nat.le_of_ble_eq_true rfl) dX0_readInAll_19 ⟨Nat.zero_le _, Nat.zero_le _⟩ (fun r7 i7 g7 H locs hq hT hS => ?_)
        obtain ⟨hR7, hf7, hr7⟩ := hq
        have hF7 := Fr_tr hF2 hf7 (by decide)
        refine e_mmax X hl.1 gm_781 gm_782 gm_118 mw_e_mmax (Nat.le_of_ble_eq_true rfl) (Nat.le_of_ble_eq_true rfl) ⟨Nat.zero_le _, Nat.zero_le _⟩ dX0_readInAll_22 (fun x8 ex8 => ?_)
        have h9 : rg 0 60 x8 := rg_mx ex8 (rg_k (by decide) : rg 0 0 0) hr7 (by decide)
        refine q_iadd hx hb dX0_readInAll_25 (fun x10 ex10 => ?_)
        refine lv_istore_n (lv' := [(1, .int x10), (0, .ref (h 72)), (2, .int x4_2)]) hx hb dX0_readInAll_26 rfl hl (by decide) rfl (fun ls hl => ?_)
        obtain ⟨x11, ex11⟩ : ∃ y : Int32, y = x4_2 + 1 := ⟨_, rfl⟩
        refine lv_iinc (v := x11) (lv' := [(2, .int x11), (1, .int x10), (0, .ref (h 72))]) hx hb dX0_readInAll_27 hl (k := 2) rfl (by rw [ex11]; rfl) (by decide) rfl (fun ls hl => ?_)
        obtain ⟨hx11, ax11⟩ := rg_add 1 6 ex11 h5 (rg_k (by decide) : rg 1 1 1) (by decide)
        replace ax11 : x11.toInt = x4_2.toInt + 1 := ax11
        refine lv_goto (tgt := 4) hx hb dX0_readInAll_30 (by decide) ?_
        exact ih3_ x10 x11 i7 g7 _ _ _ (rg_w hx11 (by decide) : rg 0 6 x11) hR7 hF7 hT hS (lv_sub hl [2, 1, 0] rfl) (m_up ax11 hx11 (by decide) hm3_)
  exact L4_1 _ (0) (0) i g _ _ _ (rg_w (rg_k (by decide) : rg 0 0 0) (by decide) : rg 0 6 0) hR hF hT hS (lv_sub hl [2, 1, 0] rfl) (Nat.lt_succ_self _)
set_option maxRecDepth 100000 in
set_option maxHeartbeats 4000000 in
theorem m_X8_setWorth {l : Launch} {D : va_G} {h : Nat → Nat} {cz : Nat → ClassId} {z : EZ} {i : Nat → Nat → Int32} {g : Nat → Nat → Int64} (hR : Rg rA i) (a_a : Int32) : DtI l yX8_setWorth cX8_setWorth 2 (some .int) ({ frames := 5, cells := 0, slots := 0, locals := 133 } : Room) D h cz z i g [.ref (h 0), .int a_a] (fun r u => Rg rA u.1 ∧ Fr [72, 75, 76, 77, 78] [] i g u) := by
  refine e_I pn_X8_setWorth (Nat.le_of_ble_eq_true rfl) ?_
  intro p e s m args below meth c ls Q X Y hret hT hl hS
  have hx := X.1
  have hb := X.2.1
  have hl : lv_has ls 2 [(0, .ref (h 0)), (1, .int a_a)] := hl
  have hF : Fr [72, 75, 76, 77, 78] [] i g (i, g) := Fr_rf _ _ _ _
  refine lv_aload_n hx hb dX8_setWorth_0 rfl (lv_at hl 0 rfl) ?_
  refine r_getr X hT 0 8 72 fk_8_59 rfl rfl (by decide) dX8_setWorth_1 ?_
  refine lv_iload_n hx hb dX8_setWorth_4 rfl (lv_at hl 1 rfl) ?_
  refine lv_iconst (v := 0) hx hb dX8_setWorth_5 (by decide) ?_
  refine e_Vv (As := [.int a_a, .int 0]) (rest := []) X Y hT hS (m_X0_unfoldBy_72 hR a_a (0)) mk_X0_unfoldBy gm_975 rfl rfl (by decide) hd_X0_unfoldBy ⟨rfl, rfl⟩ ⟨Nat.le_of_ble_eq_true rfl, Nat.le_of_ble_eq_true rfl⟩ hl.1 rfl (Nat.le_of_ble_eq_true rfl) dX8_setWorth_6 ⟨Nat.zero_le _, Nat.zero_le _⟩ (fun i1 g1 H locs hq hT hS => ?_)
  obtain ⟨hR1, hf1⟩ := hq
  have hF1 := Fr_tr hF hf1 (by decide)
  refine lv_aload_n hx hb dX8_setWorth_9 rfl (lv_at hl 0 rfl) ?_
  refine r_getr X hT 0 8 72 fk_8_59 rfl rfl (by decide) dX8_setWorth_10 ?_
  refine e_Vi (As := []) (rest := []) X Y hT hS (m_X0_readInAll_72 hR1) mk_X0_readInAll gm_840 rfl rfl (by decide) hd_X0_readInAll ⟨rfl, rfl⟩ ⟨Nat.le_of_ble_eq_true rfl, Nat.le_of_ble_eq_true rfl⟩ hl.1 rfl (Nat.le_of_ble_eq_true rfl) dX8_setWorth_13 ⟨Nat.zero_le _, Nat.zero_le _⟩ (fun r2 i2 g2 H locs hq hT hS => ?_)
  obtain ⟨hR2, hf2⟩ := hq
  have hF2 := Fr_tr hF1 hf2 (by decide)
  exact hret r2 _ _ _ _ _ _ dX8_setWorth_16 hT hS ⟨hR2, hF2⟩
set_option maxRecDepth 100000 in
set_option maxHeartbeats 4000000 in
theorem m_X8_worth {l : Launch} {D : va_G} {h : Nat → Nat} {cz : Nat → ClassId} {z : EZ} {i : Nat → Nat → Int32} {g : Nat → Nat → Int64} (hR : Rg rA i) (a_a : Int32) : DtI l yX8_worth cX8_worth 2 (some .int) ({ frames := 6, cells := 0, slots := 0, locals := 154 } : Room) D h cz z i g [.ref (h 0), .int a_a] (fun r u => Rg rA u.1 ∧ Fr [72, 73, 74, 75, 76, 77, 78] [] i g u) := by
  refine e_I pn_X8_worth (Nat.le_of_ble_eq_true rfl) ?_
  intro p e s m args below meth c ls Q X Y hret hT hl hS
  have hx := X.1
  have hb := X.2.1
  have hl : lv_has ls 2 [(0, .ref (h 0)), (1, .int a_a)] := hl
  have hF : Fr [72, 73, 74, 75, 76, 77, 78] [] i g (i, g) := Fr_rf _ _ _ _
  refine lv_aload_n hx hb dX8_worth_0 rfl (lv_at hl 0 rfl) ?_
  refine r_getr X hT 0 3 15 fk_8_32 rfl rfl (by decide) dX8_worth_1 ?_
  refine e_Vi (As := []) (rest := []) X Y hT hS (m_X6_isTold_15 hR) mk_X6_isTold gm_698 rfl rfl (by decide) hd_X6_isTold ⟨rfl, rfl⟩ ⟨Nat.le_of_ble_eq_true rfl, Nat.le_of_ble_eq_true rfl⟩ hl.1 rfl (Nat.le_of_ble_eq_true rfl) dX8_worth_4 ⟨Nat.zero_le _, Nat.zero_le _⟩ (fun r1 i1 g1 H locs hq hT hS => ?_)
  obtain ⟨eh1, hr1⟩ := hq
  rw [(Prod.mk.inj eh1).1, (Prod.mk.inj eh1).2] at hT
  refine lv_if_eq (tgt := 25) hx hb dX8_worth_7 (by decide) (fun c2 => ?_) (fun c2 => ?_)
  ·
    have q2 : r1.toInt = 0 := i_eq c2
    have h3 : rg 0 0 r1 := t_eqx 0 0 hr1 (rg_k (by decide) : rg 0 0 0) (i_eq c2) (by decide)
    refine lv_bipush (v := (-2)) hx hb dX8_worth_25 (by decide) ?_
    exact hret (-2) _ _ _ _ _ _ dX8_worth_27 hT hS ⟨hR, hF⟩
  ·
    have q2 : ¬ r1.toInt = 0 := i_ne c2
    have h4 : rg 1 1 r1 := t_nelo 1 hr1 (rg_k (by decide) : rg 0 0 0) (i_ne c2) (by decide)
    refine lv_iload_n hx hb dX8_worth_10 rfl (lv_at hl 1 rfl) ?_
    refine lv_if_lt (tgt := 25) hx hb dX8_worth_11 (by decide) (fun c5 => ?_) (fun c5 => ?_)
    ·
      have q5 : a_a.toInt < 0 := i_lt c5
      have h6 : rg (-2147483648) (-1) a_a := t_ltx (-2147483648) (-1) (rg_top a_a) (rg_k (by decide) : rg 0 0 0) (i_lt c5) (by decide)
      refine lv_bipush (v := (-2)) hx hb dX8_worth_25 (by decide) ?_
      exact hret (-2) _ _ _ _ _ _ dX8_worth_27 hT hS ⟨hR, hF⟩
    ·
      have q5 : 0 ≤ a_a.toInt := i_nlt c5
      have h7 : rg 0 2147483647 a_a := t_ley 0 2147483647 (rg_k (by decide) : rg 0 0 0) (rg_top a_a) (i_nlt c5) (by decide)
      refine lv_iload_n hx hb dX8_worth_14 rfl (lv_at hl 1 rfl) ?_
      refine lv_aload_n hx hb dX8_worth_15 rfl (lv_at hl 0 rfl) ?_
      refine r_getr X hT 0 3 15 fk_8_32 rfl rfl (by decide) dX8_worth_16 ?_
      refine e_Vi (As := []) (rest := [.int a_a]) X Y hT hS (m_X6_everyPart_15 hR) mk_X6_everyPart gm_913 rfl rfl (by decide) hd_X6_everyPart ⟨rfl, rfl⟩ ⟨Nat.le_of_ble_eq_true rfl, Nat.le_of_ble_eq_true rfl⟩ hl.1 rfl (Nat.le_of_ble_eq_true rfl) dX8_worth_19 ⟨Nat.zero_le _, Nat.zero_le _⟩ (fun r8 i8 g8 H locs hq hT hS => ?_)
      obtain ⟨eh8, hr8⟩ := hq
      rw [(Prod.mk.inj eh8).1, (Prod.mk.inj eh8).2] at hT
      refine lv_icmp_le (tgt := 28) hx hb dX8_worth_22 (by decide) (fun c9 => ?_) (fun c9 => ?_)
      ·
        have q9 : a_a.toInt ≤ r8.toInt := i_le c9
        have h10 : rg 0 63 a_a := t_lex 0 63 h7 hr8 (i_le c9) (by decide)
        refine lv_aload_n hx hb dX8_worth_28 rfl (lv_at hl 0 rfl) ?_
        refine r_getr X hT 0 8 72 fk_8_59 rfl rfl (by decide) dX8_worth_29 ?_
        refine lv_iconst (v := (-1)) hx hb dX8_worth_32 (by decide) ?_
        refine e_Vv (As := [.int (-1)]) (rest := []) X Y hT hS (m_X0_begin_72 hR ((-1))) mk_X0_begin gm_740 rfl rfl (by decide) hd_X0_begin ⟨rfl, rfl⟩ ⟨Nat.le_of_ble_eq_true rfl, Nat.le_of_ble_eq_true rfl⟩ hl.1 rfl (Nat.le_of_ble_eq_true rfl) dX8_worth_33 ⟨Nat.zero_le _, Nat.zero_le _⟩ (fun i11 g11 H locs hq hT hS => ?_)
        obtain ⟨hR11, hf11⟩ := hq
        have hF11 := Fr_tr hF hf11 (by decide)
        refine lv_aload_n hx hb dX8_worth_36 rfl (lv_at hl 0 rfl) ?_
        refine lv_iload_n hx hb dX8_worth_37 rfl (lv_at hl 1 rfl) ?_
        refine e_Vi (As := [.int a_a]) (rest := []) X Y hT hS (m_X8_setWorth hR11 a_a) mk_X8_setWorth gm_971 rfl rfl (by decide) hd_X8_setWorth ⟨rfl, rfl⟩ ⟨Nat.le_of_ble_eq_true rfl, Nat.le_of_ble_eq_true rfl⟩ hl.1 rfl (Nat.le_of_ble_eq_true rfl) dX8_worth_38 ⟨Nat.zero_le _, Nat.zero_le _⟩ (fun r12 i12 g12 H locs hq hT hS => ?_)
        obtain ⟨hR12, hf12⟩ := hq
        have hF12 := Fr_tr hF11 hf12 (by decide)
        exact hret r12 _ _ _ _ _ _ dX8_worth_41 hT hS ⟨hR12, hF12⟩
      ·
        have q9 : r8.toInt < a_a.toInt := i_nle c9
        have h13 : rg 1 2147483647 a_a := t_lty 1 2147483647 hr8 h7 (i_nle c9) (by decide)
        refine lv_bipush (v := (-2)) hx hb dX8_worth_25 (by decide) ?_
        exact hret (-2) _ _ _ _ _ _ dX8_worth_27 hT hS ⟨hR, hF⟩
set_option maxRecDepth 100000 in
set_option maxHeartbeats 4000000 in
theorem m_X8_isAboveOrBelow {l : Launch} {D : va_G} {h : Nat → Nat} {cz : Nat → ClassId} {z : EZ} {i : Nat → Nat → Int32} {g : Nat → Nat → Int64} (a_a : Int32) : DtI l yX8_isAboveOrBelow cX8_isAboveOrBelow 1 (some .boolean) ({ frames := 0, cells := 0, slots := 0, locals := 0 } : Room) D h cz z i g [.int a_a] (fun r u => (u = (i, g) ∧ r = 1 ∧ rg 0 1 a_a) ∨ (u = (i, g) ∧ r = 0)) := by
  refine e_Z (fun v u hq => (hq.elim (fun hq => (Or.inr hq.2.1)) (fun hq => (Or.inl hq.2)))) pn_X8_isAboveOrBelow (Nat.le_of_ble_eq_true rfl) ?_
  intro p e s m args below meth c ls Q X Y hret hT hl hS
  have hx := X.1
  have hb := X.2.1
  have hl : lv_has ls 1 [(0, .int a_a)] := hl
  refine lv_iload_n hx hb dX8_isAboveOrBelow_0 rfl (lv_at hl 0 rfl) ?_
  refine lv_if_eq (tgt := 9) hx hb dX8_isAboveOrBelow_1 (by decide) (fun c1 => ?_) (fun c1 => ?_)
  ·
    have q1 : a_a.toInt = 0 := i_eq c1
    have h2 : rg 0 0 a_a := t_eqx 0 0 (rg_top a_a) (rg_k (by decide) : rg 0 0 0) (i_eq c1) (by decide)
    refine lv_iconst (v := 1) hx hb dX8_isAboveOrBelow_9 (by decide) ?_
    refine lv_goto (tgt := 14) hx hb dX8_isAboveOrBelow_10 (by decide) ?_
    exact hret 1 _ _ _ _ _ _ dX8_isAboveOrBelow_14 hT hS (Or.inl ⟨rfl, rfl, (rg_w h2 (by decide) : rg 0 1 a_a)⟩)
  ·
    have q1 : ¬ a_a.toInt = 0 := i_ne c1
    refine lv_iload_n hx hb dX8_isAboveOrBelow_4 rfl (lv_at hl 0 rfl) ?_
    refine lv_iconst (v := 1) hx hb dX8_isAboveOrBelow_5 (by decide) ?_
    refine lv_icmp_ne (tgt := 13) hx hb dX8_isAboveOrBelow_6 (by decide) (fun c3 => ?_) (fun c3 => ?_)
    ·
      have q3 : ¬ a_a.toInt = 1 := i_ne c3
      refine lv_iconst (v := 0) hx hb dX8_isAboveOrBelow_13 (by decide) ?_
      exact hret 0 _ _ _ _ _ _ dX8_isAboveOrBelow_14 hT hS (Or.inr ⟨rfl, rfl⟩)
    ·
      have q3 : a_a.toInt = 1 := i_eq c3
      have h4 : rg 1 1 a_a := t_eqx 1 1 (rg_top a_a) (rg_k (by decide) : rg 1 1 1) (i_eq c3) (by decide)
      refine lv_iconst (v := 1) hx hb dX8_isAboveOrBelow_9 (by decide) ?_
      refine lv_goto (tgt := 14) hx hb dX8_isAboveOrBelow_10 (by decide) ?_
      exact hret 1 _ _ _ _ _ _ dX8_isAboveOrBelow_14 hT hS (Or.inl ⟨rfl, rfl, (rg_w h4 (by decide) : rg 0 1 a_a)⟩)
set_option maxRecDepth 100000 in
set_option maxHeartbeats 4000000 in
theorem m_X8_factorial {l : Launch} {D : va_G} {h : Nat → Nat} {cz : Nat → ClassId} {z : EZ} {i : Nat → Nat → Int32} {g : Nat → Nat → Int64} (a_a : Int32) : DtI l yX8_factorial cX8_factorial 1 (some .int) ({ frames := 0, cells := 0, slots := 0, locals := 0 } : Room) D h cz z i g [.int a_a] (fun r u => u = (i, g)) := by
  refine e_I pn_X8_factorial (Nat.le_of_ble_eq_true rfl) ?_
  intro p e s m args below meth c ls Q X Y hret hT hl hS
  have hx := X.1
  have hb := X.2.1
  have hl : lv_has ls 1 [(0, .int a_a)] := hl
  refine lv_iload_n hx hb dX8_factorial_0 rfl (lv_at hl 0 rfl) ?_
  refine lv_if_lt (tgt := 20) hx hb dX8_factorial_1 (by decide) (fun c1 => ?_) (fun c1 => ?_)
  ·
    have q1 : a_a.toInt < 0 := i_lt c1
    have h2 : rg (-2147483648) (-1) a_a := t_ltx (-2147483648) (-1) (rg_top a_a) (rg_k (by decide) : rg 0 0 0) (i_lt c1) (by decide)
    refine lv_iconst (v := 1) hx hb dX8_factorial_20 (by decide) ?_
    exact hret 1 _ _ _ _ _ _ dX8_factorial_21 hT hS rfl
  ·
    have q1 : 0 ≤ a_a.toInt := i_nlt c1
    have h3 : rg 0 2147483647 a_a := t_ley 0 2147483647 (rg_k (by decide) : rg 0 0 0) (rg_top a_a) (i_nlt c1) (by decide)
    refine lv_iload_n hx hb dX8_factorial_4 rfl (lv_at hl 0 rfl) ?_
    refine va_gets hx hb Y.facZ hS X.2.2.2.1 (X.2.2.2.2.1 _ gm_990) (fun _ q => q) dX8_factorial_5 ?_
    refine va_tlen (v := 7) hx hb Y.facT hS (by decide) dX8_factorial_8 ?_
    refine lv_icmp_ge (tgt := 20) hx hb dX8_factorial_9 (by decide) (fun c4 => ?_) (fun c4 => ?_)
    ·
      have q4 : 7 ≤ a_a.toInt := i_le c4
      have h5 : rg 7 2147483647 a_a := t_ley 7 2147483647 (rg_k (by decide) : rg 7 7 7) h3 (i_le c4) (by decide)
      refine lv_iconst (v := 1) hx hb dX8_factorial_20 (by decide) ?_
      exact hret 1 _ _ _ _ _ _ dX8_factorial_21 hT hS rfl
    ·
      have q4 : a_a.toInt < 7 := i_nle c4
      have h6 : rg 0 6 a_a := t_ltx 0 6 h3 (rg_k (by decide) : rg 7 7 7) (i_nle c4) (by decide)
      refine va_gets hx hb Y.facZ hS X.2.2.2.1 (X.2.2.2.2.1 _ gm_990) (fun _ q => q) dX8_factorial_12 ?_
      refine lv_iload_n hx hb dX8_factorial_15 rfl (lv_at hl 0 rfl) ?_
      refine e_fac hx hb Y hS (v_in h6 (by decide)) dX8_factorial_16 (fun x7 => ?_)
      refine lv_goto (tgt := 21) hx hb dX8_factorial_17 (by decide) ?_
      exact hret x7 _ _ _ _ _ _ dX8_factorial_21 hT hS rfl
set_option maxRecDepth 100000 in
set_option maxHeartbeats 4000000 in
theorem m_X8_greatestDivisor {l : Launch} {D : va_G} {h : Nat → Nat} {cz : Nat → ClassId} {z : EZ} {i : Nat → Nat → Int32} {g : Nat → Nat → Int64} (a_a : Int64) (a_b : Int64) : DtL l yX8_greatestDivisor cX8_greatestDivisor 11 (some .long) ({ frames := 0, cells := 0, slots := 0, locals := 0 } : Room) D h cz z i g [.long a_a, .long a_b] (fun r u => u = (i, g)) := by
  refine e_L pn_X8_greatestDivisor (Nat.le_of_ble_eq_true rfl) ?_
  intro p e s m args below meth c ls Q X Y hret hT hl hS
  have hx := X.1
  have hb := X.2.1
  have hl : lv_has ls 11 [(0, .long a_a), (2, .long a_b)] := hl
  refine lv_lload_n hx hb dX8_greatestDivisor_0 rfl (lv_at hl 0 rfl) ?_
  refine lv_lstore (lv' := [(4, .long a_a), (0, .long a_a), (2, .long a_b)]) hx hb dX8_greatestDivisor_1 hl (by decide) rfl (fun ls hl => ?_)
  refine lv_lload_n hx hb dX8_greatestDivisor_3 rfl (lv_at hl 2 rfl) ?_
  refine lv_lstore (lv' := [(6, .long a_b), (4, .long a_a), (0, .long a_a), (2, .long a_b)]) hx hb dX8_greatestDivisor_4 hl (by decide) rfl (fun ls hl => ?_)
  refine lv_iconst (v := 0) hx hb dX8_greatestDivisor_6 (by decide) ?_
  refine lv_istore (lv' := [(8, .int 0), (6, .long a_b), (4, .long a_a), (0, .long a_a), (2, .long a_b)]) hx hb dX8_greatestDivisor_7 hl (by decide) rfl (fun ls hl => ?_)
  have L9_1 : ∀ (n2_ : Nat) (y9_4 : Int64) (y9_6 : Int64) (x9_8 : Int32) (H : Heap) (locs : List Loc) (ls : Array Slot), rg 0 255 x9_8 → TH D h cz i g H → va_S (hA h) s.heap H locs → lv_has ls 11 [(4, .long y9_4), (6, .long y9_6), (8, .int x9_8)] → (255 - x9_8.toInt).toNat < n2_ → W p l e ({ frames := 0, cells := 0, slots := 0, locals := 0 } : Room) s m args below meth c H locs 0 0 Q (F0 m 9 ls []) := by
    intro n2_
    induction n2_ with
    | zero => intro y9_4 y9_6 x9_8 H locs ls hhx9_8 hT hS hl hm2_; exact absurd hm2_ (Nat.not_lt_zero _)
    | succ n2_ ih2_ =>
      intro y9_4 y9_6 x9_8 H locs ls hhx9_8 hT hS hl hm2_
      refine lv_iload hx hb dX8_greatestDivisor_9 (lv_at hl 2 rfl) ?_
      refine lv_sipush (v := 200) hx hb dX8_greatestDivisor_11 (by decide) ?_
      refine lv_icmp_ge (tgt := 45) hx hb dX8_greatestDivisor_14 (by decide) (fun c3 => ?_) (fun c3 => ?_)
      ·
        have q3 : 200 ≤ x9_8.toInt := i_le c3
        have h4 : rg 200 255 x9_8 := t_ley 200 255 (rg_k (by decide) : rg 200 200 200) hhx9_8 (i_le c3) (by decide)
        refine lv_lload hx hb dX8_greatestDivisor_45 (lv_at hl 0 rfl) ?_
        exact hret y9_4 _ _ _ _ _ _ dX8_greatestDivisor_47 hT hS rfl
      ·
        have q3 : x9_8.toInt < 200 := i_nle c3
        have h5 : rg 0 199 x9_8 := t_ltx 0 199 hhx9_8 (rg_k (by decide) : rg 200 200 200) (i_nle c3) (by decide)
        refine lv_lload hx hb dX8_greatestDivisor_17 (lv_at hl 1 rfl) ?_
        refine lv_lconst (v := 0) hx hb dX8_greatestDivisor_19 (by decide) ?_
        refine W.lcmp hx hb dX8_greatestDivisor_20 ?_
        refine lv_if_eq (tgt := 45) hx hb dX8_greatestDivisor_21 (by decide) (fun c6 => ?_) (fun c6 => ?_)
        ·
          have q6 : y9_6.toInt = 0 := c_eq c6
          have h7 : rgL 0 0 y9_6 := tL_eqx 0 0 (rgL_top y9_6) (rgL_k (by decide) : rgL 0 0 0) (c_eq c6) (by decide)
          refine lv_lload hx hb dX8_greatestDivisor_45 (lv_at hl 0 rfl) ?_
          exact hret y9_4 _ _ _ _ _ _ dX8_greatestDivisor_47 hT hS rfl
        ·
          have q6 : ¬ y9_6.toInt = 0 := c_ne c6
          refine lv_lload hx hb dX8_greatestDivisor_24 (lv_at hl 0 rfl) ?_
          refine lv_lload hx hb dX8_greatestDivisor_26 (lv_at hl 1 rfl) ?_
          refine q_lrem hx hb dX8_greatestDivisor_28 (nz_L0 q6) (fun y8 ey8 => ?_)
          refine lv_lstore (lv' := [(9, .long y8), (4, .long y9_4), (6, .long y9_6), (8, .int x9_8)]) hx hb dX8_greatestDivisor_29 hl (by decide) rfl (fun ls hl => ?_)
          refine lv_lload hx hb dX8_greatestDivisor_31 (lv_at hl 2 rfl) ?_
          refine lv_lstore (lv' := [(4, .long y9_6), (9, .long y8), (6, .long y9_6), (8, .int x9_8)]) hx hb dX8_greatestDivisor_33 hl (by decide) rfl (fun ls hl => ?_)
          refine lv_lload hx hb dX8_greatestDivisor_35 (lv_at hl 1 rfl) ?_
          refine lv_lstore (lv' := [(6, .long y8), (4, .long y9_6), (9, .long y8), (8, .int x9_8)]) hx hb dX8_greatestDivisor_37 hl (by decide) rfl (fun ls hl => ?_)
          obtain ⟨x9, ex9⟩ : ∃ y : Int32, y = x9_8 + 1 := ⟨_, rfl⟩
          refine lv_iinc (v := x9) (lv' := [(8, .int x9), (6, .long y8), (4, .long y9_6), (9, .long y8)]) hx hb dX8_greatestDivisor_39 hl (k := 3) rfl (by rw [ex9]; rfl) (by decide) rfl (fun ls hl => ?_)
          obtain ⟨hx9, ax9⟩ := rg_add 1 200 ex9 h5 (rg_k (by decide) : rg 1 1 1) (by decide)
          replace ax9 : x9.toInt = x9_8.toInt + 1 := ax9
          refine lv_goto (tgt := 9) hx hb dX8_greatestDivisor_42 (by decide) ?_
          exact ih2_ y9_6 y8 x9 _ _ _ (rg_w hx9 (by decide) : rg 0 255 x9) hT hS (lv_sub hl [2, 1, 0] rfl) (m_up ax9 hx9 (by decide) hm2_)
  exact L9_1 _ a_a a_b (0) _ _ _ (rg_w (rg_k (by decide) : rg 0 0 0) (by decide) : rg 0 255 0) hT hS (lv_sub hl [2, 1, 0] rfl) (Nat.lt_succ_self _)
set_option maxRecDepth 100000 in
set_option maxHeartbeats 4000000 in
theorem m_X8_lowestTerms {l : Launch} {D : va_G} {h : Nat → Nat} {cz : Nat → ClassId} {z : EZ} {i : Nat → Nat → Int32} {g : Nat → Nat → Int64} (a_a : Int64) (a_b : Int64) (a_c : Int32) : DtL l yX8_lowestTerms cX8_lowestTerms 7 (some .long) ({ frames := 1, cells := 0, slots := 0, locals := 40 } : Room) D h cz z i g [.long a_a, .long a_b, .int a_c] (fun r u => u = (i, g)) := by
  refine e_L pn_X8_lowestTerms (Nat.le_of_ble_eq_true rfl) ?_
  intro p e s m args below meth c ls Q X Y hret hT hl hS
  have hx := X.1
  have hb := X.2.1
  have hl : lv_has ls 7 [(0, .long a_a), (2, .long a_b), (4, .int a_c)] := hl
  refine lv_lconst (v := 1) hx hb dX8_lowestTerms_0 (by decide) ?_
  refine lv_lload_n hx hb dX8_lowestTerms_1 rfl (lv_at hl 0 rfl) ?_
  refine e_mabsl X hl.1 gm_995 gm_996 gm_118 mw_e_mabsl (Nat.le_of_ble_eq_true rfl) (Nat.le_of_ble_eq_true rfl) ⟨Nat.zero_le _, Nat.zero_le _⟩ dX8_lowestTerms_2 (fun y1 ey1 => ?_)
  refine lv_lload_n hx hb dX8_lowestTerms_5 rfl (lv_at hl 1 rfl) ?_
  refine e_Sl (As := [.long y1, .long a_b]) (rest := [.long 1]) X Y hT hS (m_X8_greatestDivisor y1 a_b) sk_X8_greatestDivisor gm_998 hd_X8_greatestDivisor ⟨rfl, rfl⟩ ⟨Nat.le_of_ble_eq_true rfl, Nat.le_of_ble_eq_true rfl⟩ hl.1 rfl (Nat.le_of_ble_eq_true rfl) dX8_lowestTerms_6 ⟨Nat.zero_le _, Nat.zero_le _⟩ (fun r2 i2 g2 H locs hq hT hS => ?_)
  have eh2 := hq
  rw [(Prod.mk.inj eh2).1, (Prod.mk.inj eh2).2] at hT
  refine e_mmaxl X hl.1 gm_1001 gm_1002 gm_118 mw_e_mmaxl (Nat.le_of_ble_eq_true rfl) (Nat.le_of_ble_eq_true rfl) ⟨Nat.zero_le _, Nat.zero_le _⟩ dX8_lowestTerms_9 (fun y3 ey3 => ?_)
  have h4 : rgL 1 9223372036854775807 y3 := rgL_mx ey3 (rgL_k (by decide) : rgL 1 1 1) (rgL_top r2) (by decide)
  refine lv_lstore (lv' := [(5, .long y3), (0, .long a_a), (2, .long a_b), (4, .int a_c)]) hx hb dX8_lowestTerms_12 hl (by decide) rfl (fun ls hl => ?_)
  refine lv_iload hx hb dX8_lowestTerms_14 (lv_at hl 3 rfl) ?_
  refine lv_if_ne (tgt := 23) hx hb dX8_lowestTerms_16 (by decide) (fun c5 => ?_) (fun c5 => ?_)
  ·
    have q5 : ¬ a_c.toInt = 0 := i_ne c5
    refine lv_lload_n hx hb dX8_lowestTerms_23 rfl (lv_at hl 2 rfl) ?_
    refine lv_lload hx hb dX8_lowestTerms_24 (lv_at hl 0 rfl) ?_
    refine q_ldiv hx hb dX8_lowestTerms_26 (nz_L h4 (by decide)) (fun y6 ey6 => ?_)
    exact hret y6 _ _ _ _ _ _ dX8_lowestTerms_27 hT hS rfl
  ·
    have q5 : a_c.toInt = 0 := i_eq c5
    have h7 : rg 0 0 a_c := t_eqx 0 0 (rg_top a_c) (rg_k (by decide) : rg 0 0 0) (i_eq c5) (by decide)
    refine lv_lload_n hx hb dX8_lowestTerms_19 rfl (lv_at hl 1 rfl) ?_
    refine lv_goto (tgt := 24) hx hb dX8_lowestTerms_20 (by decide) ?_
    refine lv_lload hx hb dX8_lowestTerms_24 (lv_at hl 0 rfl) ?_
    refine q_ldiv hx hb dX8_lowestTerms_26 (nz_L h4 (by decide)) (fun y8 ey8 => ?_)
    exact hret y8 _ _ _ _ _ _ dX8_lowestTerms_27 hT hS rfl
set_option maxRecDepth 100000 in
set_option maxHeartbeats 4000000 in
theorem m_X8_share {l : Launch} {D : va_G} {h : Nat → Nat} {cz : Nat → ClassId} {z : EZ} {i : Nat → Nat → Int32} {g : Nat → Nat → Int64} (hR : Rg rA i) (a_a : Int32) (a_b : Int32) : DtI l yX8_share cX8_share 9 (some .int) ({ frames := 6, cells := 0, slots := 0, locals := 154 } : Room) D h cz z i g [.ref (h 0), .int a_a, .int a_b] (fun r u => Rg rA u.1 ∧ Fr [72, 73, 74, 75, 76, 77, 78] [] i g u) := by
  refine e_I pn_X8_share (Nat.le_of_ble_eq_true rfl) ?_
  intro p e s m args below meth c ls Q X Y hret hT hl hS
  have hx := X.1
  have hb := X.2.1
  have hl : lv_has ls 9 [(0, .ref (h 0)), (1, .int a_a), (2, .int a_b)] := hl
  have hF : Fr [72, 73, 74, 75, 76, 77, 78] [] i g (i, g) := Fr_rf _ _ _ _
  refine lv_aload_n hx hb dX8_share_0 rfl (lv_at hl 0 rfl) ?_
  refine r_getr X hT 0 3 15 fk_8_32 rfl rfl (by decide) dX8_share_1 ?_
  refine lv_iload_n hx hb dX8_share_4 rfl (lv_at hl 1 rfl) ?_
  refine e_Vi (As := [.int a_a]) (rest := []) X Y hT hS (m_X6_hasPart_15 hR a_a) mk_X6_hasPart gm_669 rfl rfl (by decide) hd_X6_hasPart ⟨rfl, rfl⟩ ⟨Nat.le_of_ble_eq_true rfl, Nat.le_of_ble_eq_true rfl⟩ hl.1 rfl (Nat.le_of_ble_eq_true rfl) dX8_share_5 ⟨Nat.zero_le _, Nat.zero_le _⟩ (fun r1 i1 g1 H locs hq hT hS => ?_)
  rcases hq with hq | hq
  ·
    obtain ⟨eh1, rfl, hf1_0⟩ := hq
    rw [(Prod.mk.inj eh1).1, (Prod.mk.inj eh1).2] at hT
    have h2 : rg 0 5 a_a := ⟨by have := (rg_top a_a).1; have := hf1_0.1; omega, by have := (rg_top a_a).2; have := hf1_0.2; omega⟩
    refine lv_if_eq (tgt := 18) hx hb dX8_share_8 (by decide) (fun c3 => (x_eq (rg_k (by decide) : rg 1 1 1) (rg_k (by decide) : rg 0 0 0) (i_eq c3) (by decide)).elim) (fun c3 => ?_)
    refine lv_iload_n hx hb dX8_share_11 rfl (lv_at hl 2 rfl) ?_
    refine e_Si (As := [.int a_b]) (rest := []) X Y hT hS (m_X8_isAboveOrBelow a_b) sk_X8_isAboveOrBelow gm_983 hd_X8_isAboveOrBelow ⟨rfl, rfl⟩ ⟨Nat.le_of_ble_eq_true rfl, Nat.le_of_ble_eq_true rfl⟩ hl.1 rfl (Nat.le_of_ble_eq_true rfl) dX8_share_12 ⟨Nat.zero_le _, Nat.zero_le _⟩ (fun r4 i4 g4 H locs hq hT hS => ?_)
    rcases hq with hq | hq
    ·
      obtain ⟨eh4, rfl, hf4_0⟩ := hq
      rw [(Prod.mk.inj eh4).1, (Prod.mk.inj eh4).2] at hT
      have h5 : rg 0 1 a_b := ⟨by have := (rg_top a_b).1; have := hf4_0.1; omega, by have := (rg_top a_b).2; have := hf4_0.2; omega⟩
      refine lv_if_ne (tgt := 22) hx hb dX8_share_15 (by decide) (fun c6 => ?_) (fun c6 => (x_eq (rg_k (by decide) : rg 1 1 1) (rg_k (by decide) : rg 0 0 0) (i_eq c6) (by decide)).elim)
      refine lv_aload_n hx hb dX8_share_22 rfl (lv_at hl 0 rfl) ?_
      refine r_getr X hT 0 8 72 fk_8_59 rfl rfl (by decide) dX8_share_23 ?_
      refine lv_iconst (v := (-1)) hx hb dX8_share_26 (by decide) ?_
      refine e_Vv (As := [.int (-1)]) (rest := []) X Y hT hS (m_X0_begin_72 hR ((-1))) mk_X0_begin gm_740 rfl rfl (by decide) hd_X0_begin ⟨rfl, rfl⟩ ⟨Nat.le_of_ble_eq_true rfl, Nat.le_of_ble_eq_true rfl⟩ hl.1 rfl (Nat.le_of_ble_eq_true rfl) dX8_share_27 ⟨Nat.zero_le _, Nat.zero_le _⟩ (fun i7 g7 H locs hq hT hS => ?_)
      obtain ⟨hR7, hf7⟩ := hq
      have hF7 := Fr_tr hF hf7 (by decide)
      refine lv_lconst (v := 0) hx hb dX8_share_30 (by decide) ?_
      refine lv_lstore_n (lv' := [(3, .long 0), (0, .ref (h 0)), (1, .int a_a), (2, .int a_b)]) hx hb dX8_share_31 rfl hl (by decide) rfl (fun ls hl => ?_)
      refine lv_iconst (v := 0) hx hb dX8_share_32 (by decide) ?_
      refine lv_istore (lv' := [(5, .int 0), (3, .long 0), (0, .ref (h 0)), (1, .int a_a), (2, .int a_b)]) hx hb dX8_share_33 hl (by decide) rfl (fun ls hl => ?_)
      have L35_8 : ∀ (n10_ : Nat) (y35_3 : Int64) (x35_5 : Int32) (i9 : Nat → Nat → Int32) (g9 : Nat → Nat → Int64) (H : Heap) (locs : List Loc) (ls : Array Slot), rg 0 64 x35_5 → Rg rA i9 → Fr [72, 73, 74, 75, 76, 77, 78] [] i g (i9, g9) → TH D h cz i9 g9 H → va_S (hA h) s.heap H locs → lv_has ls 9 [(0, .ref (h 0)), (1, .int a_a), (2, .int a_b), (3, .long y35_3), (5, .int x35_5)] → (64 - x35_5.toInt).toNat < n10_ → W p l e ({ frames := 6, cells := 0, slots := 0, locals := 154 } : Room) s m args below meth c H locs 0 0 Q (F0 m 35 ls []) := by
        intro n10_
        induction n10_ with
        | zero => intro y35_3 x35_5 i9 g9 H locs ls hhx35_5 hR9 hF9 hT hS hl hm10_; exact absurd hm10_ (Nat.not_lt_zero _)
        | succ n10_ ih10_ =>
          intro y35_3 x35_5 i9 g9 H locs ls hhx35_5 hR9 hF9 hT hS hl hm10_
          refine lv_iload hx hb dX8_share_35 (lv_at hl 4 rfl) ?_
          refine lv_aload_n hx hb dX8_share_37 rfl (lv_at hl 0 rfl) ?_
          refine r_getr X hT 0 3 15 fk_8_32 rfl rfl (by decide) dX8_share_38 ?_
          refine e_Vi (As := []) (rest := [.int x35_5]) X Y hT hS (m_X6_everyPart_15 hR9) mk_X6_everyPart gm_913 rfl rfl (by decide) hd_X6_everyPart ⟨rfl, rfl⟩ ⟨Nat.le_of_ble_eq_true rfl, Nat.le_of_ble_eq_true rfl⟩ hl.1 rfl (Nat.le_of_ble_eq_true rfl) dX8_share_41 ⟨Nat.zero_le _, Nat.zero_le _⟩ (fun r11 i11 g11 H locs hq hT hS => ?_)
          obtain ⟨eh11, hr11⟩ := hq
          rw [(Prod.mk.inj eh11).1, (Prod.mk.inj eh11).2] at hT
          refine lv_icmp_gt (tgt := 118) hx hb dX8_share_44 (by decide) (fun c12 => ?_) (fun c12 => ?_)
          ·
            have q12 : r11.toInt < x35_5.toInt := i_lt c12
            have h13 : rg 1 64 x35_5 := t_lty 1 64 hr11 hhx35_5 (i_lt c12) (by decide)
            refine lv_lload_n hx hb dX8_share_118 rfl (lv_at hl 3 rfl) ?_
            refine lv_aload_n hx hb dX8_share_119 rfl (lv_at hl 0 rfl) ?_
            refine r_getr X hT 0 3 15 fk_8_32 rfl rfl (by decide) dX8_share_120 ?_
            refine r_geti X hT 15 13 fk_8_156 rfl rfl (by decide) dX8_share_123 ?_
            refine e_Si (As := [.int (i9 15 13)]) (rest := [.long y35_3]) X Y hT hS (m_X8_factorial (i9 15 13)) sk_X8_factorial gm_987 hd_X8_factorial ⟨rfl, rfl⟩ ⟨Nat.le_of_ble_eq_true rfl, Nat.le_of_ble_eq_true rfl⟩ hl.1 rfl (Nat.le_of_ble_eq_true rfl) dX8_share_126 ⟨Nat.zero_le _, Nat.zero_le _⟩ (fun r14 i14 g14 H locs hq hT hS => ?_)
            have eh14 := hq
            rw [(Prod.mk.inj eh14).1, (Prod.mk.inj eh14).2] at hT
            refine q_i2l hx hb dX8_share_129 (fun y15 ey15 => ?_)
            obtain ⟨hy15, ay15⟩ := rg_i2l ey15 (rg_top r14)
            refine lv_iload_n hx hb dX8_share_130 rfl (lv_at hl 2 rfl) ?_
            refine e_Sl (As := [.long y35_3, .long y15, .int a_b]) (rest := []) X Y hT hS (m_X8_lowestTerms y35_3 y15 a_b) sk_X8_lowestTerms gm_992 hd_X8_lowestTerms ⟨rfl, rfl⟩ ⟨Nat.le_of_ble_eq_true rfl, Nat.le_of_ble_eq_true rfl⟩ hl.1 rfl (Nat.le_of_ble_eq_true rfl) dX8_share_131 ⟨Nat.zero_le _, Nat.zero_le _⟩ (fun r16 i16 g16 H locs hq hT hS => ?_)
            have eh16 := hq
            rw [(Prod.mk.inj eh16).1, (Prod.mk.inj eh16).2] at hT
            refine q_l2i hx hb dX8_share_134 (fun x17 ex17 => ?_)
            exact hret x17 _ _ _ _ _ _ dX8_share_135 hT hS ⟨hR9, hF9⟩
          ·
            have q12 : x35_5.toInt ≤ r11.toInt := i_nlt c12
            have h18 : rg 0 63 x35_5 := t_lex 0 63 hhx35_5 hr11 (i_nlt c12) (by decide)
            refine lv_iload hx hb dX8_share_47 (lv_at hl 4 rfl) ?_
            refine lv_iload_n hx hb dX8_share_49 rfl (lv_at hl 1 rfl) ?_
            refine e_Si (As := [.int x35_5, .int a_a]) (rest := []) X Y hT hS (m_X8_hasBit x35_5 a_a) sk_X8_hasBit gm_685 hd_X8_hasBit ⟨rfl, rfl⟩ ⟨Nat.le_of_ble_eq_true rfl, Nat.le_of_ble_eq_true rfl⟩ hl.1 rfl (Nat.le_of_ble_eq_true rfl) dX8_share_50 ⟨Nat.zero_le _, Nat.zero_le _⟩ (fun r19 i19 g19 H locs hq hT hS => ?_)
            obtain ⟨eh19, hr19⟩ := hq
            rw [(Prod.mk.inj eh19).1, (Prod.mk.inj eh19).2] at hT
            refine lv_if_ne (tgt := 112) hx hb dX8_share_53 (by decide) (fun c20 => ?_) (fun c20 => ?_)
            ·
              have q20 : ¬ r19.toInt = 0 := i_ne c20
              have h21 : rg 1 1 r19 := t_nelo 1 hr19 (rg_k (by decide) : rg 0 0 0) (i_ne c20) (by decide)
              obtain ⟨x22, ex22⟩ : ∃ y : Int32, y = x35_5 + 1 := ⟨_, rfl⟩
              refine lv_iinc (v := x22) (lv' := [(5, .int x22), (0, .ref (h 0)), (1, .int a_a), (2, .int a_b), (3, .long y35_3)]) hx hb dX8_share_112 hl (k := 4) rfl (by rw [ex22]; rfl) (by decide) rfl (fun ls hl => ?_)
              obtain ⟨hx22, ax22⟩ := rg_add 1 64 ex22 h18 (rg_k (by decide) : rg 1 1 1) (by decide)
              replace ax22 : x22.toInt = x35_5.toInt + 1 := ax22
              refine lv_goto (tgt := 35) hx hb dX8_share_115 (by decide) ?_
              exact ih10_ y35_3 x22 i9 g9 _ _ _ (rg_w hx22 (by decide) : rg 0 64 x22) hR9 hF9 hT hS (lv_sub hl [1, 2, 3, 4, 0] rfl) (m_up ax22 hx22 (by decide) hm10_)
            ·
              have q20 : r19.toInt = 0 := i_eq c20
              have h23 : rg 0 0 r19 := t_eqx 0 0 hr19 (rg_k (by decide) : rg 0 0 0) (i_eq c20) (by decide)
              refine lv_iload hx hb dX8_share_56 (lv_at hl 4 rfl) ?_
              refine e_Si (As := [.int x35_5]) (rest := []) X Y hT hS (m_J6_bitCount_0f7a4 x35_5) sk_J6_bitCount_0f7a4 gm_929 hd_J6_bitCount_0f7a4 ⟨rfl, rfl⟩ ⟨Nat.le_of_ble_eq_true rfl, Nat.le_of_ble_eq_true rfl⟩ hl.1 rfl (Nat.le_of_ble_eq_true rfl) dX8_share_58 ⟨Nat.zero_le _, Nat.zero_le _⟩ (fun r24 i24 g24 H locs hq hT hS => ?_)
              obtain ⟨eh24, hr24⟩ := hq
              rw [(Prod.mk.inj eh24).1, (Prod.mk.inj eh24).2] at hT
              refine lv_istore (lv' := [(6, .int r24), (0, .ref (h 0)), (1, .int a_a), (2, .int a_b), (3, .long y35_3), (5, .int x35_5)]) hx hb dX8_share_61 hl (by decide) rfl (fun ls hl => ?_)
              refine lv_iload hx hb dX8_share_63 (lv_at hl 0 rfl) ?_
              refine e_Si (As := [.int r24]) (rest := []) X Y hT hS (m_X8_factorial r24) sk_X8_factorial gm_987 hd_X8_factorial ⟨rfl, rfl⟩ ⟨Nat.le_of_ble_eq_true rfl, Nat.le_of_ble_eq_true rfl⟩ hl.1 rfl (Nat.le_of_ble_eq_true rfl) dX8_share_65 ⟨Nat.zero_le _, Nat.zero_le _⟩ (fun r25 i25 g25 H locs hq hT hS => ?_)
              have eh25 := hq
              rw [(Prod.mk.inj eh25).1, (Prod.mk.inj eh25).2] at hT
              refine q_i2l hx hb dX8_share_68 (fun y26 ey26 => ?_)
              obtain ⟨hy26, ay26⟩ := rg_i2l ey26 (rg_top r25)
              refine lv_aload_n hx hb dX8_share_69 rfl (lv_at hl 1 rfl) ?_
              refine r_getr X hT 0 3 15 fk_8_32 rfl rfl (by decide) dX8_share_70 ?_
              refine r_geti X hT 15 13 fk_8_156 rfl rfl (by decide) dX8_share_73 ?_
              refine lv_iconst (v := 1) hx hb dX8_share_76 (by decide) ?_
              refine q_isub hx hb dX8_share_77 (fun x27 ex27 => ?_)
              obtain ⟨hx27, ax27⟩ := rg_sub (-1) 5 ex27 (Rg_at hR9 15 13 0 6 (by decide) rfl) (rg_k (by decide) : rg 1 1 1) (by decide)
              replace ax27 : x27.toInt = (i9 15 13).toInt - 1 := ax27
              refine lv_iload hx hb dX8_share_78 (lv_at hl 0 rfl) ?_
              refine q_isub hx hb dX8_share_80 (fun x28 ex28 => ?_)
              obtain ⟨hx28, ax28⟩ := rg_sub (-64) 5 ex28 hx27 hr24 (by decide)
              replace ax28 : x28.toInt = x27.toInt - r24.toInt := ax28
              refine e_Si (As := [.int x28]) (rest := [.long y26]) X Y hT hS (m_X8_factorial x28) sk_X8_factorial gm_987 hd_X8_factorial ⟨rfl, rfl⟩ ⟨Nat.le_of_ble_eq_true rfl, Nat.le_of_ble_eq_true rfl⟩ hl.1 rfl (Nat.le_of_ble_eq_true rfl) dX8_share_81 ⟨Nat.zero_le _, Nat.zero_le _⟩ (fun r29 i29 g29 H locs hq hT hS => ?_)
              have eh29 := hq
              rw [(Prod.mk.inj eh29).1, (Prod.mk.inj eh29).2] at hT
              refine q_i2l hx hb dX8_share_84 (fun y30 ey30 => ?_)
              obtain ⟨hy30, ay30⟩ := rg_i2l ey30 (rg_top r29)
              refine q_lmul hx hb dX8_share_85 (fun y31 ey31 => ?_)
              refine lv_lstore (lv' := [(7, .long y31), (6, .int r24), (0, .ref (h 0)), (1, .int a_a), (2, .int a_b), (3, .long y35_3), (5, .int x35_5)]) hx hb dX8_share_86 hl (by decide) rfl (fun ls hl => ?_)
              refine lv_lload_n hx hb dX8_share_88 rfl (lv_at hl 5 rfl) ?_
              refine lv_lload hx hb dX8_share_89 (lv_at hl 0 rfl) ?_
              refine lv_aload_n hx hb dX8_share_91 rfl (lv_at hl 2 rfl) ?_
              refine lv_iload hx hb dX8_share_92 (lv_at hl 6 rfl) ?_
              refine lv_iconst (v := 1) hx hb dX8_share_94 (by decide) ?_
              refine lv_iload_n hx hb dX8_share_95 rfl (lv_at hl 3 rfl) ?_
              refine q_ishl hx hb dX8_share_96 (fun x32 ex32 => ?_)
              have h33 : rg 1 32 x32 := rg_shl1 ex32 h2 (by decide)
              refine q_ior hx hb dX8_share_97 (fun x34 ex34 => ?_)
              have h35 : rg 0 255 x34 := rg_or8 ex34 h18 h33 (by decide)
              refine e_Vi (As := [.int x34]) (rest := [.long y31, .long y35_3]) X Y hT hS (m_X8_setWorth hR9 x34) mk_X8_setWorth gm_971 rfl rfl (by decide) hd_X8_setWorth ⟨rfl, rfl⟩ ⟨Nat.le_of_ble_eq_true rfl, Nat.le_of_ble_eq_true rfl⟩ hl.1 rfl (Nat.le_of_ble_eq_true rfl) dX8_share_98 ⟨Nat.zero_le _, Nat.zero_le _⟩ (fun r36 i36 g36 H locs hq hT hS => ?_)
              obtain ⟨hR36, hf36⟩ := hq
              have hF36 := Fr_tr hF9 hf36 (by decide)
              refine lv_aload_n hx hb dX8_share_101 rfl (lv_at hl 2 rfl) ?_
              refine lv_iload hx hb dX8_share_102 (lv_at hl 6 rfl) ?_
              refine e_Vi (As := [.int x35_5]) (rest := [.int r36, .long y31, .long y35_3]) X Y hT hS (m_X8_setWorth hR36 x35_5) mk_X8_setWorth gm_971 rfl rfl (by decide) hd_X8_setWorth ⟨rfl, rfl⟩ ⟨Nat.le_of_ble_eq_true rfl, Nat.le_of_ble_eq_true rfl⟩ hl.1 rfl (Nat.le_of_ble_eq_true rfl) dX8_share_104 ⟨Nat.zero_le _, Nat.zero_le _⟩ (fun r37 i37 g37 H locs hq hT hS => ?_)
              obtain ⟨hR37, hf37⟩ := hq
              have hF37 := Fr_tr hF36 hf37 (by decide)
              refine q_isub hx hb dX8_share_107 (fun x38 ex38 => ?_)
              refine q_i2l hx hb dX8_share_108 (fun y39 ey39 => ?_)
              obtain ⟨hy39, ay39⟩ := rg_i2l ey39 (rg_top x38)
              refine q_lmul hx hb dX8_share_109 (fun y40 ey40 => ?_)
              refine q_ladd hx hb dX8_share_110 (fun y41 ey41 => ?_)
              refine lv_lstore_n (lv' := [(3, .long y41), (7, .long y31), (6, .int r24), (0, .ref (h 0)), (1, .int a_a), (2, .int a_b), (5, .int x35_5)]) hx hb dX8_share_111 rfl hl (by decide) rfl (fun ls hl => ?_)
              obtain ⟨x42, ex42⟩ : ∃ y : Int32, y = x35_5 + 1 := ⟨_, rfl⟩
              refine lv_iinc (v := x42) (lv' := [(5, .int x42), (3, .long y41), (7, .long y31), (6, .int r24), (0, .ref (h 0)), (1, .int a_a), (2, .int a_b)]) hx hb dX8_share_112 hl (k := 6) rfl (by rw [ex42]; rfl) (by decide) rfl (fun ls hl => ?_)
              obtain ⟨hx42, ax42⟩ := rg_add 1 64 ex42 h18 (rg_k (by decide) : rg 1 1 1) (by decide)
              replace ax42 : x42.toInt = x35_5.toInt + 1 := ax42
              refine lv_goto (tgt := 35) hx hb dX8_share_115 (by decide) ?_
              exact ih10_ y41 x42 i37 g37 _ _ _ (rg_w hx42 (by decide) : rg 0 64 x42) hR37 hF37 hT hS (lv_sub hl [4, 5, 6, 1, 0] rfl) (m_up ax42 hx42 (by decide) hm10_)
      exact L35_8 _ (0) (0) i7 g7 _ _ _ (rg_w (rg_k (by decide) : rg 0 0 0) (by decide) : rg 0 64 0) hR7 hF7 hT hS (lv_sub hl [2, 3, 4, 1, 0] rfl) (Nat.lt_succ_self _)
    ·
      obtain ⟨eh4, rfl⟩ := hq
      rw [(Prod.mk.inj eh4).1, (Prod.mk.inj eh4).2] at hT
      refine lv_if_ne (tgt := 22) hx hb dX8_share_15 (by decide) (fun c43 => (x_ne (rg_k (by decide) : rg 0 0 0) (rg_k (by decide) : rg 0 0 0) (i_ne c43) (by decide)).elim) (fun c43 => ?_)
      refine lv_ldcw (v := (-1000000)) hx hb X.2.2.2.1 (X.2.2.2.2.1 _ gm_986) dX8_share_18 ?_
      exact hret (-1000000) _ _ _ _ _ _ dX8_share_21 hT hS ⟨hR, hF⟩
  ·
    obtain ⟨eh1, rfl⟩ := hq
    rw [(Prod.mk.inj eh1).1, (Prod.mk.inj eh1).2] at hT
    refine lv_if_eq (tgt := 18) hx hb dX8_share_8 (by decide) (fun c44 => ?_) (fun c44 => (x_ne (rg_k (by decide) : rg 0 0 0) (rg_k (by decide) : rg 0 0 0) (i_ne c44) (by decide)).elim)
    refine lv_ldcw (v := (-1000000)) hx hb X.2.2.2.1 (X.2.2.2.2.1 _ gm_986) dX8_share_18 ?_
    exact hret (-1000000) _ _ _ _ _ _ dX8_share_21 hT hS ⟨hR, hF⟩
set_option maxRecDepth 100000 in
set_option maxHeartbeats 4000000 in
theorem m_X8_hasPlan {l : Launch} {D : va_G} {h : Nat → Nat} {cz : Nat → ClassId} {z : EZ} {i : Nat → Nat → Int32} {g : Nat → Nat → Int64} (hR : Rg rA i) (a_a : Int32) : DtI l yX8_hasPlan cX8_hasPlan 2 (some .boolean) ({ frames := 1, cells := 0, slots := 0, locals := 20 } : Room) D h cz z i g [.ref (h 0), .int a_a] (fun r u => (u = (i, g) ∧ r = 1 ∧ rg 1 5 a_a) ∨ (u = (i, g) ∧ r = 0)) := by
  refine e_Z (fun v u hq => (hq.elim (fun hq => (Or.inr hq.2.1)) (fun hq => (Or.inl hq.2)))) pn_X8_hasPlan (Nat.le_of_ble_eq_true rfl) ?_
  intro p e s m args below meth c ls Q X Y hret hT hl hS
  have hx := X.1
  have hb := X.2.1
  have hl : lv_has ls 2 [(0, .ref (h 0)), (1, .int a_a)] := hl
  refine lv_aload_n hx hb dX8_hasPlan_0 rfl (lv_at hl 0 rfl) ?_
  refine r_getr X hT 0 3 15 fk_8_32 rfl rfl (by decide) dX8_hasPlan_1 ?_
  refine e_Vi (As := []) (rest := []) X Y hT hS (m_X6_isTold_15 hR) mk_X6_isTold gm_698 rfl rfl (by decide) hd_X6_isTold ⟨rfl, rfl⟩ ⟨Nat.le_of_ble_eq_true rfl, Nat.le_of_ble_eq_true rfl⟩ hl.1 rfl (Nat.le_of_ble_eq_true rfl) dX8_hasPlan_4 ⟨Nat.zero_le _, Nat.zero_le _⟩ (fun r1 i1 g1 H locs hq hT hS => ?_)
  obtain ⟨eh1, hr1⟩ := hq
  rw [(Prod.mk.inj eh1).1, (Prod.mk.inj eh1).2] at hT
  refine lv_if_eq (tgt := 35) hx hb dX8_hasPlan_7 (by decide) (fun c2 => ?_) (fun c2 => ?_)
  ·
    have q2 : r1.toInt = 0 := i_eq c2
    have h3 : rg 0 0 r1 := t_eqx 0 0 hr1 (rg_k (by decide) : rg 0 0 0) (i_eq c2) (by decide)
    refine lv_iconst (v := 0) hx hb dX8_hasPlan_35 (by decide) ?_
    exact hret 0 _ _ _ _ _ _ dX8_hasPlan_36 hT hS (Or.inr ⟨rfl, rfl⟩)
  ·
    have q2 : ¬ r1.toInt = 0 := i_ne c2
    have h4 : rg 1 1 r1 := t_nelo 1 hr1 (rg_k (by decide) : rg 0 0 0) (i_ne c2) (by decide)
    refine lv_iload_n hx hb dX8_hasPlan_10 rfl (lv_at hl 1 rfl) ?_
    refine lv_iconst (v := 1) hx hb dX8_hasPlan_11 (by decide) ?_
    refine lv_icmp_lt (tgt := 35) hx hb dX8_hasPlan_12 (by decide) (fun c5 => ?_) (fun c5 => ?_)
    ·
      have q5 : a_a.toInt < 1 := i_lt c5
      have h6 : rg (-2147483648) 0 a_a := t_ltx (-2147483648) 0 (rg_top a_a) (rg_k (by decide) : rg 1 1 1) (i_lt c5) (by decide)
      refine lv_iconst (v := 0) hx hb dX8_hasPlan_35 (by decide) ?_
      exact hret 0 _ _ _ _ _ _ dX8_hasPlan_36 hT hS (Or.inr ⟨rfl, rfl⟩)
    ·
      have q5 : 1 ≤ a_a.toInt := i_nlt c5
      have h7 : rg 1 2147483647 a_a := t_ley 1 2147483647 (rg_k (by decide) : rg 1 1 1) (rg_top a_a) (i_nlt c5) (by decide)
      refine lv_iload_n hx hb dX8_hasPlan_15 rfl (lv_at hl 1 rfl) ?_
      refine lv_iconst (v := 5) hx hb dX8_hasPlan_16 (by decide) ?_
      refine lv_icmp_gt (tgt := 35) hx hb dX8_hasPlan_17 (by decide) (fun c8 => ?_) (fun c8 => ?_)
      ·
        have q8 : 5 < a_a.toInt := i_lt c8
        have h9 : rg 6 2147483647 a_a := t_lty 6 2147483647 (rg_k (by decide) : rg 5 5 5) h7 (i_lt c8) (by decide)
        refine lv_iconst (v := 0) hx hb dX8_hasPlan_35 (by decide) ?_
        exact hret 0 _ _ _ _ _ _ dX8_hasPlan_36 hT hS (Or.inr ⟨rfl, rfl⟩)
      ·
        have q8 : a_a.toInt ≤ 5 := i_nlt c8
        have h10 : rg 1 5 a_a := t_lex 1 5 h7 (rg_k (by decide) : rg 5 5 5) (i_nlt c8) (by decide)
        refine lv_iload_n hx hb dX8_hasPlan_20 rfl (lv_at hl 1 rfl) ?_
        refine lv_aload_n hx hb dX8_hasPlan_21 rfl (lv_at hl 0 rfl) ?_
        refine r_getr X hT 0 3 15 fk_8_32 rfl rfl (by decide) dX8_hasPlan_22 ?_
        refine r_geti X hT 15 10 fk_8_168 rfl rfl (by decide) dX8_hasPlan_25 ?_
        refine lv_icmp_gt (tgt := 35) hx hb dX8_hasPlan_28 (by decide) (fun c11 => ?_) (fun c11 => ?_)
        ·
          have q11 : (i 15 10).toInt < a_a.toInt := i_lt c11
          have h12 : rg (-1) 4 (i 15 10) := t_ltx (-1) 4 (Rg_at hR 15 10 (-1) 12 (by decide) rfl) h10 (i_lt c11) (by decide)
          refine lv_iconst (v := 0) hx hb dX8_hasPlan_35 (by decide) ?_
          exact hret 0 _ _ _ _ _ _ dX8_hasPlan_36 hT hS (Or.inr ⟨rfl, rfl⟩)
        ·
          have q11 : a_a.toInt ≤ (i 15 10).toInt := i_nlt c11
          have h13 : rg 1 12 (i 15 10) := t_ley 1 12 h10 (Rg_at hR 15 10 (-1) 12 (by decide) rfl) (i_nlt c11) (by decide)
          refine lv_iconst (v := 1) hx hb dX8_hasPlan_31 (by decide) ?_
          refine lv_goto (tgt := 36) hx hb dX8_hasPlan_32 (by decide) ?_
          exact hret 1 _ _ _ _ _ _ dX8_hasPlan_36 hT hS (Or.inl ⟨rfl, rfl, h10⟩)
set_option maxRecDepth 100000 in
set_option maxHeartbeats 4000000 in
theorem m_X4_spend {l : Launch} {D : va_G} {h : Nat → Nat} {cz : Nat → ClassId} {z : EZ} {i : Nat → Nat → Int32} {g : Nat → Nat → Int64} (hR : Rg rA i) (a_a : Int32) (ha_a : rg 0 4 a_a) : DtV l yX4_spend cX4_spend 7 none ({ frames := 2, cells := 0, slots := 0, locals := 64 } : Room) D h cz z i g [.ref (h 79), .int a_a] (fun u => Rg rA u.1 ∧ Fr [82, 83, 84, 85, 86, 87, 88] [] i g u) := by
  refine e_V pn_X4_spend (Nat.le_of_ble_eq_true rfl) ?_
  intro p e s m args below meth c ls Q X Y hret hT hl hS
  have hx := X.1
  have hb := X.2.1
  have hl : lv_has ls 7 [(0, .ref (h 79)), (1, .int a_a)] := hl
  have hF : Fr [82, 83, 84, 85, 86, 87, 88] [] i g (i, g) := Fr_rf _ _ _ _
  rcases (show a_a.toInt = 0 ∨ a_a.toInt = 1 ∨ a_a.toInt = 2 ∨ a_a.toInt = 3 ∨ a_a.toInt = 4 by have := ha_a.1; have := ha_a.2; omega) with f1 | f1 | f1 | f1 | f1
  ·
    have h2 : rg 0 0 a_a := ⟨by omega, by omega⟩
    refine lv_aload_n hx hb dX4_spend_0 rfl (lv_at hl 0 rfl) ?_
    refine r_getr X hT 79 3 87 fk_4_16 rfl rfl (by decide) dX4_spend_1 ?_
    refine lv_iload_n hx hb dX4_spend_4 rfl (lv_at hl 1 rfl) ?_
    refine r_ialdc X hT 87 0 rfl (by decide) (v_in h2 (by decide)) (cl_c h2 0 rfl (by decide)) dX4_spend_5 ?_
    refine lv_istore_n (lv' := [(2, .int (i 87 0)), (0, .ref (h 79)), (1, .int a_a)]) hx hb dX4_spend_6 rfl hl (by decide) rfl (fun ls hl => ?_)
    refine lv_aload_n hx hb dX4_spend_7 rfl (lv_at hl 1 rfl) ?_
    refine r_getr X hT 79 5 89 fk_4_23 rfl rfl (by decide) dX4_spend_8 ?_
    refine lv_iload_n hx hb dX4_spend_11 rfl (lv_at hl 2 rfl) ?_
    refine r_ialdc X hT 89 0 rfl (by decide) (v_in h2 (by decide)) (cl_c h2 0 rfl (by decide)) dX4_spend_12 ?_
    refine lv_iconst (v := (-1)) hx hb dX4_spend_13 (by decide) ?_
    have J38_4 : ∀ (x38_4_s0 : Int32) (H : Heap) (locs : List Loc) (ls : Array Slot), TH D h cz i g H → va_S (hA h) s.heap H locs → lv_has ls 7 [(0, .ref (h 79)), (1, .int a_a), (2, .int (i 87 0))] → W p l e ({ frames := 2, cells := 0, slots := 0, locals := 64 } : Room) s m args below meth c H locs 0 0 Q (F0 m 38 ls [.int x38_4_s0]) := by
      intro x38_4_s0 H locs ls hT hS hl
      refine lv_istore_n (lv' := [(3, .int x38_4_s0), (0, .ref (h 79)), (1, .int a_a), (2, .int (i 87 0))]) hx hb dX4_spend_38 rfl hl (by decide) rfl (fun ls hl => ?_)
      refine lv_aload_n hx hb dX4_spend_39 rfl (lv_at hl 1 rfl) ?_
      refine r_getr X hT 79 4 88 fk_4_20 rfl rfl (by decide) dX4_spend_40 ?_
      refine lv_iload_n hx hb dX4_spend_43 rfl (lv_at hl 2 rfl) ?_
      refine r_ialdc X hT 88 0 rfl (by decide) (v_in h2 (by decide)) (cl_c h2 0 rfl (by decide)) dX4_spend_44 ?_
      refine lv_istore (lv' := [(4, .int (i 88 0)), (3, .int x38_4_s0), (0, .ref (h 79)), (1, .int a_a), (2, .int (i 87 0))]) hx hb dX4_spend_45 hl (by decide) rfl (fun ls hl => ?_)
      refine lv_iconst (v := 0) hx hb dX4_spend_47 (by decide) ?_
      refine lv_istore (lv' := [(5, .int 0), (4, .int (i 88 0)), (3, .int x38_4_s0), (0, .ref (h 79)), (1, .int a_a), (2, .int (i 87 0))]) hx hb dX4_spend_48 hl (by decide) rfl (fun ls hl => ?_)
      have L50_5 : ∀ (n7_ : Nat) (x50_4 : Int32) (x50_5 : Int32) (i6 : Nat → Nat → Int32) (g6 : Nat → Nat → Int64) (H : Heap) (locs : List Loc) (ls : Array Slot), rg 0 6 x50_5 → Rg rA i6 → Fr [82, 83, 84, 85, 86, 87, 88] [] i g (i6, g6) → TH D h cz i6 g6 H → va_S (hA h) s.heap H locs → lv_has ls 7 [(0, .ref (h 79)), (1, .int a_a), (2, .int (i 87 0)), (3, .int x38_4_s0), (4, .int x50_4), (5, .int x50_5)] → (6 - x50_5.toInt).toNat < n7_ → W p l e ({ frames := 2, cells := 0, slots := 0, locals := 64 } : Room) s m args below meth c H locs 0 0 Q (F0 m 50 ls []) := by
        intro n7_
        induction n7_ with
        | zero => intro x50_4 x50_5 i6 g6 H locs ls hhx50_5 hR6 hF6 hT hS hl hm7_; exact absurd hm7_ (Nat.not_lt_zero _)
        | succ n7_ ih7_ =>
          intro x50_4 x50_5 i6 g6 H locs ls hhx50_5 hR6 hF6 hT hS hl hm7_
          refine lv_iload hx hb dX4_spend_50 (lv_at hl 5 rfl) ?_
          refine lv_aload_n hx hb dX4_spend_52 rfl (lv_at hl 0 rfl) ?_
          refine r_getr X hT 79 0 15 fk_4_29 rfl rfl (by decide) dX4_spend_53 ?_
          refine r_geti X hT 15 13 fk_4_62 rfl rfl (by decide) dX4_spend_56 ?_
          refine lv_icmp_ge (tgt := 155) hx hb dX4_spend_59 (by decide) (fun c8 => ?_) (fun c8 => ?_)
          ·
            have q8 : (i6 15 13).toInt ≤ x50_5.toInt := i_le c8
            refine lv_aload_n hx hb dX4_spend_155 rfl (lv_at hl 0 rfl) ?_
            refine r_getr X hT 79 3 87 fk_4_16 rfl rfl (by decide) dX4_spend_156 ?_
            refine lv_iload_n hx hb dX4_spend_159 rfl (lv_at hl 1 rfl) ?_
            refine lv_iconst (v := 1) hx hb dX4_spend_160 (by decide) ?_
            refine q_iadd hx hb dX4_spend_161 (fun x9 ex9 => ?_)
            obtain ⟨hx9, ax9⟩ := rg_add 1 1 ex9 h2 (rg_k (by decide) : rg 1 1 1) (by decide)
            replace ax9 : x9.toInt = a_a.toInt + 1 := ax9
            refine lv_iload_n hx hb dX4_spend_162 rfl (lv_at hl 3 rfl) ?_
            refine r_iastc X hT hS 87 1 rfl (by decide) (v_in hx9 (by decide)) (cl_c hx9 1 rfl (by decide)) dX4_spend_163 (fun H locs i10 ei10 hT hS => ?_)
            have hR10 := Rg_put hR6 ei10 (-2147483648) 2147483647 rfl (rg_top x38_4_s0) (by decide)
            have hF10 := Fr_puti hF6 ei10 (by decide)
            refine lv_aload_n hx hb dX4_spend_164 rfl (lv_at hl 0 rfl) ?_
            refine r_getr X hT 79 4 88 fk_4_20 rfl rfl (by decide) dX4_spend_165 ?_
            refine lv_iload_n hx hb dX4_spend_168 rfl (lv_at hl 1 rfl) ?_
            refine lv_iconst (v := 1) hx hb dX4_spend_169 (by decide) ?_
            refine q_iadd hx hb dX4_spend_170 (fun x11 ex11 => ?_)
            obtain ⟨hx11, ax11⟩ := rg_add 1 1 ex11 h2 (rg_k (by decide) : rg 1 1 1) (by decide)
            replace ax11 : x11.toInt = a_a.toInt + 1 := ax11
            refine lv_iload hx hb dX4_spend_171 (lv_at hl 4 rfl) ?_
            refine r_iastc X hT hS 88 1 rfl (by decide) (v_in hx11 (by decide)) (cl_c hx11 1 rfl (by decide)) dX4_spend_173 (fun H locs i12 ei12 hT hS => ?_)
            have hR12 := Rg_put hR10 ei12 (-2147483648) 2147483647 rfl (rg_top x50_4) (by decide)
            have hF12 := Fr_puti hF10 ei12 (by decide)
            exact hret _ _ _ _ _ _ dX4_spend_174 hT hS ⟨hR12, hF12⟩
          ·
            have q8 : x50_5.toInt < (i6 15 13).toInt := i_nle c8
            have h13 : rg 0 5 x50_5 := t_ltx 0 5 hhx50_5 (Rg_at hR6 15 13 0 6 (by decide) rfl) (i_nle c8) (by decide)
            have h14 : rg 1 6 (i6 15 13) := t_lty 1 6 hhx50_5 (Rg_at hR6 15 13 0 6 (by decide) rfl) (i_nle c8) (by decide)
            refine lv_iload_n hx hb dX4_spend_62 rfl (lv_at hl 2 rfl) ?_
            refine lv_iload hx hb dX4_spend_63 (lv_at hl 5 rfl) ?_
            refine e_Ni (As := [.int (i 87 0), .int x50_5]) (rest := []) X Y hT hS (m_X8_hasBit (i 87 0) x50_5) sk_X8_hasBit Y.n2 hd_X8_hasBit ⟨rfl, rfl⟩ ⟨Nat.le_of_ble_eq_true rfl, Nat.le_of_ble_eq_true rfl⟩ hl.1 rfl (Nat.le_of_ble_eq_true rfl) dX4_spend_65 ⟨Nat.zero_le _, Nat.zero_le _⟩ (fun r15 i15 g15 H locs hq hT hS => ?_)
            obtain ⟨eh15, hr15⟩ := hq
            rw [(Prod.mk.inj eh15).1, (Prod.mk.inj eh15).2] at hT
            refine lv_if_ne (tgt := 149) hx hb dX4_spend_68 (by decide) (fun c16 => ?_) (fun c16 => ?_)
            ·
              have q16 : ¬ r15.toInt = 0 := i_ne c16
              have h17 : rg 1 1 r15 := t_nelo 1 hr15 (rg_k (by decide) : rg 0 0 0) (i_ne c16) (by decide)
              obtain ⟨x18, ex18⟩ : ∃ y : Int32, y = x50_5 + 1 := ⟨_, rfl⟩
              refine lv_iinc (v := x18) (lv' := [(5, .int x18), (0, .ref (h 79)), (1, .int a_a), (2, .int (i 87 0)), (3, .int x38_4_s0), (4, .int x50_4)]) hx hb dX4_spend_149 hl (k := 5) rfl (by rw [ex18]; rfl) (by decide) rfl (fun ls hl => ?_)
              obtain ⟨hx18, ax18⟩ := rg_add 1 6 ex18 h13 (rg_k (by decide) : rg 1 1 1) (by decide)
              replace ax18 : x18.toInt = x50_5.toInt + 1 := ax18
              refine lv_goto (tgt := 50) hx hb dX4_spend_152 (by decide) ?_
              exact ih7_ x50_4 x18 i6 g6 _ _ _ (rg_w hx18 (by decide) : rg 0 6 x18) hR6 hF6 hT hS (lv_sub hl [1, 2, 3, 4, 5, 0] rfl) (m_up ax18 hx18 (by decide) hm7_)
            ·
              have q16 : r15.toInt = 0 := i_eq c16
              have h19 : rg 0 0 r15 := t_eqx 0 0 hr15 (rg_k (by decide) : rg 0 0 0) (i_eq c16) (by decide)
              refine lv_aload_n hx hb dX4_spend_71 rfl (lv_at hl 0 rfl) ?_
              refine r_getr X hT 79 1 72 fk_4_33 rfl rfl (by decide) dX4_spend_72 ?_
              refine lv_iload hx hb dX4_spend_75 (lv_at hl 5 rfl) ?_
              refine lv_aload_n hx hb dX4_spend_77 rfl (lv_at hl 0 rfl) ?_
              refine r_getr X hT 79 2 80 fk_4_11 rfl rfl (by decide) dX4_spend_78 ?_
              refine lv_iload_n hx hb dX4_spend_81 rfl (lv_at hl 1 rfl) ?_
              refine r_aald5 X hT 80 81 rfl (by decide) (v_in h2 (by decide)) (by rw [cl_c h2 0 rfl (by decide)]; rfl) dX4_spend_82 ?_
              refine lv_iload hx hb dX4_spend_83 (lv_at hl 5 rfl) ?_
              refine r_iald X hT 81 rfl (by decide) (v_in h13 (by decide)) dX4_spend_85 ?_
              refine lv_iload_n hx hb dX4_spend_86 rfl (lv_at hl 1 rfl) ?_
              refine e_Vi (As := [.int x50_5, .int (i6 81 x50_5.toNatClampNeg), .int a_a]) (rest := []) X Y hT hS (m_X0_aired_72 hR6 x50_5 (i6 81 x50_5.toNatClampNeg) a_a h13 (Rg_at hR6 81 x50_5.toNatClampNeg 0 99 (v_lt (v_in h13 (by decide))) rfl) (rg_w h2 (by decide) : rg 0 11 a_a)) mk_X0_aired gm_1029 rfl rfl (by decide) hd_X0_aired ⟨rfl, rfl⟩ ⟨Nat.le_of_ble_eq_true rfl, Nat.le_of_ble_eq_true rfl⟩ hl.1 rfl (Nat.le_of_ble_eq_true rfl) dX4_spend_87 ⟨Nat.zero_le _, Nat.zero_le _⟩ (fun r20 i20 g20 H locs hq hT hS => ?_)
              obtain ⟨eh20, hr20⟩ := hq
              rw [(Prod.mk.inj eh20).1, (Prod.mk.inj eh20).2] at hT
              refine lv_istore (lv' := [(6, .int r20), (0, .ref (h 79)), (1, .int a_a), (2, .int (i 87 0)), (3, .int x38_4_s0), (4, .int x50_4), (5, .int x50_5)]) hx hb dX4_spend_90 hl (by decide) rfl (fun ls hl => ?_)
              refine lv_iload_n hx hb dX4_spend_92 rfl (lv_at hl 4 rfl) ?_
              refine lv_iload hx hb dX4_spend_93 (lv_at hl 6 rfl) ?_
              refine e_Ni (As := [.int x38_4_s0, .int x50_5]) (rest := []) X Y hT hS (m_X8_hasBit x38_4_s0 x50_5) sk_X8_hasBit Y.n2 hd_X8_hasBit ⟨rfl, rfl⟩ ⟨Nat.le_of_ble_eq_true rfl, Nat.le_of_ble_eq_true rfl⟩ hl.1 rfl (Nat.le_of_ble_eq_true rfl) dX4_spend_95 ⟨Nat.zero_le _, Nat.zero_le _⟩ (fun r21 i21 g21 H locs hq hT hS => ?_)
              obtain ⟨eh21, hr21⟩ := hq
              rw [(Prod.mk.inj eh21).1, (Prod.mk.inj eh21).2] at hT
              refine lv_if_eq (tgt := 126) hx hb dX4_spend_98 (by decide) (fun c22 => ?_) (fun c22 => ?_)
              ·
                have q22 : r21.toInt = 0 := i_eq c22
                have h23 : rg 0 0 r21 := t_eqx 0 0 hr21 (rg_k (by decide) : rg 0 0 0) (i_eq c22) (by decide)
                refine lv_aload_n hx hb dX4_spend_126 rfl (lv_at hl 1 rfl) ?_
                refine r_getr X hT 79 2 80 fk_4_11 rfl rfl (by decide) dX4_spend_127 ?_
                refine lv_iload_n hx hb dX4_spend_130 rfl (lv_at hl 2 rfl) ?_
                refine lv_iconst (v := 1) hx hb dX4_spend_131 (by decide) ?_
                refine q_iadd hx hb dX4_spend_132 (fun x24 ex24 => ?_)
                obtain ⟨hx24, ax24⟩ := rg_add 1 1 ex24 h2 (rg_k (by decide) : rg 1 1 1) (by decide)
                replace ax24 : x24.toInt = a_a.toInt + 1 := ax24
                refine r_aald5 X hT 80 82 rfl (by decide) (v_in hx24 (by decide)) (by rw [cl_c hx24 1 rfl (by decide)]; rfl) dX4_spend_133 ?_
                refine lv_iload hx hb dX4_spend_134 (lv_at hl 6 rfl) ?_
                refine lv_aload_n hx hb dX4_spend_136 rfl (lv_at hl 1 rfl) ?_
                refine r_getr X hT 79 1 72 fk_4_33 rfl rfl (by decide) dX4_spend_137 ?_
                refine lv_iload hx hb dX4_spend_140 (lv_at hl 6 rfl) ?_
                refine lv_iload hx hb dX4_spend_142 (lv_at hl 0 rfl) ?_
                refine lv_iload_n hx hb dX4_spend_144 rfl (lv_at hl 4 rfl) ?_
                refine e_Vi (As := [.int x50_5, .int r20, .int x38_4_s0]) (rest := [.int x50_5, .ref (h 82)]) X Y hT hS (m_X0_waited_72 hR6 x50_5 r20 x38_4_s0 h13 hr20) mk_X0_waited gm_1031 rfl rfl (by decide) hd_X0_waited ⟨rfl, rfl⟩ ⟨Nat.le_of_ble_eq_true rfl, Nat.le_of_ble_eq_true rfl⟩ hl.1 rfl (Nat.le_of_ble_eq_true rfl) dX4_spend_145 ⟨Nat.zero_le _, Nat.zero_le _⟩ (fun r25 i25 g25 H locs hq hT hS => ?_)
                obtain ⟨eh25, hr25⟩ := hq
                rw [(Prod.mk.inj eh25).1, (Prod.mk.inj eh25).2] at hT
                refine r_iast X hT hS 82 rfl (by decide) (v_in h13 (by decide)) dX4_spend_148 (fun H locs i26 ei26 hT hS => ?_)
                have hR26 := Rg_put hR6 ei26 0 99 rfl hr25 (by decide)
                have hF26 := Fr_puti hF6 ei26 (by decide)
                obtain ⟨x27, ex27⟩ : ∃ y : Int32, y = x50_5 + 1 := ⟨_, rfl⟩
                refine lv_iinc (v := x27) (lv' := [(5, .int x27), (6, .int r20), (0, .ref (h 79)), (1, .int a_a), (2, .int (i 87 0)), (3, .int x38_4_s0), (4, .int x50_4)]) hx hb dX4_spend_149 hl (k := 6) rfl (by rw [ex27]; rfl) (by decide) rfl (fun ls hl => ?_)
                obtain ⟨hx27, ax27⟩ := rg_add 1 6 ex27 h13 (rg_k (by decide) : rg 1 1 1) (by decide)
                replace ax27 : x27.toInt = x50_5.toInt + 1 := ax27
                refine lv_goto (tgt := 50) hx hb dX4_spend_152 (by decide) ?_
                exact ih7_ x50_4 x27 i26 g6 _ _ _ (rg_w hx27 (by decide) : rg 0 6 x27) hR26 hF26 hT hS (lv_sub hl [2, 3, 4, 5, 6, 0] rfl) (m_up ax27 hx27 (by decide) hm7_)
              ·
                have q22 : ¬ r21.toInt = 0 := i_ne c22
                have h28 : rg 1 1 r21 := t_nelo 1 hr21 (rg_k (by decide) : rg 0 0 0) (i_ne c22) (by decide)
                refine lv_iload hx hb dX4_spend_101 (lv_at hl 5 rfl) ?_
                refine lv_iconst (v := 0) hx hb dX4_spend_103 (by decide) ?_
                refine lv_aload_n hx hb dX4_spend_104 rfl (lv_at hl 1 rfl) ?_
                refine r_getr X hT 79 0 15 fk_4_29 rfl rfl (by decide) dX4_spend_105 ?_
                refine r_getr X hT 15 0 16 fk_4_83 rfl rfl (by decide) dX4_spend_108 ?_
                refine lv_iload hx hb dX4_spend_111 (lv_at hl 6 rfl) ?_
                refine r_iald X hT 16 rfl (by decide) (v_in h13 (by decide)) dX4_spend_113 ?_
                refine lv_iload hx hb dX4_spend_114 (lv_at hl 0 rfl) ?_
                refine q_isub hx hb dX4_spend_116 (fun x29 ex29 => ?_)
                obtain ⟨hx29, ax29⟩ := rg_sub (-99) 60 ex29 (Rg_at hR6 16 x50_5.toNatClampNeg 0 60 (v_lt (v_in h13 (by decide))) rfl) hr20 (by decide)
                replace ax29 : x29.toInt = (i6 16 x50_5.toNatClampNeg).toInt - r20.toInt := ax29
                refine e_mmax X hl.1 gm_1030 gm_782 gm_118 mw_e_mmax (Nat.le_of_ble_eq_true rfl) (Nat.le_of_ble_eq_true rfl) ⟨Nat.zero_le _, Nat.zero_le _⟩ dX4_spend_117 (fun x30 ex30 => ?_)
                have h31 : rg 0 60 x30 := rg_mx ex30 (rg_k (by decide) : rg 0 0 0) hx29 (by decide)
                refine q_iadd hx hb dX4_spend_120 (fun x32 ex32 => ?_)
                refine lv_istore (lv' := [(4, .int x32), (6, .int r20), (0, .ref (h 79)), (1, .int a_a), (2, .int (i 87 0)), (3, .int x38_4_s0), (5, .int x50_5)]) hx hb dX4_spend_121 hl (by decide) rfl (fun ls hl => ?_)
                refine lv_goto (tgt := 149) hx hb dX4_spend_123 (by decide) ?_
                obtain ⟨x33, ex33⟩ : ∃ y : Int32, y = x50_5 + 1 := ⟨_, rfl⟩
                refine lv_iinc (v := x33) (lv' := [(5, .int x33), (4, .int x32), (6, .int r20), (0, .ref (h 79)), (1, .int a_a), (2, .int (i 87 0)), (3, .int x38_4_s0)]) hx hb dX4_spend_149 hl (k := 6) rfl (by rw [ex33]; rfl) (by decide) rfl (fun ls hl => ?_)
                obtain ⟨hx33, ax33⟩ := rg_add 1 6 ex33 h13 (rg_k (by decide) : rg 1 1 1) (by decide)
                replace ax33 : x33.toInt = x50_5.toInt + 1 := ax33
                refine lv_goto (tgt := 50) hx hb dX4_spend_152 (by decide) ?_
                exact ih7_ x32 x33 i6 g6 _ _ _ (rg_w hx33 (by decide) : rg 0 6 x33) hR6 hF6 hT hS (lv_sub hl [3, 4, 5, 6, 1, 0] rfl) (m_up ax33 hx33 (by decide) hm7_)
      exact L50_5 _ (i 88 0) (0) i g _ _ _ (rg_w (rg_k (by decide) : rg 0 0 0) (by decide) : rg 0 6 0) hR hF hT hS (lv_sub hl [3, 4, 5, 2, 1, 0] rfl) (Nat.lt_succ_self _)
    refine lv_icmp_ne (tgt := 21) hx hb dX4_spend_14 (by decide) (fun c3 => ?_) (fun c3 => ?_)
    ·
      have q3 : ¬ (i 89 0).toInt = (-1) := i_ne c3
      refine lv_aload_n hx hb dX4_spend_21 rfl (lv_at hl 1 rfl) ?_
      refine r_getr X hT 79 1 72 fk_4_33 rfl rfl (by decide) dX4_spend_22 ?_
      refine lv_iload_n hx hb dX4_spend_25 rfl (lv_at hl 0 rfl) ?_
      refine lv_iconst (v := 1) hx hb dX4_spend_26 (by decide) ?_
      refine lv_aload_n hx hb dX4_spend_27 rfl (lv_at hl 1 rfl) ?_
      refine r_getr X hT 79 5 89 fk_4_23 rfl rfl (by decide) dX4_spend_28 ?_
      refine lv_iload_n hx hb dX4_spend_31 rfl (lv_at hl 2 rfl) ?_
      refine r_ialdc X hT 89 0 rfl (by decide) (v_in h2 (by decide)) (cl_c h2 0 rfl (by decide)) dX4_spend_32 ?_
      refine q_ishl hx hb dX4_spend_33 (fun x34 ex34 => ?_)
      refine q_ior hx hb dX4_spend_34 (fun x35 ex35 => ?_)
      refine e_Vi (As := [.int x35]) (rest := []) X Y hT hS (m_X0_settle_72 hR x35) mk_X0_settle gm_1028 rfl rfl (by decide) hd_X0_settle ⟨rfl, rfl⟩ ⟨Nat.le_of_ble_eq_true rfl, Nat.le_of_ble_eq_true rfl⟩ hl.1 rfl (Nat.le_of_ble_eq_true rfl) dX4_spend_35 ⟨Nat.zero_le _, Nat.zero_le _⟩ (fun r36 i36 g36 H locs hq hT hS => ?_)
      have eh36 := hq
      rw [(Prod.mk.inj eh36).1, (Prod.mk.inj eh36).2] at hT
      exact J38_4 r36 _ _ _ hT hS (lv_sub hl [1, 2, 0] rfl)
    ·
      have q3 : (i 89 0).toInt = (-1) := i_eq c3
      have h37 : rg (-1) (-1) (i 89 0) := t_eqx (-1) (-1) (rg_top (i 89 0)) (rg_k (by decide) : rg (-1) (-1) (-1)) (i_eq c3) (by decide)
      refine lv_iload_n hx hb dX4_spend_17 rfl (lv_at hl 0 rfl) ?_
      refine lv_goto (tgt := 38) hx hb dX4_spend_18 (by decide) ?_
      exact J38_4 (i 87 0) _ _ _ hT hS (lv_sub hl [1, 2, 0] rfl)
  ·
    have h38 : rg 1 1 a_a := ⟨by omega, by omega⟩
    refine lv_aload_n hx hb dX4_spend_0 rfl (lv_at hl 0 rfl) ?_
    refine r_getr X hT 79 3 87 fk_4_16 rfl rfl (by decide) dX4_spend_1 ?_
    refine lv_iload_n hx hb dX4_spend_4 rfl (lv_at hl 1 rfl) ?_
    refine r_ialdc X hT 87 1 rfl (by decide) (v_in h38 (by decide)) (cl_c h38 1 rfl (by decide)) dX4_spend_5 ?_
    refine lv_istore_n (lv' := [(2, .int (i 87 1)), (0, .ref (h 79)), (1, .int a_a)]) hx hb dX4_spend_6 rfl hl (by decide) rfl (fun ls hl => ?_)
    refine lv_aload_n hx hb dX4_spend_7 rfl (lv_at hl 1 rfl) ?_
    refine r_getr X hT 79 5 89 fk_4_23 rfl rfl (by decide) dX4_spend_8 ?_
    refine lv_iload_n hx hb dX4_spend_11 rfl (lv_at hl 2 rfl) ?_
    refine r_ialdc X hT 89 1 rfl (by decide) (v_in h38 (by decide)) (cl_c h38 1 rfl (by decide)) dX4_spend_12 ?_
    refine lv_iconst (v := (-1)) hx hb dX4_spend_13 (by decide) ?_
    have J38_40 : ∀ (x38_40_s0 : Int32) (H : Heap) (locs : List Loc) (ls : Array Slot), TH D h cz i g H → va_S (hA h) s.heap H locs → lv_has ls 7 [(0, .ref (h 79)), (1, .int a_a), (2, .int (i 87 1))] → W p l e ({ frames := 2, cells := 0, slots := 0, locals := 64 } : Room) s m args below meth c H locs 0 0 Q (F0 m 38 ls [.int x38_40_s0]) := by
      intro x38_40_s0 H locs ls hT hS hl
      refine lv_istore_n (lv' := [(3, .int x38_40_s0), (0, .ref (h 79)), (1, .int a_a), (2, .int (i 87 1))]) hx hb dX4_spend_38 rfl hl (by decide) rfl (fun ls hl => ?_)
      refine lv_aload_n hx hb dX4_spend_39 rfl (lv_at hl 1 rfl) ?_
      refine r_getr X hT 79 4 88 fk_4_20 rfl rfl (by decide) dX4_spend_40 ?_
      refine lv_iload_n hx hb dX4_spend_43 rfl (lv_at hl 2 rfl) ?_
      refine r_ialdc X hT 88 1 rfl (by decide) (v_in h38 (by decide)) (cl_c h38 1 rfl (by decide)) dX4_spend_44 ?_
      refine lv_istore (lv' := [(4, .int (i 88 1)), (3, .int x38_40_s0), (0, .ref (h 79)), (1, .int a_a), (2, .int (i 87 1))]) hx hb dX4_spend_45 hl (by decide) rfl (fun ls hl => ?_)
      refine lv_iconst (v := 0) hx hb dX4_spend_47 (by decide) ?_
      refine lv_istore (lv' := [(5, .int 0), (4, .int (i 88 1)), (3, .int x38_40_s0), (0, .ref (h 79)), (1, .int a_a), (2, .int (i 87 1))]) hx hb dX4_spend_48 hl (by decide) rfl (fun ls hl => ?_)
      have L50_41 : ∀ (n43_ : Nat) (x50_4 : Int32) (x50_5 : Int32) (i42 : Nat → Nat → Int32) (g42 : Nat → Nat → Int64) (H : Heap) (locs : List Loc) (ls : Array Slot), rg 0 6 x50_5 → Rg rA i42 → Fr [82, 83, 84, 85, 86, 87, 88] [] i g (i42, g42) → TH D h cz i42 g42 H → va_S (hA h) s.heap H locs → lv_has ls 7 [(0, .ref (h 79)), (1, .int a_a), (2, .int (i 87 1)), (3, .int x38_40_s0), (4, .int x50_4), (5, .int x50_5)] → (6 - x50_5.toInt).toNat < n43_ → W p l e ({ frames := 2, cells := 0, slots := 0, locals := 64 } : Room) s m args below meth c H locs 0 0 Q (F0 m 50 ls []) := by
        intro n43_
        induction n43_ with
        | zero => intro x50_4 x50_5 i42 g42 H locs ls hhx50_5 hR42 hF42 hT hS hl hm43_; exact absurd hm43_ (Nat.not_lt_zero _)
        | succ n43_ ih43_ =>
          intro x50_4 x50_5 i42 g42 H locs ls hhx50_5 hR42 hF42 hT hS hl hm43_
          refine lv_iload hx hb dX4_spend_50 (lv_at hl 5 rfl) ?_
          refine lv_aload_n hx hb dX4_spend_52 rfl (lv_at hl 0 rfl) ?_
          refine r_getr X hT 79 0 15 fk_4_29 rfl rfl (by decide) dX4_spend_53 ?_
          refine r_geti X hT 15 13 fk_4_62 rfl rfl (by decide) dX4_spend_56 ?_
          refine lv_icmp_ge (tgt := 155) hx hb dX4_spend_59 (by decide) (fun c44 => ?_) (fun c44 => ?_)
          ·
            have q44 : (i42 15 13).toInt ≤ x50_5.toInt := i_le c44
            refine lv_aload_n hx hb dX4_spend_155 rfl (lv_at hl 0 rfl) ?_
            refine r_getr X hT 79 3 87 fk_4_16 rfl rfl (by decide) dX4_spend_156 ?_
            refine lv_iload_n hx hb dX4_spend_159 rfl (lv_at hl 1 rfl) ?_
            refine lv_iconst (v := 1) hx hb dX4_spend_160 (by decide) ?_
            refine q_iadd hx hb dX4_spend_161 (fun x45 ex45 => ?_)
            obtain ⟨hx45, ax45⟩ := rg_add 2 2 ex45 h38 (rg_k (by decide) : rg 1 1 1) (by decide)
            replace ax45 : x45.toInt = a_a.toInt + 1 := ax45
            refine lv_iload_n hx hb dX4_spend_162 rfl (lv_at hl 3 rfl) ?_
            refine r_iastc X hT hS 87 2 rfl (by decide) (v_in hx45 (by decide)) (cl_c hx45 2 rfl (by decide)) dX4_spend_163 (fun H locs i46 ei46 hT hS => ?_)
            have hR46 := Rg_put hR42 ei46 (-2147483648) 2147483647 rfl (rg_top x38_40_s0) (by decide)
            have hF46 := Fr_puti hF42 ei46 (by decide)
            refine lv_aload_n hx hb dX4_spend_164 rfl (lv_at hl 0 rfl) ?_
            refine r_getr X hT 79 4 88 fk_4_20 rfl rfl (by decide) dX4_spend_165 ?_
            refine lv_iload_n hx hb dX4_spend_168 rfl (lv_at hl 1 rfl) ?_
            refine lv_iconst (v := 1) hx hb dX4_spend_169 (by decide) ?_
            refine q_iadd hx hb dX4_spend_170 (fun x47 ex47 => ?_)
            obtain ⟨hx47, ax47⟩ := rg_add 2 2 ex47 h38 (rg_k (by decide) : rg 1 1 1) (by decide)
            replace ax47 : x47.toInt = a_a.toInt + 1 := ax47
            refine lv_iload hx hb dX4_spend_171 (lv_at hl 4 rfl) ?_
            refine r_iastc X hT hS 88 2 rfl (by decide) (v_in hx47 (by decide)) (cl_c hx47 2 rfl (by decide)) dX4_spend_173 (fun H locs i48 ei48 hT hS => ?_)
            have hR48 := Rg_put hR46 ei48 (-2147483648) 2147483647 rfl (rg_top x50_4) (by decide)
            have hF48 := Fr_puti hF46 ei48 (by decide)
            exact hret _ _ _ _ _ _ dX4_spend_174 hT hS ⟨hR48, hF48⟩
          ·
            have q44 : x50_5.toInt < (i42 15 13).toInt := i_nle c44
            have h49 : rg 0 5 x50_5 := t_ltx 0 5 hhx50_5 (Rg_at hR42 15 13 0 6 (by decide) rfl) (i_nle c44) (by decide)
            have h50 : rg 1 6 (i42 15 13) := t_lty 1 6 hhx50_5 (Rg_at hR42 15 13 0 6 (by decide) rfl) (i_nle c44) (by decide)
            refine lv_iload_n hx hb dX4_spend_62 rfl (lv_at hl 2 rfl) ?_
            refine lv_iload hx hb dX4_spend_63 (lv_at hl 5 rfl) ?_
            refine e_Ni (As := [.int (i 87 1), .int x50_5]) (rest := []) X Y hT hS (m_X8_hasBit (i 87 1) x50_5) sk_X8_hasBit Y.n2 hd_X8_hasBit ⟨rfl, rfl⟩ ⟨Nat.le_of_ble_eq_true rfl, Nat.le_of_ble_eq_true rfl⟩ hl.1 rfl (Nat.le_of_ble_eq_true rfl) dX4_spend_65 ⟨Nat.zero_le _, Nat.zero_le _⟩ (fun r51 i51 g51 H locs hq hT hS => ?_)
            obtain ⟨eh51, hr51⟩ := hq
            rw [(Prod.mk.inj eh51).1, (Prod.mk.inj eh51).2] at hT
            refine lv_if_ne (tgt := 149) hx hb dX4_spend_68 (by decide) (fun c52 => ?_) (fun c52 => ?_)
            ·
              have q52 : ¬ r51.toInt = 0 := i_ne c52
              have h53 : rg 1 1 r51 := t_nelo 1 hr51 (rg_k (by decide) : rg 0 0 0) (i_ne c52) (by decide)
              obtain ⟨x54, ex54⟩ : ∃ y : Int32, y = x50_5 + 1 := ⟨_, rfl⟩
              refine lv_iinc (v := x54) (lv' := [(5, .int x54), (0, .ref (h 79)), (1, .int a_a), (2, .int (i 87 1)), (3, .int x38_40_s0), (4, .int x50_4)]) hx hb dX4_spend_149 hl (k := 5) rfl (by rw [ex54]; rfl) (by decide) rfl (fun ls hl => ?_)
              obtain ⟨hx54, ax54⟩ := rg_add 1 6 ex54 h49 (rg_k (by decide) : rg 1 1 1) (by decide)
              replace ax54 : x54.toInt = x50_5.toInt + 1 := ax54
              refine lv_goto (tgt := 50) hx hb dX4_spend_152 (by decide) ?_
              exact ih43_ x50_4 x54 i42 g42 _ _ _ (rg_w hx54 (by decide) : rg 0 6 x54) hR42 hF42 hT hS (lv_sub hl [1, 2, 3, 4, 5, 0] rfl) (m_up ax54 hx54 (by decide) hm43_)
            ·
              have q52 : r51.toInt = 0 := i_eq c52
              have h55 : rg 0 0 r51 := t_eqx 0 0 hr51 (rg_k (by decide) : rg 0 0 0) (i_eq c52) (by decide)
              refine lv_aload_n hx hb dX4_spend_71 rfl (lv_at hl 0 rfl) ?_
              refine r_getr X hT 79 1 72 fk_4_33 rfl rfl (by decide) dX4_spend_72 ?_
              refine lv_iload hx hb dX4_spend_75 (lv_at hl 5 rfl) ?_
              refine lv_aload_n hx hb dX4_spend_77 rfl (lv_at hl 0 rfl) ?_
              refine r_getr X hT 79 2 80 fk_4_11 rfl rfl (by decide) dX4_spend_78 ?_
              refine lv_iload_n hx hb dX4_spend_81 rfl (lv_at hl 1 rfl) ?_
              refine r_aald5 X hT 80 82 rfl (by decide) (v_in h38 (by decide)) (by rw [cl_c h38 1 rfl (by decide)]; rfl) dX4_spend_82 ?_
              refine lv_iload hx hb dX4_spend_83 (lv_at hl 5 rfl) ?_
              refine r_iald X hT 82 rfl (by decide) (v_in h49 (by decide)) dX4_spend_85 ?_
              refine lv_iload_n hx hb dX4_spend_86 rfl (lv_at hl 1 rfl) ?_
              refine e_Vi (As := [.int x50_5, .int (i42 82 x50_5.toNatClampNeg), .int a_a]) (rest := []) X Y hT hS (m_X0_aired_72 hR42 x50_5 (i42 82 x50_5.toNatClampNeg) a_a h49 (Rg_at hR42 82 x50_5.toNatClampNeg 0 99 (v_lt (v_in h49 (by decide))) rfl) (rg_w h38 (by decide) : rg 0 11 a_a)) mk_X0_aired gm_1029 rfl rfl (by decide) hd_X0_aired ⟨rfl, rfl⟩ ⟨Nat.le_of_ble_eq_true rfl, Nat.le_of_ble_eq_true rfl⟩ hl.1 rfl (Nat.le_of_ble_eq_true rfl) dX4_spend_87 ⟨Nat.zero_le _, Nat.zero_le _⟩ (fun r56 i56 g56 H locs hq hT hS => ?_)
              obtain ⟨eh56, hr56⟩ := hq
              rw [(Prod.mk.inj eh56).1, (Prod.mk.inj eh56).2] at hT
              refine lv_istore (lv' := [(6, .int r56), (0, .ref (h 79)), (1, .int a_a), (2, .int (i 87 1)), (3, .int x38_40_s0), (4, .int x50_4), (5, .int x50_5)]) hx hb dX4_spend_90 hl (by decide) rfl (fun ls hl => ?_)
              refine lv_iload_n hx hb dX4_spend_92 rfl (lv_at hl 4 rfl) ?_
              refine lv_iload hx hb dX4_spend_93 (lv_at hl 6 rfl) ?_
              refine e_Ni (As := [.int x38_40_s0, .int x50_5]) (rest := []) X Y hT hS (m_X8_hasBit x38_40_s0 x50_5) sk_X8_hasBit Y.n2 hd_X8_hasBit ⟨rfl, rfl⟩ ⟨Nat.le_of_ble_eq_true rfl, Nat.le_of_ble_eq_true rfl⟩ hl.1 rfl (Nat.le_of_ble_eq_true rfl) dX4_spend_95 ⟨Nat.zero_le _, Nat.zero_le _⟩ (fun r57 i57 g57 H locs hq hT hS => ?_)
              obtain ⟨eh57, hr57⟩ := hq
              rw [(Prod.mk.inj eh57).1, (Prod.mk.inj eh57).2] at hT
              refine lv_if_eq (tgt := 126) hx hb dX4_spend_98 (by decide) (fun c58 => ?_) (fun c58 => ?_)
              ·
                have q58 : r57.toInt = 0 := i_eq c58
                have h59 : rg 0 0 r57 := t_eqx 0 0 hr57 (rg_k (by decide) : rg 0 0 0) (i_eq c58) (by decide)
                refine lv_aload_n hx hb dX4_spend_126 rfl (lv_at hl 1 rfl) ?_
                refine r_getr X hT 79 2 80 fk_4_11 rfl rfl (by decide) dX4_spend_127 ?_
                refine lv_iload_n hx hb dX4_spend_130 rfl (lv_at hl 2 rfl) ?_
                refine lv_iconst (v := 1) hx hb dX4_spend_131 (by decide) ?_
                refine q_iadd hx hb dX4_spend_132 (fun x60 ex60 => ?_)
                obtain ⟨hx60, ax60⟩ := rg_add 2 2 ex60 h38 (rg_k (by decide) : rg 1 1 1) (by decide)
                replace ax60 : x60.toInt = a_a.toInt + 1 := ax60
                refine r_aald5 X hT 80 83 rfl (by decide) (v_in hx60 (by decide)) (by rw [cl_c hx60 2 rfl (by decide)]; rfl) dX4_spend_133 ?_
                refine lv_iload hx hb dX4_spend_134 (lv_at hl 6 rfl) ?_
                refine lv_aload_n hx hb dX4_spend_136 rfl (lv_at hl 1 rfl) ?_
                refine r_getr X hT 79 1 72 fk_4_33 rfl rfl (by decide) dX4_spend_137 ?_
                refine lv_iload hx hb dX4_spend_140 (lv_at hl 6 rfl) ?_
                refine lv_iload hx hb dX4_spend_142 (lv_at hl 0 rfl) ?_
                refine lv_iload_n hx hb dX4_spend_144 rfl (lv_at hl 4 rfl) ?_
                refine e_Vi (As := [.int x50_5, .int r56, .int x38_40_s0]) (rest := [.int x50_5, .ref (h 83)]) X Y hT hS (m_X0_waited_72 hR42 x50_5 r56 x38_40_s0 h49 hr56) mk_X0_waited gm_1031 rfl rfl (by decide) hd_X0_waited ⟨rfl, rfl⟩ ⟨Nat.le_of_ble_eq_true rfl, Nat.le_of_ble_eq_true rfl⟩ hl.1 rfl (Nat.le_of_ble_eq_true rfl) dX4_spend_145 ⟨Nat.zero_le _, Nat.zero_le _⟩ (fun r61 i61 g61 H locs hq hT hS => ?_)
                obtain ⟨eh61, hr61⟩ := hq
                rw [(Prod.mk.inj eh61).1, (Prod.mk.inj eh61).2] at hT
                refine r_iast X hT hS 83 rfl (by decide) (v_in h49 (by decide)) dX4_spend_148 (fun H locs i62 ei62 hT hS => ?_)
                have hR62 := Rg_put hR42 ei62 0 99 rfl hr61 (by decide)
                have hF62 := Fr_puti hF42 ei62 (by decide)
                obtain ⟨x63, ex63⟩ : ∃ y : Int32, y = x50_5 + 1 := ⟨_, rfl⟩
                refine lv_iinc (v := x63) (lv' := [(5, .int x63), (6, .int r56), (0, .ref (h 79)), (1, .int a_a), (2, .int (i 87 1)), (3, .int x38_40_s0), (4, .int x50_4)]) hx hb dX4_spend_149 hl (k := 6) rfl (by rw [ex63]; rfl) (by decide) rfl (fun ls hl => ?_)
                obtain ⟨hx63, ax63⟩ := rg_add 1 6 ex63 h49 (rg_k (by decide) : rg 1 1 1) (by decide)
                replace ax63 : x63.toInt = x50_5.toInt + 1 := ax63
                refine lv_goto (tgt := 50) hx hb dX4_spend_152 (by decide) ?_
                exact ih43_ x50_4 x63 i62 g42 _ _ _ (rg_w hx63 (by decide) : rg 0 6 x63) hR62 hF62 hT hS (lv_sub hl [2, 3, 4, 5, 6, 0] rfl) (m_up ax63 hx63 (by decide) hm43_)
              ·
                have q58 : ¬ r57.toInt = 0 := i_ne c58
                have h64 : rg 1 1 r57 := t_nelo 1 hr57 (rg_k (by decide) : rg 0 0 0) (i_ne c58) (by decide)
                refine lv_iload hx hb dX4_spend_101 (lv_at hl 5 rfl) ?_
                refine lv_iconst (v := 0) hx hb dX4_spend_103 (by decide) ?_
                refine lv_aload_n hx hb dX4_spend_104 rfl (lv_at hl 1 rfl) ?_
                refine r_getr X hT 79 0 15 fk_4_29 rfl rfl (by decide) dX4_spend_105 ?_
                refine r_getr X hT 15 0 16 fk_4_83 rfl rfl (by decide) dX4_spend_108 ?_
                refine lv_iload hx hb dX4_spend_111 (lv_at hl 6 rfl) ?_
                refine r_iald X hT 16 rfl (by decide) (v_in h49 (by decide)) dX4_spend_113 ?_
                refine lv_iload hx hb dX4_spend_114 (lv_at hl 0 rfl) ?_
                refine q_isub hx hb dX4_spend_116 (fun x65 ex65 => ?_)
                obtain ⟨hx65, ax65⟩ := rg_sub (-99) 60 ex65 (Rg_at hR42 16 x50_5.toNatClampNeg 0 60 (v_lt (v_in h49 (by decide))) rfl) hr56 (by decide)
                replace ax65 : x65.toInt = (i42 16 x50_5.toNatClampNeg).toInt - r56.toInt := ax65
                refine e_mmax X hl.1 gm_1030 gm_782 gm_118 mw_e_mmax (Nat.le_of_ble_eq_true rfl) (Nat.le_of_ble_eq_true rfl) ⟨Nat.zero_le _, Nat.zero_le _⟩ dX4_spend_117 (fun x66 ex66 => ?_)
                have h67 : rg 0 60 x66 := rg_mx ex66 (rg_k (by decide) : rg 0 0 0) hx65 (by decide)
                refine q_iadd hx hb dX4_spend_120 (fun x68 ex68 => ?_)
                refine lv_istore (lv' := [(4, .int x68), (6, .int r56), (0, .ref (h 79)), (1, .int a_a), (2, .int (i 87 1)), (3, .int x38_40_s0), (5, .int x50_5)]) hx hb dX4_spend_121 hl (by decide) rfl (fun ls hl => ?_)
                refine lv_goto (tgt := 149) hx hb dX4_spend_123 (by decide) ?_
                obtain ⟨x69, ex69⟩ : ∃ y : Int32, y = x50_5 + 1 := ⟨_, rfl⟩
                refine lv_iinc (v := x69) (lv' := [(5, .int x69), (4, .int x68), (6, .int r56), (0, .ref (h 79)), (1, .int a_a), (2, .int (i 87 1)), (3, .int x38_40_s0)]) hx hb dX4_spend_149 hl (k := 6) rfl (by rw [ex69]; rfl) (by decide) rfl (fun ls hl => ?_)
                obtain ⟨hx69, ax69⟩ := rg_add 1 6 ex69 h49 (rg_k (by decide) : rg 1 1 1) (by decide)
                replace ax69 : x69.toInt = x50_5.toInt + 1 := ax69
                refine lv_goto (tgt := 50) hx hb dX4_spend_152 (by decide) ?_
                exact ih43_ x68 x69 i42 g42 _ _ _ (rg_w hx69 (by decide) : rg 0 6 x69) hR42 hF42 hT hS (lv_sub hl [3, 4, 5, 6, 1, 0] rfl) (m_up ax69 hx69 (by decide) hm43_)
      exact L50_41 _ (i 88 1) (0) i g _ _ _ (rg_w (rg_k (by decide) : rg 0 0 0) (by decide) : rg 0 6 0) hR hF hT hS (lv_sub hl [3, 4, 5, 2, 1, 0] rfl) (Nat.lt_succ_self _)
    refine lv_icmp_ne (tgt := 21) hx hb dX4_spend_14 (by decide) (fun c39 => ?_) (fun c39 => ?_)
    ·
      have q39 : ¬ (i 89 1).toInt = (-1) := i_ne c39
      refine lv_aload_n hx hb dX4_spend_21 rfl (lv_at hl 1 rfl) ?_
      refine r_getr X hT 79 1 72 fk_4_33 rfl rfl (by decide) dX4_spend_22 ?_
      refine lv_iload_n hx hb dX4_spend_25 rfl (lv_at hl 0 rfl) ?_
      refine lv_iconst (v := 1) hx hb dX4_spend_26 (by decide) ?_
      refine lv_aload_n hx hb dX4_spend_27 rfl (lv_at hl 1 rfl) ?_
      refine r_getr X hT 79 5 89 fk_4_23 rfl rfl (by decide) dX4_spend_28 ?_
      refine lv_iload_n hx hb dX4_spend_31 rfl (lv_at hl 2 rfl) ?_
      refine r_ialdc X hT 89 1 rfl (by decide) (v_in h38 (by decide)) (cl_c h38 1 rfl (by decide)) dX4_spend_32 ?_
      refine q_ishl hx hb dX4_spend_33 (fun x70 ex70 => ?_)
      refine q_ior hx hb dX4_spend_34 (fun x71 ex71 => ?_)
      refine e_Vi (As := [.int x71]) (rest := []) X Y hT hS (m_X0_settle_72 hR x71) mk_X0_settle gm_1028 rfl rfl (by decide) hd_X0_settle ⟨rfl, rfl⟩ ⟨Nat.le_of_ble_eq_true rfl, Nat.le_of_ble_eq_true rfl⟩ hl.1 rfl (Nat.le_of_ble_eq_true rfl) dX4_spend_35 ⟨Nat.zero_le _, Nat.zero_le _⟩ (fun r72 i72 g72 H locs hq hT hS => ?_)
      have eh72 := hq
      rw [(Prod.mk.inj eh72).1, (Prod.mk.inj eh72).2] at hT
      exact J38_40 r72 _ _ _ hT hS (lv_sub hl [1, 2, 0] rfl)
    ·
      have q39 : (i 89 1).toInt = (-1) := i_eq c39
      have h73 : rg (-1) (-1) (i 89 1) := t_eqx (-1) (-1) (rg_top (i 89 1)) (rg_k (by decide) : rg (-1) (-1) (-1)) (i_eq c39) (by decide)
      refine lv_iload_n hx hb dX4_spend_17 rfl (lv_at hl 0 rfl) ?_
      refine lv_goto (tgt := 38) hx hb dX4_spend_18 (by decide) ?_
      exact J38_40 (i 87 1) _ _ _ hT hS (lv_sub hl [1, 2, 0] rfl)
  ·
    have h74 : rg 2 2 a_a := ⟨by omega, by omega⟩
    refine lv_aload_n hx hb dX4_spend_0 rfl (lv_at hl 0 rfl) ?_
    refine r_getr X hT 79 3 87 fk_4_16 rfl rfl (by decide) dX4_spend_1 ?_
    refine lv_iload_n hx hb dX4_spend_4 rfl (lv_at hl 1 rfl) ?_
    refine r_ialdc X hT 87 2 rfl (by decide) (v_in h74 (by decide)) (cl_c h74 2 rfl (by decide)) dX4_spend_5 ?_
    refine lv_istore_n (lv' := [(2, .int (i 87 2)), (0, .ref (h 79)), (1, .int a_a)]) hx hb dX4_spend_6 rfl hl (by decide) rfl (fun ls hl => ?_)
    refine lv_aload_n hx hb dX4_spend_7 rfl (lv_at hl 1 rfl) ?_
    refine r_getr X hT 79 5 89 fk_4_23 rfl rfl (by decide) dX4_spend_8 ?_
    refine lv_iload_n hx hb dX4_spend_11 rfl (lv_at hl 2 rfl) ?_
    refine r_ialdc X hT 89 2 rfl (by decide) (v_in h74 (by decide)) (cl_c h74 2 rfl (by decide)) dX4_spend_12 ?_
    refine lv_iconst (v := (-1)) hx hb dX4_spend_13 (by decide) ?_
    have J38_76 : ∀ (x38_76_s0 : Int32) (H : Heap) (locs : List Loc) (ls : Array Slot), TH D h cz i g H → va_S (hA h) s.heap H locs → lv_has ls 7 [(0, .ref (h 79)), (1, .int a_a), (2, .int (i 87 2))] → W p l e ({ frames := 2, cells := 0, slots := 0, locals := 64 } : Room) s m args below meth c H locs 0 0 Q (F0 m 38 ls [.int x38_76_s0]) := by
      intro x38_76_s0 H locs ls hT hS hl
      refine lv_istore_n (lv' := [(3, .int x38_76_s0), (0, .ref (h 79)), (1, .int a_a), (2, .int (i 87 2))]) hx hb dX4_spend_38 rfl hl (by decide) rfl (fun ls hl => ?_)
      refine lv_aload_n hx hb dX4_spend_39 rfl (lv_at hl 1 rfl) ?_
      refine r_getr X hT 79 4 88 fk_4_20 rfl rfl (by decide) dX4_spend_40 ?_
      refine lv_iload_n hx hb dX4_spend_43 rfl (lv_at hl 2 rfl) ?_
      refine r_ialdc X hT 88 2 rfl (by decide) (v_in h74 (by decide)) (cl_c h74 2 rfl (by decide)) dX4_spend_44 ?_
      refine lv_istore (lv' := [(4, .int (i 88 2)), (3, .int x38_76_s0), (0, .ref (h 79)), (1, .int a_a), (2, .int (i 87 2))]) hx hb dX4_spend_45 hl (by decide) rfl (fun ls hl => ?_)
      refine lv_iconst (v := 0) hx hb dX4_spend_47 (by decide) ?_
      refine lv_istore (lv' := [(5, .int 0), (4, .int (i 88 2)), (3, .int x38_76_s0), (0, .ref (h 79)), (1, .int a_a), (2, .int (i 87 2))]) hx hb dX4_spend_48 hl (by decide) rfl (fun ls hl => ?_)
      have L50_77 : ∀ (n79_ : Nat) (x50_4 : Int32) (x50_5 : Int32) (i78 : Nat → Nat → Int32) (g78 : Nat → Nat → Int64) (H : Heap) (locs : List Loc) (ls : Array Slot), rg 0 6 x50_5 → Rg rA i78 → Fr [82, 83, 84, 85, 86, 87, 88] [] i g (i78, g78) → TH D h cz i78 g78 H → va_S (hA h) s.heap H locs → lv_has ls 7 [(0, .ref (h 79)), (1, .int a_a), (2, .int (i 87 2)), (3, .int x38_76_s0), (4, .int x50_4), (5, .int x50_5)] → (6 - x50_5.toInt).toNat < n79_ → W p l e ({ frames := 2, cells := 0, slots := 0, locals := 64 } : Room) s m args below meth c H locs 0 0 Q (F0 m 50 ls []) := by
        intro n79_
        induction n79_ with
        | zero => intro x50_4 x50_5 i78 g78 H locs ls hhx50_5 hR78 hF78 hT hS hl hm79_; exact absurd hm79_ (Nat.not_lt_zero _)
        | succ n79_ ih79_ =>
          intro x50_4 x50_5 i78 g78 H locs ls hhx50_5 hR78 hF78 hT hS hl hm79_
          refine lv_iload hx hb dX4_spend_50 (lv_at hl 5 rfl) ?_
          refine lv_aload_n hx hb dX4_spend_52 rfl (lv_at hl 0 rfl) ?_
          refine r_getr X hT 79 0 15 fk_4_29 rfl rfl (by decide) dX4_spend_53 ?_
          refine r_geti X hT 15 13 fk_4_62 rfl rfl (by decide) dX4_spend_56 ?_
          refine lv_icmp_ge (tgt := 155) hx hb dX4_spend_59 (by decide) (fun c80 => ?_) (fun c80 => ?_)
          ·
            have q80 : (i78 15 13).toInt ≤ x50_5.toInt := i_le c80
            refine lv_aload_n hx hb dX4_spend_155 rfl (lv_at hl 0 rfl) ?_
            refine r_getr X hT 79 3 87 fk_4_16 rfl rfl (by decide) dX4_spend_156 ?_
            refine lv_iload_n hx hb dX4_spend_159 rfl (lv_at hl 1 rfl) ?_
            refine lv_iconst (v := 1) hx hb dX4_spend_160 (by decide) ?_
            refine q_iadd hx hb dX4_spend_161 (fun x81 ex81 => ?_)
            obtain ⟨hx81, ax81⟩ := rg_add 3 3 ex81 h74 (rg_k (by decide) : rg 1 1 1) (by decide)
            replace ax81 : x81.toInt = a_a.toInt + 1 := ax81
            refine lv_iload_n hx hb dX4_spend_162 rfl (lv_at hl 3 rfl) ?_
            refine r_iastc X hT hS 87 3 rfl (by decide) (v_in hx81 (by decide)) (cl_c hx81 3 rfl (by decide)) dX4_spend_163 (fun H locs i82 ei82 hT hS => ?_)
            have hR82 := Rg_put hR78 ei82 (-2147483648) 2147483647 rfl (rg_top x38_76_s0) (by decide)
            have hF82 := Fr_puti hF78 ei82 (by decide)
            refine lv_aload_n hx hb dX4_spend_164 rfl (lv_at hl 0 rfl) ?_
            refine r_getr X hT 79 4 88 fk_4_20 rfl rfl (by decide) dX4_spend_165 ?_
            refine lv_iload_n hx hb dX4_spend_168 rfl (lv_at hl 1 rfl) ?_
            refine lv_iconst (v := 1) hx hb dX4_spend_169 (by decide) ?_
            refine q_iadd hx hb dX4_spend_170 (fun x83 ex83 => ?_)
            obtain ⟨hx83, ax83⟩ := rg_add 3 3 ex83 h74 (rg_k (by decide) : rg 1 1 1) (by decide)
            replace ax83 : x83.toInt = a_a.toInt + 1 := ax83
            refine lv_iload hx hb dX4_spend_171 (lv_at hl 4 rfl) ?_
            refine r_iastc X hT hS 88 3 rfl (by decide) (v_in hx83 (by decide)) (cl_c hx83 3 rfl (by decide)) dX4_spend_173 (fun H locs i84 ei84 hT hS => ?_)
            have hR84 := Rg_put hR82 ei84 (-2147483648) 2147483647 rfl (rg_top x50_4) (by decide)
            have hF84 := Fr_puti hF82 ei84 (by decide)
            exact hret _ _ _ _ _ _ dX4_spend_174 hT hS ⟨hR84, hF84⟩
          ·
            have q80 : x50_5.toInt < (i78 15 13).toInt := i_nle c80
            have h85 : rg 0 5 x50_5 := t_ltx 0 5 hhx50_5 (Rg_at hR78 15 13 0 6 (by decide) rfl) (i_nle c80) (by decide)
            have h86 : rg 1 6 (i78 15 13) := t_lty 1 6 hhx50_5 (Rg_at hR78 15 13 0 6 (by decide) rfl) (i_nle c80) (by decide)
            refine lv_iload_n hx hb dX4_spend_62 rfl (lv_at hl 2 rfl) ?_
            refine lv_iload hx hb dX4_spend_63 (lv_at hl 5 rfl) ?_
            refine e_Ni (As := [.int (i 87 2), .int x50_5]) (rest := []) X Y hT hS (m_X8_hasBit (i 87 2) x50_5) sk_X8_hasBit Y.n2 hd_X8_hasBit ⟨rfl, rfl⟩ ⟨Nat.le_of_ble_eq_true rfl, Nat.le_of_ble_eq_true rfl⟩ hl.1 rfl (Nat.le_of_ble_eq_true rfl) dX4_spend_65 ⟨Nat.zero_le _, Nat.zero_le _⟩ (fun r87 i87 g87 H locs hq hT hS => ?_)
            obtain ⟨eh87, hr87⟩ := hq
            rw [(Prod.mk.inj eh87).1, (Prod.mk.inj eh87).2] at hT
            refine lv_if_ne (tgt := 149) hx hb dX4_spend_68 (by decide) (fun c88 => ?_) (fun c88 => ?_)
            ·
              have q88 : ¬ r87.toInt = 0 := i_ne c88
              have h89 : rg 1 1 r87 := t_nelo 1 hr87 (rg_k (by decide) : rg 0 0 0) (i_ne c88) (by decide)
              obtain ⟨x90, ex90⟩ : ∃ y : Int32, y = x50_5 + 1 := ⟨_, rfl⟩
              refine lv_iinc (v := x90) (lv' := [(5, .int x90), (0, .ref (h 79)), (1, .int a_a), (2, .int (i 87 2)), (3, .int x38_76_s0), (4, .int x50_4)]) hx hb dX4_spend_149 hl (k := 5) rfl (by rw [ex90]; rfl) (by decide) rfl (fun ls hl => ?_)
              obtain ⟨hx90, ax90⟩ := rg_add 1 6 ex90 h85 (rg_k (by decide) : rg 1 1 1) (by decide)
              replace ax90 : x90.toInt = x50_5.toInt + 1 := ax90
              refine lv_goto (tgt := 50) hx hb dX4_spend_152 (by decide) ?_
              exact ih79_ x50_4 x90 i78 g78 _ _ _ (rg_w hx90 (by decide) : rg 0 6 x90) hR78 hF78 hT hS (lv_sub hl [1, 2, 3, 4, 5, 0] rfl) (m_up ax90 hx90 (by decide) hm79_)
            ·
              have q88 : r87.toInt = 0 := i_eq c88
              have h91 : rg 0 0 r87 := t_eqx 0 0 hr87 (rg_k (by decide) : rg 0 0 0) (i_eq c88) (by decide)
              refine lv_aload_n hx hb dX4_spend_71 rfl (lv_at hl 0 rfl) ?_
              refine r_getr X hT 79 1 72 fk_4_33 rfl rfl (by decide) dX4_spend_72 ?_
              refine lv_iload hx hb dX4_spend_75 (lv_at hl 5 rfl) ?_
              refine lv_aload_n hx hb dX4_spend_77 rfl (lv_at hl 0 rfl) ?_
              refine r_getr X hT 79 2 80 fk_4_11 rfl rfl (by decide) dX4_spend_78 ?_
              refine lv_iload_n hx hb dX4_spend_81 rfl (lv_at hl 1 rfl) ?_
              refine r_aald5 X hT 80 83 rfl (by decide) (v_in h74 (by decide)) (by rw [cl_c h74 2 rfl (by decide)]; rfl) dX4_spend_82 ?_
              refine lv_iload hx hb dX4_spend_83 (lv_at hl 5 rfl) ?_
              refine r_iald X hT 83 rfl (by decide) (v_in h85 (by decide)) dX4_spend_85 ?_
              refine lv_iload_n hx hb dX4_spend_86 rfl (lv_at hl 1 rfl) ?_
              refine e_Vi (As := [.int x50_5, .int (i78 83 x50_5.toNatClampNeg), .int a_a]) (rest := []) X Y hT hS (m_X0_aired_72 hR78 x50_5 (i78 83 x50_5.toNatClampNeg) a_a h85 (Rg_at hR78 83 x50_5.toNatClampNeg 0 99 (v_lt (v_in h85 (by decide))) rfl) (rg_w h74 (by decide) : rg 0 11 a_a)) mk_X0_aired gm_1029 rfl rfl (by decide) hd_X0_aired ⟨rfl, rfl⟩ ⟨Nat.le_of_ble_eq_true rfl, Nat.le_of_ble_eq_true rfl⟩ hl.1 rfl (Nat.le_of_ble_eq_true rfl) dX4_spend_87 ⟨Nat.zero_le _, Nat.zero_le _⟩ (fun r92 i92 g92 H locs hq hT hS => ?_)
              obtain ⟨eh92, hr92⟩ := hq
              rw [(Prod.mk.inj eh92).1, (Prod.mk.inj eh92).2] at hT
              refine lv_istore (lv' := [(6, .int r92), (0, .ref (h 79)), (1, .int a_a), (2, .int (i 87 2)), (3, .int x38_76_s0), (4, .int x50_4), (5, .int x50_5)]) hx hb dX4_spend_90 hl (by decide) rfl (fun ls hl => ?_)
              refine lv_iload_n hx hb dX4_spend_92 rfl (lv_at hl 4 rfl) ?_
              refine lv_iload hx hb dX4_spend_93 (lv_at hl 6 rfl) ?_
              refine e_Ni (As := [.int x38_76_s0, .int x50_5]) (rest := []) X Y hT hS (m_X8_hasBit x38_76_s0 x50_5) sk_X8_hasBit Y.n2 hd_X8_hasBit ⟨rfl, rfl⟩ ⟨Nat.le_of_ble_eq_true rfl, Nat.le_of_ble_eq_true rfl⟩ hl.1 rfl (Nat.le_of_ble_eq_true rfl) dX4_spend_95 ⟨Nat.zero_le _, Nat.zero_le _⟩ (fun r93 i93 g93 H locs hq hT hS => ?_)
              obtain ⟨eh93, hr93⟩ := hq
              rw [(Prod.mk.inj eh93).1, (Prod.mk.inj eh93).2] at hT
              refine lv_if_eq (tgt := 126) hx hb dX4_spend_98 (by decide) (fun c94 => ?_) (fun c94 => ?_)
              ·
                have q94 : r93.toInt = 0 := i_eq c94
                have h95 : rg 0 0 r93 := t_eqx 0 0 hr93 (rg_k (by decide) : rg 0 0 0) (i_eq c94) (by decide)
                refine lv_aload_n hx hb dX4_spend_126 rfl (lv_at hl 1 rfl) ?_
                refine r_getr X hT 79 2 80 fk_4_11 rfl rfl (by decide) dX4_spend_127 ?_
                refine lv_iload_n hx hb dX4_spend_130 rfl (lv_at hl 2 rfl) ?_
                refine lv_iconst (v := 1) hx hb dX4_spend_131 (by decide) ?_
                refine q_iadd hx hb dX4_spend_132 (fun x96 ex96 => ?_)
                obtain ⟨hx96, ax96⟩ := rg_add 3 3 ex96 h74 (rg_k (by decide) : rg 1 1 1) (by decide)
                replace ax96 : x96.toInt = a_a.toInt + 1 := ax96
                refine r_aald5 X hT 80 84 rfl (by decide) (v_in hx96 (by decide)) (by rw [cl_c hx96 3 rfl (by decide)]; rfl) dX4_spend_133 ?_
                refine lv_iload hx hb dX4_spend_134 (lv_at hl 6 rfl) ?_
                refine lv_aload_n hx hb dX4_spend_136 rfl (lv_at hl 1 rfl) ?_
                refine r_getr X hT 79 1 72 fk_4_33 rfl rfl (by decide) dX4_spend_137 ?_
                refine lv_iload hx hb dX4_spend_140 (lv_at hl 6 rfl) ?_
                refine lv_iload hx hb dX4_spend_142 (lv_at hl 0 rfl) ?_
                refine lv_iload_n hx hb dX4_spend_144 rfl (lv_at hl 4 rfl) ?_
                refine e_Vi (As := [.int x50_5, .int r92, .int x38_76_s0]) (rest := [.int x50_5, .ref (h 84)]) X Y hT hS (m_X0_waited_72 hR78 x50_5 r92 x38_76_s0 h85 hr92) mk_X0_waited gm_1031 rfl rfl (by decide) hd_X0_waited ⟨rfl, rfl⟩ ⟨Nat.le_of_ble_eq_true rfl, Nat.le_of_ble_eq_true rfl⟩ hl.1 rfl (Nat.le_of_ble_eq_true rfl) dX4_spend_145 ⟨Nat.zero_le _, Nat.zero_le _⟩ (fun r97 i97 g97 H locs hq hT hS => ?_)
                obtain ⟨eh97, hr97⟩ := hq
                rw [(Prod.mk.inj eh97).1, (Prod.mk.inj eh97).2] at hT
                refine r_iast X hT hS 84 rfl (by decide) (v_in h85 (by decide)) dX4_spend_148 (fun H locs i98 ei98 hT hS => ?_)
                have hR98 := Rg_put hR78 ei98 0 99 rfl hr97 (by decide)
                have hF98 := Fr_puti hF78 ei98 (by decide)
                obtain ⟨x99, ex99⟩ : ∃ y : Int32, y = x50_5 + 1 := ⟨_, rfl⟩
                refine lv_iinc (v := x99) (lv' := [(5, .int x99), (6, .int r92), (0, .ref (h 79)), (1, .int a_a), (2, .int (i 87 2)), (3, .int x38_76_s0), (4, .int x50_4)]) hx hb dX4_spend_149 hl (k := 6) rfl (by rw [ex99]; rfl) (by decide) rfl (fun ls hl => ?_)
                obtain ⟨hx99, ax99⟩ := rg_add 1 6 ex99 h85 (rg_k (by decide) : rg 1 1 1) (by decide)
                replace ax99 : x99.toInt = x50_5.toInt + 1 := ax99
                refine lv_goto (tgt := 50) hx hb dX4_spend_152 (by decide) ?_
                exact ih79_ x50_4 x99 i98 g78 _ _ _ (rg_w hx99 (by decide) : rg 0 6 x99) hR98 hF98 hT hS (lv_sub hl [2, 3, 4, 5, 6, 0] rfl) (m_up ax99 hx99 (by decide) hm79_)
              ·
                have q94 : ¬ r93.toInt = 0 := i_ne c94
                have h100 : rg 1 1 r93 := t_nelo 1 hr93 (rg_k (by decide) : rg 0 0 0) (i_ne c94) (by decide)
                refine lv_iload hx hb dX4_spend_101 (lv_at hl 5 rfl) ?_
                refine lv_iconst (v := 0) hx hb dX4_spend_103 (by decide) ?_
                refine lv_aload_n hx hb dX4_spend_104 rfl (lv_at hl 1 rfl) ?_
                refine r_getr X hT 79 0 15 fk_4_29 rfl rfl (by decide) dX4_spend_105 ?_
                refine r_getr X hT 15 0 16 fk_4_83 rfl rfl (by decide) dX4_spend_108 ?_
                refine lv_iload hx hb dX4_spend_111 (lv_at hl 6 rfl) ?_
                refine r_iald X hT 16 rfl (by decide) (v_in h85 (by decide)) dX4_spend_113 ?_
                refine lv_iload hx hb dX4_spend_114 (lv_at hl 0 rfl) ?_
                refine q_isub hx hb dX4_spend_116 (fun x101 ex101 => ?_)
                obtain ⟨hx101, ax101⟩ := rg_sub (-99) 60 ex101 (Rg_at hR78 16 x50_5.toNatClampNeg 0 60 (v_lt (v_in h85 (by decide))) rfl) hr92 (by decide)
                replace ax101 : x101.toInt = (i78 16 x50_5.toNatClampNeg).toInt - r92.toInt := ax101
                refine e_mmax X hl.1 gm_1030 gm_782 gm_118 mw_e_mmax (Nat.le_of_ble_eq_true rfl) (Nat.le_of_ble_eq_true rfl) ⟨Nat.zero_le _, Nat.zero_le _⟩ dX4_spend_117 (fun x102 ex102 => ?_)
                have h103 : rg 0 60 x102 := rg_mx ex102 (rg_k (by decide) : rg 0 0 0) hx101 (by decide)
                refine q_iadd hx hb dX4_spend_120 (fun x104 ex104 => ?_)
                refine lv_istore (lv' := [(4, .int x104), (6, .int r92), (0, .ref (h 79)), (1, .int a_a), (2, .int (i 87 2)), (3, .int x38_76_s0), (5, .int x50_5)]) hx hb dX4_spend_121 hl (by decide) rfl (fun ls hl => ?_)
                refine lv_goto (tgt := 149) hx hb dX4_spend_123 (by decide) ?_
                obtain ⟨x105, ex105⟩ : ∃ y : Int32, y = x50_5 + 1 := ⟨_, rfl⟩
                refine lv_iinc (v := x105) (lv' := [(5, .int x105), (4, .int x104), (6, .int r92), (0, .ref (h 79)), (1, .int a_a), (2, .int (i 87 2)), (3, .int x38_76_s0)]) hx hb dX4_spend_149 hl (k := 6) rfl (by rw [ex105]; rfl) (by decide) rfl (fun ls hl => ?_)
                obtain ⟨hx105, ax105⟩ := rg_add 1 6 ex105 h85 (rg_k (by decide) : rg 1 1 1) (by decide)
                replace ax105 : x105.toInt = x50_5.toInt + 1 := ax105
                refine lv_goto (tgt := 50) hx hb dX4_spend_152 (by decide) ?_
                exact ih79_ x104 x105 i78 g78 _ _ _ (rg_w hx105 (by decide) : rg 0 6 x105) hR78 hF78 hT hS (lv_sub hl [3, 4, 5, 6, 1, 0] rfl) (m_up ax105 hx105 (by decide) hm79_)
      exact L50_77 _ (i 88 2) (0) i g _ _ _ (rg_w (rg_k (by decide) : rg 0 0 0) (by decide) : rg 0 6 0) hR hF hT hS (lv_sub hl [3, 4, 5, 2, 1, 0] rfl) (Nat.lt_succ_self _)
    refine lv_icmp_ne (tgt := 21) hx hb dX4_spend_14 (by decide) (fun c75 => ?_) (fun c75 => ?_)
    ·
      have q75 : ¬ (i 89 2).toInt = (-1) := i_ne c75
      refine lv_aload_n hx hb dX4_spend_21 rfl (lv_at hl 1 rfl) ?_
      refine r_getr X hT 79 1 72 fk_4_33 rfl rfl (by decide) dX4_spend_22 ?_
      refine lv_iload_n hx hb dX4_spend_25 rfl (lv_at hl 0 rfl) ?_
      refine lv_iconst (v := 1) hx hb dX4_spend_26 (by decide) ?_
      refine lv_aload_n hx hb dX4_spend_27 rfl (lv_at hl 1 rfl) ?_
      refine r_getr X hT 79 5 89 fk_4_23 rfl rfl (by decide) dX4_spend_28 ?_
      refine lv_iload_n hx hb dX4_spend_31 rfl (lv_at hl 2 rfl) ?_
      refine r_ialdc X hT 89 2 rfl (by decide) (v_in h74 (by decide)) (cl_c h74 2 rfl (by decide)) dX4_spend_32 ?_
      refine q_ishl hx hb dX4_spend_33 (fun x106 ex106 => ?_)
      refine q_ior hx hb dX4_spend_34 (fun x107 ex107 => ?_)
      refine e_Vi (As := [.int x107]) (rest := []) X Y hT hS (m_X0_settle_72 hR x107) mk_X0_settle gm_1028 rfl rfl (by decide) hd_X0_settle ⟨rfl, rfl⟩ ⟨Nat.le_of_ble_eq_true rfl, Nat.le_of_ble_eq_true rfl⟩ hl.1 rfl (Nat.le_of_ble_eq_true rfl) dX4_spend_35 ⟨Nat.zero_le _, Nat.zero_le _⟩ (fun r108 i108 g108 H locs hq hT hS => ?_)
      have eh108 := hq
      rw [(Prod.mk.inj eh108).1, (Prod.mk.inj eh108).2] at hT
      exact J38_76 r108 _ _ _ hT hS (lv_sub hl [1, 2, 0] rfl)
    ·
      have q75 : (i 89 2).toInt = (-1) := i_eq c75
      have h109 : rg (-1) (-1) (i 89 2) := t_eqx (-1) (-1) (rg_top (i 89 2)) (rg_k (by decide) : rg (-1) (-1) (-1)) (i_eq c75) (by decide)
      refine lv_iload_n hx hb dX4_spend_17 rfl (lv_at hl 0 rfl) ?_
      refine lv_goto (tgt := 38) hx hb dX4_spend_18 (by decide) ?_
      exact J38_76 (i 87 2) _ _ _ hT hS (lv_sub hl [1, 2, 0] rfl)
  ·
    have h110 : rg 3 3 a_a := ⟨by omega, by omega⟩
    refine lv_aload_n hx hb dX4_spend_0 rfl (lv_at hl 0 rfl) ?_
    refine r_getr X hT 79 3 87 fk_4_16 rfl rfl (by decide) dX4_spend_1 ?_
    refine lv_iload_n hx hb dX4_spend_4 rfl (lv_at hl 1 rfl) ?_
    refine r_ialdc X hT 87 3 rfl (by decide) (v_in h110 (by decide)) (cl_c h110 3 rfl (by decide)) dX4_spend_5 ?_
    refine lv_istore_n (lv' := [(2, .int (i 87 3)), (0, .ref (h 79)), (1, .int a_a)]) hx hb dX4_spend_6 rfl hl (by decide) rfl (fun ls hl => ?_)
    refine lv_aload_n hx hb dX4_spend_7 rfl (lv_at hl 1 rfl) ?_
    refine r_getr X hT 79 5 89 fk_4_23 rfl rfl (by decide) dX4_spend_8 ?_
    refine lv_iload_n hx hb dX4_spend_11 rfl (lv_at hl 2 rfl) ?_
    refine r_ialdc X hT 89 3 rfl (by decide) (v_in h110 (by decide)) (cl_c h110 3 rfl (by decide)) dX4_spend_12 ?_
    refine lv_iconst (v := (-1)) hx hb dX4_spend_13 (by decide) ?_
    have J38_112 : ∀ (x38_112_s0 : Int32) (H : Heap) (locs : List Loc) (ls : Array Slot), TH D h cz i g H → va_S (hA h) s.heap H locs → lv_has ls 7 [(0, .ref (h 79)), (1, .int a_a), (2, .int (i 87 3))] → W p l e ({ frames := 2, cells := 0, slots := 0, locals := 64 } : Room) s m args below meth c H locs 0 0 Q (F0 m 38 ls [.int x38_112_s0]) := by
      intro x38_112_s0 H locs ls hT hS hl
      refine lv_istore_n (lv' := [(3, .int x38_112_s0), (0, .ref (h 79)), (1, .int a_a), (2, .int (i 87 3))]) hx hb dX4_spend_38 rfl hl (by decide) rfl (fun ls hl => ?_)
      refine lv_aload_n hx hb dX4_spend_39 rfl (lv_at hl 1 rfl) ?_
      refine r_getr X hT 79 4 88 fk_4_20 rfl rfl (by decide) dX4_spend_40 ?_
      refine lv_iload_n hx hb dX4_spend_43 rfl (lv_at hl 2 rfl) ?_
      refine r_ialdc X hT 88 3 rfl (by decide) (v_in h110 (by decide)) (cl_c h110 3 rfl (by decide)) dX4_spend_44 ?_
      refine lv_istore (lv' := [(4, .int (i 88 3)), (3, .int x38_112_s0), (0, .ref (h 79)), (1, .int a_a), (2, .int (i 87 3))]) hx hb dX4_spend_45 hl (by decide) rfl (fun ls hl => ?_)
      refine lv_iconst (v := 0) hx hb dX4_spend_47 (by decide) ?_
      refine lv_istore (lv' := [(5, .int 0), (4, .int (i 88 3)), (3, .int x38_112_s0), (0, .ref (h 79)), (1, .int a_a), (2, .int (i 87 3))]) hx hb dX4_spend_48 hl (by decide) rfl (fun ls hl => ?_)
      have L50_113 : ∀ (n115_ : Nat) (x50_4 : Int32) (x50_5 : Int32) (i114 : Nat → Nat → Int32) (g114 : Nat → Nat → Int64) (H : Heap) (locs : List Loc) (ls : Array Slot), rg 0 6 x50_5 → Rg rA i114 → Fr [82, 83, 84, 85, 86, 87, 88] [] i g (i114, g114) → TH D h cz i114 g114 H → va_S (hA h) s.heap H locs → lv_has ls 7 [(0, .ref (h 79)), (1, .int a_a), (2, .int (i 87 3)), (3, .int x38_112_s0), (4, .int x50_4), (5, .int x50_5)] → (6 - x50_5.toInt).toNat < n115_ → W p l e ({ frames := 2, cells := 0, slots := 0, locals := 64 } : Room) s m args below meth c H locs 0 0 Q (F0 m 50 ls []) := by
        intro n115_
        induction n115_ with
        | zero => intro x50_4 x50_5 i114 g114 H locs ls hhx50_5 hR114 hF114 hT hS hl hm115_; exact absurd hm115_ (Nat.not_lt_zero _)
        | succ n115_ ih115_ =>
          intro x50_4 x50_5 i114 g114 H locs ls hhx50_5 hR114 hF114 hT hS hl hm115_
          refine lv_iload hx hb dX4_spend_50 (lv_at hl 5 rfl) ?_
          refine lv_aload_n hx hb dX4_spend_52 rfl (lv_at hl 0 rfl) ?_
          refine r_getr X hT 79 0 15 fk_4_29 rfl rfl (by decide) dX4_spend_53 ?_
          refine r_geti X hT 15 13 fk_4_62 rfl rfl (by decide) dX4_spend_56 ?_
          refine lv_icmp_ge (tgt := 155) hx hb dX4_spend_59 (by decide) (fun c116 => ?_) (fun c116 => ?_)
          ·
            have q116 : (i114 15 13).toInt ≤ x50_5.toInt := i_le c116
            refine lv_aload_n hx hb dX4_spend_155 rfl (lv_at hl 0 rfl) ?_
            refine r_getr X hT 79 3 87 fk_4_16 rfl rfl (by decide) dX4_spend_156 ?_
            refine lv_iload_n hx hb dX4_spend_159 rfl (lv_at hl 1 rfl) ?_
            refine lv_iconst (v := 1) hx hb dX4_spend_160 (by decide) ?_
            refine q_iadd hx hb dX4_spend_161 (fun x117 ex117 => ?_)
            obtain ⟨hx117, ax117⟩ := rg_add 4 4 ex117 h110 (rg_k (by decide) : rg 1 1 1) (by decide)
            replace ax117 : x117.toInt = a_a.toInt + 1 := ax117
            refine lv_iload_n hx hb dX4_spend_162 rfl (lv_at hl 3 rfl) ?_
            refine r_iastc X hT hS 87 4 rfl (by decide) (v_in hx117 (by decide)) (cl_c hx117 4 rfl (by decide)) dX4_spend_163 (fun H locs i118 ei118 hT hS => ?_)
            have hR118 := Rg_put hR114 ei118 (-2147483648) 2147483647 rfl (rg_top x38_112_s0) (by decide)
            have hF118 := Fr_puti hF114 ei118 (by decide)
            refine lv_aload_n hx hb dX4_spend_164 rfl (lv_at hl 0 rfl) ?_
            refine r_getr X hT 79 4 88 fk_4_20 rfl rfl (by decide) dX4_spend_165 ?_
            refine lv_iload_n hx hb dX4_spend_168 rfl (lv_at hl 1 rfl) ?_
            refine lv_iconst (v := 1) hx hb dX4_spend_169 (by decide) ?_
            refine q_iadd hx hb dX4_spend_170 (fun x119 ex119 => ?_)
            obtain ⟨hx119, ax119⟩ := rg_add 4 4 ex119 h110 (rg_k (by decide) : rg 1 1 1) (by decide)
            replace ax119 : x119.toInt = a_a.toInt + 1 := ax119
            refine lv_iload hx hb dX4_spend_171 (lv_at hl 4 rfl) ?_
            refine r_iastc X hT hS 88 4 rfl (by decide) (v_in hx119 (by decide)) (cl_c hx119 4 rfl (by decide)) dX4_spend_173 (fun H locs i120 ei120 hT hS => ?_)
            have hR120 := Rg_put hR118 ei120 (-2147483648) 2147483647 rfl (rg_top x50_4) (by decide)
            have hF120 := Fr_puti hF118 ei120 (by decide)
            exact hret _ _ _ _ _ _ dX4_spend_174 hT hS ⟨hR120, hF120⟩
          ·
            have q116 : x50_5.toInt < (i114 15 13).toInt := i_nle c116
            have h121 : rg 0 5 x50_5 := t_ltx 0 5 hhx50_5 (Rg_at hR114 15 13 0 6 (by decide) rfl) (i_nle c116) (by decide)
            have h122 : rg 1 6 (i114 15 13) := t_lty 1 6 hhx50_5 (Rg_at hR114 15 13 0 6 (by decide) rfl) (i_nle c116) (by decide)
            refine lv_iload_n hx hb dX4_spend_62 rfl (lv_at hl 2 rfl) ?_
            refine lv_iload hx hb dX4_spend_63 (lv_at hl 5 rfl) ?_
            refine e_Ni (As := [.int (i 87 3), .int x50_5]) (rest := []) X Y hT hS (m_X8_hasBit (i 87 3) x50_5) sk_X8_hasBit Y.n2 hd_X8_hasBit ⟨rfl, rfl⟩ ⟨Nat.le_of_ble_eq_true rfl, Nat.le_of_ble_eq_true rfl⟩ hl.1 rfl (Nat.le_of_ble_eq_true rfl) dX4_spend_65 ⟨Nat.zero_le _, Nat.zero_le _⟩ (fun r123 i123 g123 H locs hq hT hS => ?_)
            obtain ⟨eh123, hr123⟩ := hq
            rw [(Prod.mk.inj eh123).1, (Prod.mk.inj eh123).2] at hT
            refine lv_if_ne (tgt := 149) hx hb dX4_spend_68 (by decide) (fun c124 => ?_) (fun c124 => ?_)
            ·
              have q124 : ¬ r123.toInt = 0 := i_ne c124
              have h125 : rg 1 1 r123 := t_nelo 1 hr123 (rg_k (by decide) : rg 0 0 0) (i_ne c124) (by decide)
              obtain ⟨x126, ex126⟩ : ∃ y : Int32, y = x50_5 + 1 := ⟨_, rfl⟩
              refine lv_iinc (v := x126) (lv' := [(5, .int x126), (0, .ref (h 79)), (1, .int a_a), (2, .int (i 87 3)), (3, .int x38_112_s0), (4, .int x50_4)]) hx hb dX4_spend_149 hl (k := 5) rfl (by rw [ex126]; rfl) (by decide) rfl (fun ls hl => ?_)
              obtain ⟨hx126, ax126⟩ := rg_add 1 6 ex126 h121 (rg_k (by decide) : rg 1 1 1) (by decide)
              replace ax126 : x126.toInt = x50_5.toInt + 1 := ax126
              refine lv_goto (tgt := 50) hx hb dX4_spend_152 (by decide) ?_
              exact ih115_ x50_4 x126 i114 g114 _ _ _ (rg_w hx126 (by decide) : rg 0 6 x126) hR114 hF114 hT hS (lv_sub hl [1, 2, 3, 4, 5, 0] rfl) (m_up ax126 hx126 (by decide) hm115_)
            ·
              have q124 : r123.toInt = 0 := i_eq c124
              have h127 : rg 0 0 r123 := t_eqx 0 0 hr123 (rg_k (by decide) : rg 0 0 0) (i_eq c124) (by decide)
              refine lv_aload_n hx hb dX4_spend_71 rfl (lv_at hl 0 rfl) ?_
              refine r_getr X hT 79 1 72 fk_4_33 rfl rfl (by decide) dX4_spend_72 ?_
              refine lv_iload hx hb dX4_spend_75 (lv_at hl 5 rfl) ?_
              refine lv_aload_n hx hb dX4_spend_77 rfl (lv_at hl 0 rfl) ?_
              refine r_getr X hT 79 2 80 fk_4_11 rfl rfl (by decide) dX4_spend_78 ?_
              refine lv_iload_n hx hb dX4_spend_81 rfl (lv_at hl 1 rfl) ?_
              refine r_aald5 X hT 80 84 rfl (by decide) (v_in h110 (by decide)) (by rw [cl_c h110 3 rfl (by decide)]; rfl) dX4_spend_82 ?_
              refine lv_iload hx hb dX4_spend_83 (lv_at hl 5 rfl) ?_
              refine r_iald X hT 84 rfl (by decide) (v_in h121 (by decide)) dX4_spend_85 ?_
              refine lv_iload_n hx hb dX4_spend_86 rfl (lv_at hl 1 rfl) ?_
              refine e_Vi (As := [.int x50_5, .int (i114 84 x50_5.toNatClampNeg), .int a_a]) (rest := []) X Y hT hS (m_X0_aired_72 hR114 x50_5 (i114 84 x50_5.toNatClampNeg) a_a h121 (Rg_at hR114 84 x50_5.toNatClampNeg 0 99 (v_lt (v_in h121 (by decide))) rfl) (rg_w h110 (by decide) : rg 0 11 a_a)) mk_X0_aired gm_1029 rfl rfl (by decide) hd_X0_aired ⟨rfl, rfl⟩ ⟨Nat.le_of_ble_eq_true rfl, Nat.le_of_ble_eq_true rfl⟩ hl.1 rfl (Nat.le_of_ble_eq_true rfl) dX4_spend_87 ⟨Nat.zero_le _, Nat.zero_le _⟩ (fun r128 i128 g128 H locs hq hT hS => ?_)
              obtain ⟨eh128, hr128⟩ := hq
              rw [(Prod.mk.inj eh128).1, (Prod.mk.inj eh128).2] at hT
              refine lv_istore (lv' := [(6, .int r128), (0, .ref (h 79)), (1, .int a_a), (2, .int (i 87 3)), (3, .int x38_112_s0), (4, .int x50_4), (5, .int x50_5)]) hx hb dX4_spend_90 hl (by decide) rfl (fun ls hl => ?_)
              refine lv_iload_n hx hb dX4_spend_92 rfl (lv_at hl 4 rfl) ?_
              refine lv_iload hx hb dX4_spend_93 (lv_at hl 6 rfl) ?_
              refine e_Ni (As := [.int x38_112_s0, .int x50_5]) (rest := []) X Y hT hS (m_X8_hasBit x38_112_s0 x50_5) sk_X8_hasBit Y.n2 hd_X8_hasBit ⟨rfl, rfl⟩ ⟨Nat.le_of_ble_eq_true rfl, Nat.le_of_ble_eq_true rfl⟩ hl.1 rfl (Nat.le_of_ble_eq_true rfl) dX4_spend_95 ⟨Nat.zero_le _, Nat.zero_le _⟩ (fun r129 i129 g129 H locs hq hT hS => ?_)
              obtain ⟨eh129, hr129⟩ := hq
              rw [(Prod.mk.inj eh129).1, (Prod.mk.inj eh129).2] at hT
              refine lv_if_eq (tgt := 126) hx hb dX4_spend_98 (by decide) (fun c130 => ?_) (fun c130 => ?_)
              ·
                have q130 : r129.toInt = 0 := i_eq c130
                have h131 : rg 0 0 r129 := t_eqx 0 0 hr129 (rg_k (by decide) : rg 0 0 0) (i_eq c130) (by decide)
                refine lv_aload_n hx hb dX4_spend_126 rfl (lv_at hl 1 rfl) ?_
                refine r_getr X hT 79 2 80 fk_4_11 rfl rfl (by decide) dX4_spend_127 ?_
                refine lv_iload_n hx hb dX4_spend_130 rfl (lv_at hl 2 rfl) ?_
                refine lv_iconst (v := 1) hx hb dX4_spend_131 (by decide) ?_
                refine q_iadd hx hb dX4_spend_132 (fun x132 ex132 => ?_)
                obtain ⟨hx132, ax132⟩ := rg_add 4 4 ex132 h110 (rg_k (by decide) : rg 1 1 1) (by decide)
                replace ax132 : x132.toInt = a_a.toInt + 1 := ax132
                refine r_aald5 X hT 80 85 rfl (by decide) (v_in hx132 (by decide)) (by rw [cl_c hx132 4 rfl (by decide)]; rfl) dX4_spend_133 ?_
                refine lv_iload hx hb dX4_spend_134 (lv_at hl 6 rfl) ?_
                refine lv_aload_n hx hb dX4_spend_136 rfl (lv_at hl 1 rfl) ?_
                refine r_getr X hT 79 1 72 fk_4_33 rfl rfl (by decide) dX4_spend_137 ?_
                refine lv_iload hx hb dX4_spend_140 (lv_at hl 6 rfl) ?_
                refine lv_iload hx hb dX4_spend_142 (lv_at hl 0 rfl) ?_
                refine lv_iload_n hx hb dX4_spend_144 rfl (lv_at hl 4 rfl) ?_
                refine e_Vi (As := [.int x50_5, .int r128, .int x38_112_s0]) (rest := [.int x50_5, .ref (h 85)]) X Y hT hS (m_X0_waited_72 hR114 x50_5 r128 x38_112_s0 h121 hr128) mk_X0_waited gm_1031 rfl rfl (by decide) hd_X0_waited ⟨rfl, rfl⟩ ⟨Nat.le_of_ble_eq_true rfl, Nat.le_of_ble_eq_true rfl⟩ hl.1 rfl (Nat.le_of_ble_eq_true rfl) dX4_spend_145 ⟨Nat.zero_le _, Nat.zero_le _⟩ (fun r133 i133 g133 H locs hq hT hS => ?_)
                obtain ⟨eh133, hr133⟩ := hq
                rw [(Prod.mk.inj eh133).1, (Prod.mk.inj eh133).2] at hT
                refine r_iast X hT hS 85 rfl (by decide) (v_in h121 (by decide)) dX4_spend_148 (fun H locs i134 ei134 hT hS => ?_)
                have hR134 := Rg_put hR114 ei134 0 99 rfl hr133 (by decide)
                have hF134 := Fr_puti hF114 ei134 (by decide)
                obtain ⟨x135, ex135⟩ : ∃ y : Int32, y = x50_5 + 1 := ⟨_, rfl⟩
                refine lv_iinc (v := x135) (lv' := [(5, .int x135), (6, .int r128), (0, .ref (h 79)), (1, .int a_a), (2, .int (i 87 3)), (3, .int x38_112_s0), (4, .int x50_4)]) hx hb dX4_spend_149 hl (k := 6) rfl (by rw [ex135]; rfl) (by decide) rfl (fun ls hl => ?_)
                obtain ⟨hx135, ax135⟩ := rg_add 1 6 ex135 h121 (rg_k (by decide) : rg 1 1 1) (by decide)
                replace ax135 : x135.toInt = x50_5.toInt + 1 := ax135
                refine lv_goto (tgt := 50) hx hb dX4_spend_152 (by decide) ?_
                exact ih115_ x50_4 x135 i134 g114 _ _ _ (rg_w hx135 (by decide) : rg 0 6 x135) hR134 hF134 hT hS (lv_sub hl [2, 3, 4, 5, 6, 0] rfl) (m_up ax135 hx135 (by decide) hm115_)
              ·
                have q130 : ¬ r129.toInt = 0 := i_ne c130
                have h136 : rg 1 1 r129 := t_nelo 1 hr129 (rg_k (by decide) : rg 0 0 0) (i_ne c130) (by decide)
                refine lv_iload hx hb dX4_spend_101 (lv_at hl 5 rfl) ?_
                refine lv_iconst (v := 0) hx hb dX4_spend_103 (by decide) ?_
                refine lv_aload_n hx hb dX4_spend_104 rfl (lv_at hl 1 rfl) ?_
                refine r_getr X hT 79 0 15 fk_4_29 rfl rfl (by decide) dX4_spend_105 ?_
                refine r_getr X hT 15 0 16 fk_4_83 rfl rfl (by decide) dX4_spend_108 ?_
                refine lv_iload hx hb dX4_spend_111 (lv_at hl 6 rfl) ?_
                refine r_iald X hT 16 rfl (by decide) (v_in h121 (by decide)) dX4_spend_113 ?_
                refine lv_iload hx hb dX4_spend_114 (lv_at hl 0 rfl) ?_
                refine q_isub hx hb dX4_spend_116 (fun x137 ex137 => ?_)
                obtain ⟨hx137, ax137⟩ := rg_sub (-99) 60 ex137 (Rg_at hR114 16 x50_5.toNatClampNeg 0 60 (v_lt (v_in h121 (by decide))) rfl) hr128 (by decide)
                replace ax137 : x137.toInt = (i114 16 x50_5.toNatClampNeg).toInt - r128.toInt := ax137
                refine e_mmax X hl.1 gm_1030 gm_782 gm_118 mw_e_mmax (Nat.le_of_ble_eq_true rfl) (Nat.le_of_ble_eq_true rfl) ⟨Nat.zero_le _, Nat.zero_le _⟩ dX4_spend_117 (fun x138 ex138 => ?_)
                have h139 : rg 0 60 x138 := rg_mx ex138 (rg_k (by decide) : rg 0 0 0) hx137 (by decide)
                refine q_iadd hx hb dX4_spend_120 (fun x140 ex140 => ?_)
                refine lv_istore (lv' := [(4, .int x140), (6, .int r128), (0, .ref (h 79)), (1, .int a_a), (2, .int (i 87 3)), (3, .int x38_112_s0), (5, .int x50_5)]) hx hb dX4_spend_121 hl (by decide) rfl (fun ls hl => ?_)
                refine lv_goto (tgt := 149) hx hb dX4_spend_123 (by decide) ?_
                obtain ⟨x141, ex141⟩ : ∃ y : Int32, y = x50_5 + 1 := ⟨_, rfl⟩
                refine lv_iinc (v := x141) (lv' := [(5, .int x141), (4, .int x140), (6, .int r128), (0, .ref (h 79)), (1, .int a_a), (2, .int (i 87 3)), (3, .int x38_112_s0)]) hx hb dX4_spend_149 hl (k := 6) rfl (by rw [ex141]; rfl) (by decide) rfl (fun ls hl => ?_)
                obtain ⟨hx141, ax141⟩ := rg_add 1 6 ex141 h121 (rg_k (by decide) : rg 1 1 1) (by decide)
                replace ax141 : x141.toInt = x50_5.toInt + 1 := ax141
                refine lv_goto (tgt := 50) hx hb dX4_spend_152 (by decide) ?_
                exact ih115_ x140 x141 i114 g114 _ _ _ (rg_w hx141 (by decide) : rg 0 6 x141) hR114 hF114 hT hS (lv_sub hl [3, 4, 5, 6, 1, 0] rfl) (m_up ax141 hx141 (by decide) hm115_)
      exact L50_113 _ (i 88 3) (0) i g _ _ _ (rg_w (rg_k (by decide) : rg 0 0 0) (by decide) : rg 0 6 0) hR hF hT hS (lv_sub hl [3, 4, 5, 2, 1, 0] rfl) (Nat.lt_succ_self _)
    refine lv_icmp_ne (tgt := 21) hx hb dX4_spend_14 (by decide) (fun c111 => ?_) (fun c111 => ?_)
    ·
      have q111 : ¬ (i 89 3).toInt = (-1) := i_ne c111
      refine lv_aload_n hx hb dX4_spend_21 rfl (lv_at hl 1 rfl) ?_
      refine r_getr X hT 79 1 72 fk_4_33 rfl rfl (by decide) dX4_spend_22 ?_
      refine lv_iload_n hx hb dX4_spend_25 rfl (lv_at hl 0 rfl) ?_
      refine lv_iconst (v := 1) hx hb dX4_spend_26 (by decide) ?_
      refine lv_aload_n hx hb dX4_spend_27 rfl (lv_at hl 1 rfl) ?_
      refine r_getr X hT 79 5 89 fk_4_23 rfl rfl (by decide) dX4_spend_28 ?_
      refine lv_iload_n hx hb dX4_spend_31 rfl (lv_at hl 2 rfl) ?_
      refine r_ialdc X hT 89 3 rfl (by decide) (v_in h110 (by decide)) (cl_c h110 3 rfl (by decide)) dX4_spend_32 ?_
      refine q_ishl hx hb dX4_spend_33 (fun x142 ex142 => ?_)
      refine q_ior hx hb dX4_spend_34 (fun x143 ex143 => ?_)
      refine e_Vi (As := [.int x143]) (rest := []) X Y hT hS (m_X0_settle_72 hR x143) mk_X0_settle gm_1028 rfl rfl (by decide) hd_X0_settle ⟨rfl, rfl⟩ ⟨Nat.le_of_ble_eq_true rfl, Nat.le_of_ble_eq_true rfl⟩ hl.1 rfl (Nat.le_of_ble_eq_true rfl) dX4_spend_35 ⟨Nat.zero_le _, Nat.zero_le _⟩ (fun r144 i144 g144 H locs hq hT hS => ?_)
      have eh144 := hq
      rw [(Prod.mk.inj eh144).1, (Prod.mk.inj eh144).2] at hT
      exact J38_112 r144 _ _ _ hT hS (lv_sub hl [1, 2, 0] rfl)
    ·
      have q111 : (i 89 3).toInt = (-1) := i_eq c111
      have h145 : rg (-1) (-1) (i 89 3) := t_eqx (-1) (-1) (rg_top (i 89 3)) (rg_k (by decide) : rg (-1) (-1) (-1)) (i_eq c111) (by decide)
      refine lv_iload_n hx hb dX4_spend_17 rfl (lv_at hl 0 rfl) ?_
      refine lv_goto (tgt := 38) hx hb dX4_spend_18 (by decide) ?_
      exact J38_112 (i 87 3) _ _ _ hT hS (lv_sub hl [1, 2, 0] rfl)
  ·
    have h146 : rg 4 4 a_a := ⟨by omega, by omega⟩
    refine lv_aload_n hx hb dX4_spend_0 rfl (lv_at hl 0 rfl) ?_
    refine r_getr X hT 79 3 87 fk_4_16 rfl rfl (by decide) dX4_spend_1 ?_
    refine lv_iload_n hx hb dX4_spend_4 rfl (lv_at hl 1 rfl) ?_
    refine r_ialdc X hT 87 4 rfl (by decide) (v_in h146 (by decide)) (cl_c h146 4 rfl (by decide)) dX4_spend_5 ?_
    refine lv_istore_n (lv' := [(2, .int (i 87 4)), (0, .ref (h 79)), (1, .int a_a)]) hx hb dX4_spend_6 rfl hl (by decide) rfl (fun ls hl => ?_)
    refine lv_aload_n hx hb dX4_spend_7 rfl (lv_at hl 1 rfl) ?_
    refine r_getr X hT 79 5 89 fk_4_23 rfl rfl (by decide) dX4_spend_8 ?_
    refine lv_iload_n hx hb dX4_spend_11 rfl (lv_at hl 2 rfl) ?_
    refine r_ialdc X hT 89 4 rfl (by decide) (v_in h146 (by decide)) (cl_c h146 4 rfl (by decide)) dX4_spend_12 ?_
    refine lv_iconst (v := (-1)) hx hb dX4_spend_13 (by decide) ?_
    have J38_148 : ∀ (x38_148_s0 : Int32) (H : Heap) (locs : List Loc) (ls : Array Slot), TH D h cz i g H → va_S (hA h) s.heap H locs → lv_has ls 7 [(0, .ref (h 79)), (1, .int a_a), (2, .int (i 87 4))] → W p l e ({ frames := 2, cells := 0, slots := 0, locals := 64 } : Room) s m args below meth c H locs 0 0 Q (F0 m 38 ls [.int x38_148_s0]) := by
      intro x38_148_s0 H locs ls hT hS hl
      refine lv_istore_n (lv' := [(3, .int x38_148_s0), (0, .ref (h 79)), (1, .int a_a), (2, .int (i 87 4))]) hx hb dX4_spend_38 rfl hl (by decide) rfl (fun ls hl => ?_)
      refine lv_aload_n hx hb dX4_spend_39 rfl (lv_at hl 1 rfl) ?_
      refine r_getr X hT 79 4 88 fk_4_20 rfl rfl (by decide) dX4_spend_40 ?_
      refine lv_iload_n hx hb dX4_spend_43 rfl (lv_at hl 2 rfl) ?_
      refine r_ialdc X hT 88 4 rfl (by decide) (v_in h146 (by decide)) (cl_c h146 4 rfl (by decide)) dX4_spend_44 ?_
      refine lv_istore (lv' := [(4, .int (i 88 4)), (3, .int x38_148_s0), (0, .ref (h 79)), (1, .int a_a), (2, .int (i 87 4))]) hx hb dX4_spend_45 hl (by decide) rfl (fun ls hl => ?_)
      refine lv_iconst (v := 0) hx hb dX4_spend_47 (by decide) ?_
      refine lv_istore (lv' := [(5, .int 0), (4, .int (i 88 4)), (3, .int x38_148_s0), (0, .ref (h 79)), (1, .int a_a), (2, .int (i 87 4))]) hx hb dX4_spend_48 hl (by decide) rfl (fun ls hl => ?_)
      have L50_149 : ∀ (n151_ : Nat) (x50_4 : Int32) (x50_5 : Int32) (i150 : Nat → Nat → Int32) (g150 : Nat → Nat → Int64) (H : Heap) (locs : List Loc) (ls : Array Slot), rg 0 6 x50_5 → Rg rA i150 → Fr [82, 83, 84, 85, 86, 87, 88] [] i g (i150, g150) → TH D h cz i150 g150 H → va_S (hA h) s.heap H locs → lv_has ls 7 [(0, .ref (h 79)), (1, .int a_a), (2, .int (i 87 4)), (3, .int x38_148_s0), (4, .int x50_4), (5, .int x50_5)] → (6 - x50_5.toInt).toNat < n151_ → W p l e ({ frames := 2, cells := 0, slots := 0, locals := 64 } : Room) s m args below meth c H locs 0 0 Q (F0 m 50 ls []) := by
        intro n151_
        induction n151_ with
        | zero => intro x50_4 x50_5 i150 g150 H locs ls hhx50_5 hR150 hF150 hT hS hl hm151_; exact absurd hm151_ (Nat.not_lt_zero _)
        | succ n151_ ih151_ =>
          intro x50_4 x50_5 i150 g150 H locs ls hhx50_5 hR150 hF150 hT hS hl hm151_
          refine lv_iload hx hb dX4_spend_50 (lv_at hl 5 rfl) ?_
          refine lv_aload_n hx hb dX4_spend_52 rfl (lv_at hl 0 rfl) ?_
          refine r_getr X hT 79 0 15 fk_4_29 rfl rfl (by decide) dX4_spend_53 ?_
          refine r_geti X hT 15 13 fk_4_62 rfl rfl (by decide) dX4_spend_56 ?_
          refine lv_icmp_ge (tgt := 155) hx hb dX4_spend_59 (by decide) (fun c152 => ?_) (fun c152 => ?_)
          ·
            have q152 : (i150 15 13).toInt ≤ x50_5.toInt := i_le c152
            refine lv_aload_n hx hb dX4_spend_155 rfl (lv_at hl 0 rfl) ?_
            refine r_getr X hT 79 3 87 fk_4_16 rfl rfl (by decide) dX4_spend_156 ?_
            refine lv_iload_n hx hb dX4_spend_159 rfl (lv_at hl 1 rfl) ?_
            refine lv_iconst (v := 1) hx hb dX4_spend_160 (by decide) ?_
            refine q_iadd hx hb dX4_spend_161 (fun x153 ex153 => ?_)
            obtain ⟨hx153, ax153⟩ := rg_add 5 5 ex153 h146 (rg_k (by decide) : rg 1 1 1) (by decide)
            replace ax153 : x153.toInt = a_a.toInt + 1 := ax153
            refine lv_iload_n hx hb dX4_spend_162 rfl (lv_at hl 3 rfl) ?_
            refine r_iastc X hT hS 87 5 rfl (by decide) (v_in hx153 (by decide)) (cl_c hx153 5 rfl (by decide)) dX4_spend_163 (fun H locs i154 ei154 hT hS => ?_)
            have hR154 := Rg_put hR150 ei154 (-2147483648) 2147483647 rfl (rg_top x38_148_s0) (by decide)
            have hF154 := Fr_puti hF150 ei154 (by decide)
            refine lv_aload_n hx hb dX4_spend_164 rfl (lv_at hl 0 rfl) ?_
            refine r_getr X hT 79 4 88 fk_4_20 rfl rfl (by decide) dX4_spend_165 ?_
            refine lv_iload_n hx hb dX4_spend_168 rfl (lv_at hl 1 rfl) ?_
            refine lv_iconst (v := 1) hx hb dX4_spend_169 (by decide) ?_
            refine q_iadd hx hb dX4_spend_170 (fun x155 ex155 => ?_)
            obtain ⟨hx155, ax155⟩ := rg_add 5 5 ex155 h146 (rg_k (by decide) : rg 1 1 1) (by decide)
            replace ax155 : x155.toInt = a_a.toInt + 1 := ax155
            refine lv_iload hx hb dX4_spend_171 (lv_at hl 4 rfl) ?_
            refine r_iastc X hT hS 88 5 rfl (by decide) (v_in hx155 (by decide)) (cl_c hx155 5 rfl (by decide)) dX4_spend_173 (fun H locs i156 ei156 hT hS => ?_)
            have hR156 := Rg_put hR154 ei156 (-2147483648) 2147483647 rfl (rg_top x50_4) (by decide)
            have hF156 := Fr_puti hF154 ei156 (by decide)
            exact hret _ _ _ _ _ _ dX4_spend_174 hT hS ⟨hR156, hF156⟩
          ·
            have q152 : x50_5.toInt < (i150 15 13).toInt := i_nle c152
            have h157 : rg 0 5 x50_5 := t_ltx 0 5 hhx50_5 (Rg_at hR150 15 13 0 6 (by decide) rfl) (i_nle c152) (by decide)
            have h158 : rg 1 6 (i150 15 13) := t_lty 1 6 hhx50_5 (Rg_at hR150 15 13 0 6 (by decide) rfl) (i_nle c152) (by decide)
            refine lv_iload_n hx hb dX4_spend_62 rfl (lv_at hl 2 rfl) ?_
            refine lv_iload hx hb dX4_spend_63 (lv_at hl 5 rfl) ?_
            refine e_Ni (As := [.int (i 87 4), .int x50_5]) (rest := []) X Y hT hS (m_X8_hasBit (i 87 4) x50_5) sk_X8_hasBit Y.n2 hd_X8_hasBit ⟨rfl, rfl⟩ ⟨Nat.le_of_ble_eq_true rfl, Nat.le_of_ble_eq_true rfl⟩ hl.1 rfl (Nat.le_of_ble_eq_true rfl) dX4_spend_65 ⟨Nat.zero_le _, Nat.zero_le _⟩ (fun r159 i159 g159 H locs hq hT hS => ?_)
            obtain ⟨eh159, hr159⟩ := hq
            rw [(Prod.mk.inj eh159).1, (Prod.mk.inj eh159).2] at hT
            refine lv_if_ne (tgt := 149) hx hb dX4_spend_68 (by decide) (fun c160 => ?_) (fun c160 => ?_)
            ·
              have q160 : ¬ r159.toInt = 0 := i_ne c160
              have h161 : rg 1 1 r159 := t_nelo 1 hr159 (rg_k (by decide) : rg 0 0 0) (i_ne c160) (by decide)
              obtain ⟨x162, ex162⟩ : ∃ y : Int32, y = x50_5 + 1 := ⟨_, rfl⟩
              refine lv_iinc (v := x162) (lv' := [(5, .int x162), (0, .ref (h 79)), (1, .int a_a), (2, .int (i 87 4)), (3, .int x38_148_s0), (4, .int x50_4)]) hx hb dX4_spend_149 hl (k := 5) rfl (by rw [ex162]; rfl) (by decide) rfl (fun ls hl => ?_)
              obtain ⟨hx162, ax162⟩ := rg_add 1 6 ex162 h157 (rg_k (by decide) : rg 1 1 1) (by decide)
              replace ax162 : x162.toInt = x50_5.toInt + 1 := ax162
              refine lv_goto (tgt := 50) hx hb dX4_spend_152 (by decide) ?_
              exact ih151_ x50_4 x162 i150 g150 _ _ _ (rg_w hx162 (by decide) : rg 0 6 x162) hR150 hF150 hT hS (lv_sub hl [1, 2, 3, 4, 5, 0] rfl) (m_up ax162 hx162 (by decide) hm151_)
            ·
              have q160 : r159.toInt = 0 := i_eq c160
              have h163 : rg 0 0 r159 := t_eqx 0 0 hr159 (rg_k (by decide) : rg 0 0 0) (i_eq c160) (by decide)
              refine lv_aload_n hx hb dX4_spend_71 rfl (lv_at hl 0 rfl) ?_
              refine r_getr X hT 79 1 72 fk_4_33 rfl rfl (by decide) dX4_spend_72 ?_
              refine lv_iload hx hb dX4_spend_75 (lv_at hl 5 rfl) ?_
              refine lv_aload_n hx hb dX4_spend_77 rfl (lv_at hl 0 rfl) ?_
              refine r_getr X hT 79 2 80 fk_4_11 rfl rfl (by decide) dX4_spend_78 ?_
              refine lv_iload_n hx hb dX4_spend_81 rfl (lv_at hl 1 rfl) ?_
              refine r_aald5 X hT 80 85 rfl (by decide) (v_in h146 (by decide)) (by rw [cl_c h146 4 rfl (by decide)]; rfl) dX4_spend_82 ?_
              refine lv_iload hx hb dX4_spend_83 (lv_at hl 5 rfl) ?_
              refine r_iald X hT 85 rfl (by decide) (v_in h157 (by decide)) dX4_spend_85 ?_
              refine lv_iload_n hx hb dX4_spend_86 rfl (lv_at hl 1 rfl) ?_
              refine e_Vi (As := [.int x50_5, .int (i150 85 x50_5.toNatClampNeg), .int a_a]) (rest := []) X Y hT hS (m_X0_aired_72 hR150 x50_5 (i150 85 x50_5.toNatClampNeg) a_a h157 (Rg_at hR150 85 x50_5.toNatClampNeg 0 99 (v_lt (v_in h157 (by decide))) rfl) (rg_w h146 (by decide) : rg 0 11 a_a)) mk_X0_aired gm_1029 rfl rfl (by decide) hd_X0_aired ⟨rfl, rfl⟩ ⟨Nat.le_of_ble_eq_true rfl, Nat.le_of_ble_eq_true rfl⟩ hl.1 rfl (Nat.le_of_ble_eq_true rfl) dX4_spend_87 ⟨Nat.zero_le _, Nat.zero_le _⟩ (fun r164 i164 g164 H locs hq hT hS => ?_)
              obtain ⟨eh164, hr164⟩ := hq
              rw [(Prod.mk.inj eh164).1, (Prod.mk.inj eh164).2] at hT
              refine lv_istore (lv' := [(6, .int r164), (0, .ref (h 79)), (1, .int a_a), (2, .int (i 87 4)), (3, .int x38_148_s0), (4, .int x50_4), (5, .int x50_5)]) hx hb dX4_spend_90 hl (by decide) rfl (fun ls hl => ?_)
              refine lv_iload_n hx hb dX4_spend_92 rfl (lv_at hl 4 rfl) ?_
              refine lv_iload hx hb dX4_spend_93 (lv_at hl 6 rfl) ?_
              refine e_Ni (As := [.int x38_148_s0, .int x50_5]) (rest := []) X Y hT hS (m_X8_hasBit x38_148_s0 x50_5) sk_X8_hasBit Y.n2 hd_X8_hasBit ⟨rfl, rfl⟩ ⟨Nat.le_of_ble_eq_true rfl, Nat.le_of_ble_eq_true rfl⟩ hl.1 rfl (Nat.le_of_ble_eq_true rfl) dX4_spend_95 ⟨Nat.zero_le _, Nat.zero_le _⟩ (fun r165 i165 g165 H locs hq hT hS => ?_)
              obtain ⟨eh165, hr165⟩ := hq
              rw [(Prod.mk.inj eh165).1, (Prod.mk.inj eh165).2] at hT
              refine lv_if_eq (tgt := 126) hx hb dX4_spend_98 (by decide) (fun c166 => ?_) (fun c166 => ?_)
              ·
                have q166 : r165.toInt = 0 := i_eq c166
                have h167 : rg 0 0 r165 := t_eqx 0 0 hr165 (rg_k (by decide) : rg 0 0 0) (i_eq c166) (by decide)
                refine lv_aload_n hx hb dX4_spend_126 rfl (lv_at hl 1 rfl) ?_
                refine r_getr X hT 79 2 80 fk_4_11 rfl rfl (by decide) dX4_spend_127 ?_
                refine lv_iload_n hx hb dX4_spend_130 rfl (lv_at hl 2 rfl) ?_
                refine lv_iconst (v := 1) hx hb dX4_spend_131 (by decide) ?_
                refine q_iadd hx hb dX4_spend_132 (fun x168 ex168 => ?_)
                obtain ⟨hx168, ax168⟩ := rg_add 5 5 ex168 h146 (rg_k (by decide) : rg 1 1 1) (by decide)
                replace ax168 : x168.toInt = a_a.toInt + 1 := ax168
                refine r_aald5 X hT 80 86 rfl (by decide) (v_in hx168 (by decide)) (by rw [cl_c hx168 5 rfl (by decide)]; rfl) dX4_spend_133 ?_
                refine lv_iload hx hb dX4_spend_134 (lv_at hl 6 rfl) ?_
                refine lv_aload_n hx hb dX4_spend_136 rfl (lv_at hl 1 rfl) ?_
                refine r_getr X hT 79 1 72 fk_4_33 rfl rfl (by decide) dX4_spend_137 ?_
                refine lv_iload hx hb dX4_spend_140 (lv_at hl 6 rfl) ?_
                refine lv_iload hx hb dX4_spend_142 (lv_at hl 0 rfl) ?_
                refine lv_iload_n hx hb dX4_spend_144 rfl (lv_at hl 4 rfl) ?_
                refine e_Vi (As := [.int x50_5, .int r164, .int x38_148_s0]) (rest := [.int x50_5, .ref (h 86)]) X Y hT hS (m_X0_waited_72 hR150 x50_5 r164 x38_148_s0 h157 hr164) mk_X0_waited gm_1031 rfl rfl (by decide) hd_X0_waited ⟨rfl, rfl⟩ ⟨Nat.le_of_ble_eq_true rfl, Nat.le_of_ble_eq_true rfl⟩ hl.1 rfl (Nat.le_of_ble_eq_true rfl) dX4_spend_145 ⟨Nat.zero_le _, Nat.zero_le _⟩ (fun r169 i169 g169 H locs hq hT hS => ?_)
                obtain ⟨eh169, hr169⟩ := hq
                rw [(Prod.mk.inj eh169).1, (Prod.mk.inj eh169).2] at hT
                refine r_iast X hT hS 86 rfl (by decide) (v_in h157 (by decide)) dX4_spend_148 (fun H locs i170 ei170 hT hS => ?_)
                have hR170 := Rg_put hR150 ei170 0 99 rfl hr169 (by decide)
                have hF170 := Fr_puti hF150 ei170 (by decide)
                obtain ⟨x171, ex171⟩ : ∃ y : Int32, y = x50_5 + 1 := ⟨_, rfl⟩
                refine lv_iinc (v := x171) (lv' := [(5, .int x171), (6, .int r164), (0, .ref (h 79)), (1, .int a_a), (2, .int (i 87 4)), (3, .int x38_148_s0), (4, .int x50_4)]) hx hb dX4_spend_149 hl (k := 6) rfl (by rw [ex171]; rfl) (by decide) rfl (fun ls hl => ?_)
                obtain ⟨hx171, ax171⟩ := rg_add 1 6 ex171 h157 (rg_k (by decide) : rg 1 1 1) (by decide)
                replace ax171 : x171.toInt = x50_5.toInt + 1 := ax171
                refine lv_goto (tgt := 50) hx hb dX4_spend_152 (by decide) ?_
                exact ih151_ x50_4 x171 i170 g150 _ _ _ (rg_w hx171 (by decide) : rg 0 6 x171) hR170 hF170 hT hS (lv_sub hl [2, 3, 4, 5, 6, 0] rfl) (m_up ax171 hx171 (by decide) hm151_)
              ·
                have q166 : ¬ r165.toInt = 0 := i_ne c166
                have h172 : rg 1 1 r165 := t_nelo 1 hr165 (rg_k (by decide) : rg 0 0 0) (i_ne c166) (by decide)
                refine lv_iload hx hb dX4_spend_101 (lv_at hl 5 rfl) ?_
                refine lv_iconst (v := 0) hx hb dX4_spend_103 (by decide) ?_
                refine lv_aload_n hx hb dX4_spend_104 rfl (lv_at hl 1 rfl) ?_
                refine r_getr X hT 79 0 15 fk_4_29 rfl rfl (by decide) dX4_spend_105 ?_
                refine r_getr X hT 15 0 16 fk_4_83 rfl rfl (by decide) dX4_spend_108 ?_
                refine lv_iload hx hb dX4_spend_111 (lv_at hl 6 rfl) ?_
                refine r_iald X hT 16 rfl (by decide) (v_in h157 (by decide)) dX4_spend_113 ?_
                refine lv_iload hx hb dX4_spend_114 (lv_at hl 0 rfl) ?_
                refine q_isub hx hb dX4_spend_116 (fun x173 ex173 => ?_)
                obtain ⟨hx173, ax173⟩ := rg_sub (-99) 60 ex173 (Rg_at hR150 16 x50_5.toNatClampNeg 0 60 (v_lt (v_in h157 (by decide))) rfl) hr164 (by decide)
                replace ax173 : x173.toInt = (i150 16 x50_5.toNatClampNeg).toInt - r164.toInt := ax173
                refine e_mmax X hl.1 gm_1030 gm_782 gm_118 mw_e_mmax (Nat.le_of_ble_eq_true rfl) (Nat.le_of_ble_eq_true rfl) ⟨Nat.zero_le _, Nat.zero_le _⟩ dX4_spend_117 (fun x174 ex174 => ?_)
                have h175 : rg 0 60 x174 := rg_mx ex174 (rg_k (by decide) : rg 0 0 0) hx173 (by decide)
                refine q_iadd hx hb dX4_spend_120 (fun x176 ex176 => ?_)
                refine lv_istore (lv' := [(4, .int x176), (6, .int r164), (0, .ref (h 79)), (1, .int a_a), (2, .int (i 87 4)), (3, .int x38_148_s0), (5, .int x50_5)]) hx hb dX4_spend_121 hl (by decide) rfl (fun ls hl => ?_)
                refine lv_goto (tgt := 149) hx hb dX4_spend_123 (by decide) ?_
                obtain ⟨x177, ex177⟩ : ∃ y : Int32, y = x50_5 + 1 := ⟨_, rfl⟩
                refine lv_iinc (v := x177) (lv' := [(5, .int x177), (4, .int x176), (6, .int r164), (0, .ref (h 79)), (1, .int a_a), (2, .int (i 87 4)), (3, .int x38_148_s0)]) hx hb dX4_spend_149 hl (k := 6) rfl (by rw [ex177]; rfl) (by decide) rfl (fun ls hl => ?_)
                obtain ⟨hx177, ax177⟩ := rg_add 1 6 ex177 h157 (rg_k (by decide) : rg 1 1 1) (by decide)
                replace ax177 : x177.toInt = x50_5.toInt + 1 := ax177
                refine lv_goto (tgt := 50) hx hb dX4_spend_152 (by decide) ?_
                exact ih151_ x176 x177 i150 g150 _ _ _ (rg_w hx177 (by decide) : rg 0 6 x177) hR150 hF150 hT hS (lv_sub hl [3, 4, 5, 6, 1, 0] rfl) (m_up ax177 hx177 (by decide) hm151_)
      exact L50_149 _ (i 88 4) (0) i g _ _ _ (rg_w (rg_k (by decide) : rg 0 0 0) (by decide) : rg 0 6 0) hR hF hT hS (lv_sub hl [3, 4, 5, 2, 1, 0] rfl) (Nat.lt_succ_self _)
    refine lv_icmp_ne (tgt := 21) hx hb dX4_spend_14 (by decide) (fun c147 => ?_) (fun c147 => ?_)
    ·
      have q147 : ¬ (i 89 4).toInt = (-1) := i_ne c147
      refine lv_aload_n hx hb dX4_spend_21 rfl (lv_at hl 1 rfl) ?_
      refine r_getr X hT 79 1 72 fk_4_33 rfl rfl (by decide) dX4_spend_22 ?_
      refine lv_iload_n hx hb dX4_spend_25 rfl (lv_at hl 0 rfl) ?_
      refine lv_iconst (v := 1) hx hb dX4_spend_26 (by decide) ?_
      refine lv_aload_n hx hb dX4_spend_27 rfl (lv_at hl 1 rfl) ?_
      refine r_getr X hT 79 5 89 fk_4_23 rfl rfl (by decide) dX4_spend_28 ?_
      refine lv_iload_n hx hb dX4_spend_31 rfl (lv_at hl 2 rfl) ?_
      refine r_ialdc X hT 89 4 rfl (by decide) (v_in h146 (by decide)) (cl_c h146 4 rfl (by decide)) dX4_spend_32 ?_
      refine q_ishl hx hb dX4_spend_33 (fun x178 ex178 => ?_)
      refine q_ior hx hb dX4_spend_34 (fun x179 ex179 => ?_)
      refine e_Vi (As := [.int x179]) (rest := []) X Y hT hS (m_X0_settle_72 hR x179) mk_X0_settle gm_1028 rfl rfl (by decide) hd_X0_settle ⟨rfl, rfl⟩ ⟨Nat.le_of_ble_eq_true rfl, Nat.le_of_ble_eq_true rfl⟩ hl.1 rfl (Nat.le_of_ble_eq_true rfl) dX4_spend_35 ⟨Nat.zero_le _, Nat.zero_le _⟩ (fun r180 i180 g180 H locs hq hT hS => ?_)
      have eh180 := hq
      rw [(Prod.mk.inj eh180).1, (Prod.mk.inj eh180).2] at hT
      exact J38_148 r180 _ _ _ hT hS (lv_sub hl [1, 2, 0] rfl)
    ·
      have q147 : (i 89 4).toInt = (-1) := i_eq c147
      have h181 : rg (-1) (-1) (i 89 4) := t_eqx (-1) (-1) (rg_top (i 89 4)) (rg_k (by decide) : rg (-1) (-1) (-1)) (i_eq c147) (by decide)
      refine lv_iload_n hx hb dX4_spend_17 rfl (lv_at hl 0 rfl) ?_
      refine lv_goto (tgt := 38) hx hb dX4_spend_18 (by decide) ?_
      exact J38_148 (i 87 4) _ _ _ hT hS (lv_sub hl [1, 2, 0] rfl)
