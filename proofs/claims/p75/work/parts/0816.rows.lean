set_option maxRecDepth 100000 in
set_option maxHeartbeats 4000000 in
theorem m_X9_weightOf {l : Launch} {D : va_G} {h : Nat → Nat} {cz : Nat → ClassId} {z : EZ} {i : Nat → Nat → Int32} {g : Nat → Nat → Int64} (hR : Rg rA i) (a_a : Int32) : DtL l yX9_weightOf cX9_weightOf 8 (some .long) ({ frames := 9, cells := 0, slots := 0, locals := 198 } : Room) D h cz z i g [.ref (h 96), .int a_a] (fun r u => Rg rA u.1 ∧ Fr [96, 109, 110, 111, 112, 113, 114, 115] [] i g u) := by
  refine e_L pn_X9_weightOf (Nat.le_of_ble_eq_true rfl) ?_
  intro p e s m args below meth c ls Q X Y hret hT hl hS
  have hx := X.1
  have hb := X.2.1
  have hl : lv_has ls 8 [(0, .ref (h 96)), (1, .int a_a)] := hl
  have hF : Fr [96, 109, 110, 111, 112, 113, 114, 115] [] i g (i, g) := Fr_rf _ _ _ _
  refine lv_aload_n hx hb dX9_weightOf_0 rfl (lv_at hl 0 rfl) ?_
  refine e_Vv (As := []) (rest := []) X Y hT hS (m_X9_lays hR) mk_X9_lays gm_1658 rfl rfl (by decide) hd_X9_lays ⟨rfl, rfl⟩ ⟨Nat.le_of_ble_eq_true rfl, Nat.le_of_ble_eq_true rfl⟩ hl.1 rfl (Nat.le_of_ble_eq_true rfl) dX9_weightOf_1 ⟨Nat.zero_le _, Nat.zero_le _⟩ (fun i1 g1 H locs hq hT hS => ?_)
  obtain ⟨hR1, hf1⟩ := hq
  have hF1 := Fr_tr hF hf1 (by decide)
  refine lv_lconst (v := 0) hx hb dX9_weightOf_4 (by decide) ?_
  refine lv_lstore_n (lv' := [(2, .long 0), (0, .ref (h 96)), (1, .int a_a)]) hx hb dX9_weightOf_5 rfl hl (by decide) rfl (fun ls hl => ?_)
  refine lv_aload_n hx hb dX9_weightOf_6 rfl (lv_at hl 1 rfl) ?_
  refine r_getr X hT 96 17 103 fk_9_34 rfl rfl (by decide) dX9_weightOf_7 ?_
  refine lv_iconst (v := 5) hx hb dX9_weightOf_10 (by decide) ?_
  refine r_ialdc X hT 103 5 rfl (by decide) (v_in (rg_k (by decide) : rg 5 5 5) (by decide)) (by decide) dX9_weightOf_11 ?_
  refine lv_istore (lv' := [(4, .int (i1 103 5)), (2, .long 0), (0, .ref (h 96)), (1, .int a_a)]) hx hb dX9_weightOf_12 hl (by decide) rfl (fun ls hl => ?_)
  refine lv_iconst (v := 0) hx hb dX9_weightOf_14 (by decide) ?_
  refine lv_istore (lv' := [(5, .int 0), (4, .int (i1 103 5)), (2, .long 0), (0, .ref (h 96)), (1, .int a_a)]) hx hb dX9_weightOf_15 hl (by decide) rfl (fun ls hl => ?_)
  have L17_2 : ∀ (n4_ : Nat) (y17_2 : Int64) (x17_5 : Int32) (i3 : Nat → Nat → Int32) (g3 : Nat → Nat → Int64) (H : Heap) (locs : List Loc) (ls : Array Slot), rg 0 256 x17_5 → Rg rA i3 → Fr [96, 109, 110, 111, 112, 113, 114, 115] [] i g (i3, g3) → TH D h cz i3 g3 H → va_S (hA h) s.heap H locs → lv_has ls 8 [(0, .ref (h 96)), (1, .int a_a), (2, .long y17_2), (4, .int (i1 103 5)), (5, .int x17_5)] → (256 - x17_5.toInt).toNat < n4_ → W p l e ({ frames := 9, cells := 0, slots := 0, locals := 198 } : Room) s m args below meth c H locs 0 0 Q (F0 m 17 ls []) := by
    intro n4_
    induction n4_ with
    | zero => intro y17_2 x17_5 i3 g3 H locs ls hhx17_5 hR3 hF3 hT hS hl hm4_; exact absurd hm4_ (Nat.not_lt_zero _)
    | succ n4_ ih4_ =>
      intro y17_2 x17_5 i3 g3 H locs ls hhx17_5 hR3 hF3 hT hS hl hm4_
      refine lv_iload hx hb dX9_weightOf_17 (lv_at hl 4 rfl) ?_
      refine lv_iconst (v := 1) hx hb dX9_weightOf_19 (by decide) ?_
      refine lv_iload hx hb dX9_weightOf_20 (lv_at hl 3 rfl) ?_
      refine q_ishl hx hb dX9_weightOf_22 (fun x5 ex5 => ?_)
      have h6 : rg 1 256 x5 := rg_shl1 ex5 (Rg_at hR1 103 5 0 8 (by decide) rfl) (by decide)
      refine lv_icmp_ge (tgt := 114) hx hb dX9_weightOf_23 (by decide) (fun c7 => ?_) (fun c7 => ?_)
      ·
        have q7 : x5.toInt ≤ x17_5.toInt := i_le c7
        have h8 : rg 1 256 x17_5 := t_ley 1 256 h6 hhx17_5 (i_le c7) (by decide)
        refine lv_lload_n hx hb dX9_weightOf_114 rfl (lv_at hl 2 rfl) ?_
        exact hret y17_2 _ _ _ _ _ _ dX9_weightOf_115 hT hS ⟨hR3, hF3⟩
      ·
        have q7 : x17_5.toInt < x5.toInt := i_nle c7
        have h9 : rg 0 255 x17_5 := t_ltx 0 255 hhx17_5 h6 (i_nle c7) (by decide)
        refine lv_aload_n hx hb dX9_weightOf_26 rfl (lv_at hl 0 rfl) ?_
        refine lv_iload hx hb dX9_weightOf_27 (lv_at hl 4 rfl) ?_
        refine r_puti X hT hS 96 26 pk_9_269 rfl rfl rfl rfl (by decide) dX9_weightOf_29 (fun H locs i10 ei10 hT hS => ?_)
        have hR10 := Rg_put hR3 ei10 (-2147483648) 2147483647 rfl h9 (by decide)
        have hF10 := Fr_puti hF3 ei10 (by decide)
        refine lv_aload_n hx hb dX9_weightOf_32 rfl (lv_at hl 0 rfl) ?_
        refine e_Vv (As := []) (rest := []) X Y hT hS (m_X9_runs hR10) mk_X9_runs gm_1697 rfl rfl (by decide) hd_X9_runs ⟨rfl, rfl⟩ ⟨Nat.le_of_ble_eq_true rfl, Nat.le_of_ble_eq_true rfl⟩ hl.1 rfl (Nat.le_of_ble_eq_true rfl) dX9_weightOf_33 ⟨Nat.zero_le _, Nat.zero_le _⟩ (fun i11 g11 H locs hq hT hS => ?_)
        obtain ⟨hR11, hf11⟩ := hq
        have hF11 := Fr_tr hF10 hf11 (by decide)
        refine lv_ldc2 (v := 10) hx hb X.2.2.2.1 (X.2.2.2.2.1 _ gm_2044) dX9_weightOf_36 ?_
        refine lv_aload_n hx hb dX9_weightOf_39 rfl (lv_at hl 0 rfl) ?_
        refine r_getr X hT 96 17 103 fk_9_34 rfl rfl (by decide) dX9_weightOf_40 ?_
        refine lv_iconst (v := 2) hx hb dX9_weightOf_43 (by decide) ?_
        refine r_ialdc X hT 103 2 rfl (by decide) (v_in (rg_k (by decide) : rg 2 2 2) (by decide)) (by decide) dX9_weightOf_44 ?_
        refine q_i2l hx hb dX9_weightOf_45 (fun y12 ey12 => ?_)
        obtain ⟨hy12, ay12⟩ := rg_i2l ey12 (Rg_at hR11 103 2 0 10 (by decide) rfl)
        refine q_lsub hx hb dX9_weightOf_46 (fun y13 ey13 => ?_)
        obtain ⟨hy13, ay13⟩ := rgL_sub 0 10 ey13 (rgL_k (by decide) : rgL 10 10 10) hy12 (by decide)
        refine lv_iload hx hb dX9_weightOf_47 (lv_at hl 4 rfl) ?_
        refine e_Si (As := [.int x17_5]) (rest := [.long y13]) X Y hT hS (m_X9_sizeOf x17_5) sk_X9_sizeOf gm_1732 hd_X9_sizeOf ⟨rfl, rfl⟩ ⟨Nat.le_of_ble_eq_true rfl, Nat.le_of_ble_eq_true rfl⟩ hl.1 rfl (Nat.le_of_ble_eq_true rfl) dX9_weightOf_49 ⟨Nat.zero_le _, Nat.zero_le _⟩ (fun r14 i14 g14 H locs hq hT hS => ?_)
        obtain ⟨eh14, hf14_0⟩ := hq
        rw [(Prod.mk.inj eh14).1, (Prod.mk.inj eh14).2] at hT
        replace hf14_0 : r14.toInt = (popF 32 (x17_5 : Int32).toBitVec.toNat : Int) := hf14_0
        have h15 : rg 0 8 r14 := pop_rg hf14_0 h9 (by decide) (by decide)
        refine e_Sl (As := [.long y13, .int r14]) (rest := []) X Y hT hS (m_X9_power_0t8 y13 r14 h15) sk_X9_power gm_2045 hd_X9_power ⟨rfl, rfl⟩ ⟨Nat.le_of_ble_eq_true rfl, Nat.le_of_ble_eq_true rfl⟩ hl.1 rfl (Nat.le_of_ble_eq_true rfl) dX9_weightOf_52 ⟨Nat.zero_le _, Nat.zero_le _⟩ (fun r16 i16 g16 H locs hq hT hS => ?_)
        have eh16 := hq
        rw [(Prod.mk.inj eh16).1, (Prod.mk.inj eh16).2] at hT
        refine lv_aload_n hx hb dX9_weightOf_55 rfl (lv_at hl 0 rfl) ?_
        refine r_getr X hT 96 17 103 fk_9_34 rfl rfl (by decide) dX9_weightOf_56 ?_
        refine lv_iconst (v := 2) hx hb dX9_weightOf_59 (by decide) ?_
        refine r_ialdc X hT 103 2 rfl (by decide) (v_in (rg_k (by decide) : rg 2 2 2) (by decide)) (by decide) dX9_weightOf_60 ?_
        refine q_i2l hx hb dX9_weightOf_61 (fun y17 ey17 => ?_)
        obtain ⟨hy17, ay17⟩ := rg_i2l ey17 (Rg_at hR11 103 2 0 10 (by decide) rfl)
        refine lv_iload hx hb dX9_weightOf_62 (lv_at hl 3 rfl) ?_
        refine lv_iload hx hb dX9_weightOf_64 (lv_at hl 4 rfl) ?_
        refine e_Si (As := [.int x17_5]) (rest := [.int (i1 103 5), .long y17, .long r16]) X Y hT hS (m_X9_sizeOf x17_5) sk_X9_sizeOf gm_1732 hd_X9_sizeOf ⟨rfl, rfl⟩ ⟨Nat.le_of_ble_eq_true rfl, Nat.le_of_ble_eq_true rfl⟩ hl.1 rfl (Nat.le_of_ble_eq_true rfl) dX9_weightOf_66 ⟨Nat.zero_le _, Nat.zero_le _⟩ (fun r18 i18 g18 H locs hq hT hS => ?_)
        obtain ⟨eh18, hf18_0⟩ := hq
        rw [(Prod.mk.inj eh18).1, (Prod.mk.inj eh18).2] at hT
        replace hf18_0 : r18.toInt = (popF 32 (x17_5 : Int32).toBitVec.toNat : Int) := hf18_0
        have h19 : rg 0 8 r18 := pop_rg hf18_0 h9 (by decide) (by decide)
        refine q_isub hx hb dX9_weightOf_69 (fun x20 ex20 => ?_)
        obtain ⟨hx20, ax20⟩ := rg_sub (-8) 8 ex20 (Rg_at hR1 103 5 0 8 (by decide) rfl) h19 (by decide)
        replace ax20 : x20.toInt = (i1 103 5).toInt - r18.toInt := ax20
        have h21 : rg 0 8 x20 := pow_rg ax20 ex5 (Rg_at hR1 103 5 0 8 (by decide) rfl) h9 q7 hf18_0
        refine e_Sl (As := [.long y17, .int x20]) (rest := [.long r16]) X Y hT hS (m_X9_power_0t8 y17 x20 h21) sk_X9_power gm_2045 hd_X9_power ⟨rfl, rfl⟩ ⟨Nat.le_of_ble_eq_true rfl, Nat.le_of_ble_eq_true rfl⟩ hl.1 rfl (Nat.le_of_ble_eq_true rfl) dX9_weightOf_70 ⟨Nat.zero_le _, Nat.zero_le _⟩ (fun r22 i22 g22 H locs hq hT hS => ?_)
        have eh22 := hq
        rw [(Prod.mk.inj eh22).1, (Prod.mk.inj eh22).2] at hT
        refine q_lmul hx hb dX9_weightOf_73 (fun y23 ey23 => ?_)
        refine lv_lstore (lv' := [(6, .long y23), (0, .ref (h 96)), (1, .int a_a), (2, .long y17_2), (4, .int (i1 103 5)), (5, .int x17_5)]) hx hb dX9_weightOf_74 hl (by decide) rfl (fun ls hl => ?_)
        refine lv_lload_n hx hb dX9_weightOf_76 rfl (lv_at hl 3 rfl) ?_
        refine lv_lload hx hb dX9_weightOf_77 (lv_at hl 0 rfl) ?_
        refine lv_iload_n hx hb dX9_weightOf_79 rfl (lv_at hl 2 rfl) ?_
        refine lv_iconst (v := (-1)) hx hb dX9_weightOf_80 (by decide) ?_
        have J104_25 : ∀ (x104_25_s0 : Int32) (H : Heap) (locs : List Loc) (ls : Array Slot), TH D h cz i11 g11 H → va_S (hA h) s.heap H locs → lv_has ls 8 [(0, .ref (h 96)), (1, .int a_a), (4, .int (i1 103 5)), (5, .int x17_5)] → W p l e ({ frames := 9, cells := 0, slots := 0, locals := 198 } : Room) s m args below meth c H locs 0 0 Q (F0 m 104 ls [.int x104_25_s0, .long y23, .long y17_2]) := by
          intro x104_25_s0 H locs ls hT hS hl
          refine q_i2l hx hb dX9_weightOf_104 (fun y26 ey26 => ?_)
          obtain ⟨hy26, ay26⟩ := rg_i2l ey26 (rg_top x104_25_s0)
          refine q_lmul hx hb dX9_weightOf_105 (fun y27 ey27 => ?_)
          refine q_ladd hx hb dX9_weightOf_106 (fun y28 ey28 => ?_)
          refine lv_lstore_n (lv' := [(2, .long y28), (0, .ref (h 96)), (1, .int a_a), (4, .int (i1 103 5)), (5, .int x17_5)]) hx hb dX9_weightOf_107 rfl hl (by decide) rfl (fun ls hl => ?_)
          obtain ⟨x29, ex29⟩ : ∃ y : Int32, y = x17_5 + 1 := ⟨_, rfl⟩
          refine lv_iinc (v := x29) (lv' := [(5, .int x29), (2, .long y28), (0, .ref (h 96)), (1, .int a_a), (4, .int (i1 103 5))]) hx hb dX9_weightOf_108 hl (k := 4) rfl (by rw [ex29]; rfl) (by decide) rfl (fun ls hl => ?_)
          obtain ⟨hx29, ax29⟩ := rg_add 1 256 ex29 h9 (rg_k (by decide) : rg 1 1 1) (by decide)
          replace ax29 : x29.toInt = x17_5.toInt + 1 := ax29
          refine lv_goto (tgt := 17) hx hb dX9_weightOf_111 (by decide) ?_
          exact ih4_ y28 x29 i11 g11 _ _ _ (rg_w hx29 (by decide) : rg 0 256 x29) hR11 hF11 hT hS (lv_sub hl [2, 3, 1, 4, 0] rfl) (m_up ax29 hx29 (by decide) hm4_)
        refine lv_icmp_ne (tgt := 91) hx hb dX9_weightOf_81 (by decide) (fun c24 => ?_) (fun c24 => ?_)
        ·
          have q24 : ¬ a_a.toInt = (-1) := i_ne c24
          refine lv_aload_n hx hb dX9_weightOf_91 rfl (lv_at hl 1 rfl) ?_
          refine r_getr X hT 96 31 112 fk_9_62 rfl rfl (by decide) dX9_weightOf_92 ?_
          refine lv_aload_n hx hb dX9_weightOf_95 rfl (lv_at hl 1 rfl) ?_
          refine e_Vi (As := []) (rest := [.ref (h 112), .long y23, .long y17_2]) X Y hT hS (m_X9_years hR11) mk_X9_years gm_1689 rfl rfl (by decide) hd_X9_years ⟨rfl, rfl⟩ ⟨Nat.le_of_ble_eq_true rfl, Nat.le_of_ble_eq_true rfl⟩ hl.1 rfl (Nat.le_of_ble_eq_true rfl) dX9_weightOf_96 ⟨Nat.zero_le _, Nat.zero_le _⟩ (fun r30 i30 g30 H locs hq hT hS => ?_)
          obtain ⟨eh30, hr30⟩ := hq
          rw [(Prod.mk.inj eh30).1, (Prod.mk.inj eh30).2] at hT
          refine r_iald X hT 112 rfl (by decide) (v_in hr30 (by decide)) dX9_weightOf_99 ?_
          refine lv_iload_n hx hb dX9_weightOf_100 rfl (lv_at hl 2 rfl) ?_
          refine q_ishr hx hb dX9_weightOf_101 (fun x31 ex31 => ?_)
          refine lv_iconst (v := 1) hx hb dX9_weightOf_102 (by decide) ?_
          refine q_iand hx hb dX9_weightOf_103 (fun x32 ex32 => ?_)
          have h33 : rg 0 1 x32 := rg_andr ex32 (rg_k (by decide) : rg 1 1 1) (by decide)
          exact J104_25 x32 _ _ _ hT hS (lv_sub hl [1, 2, 4, 5] rfl)
        ·
          have q24 : a_a.toInt = (-1) := i_eq c24
          have h34 : rg (-1) (-1) a_a := t_eqx (-1) (-1) (rg_top a_a) (rg_k (by decide) : rg (-1) (-1) (-1)) (i_eq c24) (by decide)
          refine lv_aload_n hx hb dX9_weightOf_84 rfl (lv_at hl 1 rfl) ?_
          refine e_Vi (As := []) (rest := [.long y23, .long y17_2]) X Y hT hS (m_X9_readAll hR11) mk_X9_readAll gm_1770 rfl rfl (by decide) hd_X9_readAll ⟨rfl, rfl⟩ ⟨Nat.le_of_ble_eq_true rfl, Nat.le_of_ble_eq_true rfl⟩ hl.1 rfl (Nat.le_of_ble_eq_true rfl) dX9_weightOf_85 ⟨Nat.zero_le _, Nat.zero_le _⟩ (fun r35 i35 g35 H locs hq hT hS => ?_)
          have eh35 := hq
          rw [(Prod.mk.inj eh35).1, (Prod.mk.inj eh35).2] at hT
          refine lv_goto (tgt := 104) hx hb dX9_weightOf_88 (by decide) ?_
          exact J104_25 r35 _ _ _ hT hS (lv_sub hl [1, 2, 4, 5] rfl)
  exact L17_2 _ (0) (0) i1 g1 _ _ _ (rg_w (rg_k (by decide) : rg 0 0 0) (by decide) : rg 0 256 0) hR1 hF1 hT hS (lv_sub hl [3, 4, 2, 1, 0] rfl) (Nat.lt_succ_self _)
set_option maxRecDepth 100000 in
set_option maxHeartbeats 4000000 in
theorem m_X9_power_ten_0 {l : Launch} {D : va_G} {h : Nat → Nat} {cz : Nat → ClassId} {z : EZ} {i : Nat → Nat → Int32} {g : Nat → Nat → Int64} (a_a : Int64) (a_b : Int32) (ha_a : rgL 10 10 a_a) (ha_b : rg 0 0 a_b) : DtL l yX9_power cX9_power 3 (some .long) ({ frames := 0, cells := 0, slots := 0, locals := 0 } : Room) D h cz z i g [.long a_a, .int a_b] (fun r u => u = (i, g) ∧ rgL 1 1 r) := by
  refine e_L pn_X9_power (Nat.le_of_ble_eq_true rfl) ?_
  intro p e s m args below meth c ls Q X Y hret hT hl hS
  have hx := X.1
  have hb := X.2.1
  have hl : lv_has ls 3 [(0, .long a_a), (2, .int a_b)] := hl
  refine lv_iload_n hx hb dX9_power_0 rfl (lv_at hl 1 rfl) ?_
  refine lv_if_ne (tgt := 8) hx hb dX9_power_1 (by decide) (fun c1 => (x_ne ha_b (rg_k (by decide) : rg 0 0 0) (i_ne c1) (by decide)).elim) (fun c1 => ?_)
  have q1 : a_b.toInt = 0 := i_eq c1
  refine lv_lconst (v := 1) hx hb dX9_power_4 (by decide) ?_
  refine lv_goto (tgt := 17) hx hb dX9_power_5 (by decide) ?_
  exact hret 1 _ _ _ _ _ _ dX9_power_17 hT hS ⟨rfl, (rgL_k (by decide) : rgL 1 1 1)⟩
set_option maxRecDepth 100000 in
set_option maxHeartbeats 4000000 in
theorem m_X9_power_ten_1 {l : Launch} {D : va_G} {h : Nat → Nat} {cz : Nat → ClassId} {z : EZ} {i : Nat → Nat → Int32} {g : Nat → Nat → Int64} (a_a : Int64) (a_b : Int32) (ha_a : rgL 10 10 a_a) (ha_b : rg 1 1 a_b) : DtL l yX9_power cX9_power 3 (some .long) ({ frames := 1, cells := 0, slots := 0, locals := 22 } : Room) D h cz z i g [.long a_a, .int a_b] (fun r u => u = (i, g) ∧ rgL 10 10 r) := by
  refine e_L pn_X9_power (Nat.le_of_ble_eq_true rfl) ?_
  intro p e s m args below meth c ls Q X Y hret hT hl hS
  have hx := X.1
  have hb := X.2.1
  have hl : lv_has ls 3 [(0, .long a_a), (2, .int a_b)] := hl
  refine lv_iload_n hx hb dX9_power_0 rfl (lv_at hl 1 rfl) ?_
  refine lv_if_ne (tgt := 8) hx hb dX9_power_1 (by decide) (fun c1 => ?_) (fun c1 => (x_eq ha_b (rg_k (by decide) : rg 0 0 0) (i_eq c1) (by decide)).elim)
  have q1 : ¬ a_b.toInt = 0 := i_ne c1
  refine lv_lload_n hx hb dX9_power_8 rfl (lv_at hl 0 rfl) ?_
  refine lv_lload_n hx hb dX9_power_9 rfl (lv_at hl 0 rfl) ?_
  refine lv_iload_n hx hb dX9_power_10 rfl (lv_at hl 1 rfl) ?_
  refine lv_iconst (v := 1) hx hb dX9_power_11 (by decide) ?_
  refine q_isub hx hb dX9_power_12 (fun x2 ex2 => ?_)
  obtain ⟨hx2, ax2⟩ := rg_sub 0 0 ex2 ha_b (rg_k (by decide) : rg 1 1 1) (by decide)
  replace ax2 : x2.toInt = a_b.toInt - 1 := ax2
  refine e_Sl (As := [.long a_a, .int x2]) (rest := [.long a_a]) X Y hT hS (m_X9_power_ten_0 a_a x2 ha_a hx2) sk_X9_power gm_2045 hd_X9_power ⟨rfl, rfl⟩ ⟨Nat.le_of_ble_eq_true rfl, Nat.le_of_ble_eq_true rfl⟩ hl.1 rfl (Nat.le_of_ble_eq_true rfl) dX9_power_13 ⟨Nat.zero_le _, Nat.zero_le _⟩ (fun r3 i3 g3 H locs hq hT hS => ?_)
  obtain ⟨eh3, hr3⟩ := hq
  rw [(Prod.mk.inj eh3).1, (Prod.mk.inj eh3).2] at hT
  refine q_lmul hx hb dX9_power_16 (fun y4 ey4 => ?_)
  obtain ⟨hy4, ay4⟩ := rgL_mul 10 10 ey4 ha_a hr3 (by decide)
  exact hret y4 _ _ _ _ _ _ dX9_power_17 hT hS ⟨rfl, hy4⟩
set_option maxRecDepth 100000 in
set_option maxHeartbeats 4000000 in
theorem m_X9_power_ten_2 {l : Launch} {D : va_G} {h : Nat → Nat} {cz : Nat → ClassId} {z : EZ} {i : Nat → Nat → Int32} {g : Nat → Nat → Int64} (a_a : Int64) (a_b : Int32) (ha_a : rgL 10 10 a_a) (ha_b : rg 2 2 a_b) : DtL l yX9_power cX9_power 3 (some .long) ({ frames := 2, cells := 0, slots := 0, locals := 44 } : Room) D h cz z i g [.long a_a, .int a_b] (fun r u => u = (i, g) ∧ rgL 100 100 r) := by
  refine e_L pn_X9_power (Nat.le_of_ble_eq_true rfl) ?_
  intro p e s m args below meth c ls Q X Y hret hT hl hS
  have hx := X.1
  have hb := X.2.1
  have hl : lv_has ls 3 [(0, .long a_a), (2, .int a_b)] := hl
  refine lv_iload_n hx hb dX9_power_0 rfl (lv_at hl 1 rfl) ?_
  refine lv_if_ne (tgt := 8) hx hb dX9_power_1 (by decide) (fun c1 => ?_) (fun c1 => (x_eq ha_b (rg_k (by decide) : rg 0 0 0) (i_eq c1) (by decide)).elim)
  have q1 : ¬ a_b.toInt = 0 := i_ne c1
  refine lv_lload_n hx hb dX9_power_8 rfl (lv_at hl 0 rfl) ?_
  refine lv_lload_n hx hb dX9_power_9 rfl (lv_at hl 0 rfl) ?_
  refine lv_iload_n hx hb dX9_power_10 rfl (lv_at hl 1 rfl) ?_
  refine lv_iconst (v := 1) hx hb dX9_power_11 (by decide) ?_
  refine q_isub hx hb dX9_power_12 (fun x2 ex2 => ?_)
  obtain ⟨hx2, ax2⟩ := rg_sub 1 1 ex2 ha_b (rg_k (by decide) : rg 1 1 1) (by decide)
  replace ax2 : x2.toInt = a_b.toInt - 1 := ax2
  refine e_Sl (As := [.long a_a, .int x2]) (rest := [.long a_a]) X Y hT hS (m_X9_power_ten_1 a_a x2 ha_a hx2) sk_X9_power gm_2045 hd_X9_power ⟨rfl, rfl⟩ ⟨Nat.le_of_ble_eq_true rfl, Nat.le_of_ble_eq_true rfl⟩ hl.1 rfl (Nat.le_of_ble_eq_true rfl) dX9_power_13 ⟨Nat.zero_le _, Nat.zero_le _⟩ (fun r3 i3 g3 H locs hq hT hS => ?_)
  obtain ⟨eh3, hr3⟩ := hq
  rw [(Prod.mk.inj eh3).1, (Prod.mk.inj eh3).2] at hT
  refine q_lmul hx hb dX9_power_16 (fun y4 ey4 => ?_)
  obtain ⟨hy4, ay4⟩ := rgL_mul 100 100 ey4 ha_a hr3 (by decide)
  exact hret y4 _ _ _ _ _ _ dX9_power_17 hT hS ⟨rfl, hy4⟩
set_option maxRecDepth 100000 in
set_option maxHeartbeats 4000000 in
theorem m_X9_power_ten_3 {l : Launch} {D : va_G} {h : Nat → Nat} {cz : Nat → ClassId} {z : EZ} {i : Nat → Nat → Int32} {g : Nat → Nat → Int64} (a_a : Int64) (a_b : Int32) (ha_a : rgL 10 10 a_a) (ha_b : rg 3 3 a_b) : DtL l yX9_power cX9_power 3 (some .long) ({ frames := 3, cells := 0, slots := 0, locals := 66 } : Room) D h cz z i g [.long a_a, .int a_b] (fun r u => u = (i, g) ∧ rgL 1000 1000 r) := by
  refine e_L pn_X9_power (Nat.le_of_ble_eq_true rfl) ?_
  intro p e s m args below meth c ls Q X Y hret hT hl hS
  have hx := X.1
  have hb := X.2.1
  have hl : lv_has ls 3 [(0, .long a_a), (2, .int a_b)] := hl
  refine lv_iload_n hx hb dX9_power_0 rfl (lv_at hl 1 rfl) ?_
  refine lv_if_ne (tgt := 8) hx hb dX9_power_1 (by decide) (fun c1 => ?_) (fun c1 => (x_eq ha_b (rg_k (by decide) : rg 0 0 0) (i_eq c1) (by decide)).elim)
  have q1 : ¬ a_b.toInt = 0 := i_ne c1
  refine lv_lload_n hx hb dX9_power_8 rfl (lv_at hl 0 rfl) ?_
  refine lv_lload_n hx hb dX9_power_9 rfl (lv_at hl 0 rfl) ?_
  refine lv_iload_n hx hb dX9_power_10 rfl (lv_at hl 1 rfl) ?_
  refine lv_iconst (v := 1) hx hb dX9_power_11 (by decide) ?_
  refine q_isub hx hb dX9_power_12 (fun x2 ex2 => ?_)
  obtain ⟨hx2, ax2⟩ := rg_sub 2 2 ex2 ha_b (rg_k (by decide) : rg 1 1 1) (by decide)
  replace ax2 : x2.toInt = a_b.toInt - 1 := ax2
  refine e_Sl (As := [.long a_a, .int x2]) (rest := [.long a_a]) X Y hT hS (m_X9_power_ten_2 a_a x2 ha_a hx2) sk_X9_power gm_2045 hd_X9_power ⟨rfl, rfl⟩ ⟨Nat.le_of_ble_eq_true rfl, Nat.le_of_ble_eq_true rfl⟩ hl.1 rfl (Nat.le_of_ble_eq_true rfl) dX9_power_13 ⟨Nat.zero_le _, Nat.zero_le _⟩ (fun r3 i3 g3 H locs hq hT hS => ?_)
  obtain ⟨eh3, hr3⟩ := hq
  rw [(Prod.mk.inj eh3).1, (Prod.mk.inj eh3).2] at hT
  refine q_lmul hx hb dX9_power_16 (fun y4 ey4 => ?_)
  obtain ⟨hy4, ay4⟩ := rgL_mul 1000 1000 ey4 ha_a hr3 (by decide)
  exact hret y4 _ _ _ _ _ _ dX9_power_17 hT hS ⟨rfl, hy4⟩
set_option maxRecDepth 100000 in
set_option maxHeartbeats 4000000 in
theorem m_X9_power_ten_4 {l : Launch} {D : va_G} {h : Nat → Nat} {cz : Nat → ClassId} {z : EZ} {i : Nat → Nat → Int32} {g : Nat → Nat → Int64} (a_a : Int64) (a_b : Int32) (ha_a : rgL 10 10 a_a) (ha_b : rg 4 4 a_b) : DtL l yX9_power cX9_power 3 (some .long) ({ frames := 4, cells := 0, slots := 0, locals := 88 } : Room) D h cz z i g [.long a_a, .int a_b] (fun r u => u = (i, g) ∧ rgL 10000 10000 r) := by
  refine e_L pn_X9_power (Nat.le_of_ble_eq_true rfl) ?_
  intro p e s m args below meth c ls Q X Y hret hT hl hS
  have hx := X.1
  have hb := X.2.1
  have hl : lv_has ls 3 [(0, .long a_a), (2, .int a_b)] := hl
  refine lv_iload_n hx hb dX9_power_0 rfl (lv_at hl 1 rfl) ?_
  refine lv_if_ne (tgt := 8) hx hb dX9_power_1 (by decide) (fun c1 => ?_) (fun c1 => (x_eq ha_b (rg_k (by decide) : rg 0 0 0) (i_eq c1) (by decide)).elim)
  have q1 : ¬ a_b.toInt = 0 := i_ne c1
  refine lv_lload_n hx hb dX9_power_8 rfl (lv_at hl 0 rfl) ?_
  refine lv_lload_n hx hb dX9_power_9 rfl (lv_at hl 0 rfl) ?_
  refine lv_iload_n hx hb dX9_power_10 rfl (lv_at hl 1 rfl) ?_
  refine lv_iconst (v := 1) hx hb dX9_power_11 (by decide) ?_
  refine q_isub hx hb dX9_power_12 (fun x2 ex2 => ?_)
  obtain ⟨hx2, ax2⟩ := rg_sub 3 3 ex2 ha_b (rg_k (by decide) : rg 1 1 1) (by decide)
  replace ax2 : x2.toInt = a_b.toInt - 1 := ax2
  refine e_Sl (As := [.long a_a, .int x2]) (rest := [.long a_a]) X Y hT hS (m_X9_power_ten_3 a_a x2 ha_a hx2) sk_X9_power gm_2045 hd_X9_power ⟨rfl, rfl⟩ ⟨Nat.le_of_ble_eq_true rfl, Nat.le_of_ble_eq_true rfl⟩ hl.1 rfl (Nat.le_of_ble_eq_true rfl) dX9_power_13 ⟨Nat.zero_le _, Nat.zero_le _⟩ (fun r3 i3 g3 H locs hq hT hS => ?_)
  obtain ⟨eh3, hr3⟩ := hq
  rw [(Prod.mk.inj eh3).1, (Prod.mk.inj eh3).2] at hT
  refine q_lmul hx hb dX9_power_16 (fun y4 ey4 => ?_)
  obtain ⟨hy4, ay4⟩ := rgL_mul 10000 10000 ey4 ha_a hr3 (by decide)
  exact hret y4 _ _ _ _ _ _ dX9_power_17 hT hS ⟨rfl, hy4⟩
set_option maxRecDepth 100000 in
set_option maxHeartbeats 4000000 in
theorem m_X9_power_ten_5 {l : Launch} {D : va_G} {h : Nat → Nat} {cz : Nat → ClassId} {z : EZ} {i : Nat → Nat → Int32} {g : Nat → Nat → Int64} (a_a : Int64) (a_b : Int32) (ha_a : rgL 10 10 a_a) (ha_b : rg 5 5 a_b) : DtL l yX9_power cX9_power 3 (some .long) ({ frames := 5, cells := 0, slots := 0, locals := 110 } : Room) D h cz z i g [.long a_a, .int a_b] (fun r u => u = (i, g) ∧ rgL 100000 100000 r) := by
  refine e_L pn_X9_power (Nat.le_of_ble_eq_true rfl) ?_
  intro p e s m args below meth c ls Q X Y hret hT hl hS
  have hx := X.1
  have hb := X.2.1
  have hl : lv_has ls 3 [(0, .long a_a), (2, .int a_b)] := hl
  refine lv_iload_n hx hb dX9_power_0 rfl (lv_at hl 1 rfl) ?_
  refine lv_if_ne (tgt := 8) hx hb dX9_power_1 (by decide) (fun c1 => ?_) (fun c1 => (x_eq ha_b (rg_k (by decide) : rg 0 0 0) (i_eq c1) (by decide)).elim)
  have q1 : ¬ a_b.toInt = 0 := i_ne c1
  refine lv_lload_n hx hb dX9_power_8 rfl (lv_at hl 0 rfl) ?_
  refine lv_lload_n hx hb dX9_power_9 rfl (lv_at hl 0 rfl) ?_
  refine lv_iload_n hx hb dX9_power_10 rfl (lv_at hl 1 rfl) ?_
  refine lv_iconst (v := 1) hx hb dX9_power_11 (by decide) ?_
  refine q_isub hx hb dX9_power_12 (fun x2 ex2 => ?_)
  obtain ⟨hx2, ax2⟩ := rg_sub 4 4 ex2 ha_b (rg_k (by decide) : rg 1 1 1) (by decide)
  replace ax2 : x2.toInt = a_b.toInt - 1 := ax2
  refine e_Sl (As := [.long a_a, .int x2]) (rest := [.long a_a]) X Y hT hS (m_X9_power_ten_4 a_a x2 ha_a hx2) sk_X9_power gm_2045 hd_X9_power ⟨rfl, rfl⟩ ⟨Nat.le_of_ble_eq_true rfl, Nat.le_of_ble_eq_true rfl⟩ hl.1 rfl (Nat.le_of_ble_eq_true rfl) dX9_power_13 ⟨Nat.zero_le _, Nat.zero_le _⟩ (fun r3 i3 g3 H locs hq hT hS => ?_)
  obtain ⟨eh3, hr3⟩ := hq
  rw [(Prod.mk.inj eh3).1, (Prod.mk.inj eh3).2] at hT
  refine q_lmul hx hb dX9_power_16 (fun y4 ey4 => ?_)
  obtain ⟨hy4, ay4⟩ := rgL_mul 100000 100000 ey4 ha_a hr3 (by decide)
  exact hret y4 _ _ _ _ _ _ dX9_power_17 hT hS ⟨rfl, hy4⟩
set_option maxRecDepth 100000 in
set_option maxHeartbeats 4000000 in
theorem m_X9_power_ten_6 {l : Launch} {D : va_G} {h : Nat → Nat} {cz : Nat → ClassId} {z : EZ} {i : Nat → Nat → Int32} {g : Nat → Nat → Int64} (a_a : Int64) (a_b : Int32) (ha_a : rgL 10 10 a_a) (ha_b : rg 6 6 a_b) : DtL l yX9_power cX9_power 3 (some .long) ({ frames := 6, cells := 0, slots := 0, locals := 132 } : Room) D h cz z i g [.long a_a, .int a_b] (fun r u => u = (i, g) ∧ rgL 1000000 1000000 r) := by
  refine e_L pn_X9_power (Nat.le_of_ble_eq_true rfl) ?_
  intro p e s m args below meth c ls Q X Y hret hT hl hS
  have hx := X.1
  have hb := X.2.1
  have hl : lv_has ls 3 [(0, .long a_a), (2, .int a_b)] := hl
  refine lv_iload_n hx hb dX9_power_0 rfl (lv_at hl 1 rfl) ?_
  refine lv_if_ne (tgt := 8) hx hb dX9_power_1 (by decide) (fun c1 => ?_) (fun c1 => (x_eq ha_b (rg_k (by decide) : rg 0 0 0) (i_eq c1) (by decide)).elim)
  have q1 : ¬ a_b.toInt = 0 := i_ne c1
  refine lv_lload_n hx hb dX9_power_8 rfl (lv_at hl 0 rfl) ?_
  refine lv_lload_n hx hb dX9_power_9 rfl (lv_at hl 0 rfl) ?_
  refine lv_iload_n hx hb dX9_power_10 rfl (lv_at hl 1 rfl) ?_
  refine lv_iconst (v := 1) hx hb dX9_power_11 (by decide) ?_
  refine q_isub hx hb dX9_power_12 (fun x2 ex2 => ?_)
  obtain ⟨hx2, ax2⟩ := rg_sub 5 5 ex2 ha_b (rg_k (by decide) : rg 1 1 1) (by decide)
  replace ax2 : x2.toInt = a_b.toInt - 1 := ax2
  refine e_Sl (As := [.long a_a, .int x2]) (rest := [.long a_a]) X Y hT hS (m_X9_power_ten_5 a_a x2 ha_a hx2) sk_X9_power gm_2045 hd_X9_power ⟨rfl, rfl⟩ ⟨Nat.le_of_ble_eq_true rfl, Nat.le_of_ble_eq_true rfl⟩ hl.1 rfl (Nat.le_of_ble_eq_true rfl) dX9_power_13 ⟨Nat.zero_le _, Nat.zero_le _⟩ (fun r3 i3 g3 H locs hq hT hS => ?_)
  obtain ⟨eh3, hr3⟩ := hq
  rw [(Prod.mk.inj eh3).1, (Prod.mk.inj eh3).2] at hT
  refine q_lmul hx hb dX9_power_16 (fun y4 ey4 => ?_)
  obtain ⟨hy4, ay4⟩ := rgL_mul 1000000 1000000 ey4 ha_a hr3 (by decide)
  exact hret y4 _ _ _ _ _ _ dX9_power_17 hT hS ⟨rfl, hy4⟩
set_option maxRecDepth 100000 in
set_option maxHeartbeats 4000000 in
theorem m_X9_power_ten_7 {l : Launch} {D : va_G} {h : Nat → Nat} {cz : Nat → ClassId} {z : EZ} {i : Nat → Nat → Int32} {g : Nat → Nat → Int64} (a_a : Int64) (a_b : Int32) (ha_a : rgL 10 10 a_a) (ha_b : rg 7 7 a_b) : DtL l yX9_power cX9_power 3 (some .long) ({ frames := 7, cells := 0, slots := 0, locals := 154 } : Room) D h cz z i g [.long a_a, .int a_b] (fun r u => u = (i, g) ∧ rgL 10000000 10000000 r) := by
  refine e_L pn_X9_power (Nat.le_of_ble_eq_true rfl) ?_
  intro p e s m args below meth c ls Q X Y hret hT hl hS
  have hx := X.1
  have hb := X.2.1
  have hl : lv_has ls 3 [(0, .long a_a), (2, .int a_b)] := hl
  refine lv_iload_n hx hb dX9_power_0 rfl (lv_at hl 1 rfl) ?_
  refine lv_if_ne (tgt := 8) hx hb dX9_power_1 (by decide) (fun c1 => ?_) (fun c1 => (x_eq ha_b (rg_k (by decide) : rg 0 0 0) (i_eq c1) (by decide)).elim)
  have q1 : ¬ a_b.toInt = 0 := i_ne c1
  refine lv_lload_n hx hb dX9_power_8 rfl (lv_at hl 0 rfl) ?_
  refine lv_lload_n hx hb dX9_power_9 rfl (lv_at hl 0 rfl) ?_
  refine lv_iload_n hx hb dX9_power_10 rfl (lv_at hl 1 rfl) ?_
  refine lv_iconst (v := 1) hx hb dX9_power_11 (by decide) ?_
  refine q_isub hx hb dX9_power_12 (fun x2 ex2 => ?_)
  obtain ⟨hx2, ax2⟩ := rg_sub 6 6 ex2 ha_b (rg_k (by decide) : rg 1 1 1) (by decide)
  replace ax2 : x2.toInt = a_b.toInt - 1 := ax2
  refine e_Sl (As := [.long a_a, .int x2]) (rest := [.long a_a]) X Y hT hS (m_X9_power_ten_6 a_a x2 ha_a hx2) sk_X9_power gm_2045 hd_X9_power ⟨rfl, rfl⟩ ⟨Nat.le_of_ble_eq_true rfl, Nat.le_of_ble_eq_true rfl⟩ hl.1 rfl (Nat.le_of_ble_eq_true rfl) dX9_power_13 ⟨Nat.zero_le _, Nat.zero_le _⟩ (fun r3 i3 g3 H locs hq hT hS => ?_)
  obtain ⟨eh3, hr3⟩ := hq
  rw [(Prod.mk.inj eh3).1, (Prod.mk.inj eh3).2] at hT
  refine q_lmul hx hb dX9_power_16 (fun y4 ey4 => ?_)
  obtain ⟨hy4, ay4⟩ := rgL_mul 10000000 10000000 ey4 ha_a hr3 (by decide)
  exact hret y4 _ _ _ _ _ _ dX9_power_17 hT hS ⟨rfl, hy4⟩
set_option maxRecDepth 100000 in
set_option maxHeartbeats 4000000 in
theorem m_X9_power_ten_0t8 {l : Launch} {D : va_G} {h : Nat → Nat} {cz : Nat → ClassId} {z : EZ} {i : Nat → Nat → Int32} {g : Nat → Nat → Int64} (a_a : Int64) (a_b : Int32) (ha_a : rgL 10 10 a_a) (ha_b : rg 0 8 a_b) : DtL l yX9_power cX9_power 3 (some .long) ({ frames := 8, cells := 0, slots := 0, locals := 176 } : Room) D h cz z i g [.long a_a, .int a_b] (fun r u => u = (i, g) ∧ rgL 1 100000000 r) := by
  refine e_L pn_X9_power (Nat.le_of_ble_eq_true rfl) ?_
  intro p e s m args below meth c ls Q X Y hret hT hl hS
  have hx := X.1
  have hb := X.2.1
  have hl : lv_has ls 3 [(0, .long a_a), (2, .int a_b)] := hl
  rcases (show a_b.toInt = 0 ∨ a_b.toInt = 1 ∨ a_b.toInt = 2 ∨ a_b.toInt = 3 ∨ a_b.toInt = 4 ∨ a_b.toInt = 5 ∨ a_b.toInt = 6 ∨ a_b.toInt = 7 ∨ a_b.toInt = 8 by have := ha_b.1; have := ha_b.2; omega) with f1 | f1 | f1 | f1 | f1 | f1 | f1 | f1 | f1
  ·
    have h2 : rg 0 0 a_b := ⟨by omega, by omega⟩
    refine lv_iload_n hx hb dX9_power_0 rfl (lv_at hl 1 rfl) ?_
    refine lv_if_ne (tgt := 8) hx hb dX9_power_1 (by decide) (fun c3 => (x_ne h2 (rg_k (by decide) : rg 0 0 0) (i_ne c3) (by decide)).elim) (fun c3 => ?_)
    have q3 : a_b.toInt = 0 := i_eq c3
    refine lv_lconst (v := 1) hx hb dX9_power_4 (by decide) ?_
    refine lv_goto (tgt := 17) hx hb dX9_power_5 (by decide) ?_
    exact hret 1 _ _ _ _ _ _ dX9_power_17 hT hS ⟨rfl, (rgL_w (rgL_k (by decide) : rgL 1 1 1) (by decide) : rgL 1 100000000 1)⟩
  ·
    have h4 : rg 1 1 a_b := ⟨by omega, by omega⟩
    refine lv_iload_n hx hb dX9_power_0 rfl (lv_at hl 1 rfl) ?_
    refine lv_if_ne (tgt := 8) hx hb dX9_power_1 (by decide) (fun c5 => ?_) (fun c5 => (x_eq h4 (rg_k (by decide) : rg 0 0 0) (i_eq c5) (by decide)).elim)
    have q5 : ¬ a_b.toInt = 0 := i_ne c5
    refine lv_lload_n hx hb dX9_power_8 rfl (lv_at hl 0 rfl) ?_
    refine lv_lload_n hx hb dX9_power_9 rfl (lv_at hl 0 rfl) ?_
    refine lv_iload_n hx hb dX9_power_10 rfl (lv_at hl 1 rfl) ?_
    refine lv_iconst (v := 1) hx hb dX9_power_11 (by decide) ?_
    refine q_isub hx hb dX9_power_12 (fun x6 ex6 => ?_)
    obtain ⟨hx6, ax6⟩ := rg_sub 0 0 ex6 h4 (rg_k (by decide) : rg 1 1 1) (by decide)
    replace ax6 : x6.toInt = a_b.toInt - 1 := ax6
    refine e_Sl (As := [.long a_a, .int x6]) (rest := [.long a_a]) X Y hT hS (m_X9_power_ten_0 a_a x6 ha_a hx6) sk_X9_power gm_2045 hd_X9_power ⟨rfl, rfl⟩ ⟨Nat.le_of_ble_eq_true rfl, Nat.le_of_ble_eq_true rfl⟩ hl.1 rfl (Nat.le_of_ble_eq_true rfl) dX9_power_13 ⟨Nat.zero_le _, Nat.zero_le _⟩ (fun r7 i7 g7 H locs hq hT hS => ?_)
    obtain ⟨eh7, hr7⟩ := hq
    rw [(Prod.mk.inj eh7).1, (Prod.mk.inj eh7).2] at hT
    refine q_lmul hx hb dX9_power_16 (fun y8 ey8 => ?_)
    obtain ⟨hy8, ay8⟩ := rgL_mul 10 10 ey8 ha_a hr7 (by decide)
    exact hret y8 _ _ _ _ _ _ dX9_power_17 hT hS ⟨rfl, (rgL_w hy8 (by decide) : rgL 1 100000000 y8)⟩
  ·
    have h9 : rg 2 2 a_b := ⟨by omega, by omega⟩
    refine lv_iload_n hx hb dX9_power_0 rfl (lv_at hl 1 rfl) ?_
    refine lv_if_ne (tgt := 8) hx hb dX9_power_1 (by decide) (fun c10 => ?_) (fun c10 => (x_eq h9 (rg_k (by decide) : rg 0 0 0) (i_eq c10) (by decide)).elim)
    have q10 : ¬ a_b.toInt = 0 := i_ne c10
    refine lv_lload_n hx hb dX9_power_8 rfl (lv_at hl 0 rfl) ?_
    refine lv_lload_n hx hb dX9_power_9 rfl (lv_at hl 0 rfl) ?_
    refine lv_iload_n hx hb dX9_power_10 rfl (lv_at hl 1 rfl) ?_
    refine lv_iconst (v := 1) hx hb dX9_power_11 (by decide) ?_
    refine q_isub hx hb dX9_power_12 (fun x11 ex11 => ?_)
    obtain ⟨hx11, ax11⟩ := rg_sub 1 1 ex11 h9 (rg_k (by decide) : rg 1 1 1) (by decide)
    replace ax11 : x11.toInt = a_b.toInt - 1 := ax11
    refine e_Sl (As := [.long a_a, .int x11]) (rest := [.long a_a]) X Y hT hS (m_X9_power_ten_1 a_a x11 ha_a hx11) sk_X9_power gm_2045 hd_X9_power ⟨rfl, rfl⟩ ⟨Nat.le_of_ble_eq_true rfl, Nat.le_of_ble_eq_true rfl⟩ hl.1 rfl (Nat.le_of_ble_eq_true rfl) dX9_power_13 ⟨Nat.zero_le _, Nat.zero_le _⟩ (fun r12 i12 g12 H locs hq hT hS => ?_)
    obtain ⟨eh12, hr12⟩ := hq
    rw [(Prod.mk.inj eh12).1, (Prod.mk.inj eh12).2] at hT
    refine q_lmul hx hb dX9_power_16 (fun y13 ey13 => ?_)
    obtain ⟨hy13, ay13⟩ := rgL_mul 100 100 ey13 ha_a hr12 (by decide)
    exact hret y13 _ _ _ _ _ _ dX9_power_17 hT hS ⟨rfl, (rgL_w hy13 (by decide) : rgL 1 100000000 y13)⟩
  ·
    have h14 : rg 3 3 a_b := ⟨by omega, by omega⟩
    refine lv_iload_n hx hb dX9_power_0 rfl (lv_at hl 1 rfl) ?_
    refine lv_if_ne (tgt := 8) hx hb dX9_power_1 (by decide) (fun c15 => ?_) (fun c15 => (x_eq h14 (rg_k (by decide) : rg 0 0 0) (i_eq c15) (by decide)).elim)
    have q15 : ¬ a_b.toInt = 0 := i_ne c15
    refine lv_lload_n hx hb dX9_power_8 rfl (lv_at hl 0 rfl) ?_
    refine lv_lload_n hx hb dX9_power_9 rfl (lv_at hl 0 rfl) ?_
    refine lv_iload_n hx hb dX9_power_10 rfl (lv_at hl 1 rfl) ?_
    refine lv_iconst (v := 1) hx hb dX9_power_11 (by decide) ?_
    refine q_isub hx hb dX9_power_12 (fun x16 ex16 => ?_)
    obtain ⟨hx16, ax16⟩ := rg_sub 2 2 ex16 h14 (rg_k (by decide) : rg 1 1 1) (by decide)
    replace ax16 : x16.toInt = a_b.toInt - 1 := ax16
    refine e_Sl (As := [.long a_a, .int x16]) (rest := [.long a_a]) X Y hT hS (m_X9_power_ten_2 a_a x16 ha_a hx16) sk_X9_power gm_2045 hd_X9_power ⟨rfl, rfl⟩ ⟨Nat.le_of_ble_eq_true rfl, Nat.le_of_ble_eq_true rfl⟩ hl.1 rfl (Nat.le_of_ble_eq_true rfl) dX9_power_13 ⟨Nat.zero_le _, Nat.zero_le _⟩ (fun r17 i17 g17 H locs hq hT hS => ?_)
    obtain ⟨eh17, hr17⟩ := hq
    rw [(Prod.mk.inj eh17).1, (Prod.mk.inj eh17).2] at hT
    refine q_lmul hx hb dX9_power_16 (fun y18 ey18 => ?_)
    obtain ⟨hy18, ay18⟩ := rgL_mul 1000 1000 ey18 ha_a hr17 (by decide)
    exact hret y18 _ _ _ _ _ _ dX9_power_17 hT hS ⟨rfl, (rgL_w hy18 (by decide) : rgL 1 100000000 y18)⟩
  ·
    have h19 : rg 4 4 a_b := ⟨by omega, by omega⟩
    refine lv_iload_n hx hb dX9_power_0 rfl (lv_at hl 1 rfl) ?_
    refine lv_if_ne (tgt := 8) hx hb dX9_power_1 (by decide) (fun c20 => ?_) (fun c20 => (x_eq h19 (rg_k (by decide) : rg 0 0 0) (i_eq c20) (by decide)).elim)
    have q20 : ¬ a_b.toInt = 0 := i_ne c20
    refine lv_lload_n hx hb dX9_power_8 rfl (lv_at hl 0 rfl) ?_
    refine lv_lload_n hx hb dX9_power_9 rfl (lv_at hl 0 rfl) ?_
    refine lv_iload_n hx hb dX9_power_10 rfl (lv_at hl 1 rfl) ?_
    refine lv_iconst (v := 1) hx hb dX9_power_11 (by decide) ?_
    refine q_isub hx hb dX9_power_12 (fun x21 ex21 => ?_)
    obtain ⟨hx21, ax21⟩ := rg_sub 3 3 ex21 h19 (rg_k (by decide) : rg 1 1 1) (by decide)
    replace ax21 : x21.toInt = a_b.toInt - 1 := ax21
    refine e_Sl (As := [.long a_a, .int x21]) (rest := [.long a_a]) X Y hT hS (m_X9_power_ten_3 a_a x21 ha_a hx21) sk_X9_power gm_2045 hd_X9_power ⟨rfl, rfl⟩ ⟨Nat.le_of_ble_eq_true rfl, Nat.le_of_ble_eq_true rfl⟩ hl.1 rfl (Nat.le_of_ble_eq_true rfl) dX9_power_13 ⟨Nat.zero_le _, Nat.zero_le _⟩ (fun r22 i22 g22 H locs hq hT hS => ?_)
    obtain ⟨eh22, hr22⟩ := hq
    rw [(Prod.mk.inj eh22).1, (Prod.mk.inj eh22).2] at hT
    refine q_lmul hx hb dX9_power_16 (fun y23 ey23 => ?_)
    obtain ⟨hy23, ay23⟩ := rgL_mul 10000 10000 ey23 ha_a hr22 (by decide)
    exact hret y23 _ _ _ _ _ _ dX9_power_17 hT hS ⟨rfl, (rgL_w hy23 (by decide) : rgL 1 100000000 y23)⟩
  ·
    have h24 : rg 5 5 a_b := ⟨by omega, by omega⟩
    refine lv_iload_n hx hb dX9_power_0 rfl (lv_at hl 1 rfl) ?_
    refine lv_if_ne (tgt := 8) hx hb dX9_power_1 (by decide) (fun c25 => ?_) (fun c25 => (x_eq h24 (rg_k (by decide) : rg 0 0 0) (i_eq c25) (by decide)).elim)
    have q25 : ¬ a_b.toInt = 0 := i_ne c25
    refine lv_lload_n hx hb dX9_power_8 rfl (lv_at hl 0 rfl) ?_
    refine lv_lload_n hx hb dX9_power_9 rfl (lv_at hl 0 rfl) ?_
    refine lv_iload_n hx hb dX9_power_10 rfl (lv_at hl 1 rfl) ?_
    refine lv_iconst (v := 1) hx hb dX9_power_11 (by decide) ?_
    refine q_isub hx hb dX9_power_12 (fun x26 ex26 => ?_)
    obtain ⟨hx26, ax26⟩ := rg_sub 4 4 ex26 h24 (rg_k (by decide) : rg 1 1 1) (by decide)
    replace ax26 : x26.toInt = a_b.toInt - 1 := ax26
    refine e_Sl (As := [.long a_a, .int x26]) (rest := [.long a_a]) X Y hT hS (m_X9_power_ten_4 a_a x26 ha_a hx26) sk_X9_power gm_2045 hd_X9_power ⟨rfl, rfl⟩ ⟨Nat.le_of_ble_eq_true rfl, Nat.le_of_ble_eq_true rfl⟩ hl.1 rfl (Nat.le_of_ble_eq_true rfl) dX9_power_13 ⟨Nat.zero_le _, Nat.zero_le _⟩ (fun r27 i27 g27 H locs hq hT hS => ?_)
    obtain ⟨eh27, hr27⟩ := hq
    rw [(Prod.mk.inj eh27).1, (Prod.mk.inj eh27).2] at hT
    refine q_lmul hx hb dX9_power_16 (fun y28 ey28 => ?_)
    obtain ⟨hy28, ay28⟩ := rgL_mul 100000 100000 ey28 ha_a hr27 (by decide)
    exact hret y28 _ _ _ _ _ _ dX9_power_17 hT hS ⟨rfl, (rgL_w hy28 (by decide) : rgL 1 100000000 y28)⟩
  ·
    have h29 : rg 6 6 a_b := ⟨by omega, by omega⟩
    refine lv_iload_n hx hb dX9_power_0 rfl (lv_at hl 1 rfl) ?_
    refine lv_if_ne (tgt := 8) hx hb dX9_power_1 (by decide) (fun c30 => ?_) (fun c30 => (x_eq h29 (rg_k (by decide) : rg 0 0 0) (i_eq c30) (by decide)).elim)
    have q30 : ¬ a_b.toInt = 0 := i_ne c30
    refine lv_lload_n hx hb dX9_power_8 rfl (lv_at hl 0 rfl) ?_
    refine lv_lload_n hx hb dX9_power_9 rfl (lv_at hl 0 rfl) ?_
    refine lv_iload_n hx hb dX9_power_10 rfl (lv_at hl 1 rfl) ?_
    refine lv_iconst (v := 1) hx hb dX9_power_11 (by decide) ?_
    refine q_isub hx hb dX9_power_12 (fun x31 ex31 => ?_)
    obtain ⟨hx31, ax31⟩ := rg_sub 5 5 ex31 h29 (rg_k (by decide) : rg 1 1 1) (by decide)
    replace ax31 : x31.toInt = a_b.toInt - 1 := ax31
    refine e_Sl (As := [.long a_a, .int x31]) (rest := [.long a_a]) X Y hT hS (m_X9_power_ten_5 a_a x31 ha_a hx31) sk_X9_power gm_2045 hd_X9_power ⟨rfl, rfl⟩ ⟨Nat.le_of_ble_eq_true rfl, Nat.le_of_ble_eq_true rfl⟩ hl.1 rfl (Nat.le_of_ble_eq_true rfl) dX9_power_13 ⟨Nat.zero_le _, Nat.zero_le _⟩ (fun r32 i32 g32 H locs hq hT hS => ?_)
    obtain ⟨eh32, hr32⟩ := hq
    rw [(Prod.mk.inj eh32).1, (Prod.mk.inj eh32).2] at hT
    refine q_lmul hx hb dX9_power_16 (fun y33 ey33 => ?_)
    obtain ⟨hy33, ay33⟩ := rgL_mul 1000000 1000000 ey33 ha_a hr32 (by decide)
    exact hret y33 _ _ _ _ _ _ dX9_power_17 hT hS ⟨rfl, (rgL_w hy33 (by decide) : rgL 1 100000000 y33)⟩
  ·
    have h34 : rg 7 7 a_b := ⟨by omega, by omega⟩
    refine lv_iload_n hx hb dX9_power_0 rfl (lv_at hl 1 rfl) ?_
    refine lv_if_ne (tgt := 8) hx hb dX9_power_1 (by decide) (fun c35 => ?_) (fun c35 => (x_eq h34 (rg_k (by decide) : rg 0 0 0) (i_eq c35) (by decide)).elim)
    have q35 : ¬ a_b.toInt = 0 := i_ne c35
    refine lv_lload_n hx hb dX9_power_8 rfl (lv_at hl 0 rfl) ?_
    refine lv_lload_n hx hb dX9_power_9 rfl (lv_at hl 0 rfl) ?_
    refine lv_iload_n hx hb dX9_power_10 rfl (lv_at hl 1 rfl) ?_
    refine lv_iconst (v := 1) hx hb dX9_power_11 (by decide) ?_
    refine q_isub hx hb dX9_power_12 (fun x36 ex36 => ?_)
    obtain ⟨hx36, ax36⟩ := rg_sub 6 6 ex36 h34 (rg_k (by decide) : rg 1 1 1) (by decide)
    replace ax36 : x36.toInt = a_b.toInt - 1 := ax36
    refine e_Sl (As := [.long a_a, .int x36]) (rest := [.long a_a]) X Y hT hS (m_X9_power_ten_6 a_a x36 ha_a hx36) sk_X9_power gm_2045 hd_X9_power ⟨rfl, rfl⟩ ⟨Nat.le_of_ble_eq_true rfl, Nat.le_of_ble_eq_true rfl⟩ hl.1 rfl (Nat.le_of_ble_eq_true rfl) dX9_power_13 ⟨Nat.zero_le _, Nat.zero_le _⟩ (fun r37 i37 g37 H locs hq hT hS => ?_)
    obtain ⟨eh37, hr37⟩ := hq
    rw [(Prod.mk.inj eh37).1, (Prod.mk.inj eh37).2] at hT
    refine q_lmul hx hb dX9_power_16 (fun y38 ey38 => ?_)
    obtain ⟨hy38, ay38⟩ := rgL_mul 10000000 10000000 ey38 ha_a hr37 (by decide)
    exact hret y38 _ _ _ _ _ _ dX9_power_17 hT hS ⟨rfl, (rgL_w hy38 (by decide) : rgL 1 100000000 y38)⟩
  ·
    have h39 : rg 8 8 a_b := ⟨by omega, by omega⟩
    refine lv_iload_n hx hb dX9_power_0 rfl (lv_at hl 1 rfl) ?_
    refine lv_if_ne (tgt := 8) hx hb dX9_power_1 (by decide) (fun c40 => ?_) (fun c40 => (x_eq h39 (rg_k (by decide) : rg 0 0 0) (i_eq c40) (by decide)).elim)
    have q40 : ¬ a_b.toInt = 0 := i_ne c40
    refine lv_lload_n hx hb dX9_power_8 rfl (lv_at hl 0 rfl) ?_
    refine lv_lload_n hx hb dX9_power_9 rfl (lv_at hl 0 rfl) ?_
    refine lv_iload_n hx hb dX9_power_10 rfl (lv_at hl 1 rfl) ?_
    refine lv_iconst (v := 1) hx hb dX9_power_11 (by decide) ?_
    refine q_isub hx hb dX9_power_12 (fun x41 ex41 => ?_)
    obtain ⟨hx41, ax41⟩ := rg_sub 7 7 ex41 h39 (rg_k (by decide) : rg 1 1 1) (by decide)
    replace ax41 : x41.toInt = a_b.toInt - 1 := ax41
    refine e_Sl (As := [.long a_a, .int x41]) (rest := [.long a_a]) X Y hT hS (m_X9_power_ten_7 a_a x41 ha_a hx41) sk_X9_power gm_2045 hd_X9_power ⟨rfl, rfl⟩ ⟨Nat.le_of_ble_eq_true rfl, Nat.le_of_ble_eq_true rfl⟩ hl.1 rfl (Nat.le_of_ble_eq_true rfl) dX9_power_13 ⟨Nat.zero_le _, Nat.zero_le _⟩ (fun r42 i42 g42 H locs hq hT hS => ?_)
    obtain ⟨eh42, hr42⟩ := hq
    rw [(Prod.mk.inj eh42).1, (Prod.mk.inj eh42).2] at hT
    refine q_lmul hx hb dX9_power_16 (fun y43 ey43 => ?_)
    obtain ⟨hy43, ay43⟩ := rgL_mul 100000000 100000000 ey43 ha_a hr42 (by decide)
    exact hret y43 _ _ _ _ _ _ dX9_power_17 hT hS ⟨rfl, (rgL_w hy43 (by decide) : rgL 1 100000000 y43)⟩
set_option maxRecDepth 100000 in
set_option maxHeartbeats 4000000 in
theorem m_X9_chance {l : Launch} {D : va_G} {h : Nat → Nat} {cz : Nat → ClassId} {z : EZ} {i : Nat → Nat → Int32} {g : Nat → Nat → Int64} (hR : Rg rA i) (a_a : Int32) (a_b : Int32) : DtI l yX9_chance cX9_chance 3 (some .int) ({ frames := 130, cells := 0, slots := 0, locals := 2991 } : Room) D h cz z i g [.ref (h 96), .int a_a, .int a_b] (fun r u => Rg rA u.1 ∧ Fr [96, 109, 110, 111, 112, 113, 114, 115] [] i g u) := by
  refine e_I pn_X9_chance (Nat.le_of_ble_eq_true rfl) ?_
  intro p e s m args below meth c ls Q X Y hret hT hl hS
  have hx := X.1
  have hb := X.2.1
  have hl : lv_has ls 3 [(0, .ref (h 96)), (1, .int a_a), (2, .int a_b)] := hl
  have hF : Fr [96, 109, 110, 111, 112, 113, 114, 115] [] i g (i, g) := Fr_rf _ _ _ _
  refine lv_aload_n hx hb dX9_chance_0 rfl (lv_at hl 0 rfl) ?_
  refine lv_iconst (v := 0) hx hb dX9_chance_1 (by decide) ?_
  refine r_puti X hT hS 96 0 pk_9_83 rfl rfl rfl rfl (by decide) dX9_chance_2 (fun H locs i1 ei1 hT hS => ?_)
  have hR1 := Rg_put hR ei1 (-2147483648) 2147483647 rfl (rg_k (by decide) : rg 0 0 0) (by decide)
  have hF1 := Fr_puti hF ei1 (by decide)
  refine lv_aload_n hx hb dX9_chance_5 rfl (lv_at hl 0 rfl) ?_
  refine lv_iload_n hx hb dX9_chance_6 rfl (lv_at hl 1 rfl) ?_
  refine q_i2l hx hb dX9_chance_7 (fun y2 ey2 => ?_)
  obtain ⟨hy2, ay2⟩ := rg_i2l ey2 (rg_top a_a)
  refine e_Vi (As := [.long y2]) (rest := []) X Y hT hS (m_X9_isPart hR1 y2) mk_X9_isPart gm_1645 rfl rfl (by decide) hd_X9_isPart ⟨rfl, rfl⟩ ⟨Nat.le_of_ble_eq_true rfl, Nat.le_of_ble_eq_true rfl⟩ hl.1 rfl (Nat.le_of_ble_eq_true rfl) dX9_chance_8 ⟨Nat.zero_le _, Nat.zero_le _⟩ (fun r3 i3 g3 H locs hq hT hS => ?_)
  rcases hq with hq | hq
  ·
    obtain ⟨eh3, rfl, hf3_0⟩ := hq
    rw [(Prod.mk.inj eh3).1, (Prod.mk.inj eh3).2] at hT
    have h4 : rgL 0 5 y2 := ⟨by have := hy2.1; have := hf3_0.1; omega, by have := hy2.2; have := hf3_0.2; omega⟩
    have h5 : rg 0 5 a_a := ⟨by have := h4.1; have := (rg_top a_a).1; have := ay2; omega, by have := h4.2; have := (rg_top a_a).2; have := ay2; omega⟩
    refine lv_if_eq (tgt := 46) hx hb dX9_chance_11 (by decide) (fun c6 => (x_eq (rg_k (by decide) : rg 1 1 1) (rg_k (by decide) : rg 0 0 0) (i_eq c6) (by decide)).elim) (fun c6 => ?_)
    refine lv_iload_n hx hb dX9_chance_14 rfl (lv_at hl 2 rfl) ?_
    refine e_Si (As := [.int a_b]) (rest := []) X Y hT hS (m_X9_isHalf a_b) sk_X9_isHalf gm_1902 hd_X9_isHalf ⟨rfl, rfl⟩ ⟨Nat.le_of_ble_eq_true rfl, Nat.le_of_ble_eq_true rfl⟩ hl.1 rfl (Nat.le_of_ble_eq_true rfl) dX9_chance_15 ⟨Nat.zero_le _, Nat.zero_le _⟩ (fun r7 i7 g7 H locs hq hT hS => ?_)
    rcases hq with hq | hq
    ·
      obtain ⟨eh7, rfl, hf7_0⟩ := hq
      rw [(Prod.mk.inj eh7).1, (Prod.mk.inj eh7).2] at hT
      have h8 : rg 0 1 a_b := ⟨by have := (rg_top a_b).1; have := hf7_0.1; omega, by have := (rg_top a_b).2; have := hf7_0.2; omega⟩
      refine lv_if_eq (tgt := 46) hx hb dX9_chance_18 (by decide) (fun c9 => (x_eq (rg_k (by decide) : rg 1 1 1) (rg_k (by decide) : rg 0 0 0) (i_eq c9) (by decide)).elim) (fun c9 => ?_)
      refine lv_aload_n hx hb dX9_chance_21 rfl (lv_at hl 0 rfl) ?_
      refine lv_iload_n hx hb dX9_chance_22 rfl (lv_at hl 1 rfl) ?_
      refine e_Vl (As := [.int a_a]) (rest := []) X Y hT hS (m_X9_weightOf hR1 a_a) mk_X9_weightOf gm_2040 rfl rfl (by decide) hd_X9_weightOf ⟨rfl, rfl⟩ ⟨Nat.le_of_ble_eq_true rfl, Nat.le_of_ble_eq_true rfl⟩ hl.1 rfl (Nat.le_of_ble_eq_true rfl) dX9_chance_23 ⟨Nat.zero_le _, Nat.zero_le _⟩ (fun r10 i10 g10 H locs hq hT hS => ?_)
      obtain ⟨hR10, hf10⟩ := hq
      have hF10 := Fr_tr hF1 hf10 (by decide)
      refine lv_ldc2 (v := 10) hx hb X.2.2.2.1 (X.2.2.2.2.1 _ gm_2044) dX9_chance_26 ?_
      refine lv_aload_n hx hb dX9_chance_29 rfl (lv_at hl 0 rfl) ?_
      refine r_getr X hT 96 17 103 fk_9_34 rfl rfl (by decide) dX9_chance_30 ?_
      refine lv_iconst (v := 5) hx hb dX9_chance_33 (by decide) ?_
      refine r_ialdc X hT 103 5 rfl (by decide) (v_in (rg_k (by decide) : rg 5 5 5) (by decide)) (by decide) dX9_chance_34 ?_
      refine e_Sl (As := [.long 10, .int (i10 103 5)]) (rest := [.long r10]) X Y hT hS (m_X9_power_ten_0t8 (10) (i10 103 5) (rgL_k (by decide) : rgL 10 10 10) (Rg_at hR10 103 5 0 8 (by decide) rfl)) sk_X9_power gm_2045 hd_X9_power ⟨rfl, rfl⟩ ⟨Nat.le_of_ble_eq_true rfl, Nat.le_of_ble_eq_true rfl⟩ hl.1 rfl (Nat.le_of_ble_eq_true rfl) dX9_chance_35 ⟨Nat.zero_le _, Nat.zero_le _⟩ (fun r11 i11 g11 H locs hq hT hS => ?_)
      obtain ⟨eh11, hr11⟩ := hq
      rw [(Prod.mk.inj eh11).1, (Prod.mk.inj eh11).2] at hT
      refine lv_iload_n hx hb dX9_chance_38 rfl (lv_at hl 2 rfl) ?_
      refine e_Sl (As := [.long r10, .long r11, .int a_b]) (rest := []) X Y hT hS (m_X9_part0 r10 r11 a_b hr11) sk_X9_part0 gm_1909 hd_X9_part0 ⟨rfl, rfl⟩ ⟨Nat.le_of_ble_eq_true rfl, Nat.le_of_ble_eq_true rfl⟩ hl.1 rfl (Nat.le_of_ble_eq_true rfl) dX9_chance_39 ⟨Nat.zero_le _, Nat.zero_le _⟩ (fun r12 i12 g12 H locs hq hT hS => ?_)
      have eh12 := hq
      rw [(Prod.mk.inj eh12).1, (Prod.mk.inj eh12).2] at hT
      refine q_l2i hx hb dX9_chance_42 (fun x13 ex13 => ?_)
      refine lv_goto (tgt := 48) hx hb dX9_chance_43 (by decide) ?_
      exact hret x13 _ _ _ _ _ _ dX9_chance_48 hT hS ⟨hR10, hF10⟩
    ·
      obtain ⟨eh7, rfl⟩ := hq
      rw [(Prod.mk.inj eh7).1, (Prod.mk.inj eh7).2] at hT
      refine lv_if_eq (tgt := 46) hx hb dX9_chance_18 (by decide) (fun c14 => ?_) (fun c14 => (x_ne (rg_k (by decide) : rg 0 0 0) (rg_k (by decide) : rg 0 0 0) (i_ne c14) (by decide)).elim)
      refine lv_bipush (v := (-2)) hx hb dX9_chance_46 (by decide) ?_
      exact hret (-2) _ _ _ _ _ _ dX9_chance_48 hT hS ⟨hR1, hF1⟩
  ·
    obtain ⟨eh3, rfl⟩ := hq
    rw [(Prod.mk.inj eh3).1, (Prod.mk.inj eh3).2] at hT
    refine lv_if_eq (tgt := 46) hx hb dX9_chance_11 (by decide) (fun c15 => ?_) (fun c15 => (x_ne (rg_k (by decide) : rg 0 0 0) (rg_k (by decide) : rg 0 0 0) (i_ne c15) (by decide)).elim)
    refine lv_bipush (v := (-2)) hx hb dX9_chance_46 (by decide) ?_
    exact hret (-2) _ _ _ _ _ _ dX9_chance_48 hT hS ⟨hR1, hF1⟩
set_option maxRecDepth 100000 in
set_option maxHeartbeats 4000000 in
theorem m_X9_mean {l : Launch} {D : va_G} {h : Nat → Nat} {cz : Nat → ClassId} {z : EZ} {i : Nat → Nat → Int32} {g : Nat → Nat → Int64} (hR : Rg rA i) (a_a : Int32) : DtL l yX9_mean cX9_mean 2 (some .long) ({ frames := 130, cells := 0, slots := 0, locals := 2991 } : Room) D h cz z i g [.ref (h 96), .int a_a] (fun r u => Rg rA u.1 ∧ Fr [96, 109, 110, 111, 112, 113, 114, 115] [] i g u) := by
  refine e_L pn_X9_mean (Nat.le_of_ble_eq_true rfl) ?_
  intro p e s m args below meth c ls Q X Y hret hT hl hS
  have hx := X.1
  have hb := X.2.1
  have hl : lv_has ls 2 [(0, .ref (h 96)), (1, .int a_a)] := hl
  have hF : Fr [96, 109, 110, 111, 112, 113, 114, 115] [] i g (i, g) := Fr_rf _ _ _ _
  refine lv_aload_n hx hb dX9_mean_0 rfl (lv_at hl 0 rfl) ?_
  refine lv_iconst (v := 0) hx hb dX9_mean_1 (by decide) ?_
  refine r_puti X hT hS 96 0 pk_9_83 rfl rfl rfl rfl (by decide) dX9_mean_2 (fun H locs i1 ei1 hT hS => ?_)
  have hR1 := Rg_put hR ei1 (-2147483648) 2147483647 rfl (rg_k (by decide) : rg 0 0 0) (by decide)
  have hF1 := Fr_puti hF ei1 (by decide)
  refine lv_aload_n hx hb dX9_mean_5 rfl (lv_at hl 0 rfl) ?_
  refine e_Vi (As := []) (rest := []) X Y hT hS (m_X9_isTale hR1) mk_X9_isTale gm_1685 rfl rfl (by decide) hd_X9_isTale ⟨rfl, rfl⟩ ⟨Nat.le_of_ble_eq_true rfl, Nat.le_of_ble_eq_true rfl⟩ hl.1 rfl (Nat.le_of_ble_eq_true rfl) dX9_mean_6 ⟨Nat.zero_le _, Nat.zero_le _⟩ (fun r2 i2 g2 H locs hq hT hS => ?_)
  obtain ⟨eh2, hr2⟩ := hq
  rw [(Prod.mk.inj eh2).1, (Prod.mk.inj eh2).2] at hT
  refine lv_if_eq (tgt := 43) hx hb dX9_mean_9 (by decide) (fun c3 => ?_) (fun c3 => ?_)
  ·
    have q3 : r2.toInt = 0 := i_eq c3
    have h4 : rg 0 0 r2 := t_eqx 0 0 hr2 (rg_k (by decide) : rg 0 0 0) (i_eq c3) (by decide)
    refine lv_ldc2 (v := (-2)) hx hb X.2.2.2.1 (X.2.2.2.2.1 _ gm_2052) dX9_mean_43 ?_
    exact hret (-2) _ _ _ _ _ _ dX9_mean_46 hT hS ⟨hR1, hF1⟩
  ·
    have q3 : ¬ r2.toInt = 0 := i_ne c3
    have h5 : rg 1 1 r2 := t_nelo 1 hr2 (rg_k (by decide) : rg 0 0 0) (i_ne c3) (by decide)
    refine lv_iload_n hx hb dX9_mean_12 rfl (lv_at hl 1 rfl) ?_
    refine e_Si (As := [.int a_a]) (rest := []) X Y hT hS (m_X9_isHalf a_a) sk_X9_isHalf gm_1902 hd_X9_isHalf ⟨rfl, rfl⟩ ⟨Nat.le_of_ble_eq_true rfl, Nat.le_of_ble_eq_true rfl⟩ hl.1 rfl (Nat.le_of_ble_eq_true rfl) dX9_mean_13 ⟨Nat.zero_le _, Nat.zero_le _⟩ (fun r6 i6 g6 H locs hq hT hS => ?_)
    rcases hq with hq | hq
    ·
      obtain ⟨eh6, rfl, hf6_0⟩ := hq
      rw [(Prod.mk.inj eh6).1, (Prod.mk.inj eh6).2] at hT
      have h7 : rg 0 1 a_a := ⟨by have := (rg_top a_a).1; have := hf6_0.1; omega, by have := (rg_top a_a).2; have := hf6_0.2; omega⟩
      refine lv_if_eq (tgt := 43) hx hb dX9_mean_16 (by decide) (fun c8 => (x_eq (rg_k (by decide) : rg 1 1 1) (rg_k (by decide) : rg 0 0 0) (i_eq c8) (by decide)).elim) (fun c8 => ?_)
      refine lv_aload_n hx hb dX9_mean_19 rfl (lv_at hl 0 rfl) ?_
      refine lv_iconst (v := (-1)) hx hb dX9_mean_20 (by decide) ?_
      refine e_Vl (As := [.int (-1)]) (rest := []) X Y hT hS (m_X9_weightOf hR1 ((-1))) mk_X9_weightOf gm_2040 rfl rfl (by decide) hd_X9_weightOf ⟨rfl, rfl⟩ ⟨Nat.le_of_ble_eq_true rfl, Nat.le_of_ble_eq_true rfl⟩ hl.1 rfl (Nat.le_of_ble_eq_true rfl) dX9_mean_21 ⟨Nat.zero_le _, Nat.zero_le _⟩ (fun r9 i9 g9 H locs hq hT hS => ?_)
      obtain ⟨hR9, hf9⟩ := hq
      have hF9 := Fr_tr hF1 hf9 (by decide)
      refine lv_ldc2 (v := 10) hx hb X.2.2.2.1 (X.2.2.2.2.1 _ gm_2044) dX9_mean_24 ?_
      refine lv_aload_n hx hb dX9_mean_27 rfl (lv_at hl 0 rfl) ?_
      refine r_getr X hT 96 17 103 fk_9_34 rfl rfl (by decide) dX9_mean_28 ?_
      refine lv_iconst (v := 5) hx hb dX9_mean_31 (by decide) ?_
      refine r_ialdc X hT 103 5 rfl (by decide) (v_in (rg_k (by decide) : rg 5 5 5) (by decide)) (by decide) dX9_mean_32 ?_
      refine e_Sl (As := [.long 10, .int (i9 103 5)]) (rest := [.long r9]) X Y hT hS (m_X9_power_ten_0t8 (10) (i9 103 5) (rgL_k (by decide) : rgL 10 10 10) (Rg_at hR9 103 5 0 8 (by decide) rfl)) sk_X9_power gm_2045 hd_X9_power ⟨rfl, rfl⟩ ⟨Nat.le_of_ble_eq_true rfl, Nat.le_of_ble_eq_true rfl⟩ hl.1 rfl (Nat.le_of_ble_eq_true rfl) dX9_mean_33 ⟨Nat.zero_le _, Nat.zero_le _⟩ (fun r10 i10 g10 H locs hq hT hS => ?_)
      obtain ⟨eh10, hr10⟩ := hq
      rw [(Prod.mk.inj eh10).1, (Prod.mk.inj eh10).2] at hT
      refine lv_iload_n hx hb dX9_mean_36 rfl (lv_at hl 1 rfl) ?_
      refine e_Sl (As := [.long r9, .long r10, .int a_a]) (rest := []) X Y hT hS (m_X9_part0 r9 r10 a_a hr10) sk_X9_part0 gm_1909 hd_X9_part0 ⟨rfl, rfl⟩ ⟨Nat.le_of_ble_eq_true rfl, Nat.le_of_ble_eq_true rfl⟩ hl.1 rfl (Nat.le_of_ble_eq_true rfl) dX9_mean_37 ⟨Nat.zero_le _, Nat.zero_le _⟩ (fun r11 i11 g11 H locs hq hT hS => ?_)
      have eh11 := hq
      rw [(Prod.mk.inj eh11).1, (Prod.mk.inj eh11).2] at hT
      refine lv_goto (tgt := 46) hx hb dX9_mean_40 (by decide) ?_
      exact hret r11 _ _ _ _ _ _ dX9_mean_46 hT hS ⟨hR9, hF9⟩
    ·
      obtain ⟨eh6, rfl⟩ := hq
      rw [(Prod.mk.inj eh6).1, (Prod.mk.inj eh6).2] at hT
      refine lv_if_eq (tgt := 43) hx hb dX9_mean_16 (by decide) (fun c12 => ?_) (fun c12 => (x_ne (rg_k (by decide) : rg 0 0 0) (rg_k (by decide) : rg 0 0 0) (i_ne c12) (by decide)).elim)
      refine lv_ldc2 (v := (-2)) hx hb X.2.2.2.1 (X.2.2.2.2.1 _ gm_2052) dX9_mean_43 ?_
      exact hret (-2) _ _ _ _ _ _ dX9_mean_46 hT hS ⟨hR1, hF1⟩
set_option maxRecDepth 100000 in
set_option maxHeartbeats 4000000 in
theorem m_X9_does {l : Launch} {D : va_G} {h : Nat → Nat} {cz : Nat → ClassId} {z : EZ} {i : Nat → Nat → Int32} {g : Nat → Nat → Int64} (hR : Rg rA i) (a_a : Int32) (a_b : Int32) (a_c : Int32) (ha_a : rg 0 1 a_a) (ha_b : rg 0 5 a_b) (ha_c : rg 0 11 a_c) (hs103_6 : rg 0 19 (i 103 6)) : DtV l yX9_does cX9_does 5 none ({ frames := 0, cells := 0, slots := 0, locals := 0 } : Room) D h cz z i g [.ref (h 96), .int a_a, .int a_b, .int a_c] (fun u => Rg rA u.1 ∧ Fr [103, 107] [] i g u) := by
  refine e_V pn_X9_does (Nat.le_of_ble_eq_true rfl) ?_
  intro p e s m args below meth c ls Q X Y hret hT hl hS
  have hx := X.1
  have hb := X.2.1
  have hl : lv_has ls 5 [(0, .ref (h 96)), (1, .int a_a), (2, .int a_b), (3, .int a_c)] := hl
  have hF : Fr [103, 107] [] i g (i, g) := Fr_rf _ _ _ _
  refine lv_iconst (v := 3) hx hb dX9_does_0 (by decide) ?_
  refine lv_aload_n hx hb dX9_does_1 rfl (lv_at hl 0 rfl) ?_
  refine r_getr X hT 96 17 103 fk_9_34 rfl rfl (by decide) dX9_does_2 ?_
  refine lv_bipush (v := 6) hx hb dX9_does_5 (by decide) ?_
  refine r_ialdc X hT 103 6 rfl (by decide) (v_in (rg_k (by decide) : rg 6 6 6) (by decide)) (by decide) dX9_does_7 ?_
  refine q_imul hx hb dX9_does_8 (fun x1 ex1 => ?_)
  obtain ⟨hx1, ax1⟩ := rg_mul 0 57 ex1 (rg_k (by decide) : rg 3 3 3) hs103_6 (by decide)
  replace ax1 : x1.toInt = 3 * (i 103 6).toInt := ax1
  refine lv_istore (lv' := [(4, .int x1), (0, .ref (h 96)), (1, .int a_a), (2, .int a_b), (3, .int a_c)]) hx hb dX9_does_9 hl (by decide) rfl (fun ls hl => ?_)
  refine lv_aload_n hx hb dX9_does_11 rfl (lv_at hl 1 rfl) ?_
  refine r_getr X hT 96 21 107 fk_9_46 rfl rfl (by decide) dX9_does_12 ?_
  refine lv_iload hx hb dX9_does_15 (lv_at hl 0 rfl) ?_
  refine lv_iload_n hx hb dX9_does_17 rfl (lv_at hl 2 rfl) ?_
  refine r_iast X hT hS 107 rfl (by decide) (v_in hx1 (by decide)) dX9_does_18 (fun H locs i2 ei2 hT hS => ?_)
  have hR2 := Rg_puta hR ei2 0 1 (aff_put (m := 3) (a := 0) (n := 20) (c := 0) (by decide) (v := (i 103 6).toInt) ⟨by have := hs103_6.1; omega, by have := hs103_6.2; omega⟩ (by have := ax1; omega)) ha_a (by decide)
  have hF2 := Fr_puti hF ei2 (by decide)
  refine lv_aload_n hx hb dX9_does_19 rfl (lv_at hl 1 rfl) ?_
  refine r_getr X hT 96 21 107 fk_9_46 rfl rfl (by decide) dX9_does_20 ?_
  refine lv_iload hx hb dX9_does_23 (lv_at hl 0 rfl) ?_
  refine lv_iconst (v := 1) hx hb dX9_does_25 (by decide) ?_
  refine q_iadd hx hb dX9_does_26 (fun x3 ex3 => ?_)
  obtain ⟨hx3, ax3⟩ := rg_add 1 58 ex3 hx1 (rg_k (by decide) : rg 1 1 1) (by decide)
  replace ax3 : x3.toInt = x1.toInt + 1 := ax3
  refine lv_iload_n hx hb dX9_does_27 rfl (lv_at hl 3 rfl) ?_
  refine r_iast X hT hS 107 rfl (by decide) (v_in hx3 (by decide)) dX9_does_28 (fun H locs i4 ei4 hT hS => ?_)
  have hR4 := Rg_puta hR2 ei4 0 5 (aff_put (m := 3) (a := 0) (n := 20) (c := 1) (by decide) (v := (i 103 6).toInt) ⟨by have := hs103_6.1; omega, by have := hs103_6.2; omega⟩ (by have := ax1; have := ax3; omega)) ha_b (by decide)
  have hF4 := Fr_puti hF2 ei4 (by decide)
  refine lv_aload_n hx hb dX9_does_29 rfl (lv_at hl 1 rfl) ?_
  refine r_getr X hT 96 21 107 fk_9_46 rfl rfl (by decide) dX9_does_30 ?_
  refine lv_iload hx hb dX9_does_33 (lv_at hl 0 rfl) ?_
  refine lv_iconst (v := 2) hx hb dX9_does_35 (by decide) ?_
  refine q_iadd hx hb dX9_does_36 (fun x5 ex5 => ?_)
  obtain ⟨hx5, ax5⟩ := rg_add 2 59 ex5 hx1 (rg_k (by decide) : rg 2 2 2) (by decide)
  replace ax5 : x5.toInt = x1.toInt + 2 := ax5
  refine lv_iload_n hx hb dX9_does_37 rfl (lv_at hl 4 rfl) ?_
  refine r_iast X hT hS 107 rfl (by decide) (v_in hx5 (by decide)) dX9_does_38 (fun H locs i6 ei6 hT hS => ?_)
  have hR6 := Rg_puta hR4 ei6 0 11 (aff_put (m := 3) (a := 0) (n := 20) (c := 2) (by decide) (v := (i 103 6).toInt) ⟨by have := hs103_6.1; omega, by have := hs103_6.2; omega⟩ (by have := ax1; have := ax5; omega)) ha_c (by decide)
  have hF6 := Fr_puti hF4 ei6 (by decide)
  refine lv_aload_n hx hb dX9_does_39 rfl (lv_at hl 1 rfl) ?_
  refine r_getr X hT 96 17 103 fk_9_34 rfl rfl (by decide) dX9_does_40 ?_
  refine lv_bipush (v := 6) hx hb dX9_does_43 (by decide) ?_
  refine lv_dup2_11 hx hb dX9_does_45 rfl rfl ?_
  refine r_ialdc X hT 103 6 rfl (by decide) (v_in (rg_k (by decide) : rg 6 6 6) (by decide)) (by decide) dX9_does_46 ?_
  have e7 : (i6 103 6) = (i 103 6) := (z_j ei6 (z_j ei4 (z_j ei2 rfl (by decide)) (by decide)) (by decide))
  have h8 : rg 0 19 (i6 103 6) := rg_of e7 hs103_6
  refine lv_iconst (v := 1) hx hb dX9_does_47 (by decide) ?_
  refine q_iadd hx hb dX9_does_48 (fun x9 ex9 => ?_)
  obtain ⟨hx9, ax9⟩ := rg_add 1 20 ex9 h8 (rg_k (by decide) : rg 1 1 1) (by decide)
  replace ax9 : x9.toInt = (i6 103 6).toInt + 1 := ax9
  refine r_iastc X hT hS 103 6 rfl (by decide) (v_in (rg_k (by decide) : rg 6 6 6) (by decide)) (by decide) dX9_does_49 (fun H locs i10 ei10 hT hS => ?_)
  have hR10 := Rg_put hR6 ei10 0 20 rfl hx9 (by decide)
  have hF10 := Fr_puti hF6 ei10 (by decide)
  exact hret _ _ _ _ _ _ dX9_does_50 hT hS ⟨hR10, hF10⟩
set_option maxRecDepth 100000 in
set_option maxHeartbeats 4000000 in
theorem m_X9_knife {l : Launch} {D : va_G} {h : Nat → Nat} {cz : Nat → ClassId} {z : EZ} {i : Nat → Nat → Int32} {g : Nat → Nat → Int64} (hR : Rg rA i) (a_a : Int32) (a_b : Int32) : DtI l yX9_knife cX9_knife 3 (some .int) ({ frames := 6, cells := 0, slots := 0, locals := 132 } : Room) D h cz z i g [.ref (h 96), .int a_a, .int a_b] (fun r u => Rg rA u.1 ∧ Fr [96, 103, 107, 109, 110, 111, 112, 113, 114, 115] [] i g u) := by
  refine e_I pn_X9_knife (Nat.le_of_ble_eq_true rfl) ?_
  intro p e s m args below meth c ls Q X Y hret hT hl hS
  have hx := X.1
  have hb := X.2.1
  have hl : lv_has ls 3 [(0, .ref (h 96)), (1, .int a_a), (2, .int a_b)] := hl
  have hF : Fr [96, 103, 107, 109, 110, 111, 112, 113, 114, 115] [] i g (i, g) := Fr_rf _ _ _ _
  refine lv_aload_n hx hb dX9_knife_0 rfl (lv_at hl 0 rfl) ?_
  refine lv_iconst (v := 0) hx hb dX9_knife_1 (by decide) ?_
  refine r_puti X hT hS 96 0 pk_9_83 rfl rfl rfl rfl (by decide) dX9_knife_2 (fun H locs i1 ei1 hT hS => ?_)
  have hR1 := Rg_put hR ei1 (-2147483648) 2147483647 rfl (rg_k (by decide) : rg 0 0 0) (by decide)
  have hF1 := Fr_puti hF ei1 (by decide)
  refine lv_aload_n hx hb dX9_knife_5 rfl (lv_at hl 0 rfl) ?_
  refine lv_iload_n hx hb dX9_knife_6 rfl (lv_at hl 1 rfl) ?_
  refine q_i2l hx hb dX9_knife_7 (fun y2 ey2 => ?_)
  obtain ⟨hy2, ay2⟩ := rg_i2l ey2 (rg_top a_a)
  refine e_Vi (As := [.long y2]) (rest := []) X Y hT hS (m_X9_isPart hR1 y2) mk_X9_isPart gm_1645 rfl rfl (by decide) hd_X9_isPart ⟨rfl, rfl⟩ ⟨Nat.le_of_ble_eq_true rfl, Nat.le_of_ble_eq_true rfl⟩ hl.1 rfl (Nat.le_of_ble_eq_true rfl) dX9_knife_8 ⟨Nat.zero_le _, Nat.zero_le _⟩ (fun r3 i3 g3 H locs hq hT hS => ?_)
  rcases hq with hq | hq
  ·
    obtain ⟨eh3, rfl, hf3_0⟩ := hq
    rw [(Prod.mk.inj eh3).1, (Prod.mk.inj eh3).2] at hT
    have h4 : rgL 0 5 y2 := ⟨by have := hy2.1; have := hf3_0.1; omega, by have := hy2.2; have := hf3_0.2; omega⟩
    have h5 : rg 0 5 a_a := ⟨by have := h4.1; have := (rg_top a_a).1; have := ay2; omega, by have := h4.2; have := (rg_top a_a).2; have := ay2; omega⟩
    refine lv_if_eq (tgt := 22) hx hb dX9_knife_11 (by decide) (fun c6 => (x_eq (rg_k (by decide) : rg 1 1 1) (rg_k (by decide) : rg 0 0 0) (i_eq c6) (by decide)).elim) (fun c6 => ?_)
    refine lv_aload_n hx hb dX9_knife_14 rfl (lv_at hl 0 rfl) ?_
    refine lv_iload_n hx hb dX9_knife_15 rfl (lv_at hl 2 rfl) ?_
    refine e_Vi (As := [.int a_b]) (rest := []) X Y hT hS (m_X9_isAhead hR1 a_b) mk_X9_isAhead gm_1758 rfl rfl (by decide) hd_X9_isAhead ⟨rfl, rfl⟩ ⟨Nat.le_of_ble_eq_true rfl, Nat.le_of_ble_eq_true rfl⟩ hl.1 rfl (Nat.le_of_ble_eq_true rfl) dX9_knife_16 ⟨Nat.zero_le _, Nat.zero_le _⟩ (fun r7 i7 g7 H locs hq hT hS => ?_)
    rcases hq with hq | hq
    ·
      obtain ⟨eh7, rfl, hf7_0⟩ := hq
      rw [(Prod.mk.inj eh7).1, (Prod.mk.inj eh7).2] at hT
      have h8 : rg 0 11 a_b := ⟨by have := (rg_top a_b).1; have := hf7_0.1; omega, by have := (rg_top a_b).2; have := hf7_0.2; omega⟩
      refine lv_if_ne (tgt := 25) hx hb dX9_knife_19 (by decide) (fun c9 => ?_) (fun c9 => (x_eq (rg_k (by decide) : rg 1 1 1) (rg_k (by decide) : rg 0 0 0) (i_eq c9) (by decide)).elim)
      refine lv_aload_n hx hb dX9_knife_25 rfl (lv_at hl 0 rfl) ?_
      refine r_getr X hT 96 17 103 fk_9_34 rfl rfl (by decide) dX9_knife_26 ?_
      refine lv_bipush (v := 6) hx hb dX9_knife_29 (by decide) ?_
      refine r_ialdc X hT 103 6 rfl (by decide) (v_in (rg_k (by decide) : rg 6 6 6) (by decide)) (by decide) dX9_knife_31 ?_
      refine lv_bipush (v := 20) hx hb dX9_knife_32 (by decide) ?_
      refine lv_icmp_ne (tgt := 40) hx hb dX9_knife_34 (by decide) (fun c10 => ?_) (fun c10 => ?_)
      ·
        have q10 : ¬ (i1 103 6).toInt = 20 := i_ne c10
        have h11 : rg 0 19 (i1 103 6) := t_nehi 19 (Rg_at hR1 103 6 0 20 (by decide) rfl) (rg_k (by decide) : rg 20 20 20) (i_ne c10) (by decide)
        refine lv_aload_n hx hb dX9_knife_40 rfl (lv_at hl 0 rfl) ?_
        refine lv_iconst (v := 0) hx hb dX9_knife_41 (by decide) ?_
        refine lv_iload_n hx hb dX9_knife_42 rfl (lv_at hl 1 rfl) ?_
        refine lv_iload_n hx hb dX9_knife_43 rfl (lv_at hl 2 rfl) ?_
        refine e_Vv (As := [.int 0, .int a_a, .int a_b]) (rest := []) X Y hT hS (m_X9_does hR1 (0) a_a a_b (rg_w (rg_k (by decide) : rg 0 0 0) (by decide) : rg 0 1 0) h5 h8 h11) mk_X9_does gm_2078 rfl rfl (by decide) hd_X9_does ⟨rfl, rfl⟩ ⟨Nat.le_of_ble_eq_true rfl, Nat.le_of_ble_eq_true rfl⟩ hl.1 rfl (Nat.le_of_ble_eq_true rfl) dX9_knife_44 ⟨Nat.zero_le _, Nat.zero_le _⟩ (fun i12 g12 H locs hq hT hS => ?_)
        obtain ⟨hR12, hf12⟩ := hq
        have hF12 := Fr_tr hF1 hf12 (by decide)
        refine lv_aload_n hx hb dX9_knife_47 rfl (lv_at hl 0 rfl) ?_
        refine e_Vv (As := []) (rest := []) X Y hT hS (m_X9_laysNow hR12) mk_X9_laysNow gm_1693 rfl rfl (by decide) hd_X9_laysNow ⟨rfl, rfl⟩ ⟨Nat.le_of_ble_eq_true rfl, Nat.le_of_ble_eq_true rfl⟩ hl.1 rfl (Nat.le_of_ble_eq_true rfl) dX9_knife_48 ⟨Nat.zero_le _, Nat.zero_le _⟩ (fun i13 g13 H locs hq hT hS => ?_)
        obtain ⟨hR13, hf13⟩ := hq
        have hF13 := Fr_tr hF12 hf13 (by decide)
        refine lv_aload_n hx hb dX9_knife_51 rfl (lv_at hl 0 rfl) ?_
        refine e_Vi (As := []) (rest := []) X Y hT hS (m_X9_readAll hR13) mk_X9_readAll gm_1770 rfl rfl (by decide) hd_X9_readAll ⟨rfl, rfl⟩ ⟨Nat.le_of_ble_eq_true rfl, Nat.le_of_ble_eq_true rfl⟩ hl.1 rfl (Nat.le_of_ble_eq_true rfl) dX9_knife_52 ⟨Nat.zero_le _, Nat.zero_le _⟩ (fun r14 i14 g14 H locs hq hT hS => ?_)
        have eh14 := hq
        rw [(Prod.mk.inj eh14).1, (Prod.mk.inj eh14).2] at hT
        exact hret r14 _ _ _ _ _ _ dX9_knife_55 hT hS ⟨hR13, hF13⟩
      ·
        have q10 : (i1 103 6).toInt = 20 := i_eq c10
        have h15 : rg 20 20 (i1 103 6) := t_eqx 20 20 (Rg_at hR1 103 6 0 20 (by decide) rfl) (rg_k (by decide) : rg 20 20 20) (i_eq c10) (by decide)
        refine lv_bipush (v := (-5)) hx hb dX9_knife_37 (by decide) ?_
        exact hret (-5) _ _ _ _ _ _ dX9_knife_39 hT hS ⟨hR1, hF1⟩
    ·
      obtain ⟨eh7, rfl⟩ := hq
      rw [(Prod.mk.inj eh7).1, (Prod.mk.inj eh7).2] at hT
      refine lv_if_ne (tgt := 25) hx hb dX9_knife_19 (by decide) (fun c16 => (x_ne (rg_k (by decide) : rg 0 0 0) (rg_k (by decide) : rg 0 0 0) (i_ne c16) (by decide)).elim) (fun c16 => ?_)
      refine lv_bipush (v := (-2)) hx hb dX9_knife_22 (by decide) ?_
      exact hret (-2) _ _ _ _ _ _ dX9_knife_24 hT hS ⟨hR1, hF1⟩
  ·
    obtain ⟨eh3, rfl⟩ := hq
    rw [(Prod.mk.inj eh3).1, (Prod.mk.inj eh3).2] at hT
    refine lv_if_eq (tgt := 22) hx hb dX9_knife_11 (by decide) (fun c17 => ?_) (fun c17 => (x_ne (rg_k (by decide) : rg 0 0 0) (rg_k (by decide) : rg 0 0 0) (i_ne c17) (by decide)).elim)
    refine lv_bipush (v := (-2)) hx hb dX9_knife_22 (by decide) ?_
    exact hret (-2) _ _ _ _ _ _ dX9_knife_24 hT hS ⟨hR1, hF1⟩
set_option maxRecDepth 100000 in
set_option maxHeartbeats 4000000 in
theorem m_X9_air {l : Launch} {D : va_G} {h : Nat → Nat} {cz : Nat → ClassId} {z : EZ} {i : Nat → Nat → Int32} {g : Nat → Nat → Int64} (hR : Rg rA i) (a_a : Int32) (a_b : Int32) : DtI l yX9_air cX9_air 3 (some .int) ({ frames := 6, cells := 0, slots := 0, locals := 132 } : Room) D h cz z i g [.ref (h 96), .int a_a, .int a_b] (fun r u => Rg rA u.1 ∧ Fr [96, 103, 107, 109, 110, 111, 112, 113, 114, 115] [] i g u ∧ rg (-5) 99 r) := by
  refine e_I pn_X9_air (Nat.le_of_ble_eq_true rfl) ?_
  intro p e s m args below meth c ls Q X Y hret hT hl hS
  have hx := X.1
  have hb := X.2.1
  have hl : lv_has ls 3 [(0, .ref (h 96)), (1, .int a_a), (2, .int a_b)] := hl
  have hF : Fr [96, 103, 107, 109, 110, 111, 112, 113, 114, 115] [] i g (i, g) := Fr_rf _ _ _ _
  refine lv_aload_n hx hb dX9_air_0 rfl (lv_at hl 0 rfl) ?_
  refine lv_iconst (v := 0) hx hb dX9_air_1 (by decide) ?_
  refine r_puti X hT hS 96 0 pk_9_83 rfl rfl rfl rfl (by decide) dX9_air_2 (fun H locs i1 ei1 hT hS => ?_)
  have hR1 := Rg_put hR ei1 (-2147483648) 2147483647 rfl (rg_k (by decide) : rg 0 0 0) (by decide)
  have hF1 := Fr_puti hF ei1 (by decide)
  refine lv_aload_n hx hb dX9_air_5 rfl (lv_at hl 0 rfl) ?_
  refine lv_iload_n hx hb dX9_air_6 rfl (lv_at hl 1 rfl) ?_
  refine q_i2l hx hb dX9_air_7 (fun y2 ey2 => ?_)
  obtain ⟨hy2, ay2⟩ := rg_i2l ey2 (rg_top a_a)
  refine e_Vi (As := [.long y2]) (rest := []) X Y hT hS (m_X9_isPart hR1 y2) mk_X9_isPart gm_1645 rfl rfl (by decide) hd_X9_isPart ⟨rfl, rfl⟩ ⟨Nat.le_of_ble_eq_true rfl, Nat.le_of_ble_eq_true rfl⟩ hl.1 rfl (Nat.le_of_ble_eq_true rfl) dX9_air_8 ⟨Nat.zero_le _, Nat.zero_le _⟩ (fun r3 i3 g3 H locs hq hT hS => ?_)
  rcases hq with hq | hq
  ·
    obtain ⟨eh3, rfl, hf3_0⟩ := hq
    rw [(Prod.mk.inj eh3).1, (Prod.mk.inj eh3).2] at hT
    have h4 : rgL 0 5 y2 := ⟨by have := hy2.1; have := hf3_0.1; omega, by have := hy2.2; have := hf3_0.2; omega⟩
    have h5 : rg 0 5 a_a := ⟨by have := h4.1; have := (rg_top a_a).1; have := ay2; omega, by have := h4.2; have := (rg_top a_a).2; have := ay2; omega⟩
    refine lv_if_eq (tgt := 22) hx hb dX9_air_11 (by decide) (fun c6 => (x_eq (rg_k (by decide) : rg 1 1 1) (rg_k (by decide) : rg 0 0 0) (i_eq c6) (by decide)).elim) (fun c6 => ?_)
    refine lv_aload_n hx hb dX9_air_14 rfl (lv_at hl 0 rfl) ?_
    refine lv_iload_n hx hb dX9_air_15 rfl (lv_at hl 2 rfl) ?_
    refine e_Vi (As := [.int a_b]) (rest := []) X Y hT hS (m_X9_isAhead hR1 a_b) mk_X9_isAhead gm_1758 rfl rfl (by decide) hd_X9_isAhead ⟨rfl, rfl⟩ ⟨Nat.le_of_ble_eq_true rfl, Nat.le_of_ble_eq_true rfl⟩ hl.1 rfl (Nat.le_of_ble_eq_true rfl) dX9_air_16 ⟨Nat.zero_le _, Nat.zero_le _⟩ (fun r7 i7 g7 H locs hq hT hS => ?_)
    rcases hq with hq | hq
    ·
      obtain ⟨eh7, rfl, hf7_0⟩ := hq
      rw [(Prod.mk.inj eh7).1, (Prod.mk.inj eh7).2] at hT
      have h8 : rg 0 11 a_b := ⟨by have := (rg_top a_b).1; have := hf7_0.1; omega, by have := (rg_top a_b).2; have := hf7_0.2; omega⟩
      refine lv_if_ne (tgt := 25) hx hb dX9_air_19 (by decide) (fun c9 => ?_) (fun c9 => (x_eq (rg_k (by decide) : rg 1 1 1) (rg_k (by decide) : rg 0 0 0) (i_eq c9) (by decide)).elim)
      refine lv_aload_n hx hb dX9_air_25 rfl (lv_at hl 0 rfl) ?_
      refine r_getr X hT 96 17 103 fk_9_34 rfl rfl (by decide) dX9_air_26 ?_
      refine lv_bipush (v := 6) hx hb dX9_air_29 (by decide) ?_
      refine r_ialdc X hT 103 6 rfl (by decide) (v_in (rg_k (by decide) : rg 6 6 6) (by decide)) (by decide) dX9_air_31 ?_
      refine lv_bipush (v := 20) hx hb dX9_air_32 (by decide) ?_
      refine lv_icmp_ne (tgt := 40) hx hb dX9_air_34 (by decide) (fun c10 => ?_) (fun c10 => ?_)
      ·
        have q10 : ¬ (i1 103 6).toInt = 20 := i_ne c10
        have h11 : rg 0 19 (i1 103 6) := t_nehi 19 (Rg_at hR1 103 6 0 20 (by decide) rfl) (rg_k (by decide) : rg 20 20 20) (i_ne c10) (by decide)
        refine lv_aload_n hx hb dX9_air_40 rfl (lv_at hl 0 rfl) ?_
        refine lv_iconst (v := 1) hx hb dX9_air_41 (by decide) ?_
        refine lv_iload_n hx hb dX9_air_42 rfl (lv_at hl 1 rfl) ?_
        refine lv_iload_n hx hb dX9_air_43 rfl (lv_at hl 2 rfl) ?_
        refine e_Vv (As := [.int 1, .int a_a, .int a_b]) (rest := []) X Y hT hS (m_X9_does hR1 (1) a_a a_b (rg_w (rg_k (by decide) : rg 1 1 1) (by decide) : rg 0 1 1) h5 h8 h11) mk_X9_does gm_2078 rfl rfl (by decide) hd_X9_does ⟨rfl, rfl⟩ ⟨Nat.le_of_ble_eq_true rfl, Nat.le_of_ble_eq_true rfl⟩ hl.1 rfl (Nat.le_of_ble_eq_true rfl) dX9_air_44 ⟨Nat.zero_le _, Nat.zero_le _⟩ (fun i12 g12 H locs hq hT hS => ?_)
        obtain ⟨hR12, hf12⟩ := hq
        have hF12 := Fr_tr hF1 hf12 (by decide)
        refine lv_aload_n hx hb dX9_air_47 rfl (lv_at hl 0 rfl) ?_
        refine e_Vv (As := []) (rest := []) X Y hT hS (m_X9_laysNow hR12) mk_X9_laysNow gm_1693 rfl rfl (by decide) hd_X9_laysNow ⟨rfl, rfl⟩ ⟨Nat.le_of_ble_eq_true rfl, Nat.le_of_ble_eq_true rfl⟩ hl.1 rfl (Nat.le_of_ble_eq_true rfl) dX9_air_48 ⟨Nat.zero_le _, Nat.zero_le _⟩ (fun i13 g13 H locs hq hT hS => ?_)
        obtain ⟨hR13, hf13⟩ := hq
        have hF13 := Fr_tr hF12 hf13 (by decide)
        refine lv_aload_n hx hb dX9_air_51 rfl (lv_at hl 0 rfl) ?_
        refine lv_iload_n hx hb dX9_air_52 rfl (lv_at hl 1 rfl) ?_
        refine lv_aload_n hx hb dX9_air_53 rfl (lv_at hl 0 rfl) ?_
        refine e_Vi (As := []) (rest := [.int a_a, .ref (h 96)]) X Y hT hS (m_X9_years hR13) mk_X9_years gm_1689 rfl rfl (by decide) hd_X9_years ⟨rfl, rfl⟩ ⟨Nat.le_of_ble_eq_true rfl, Nat.le_of_ble_eq_true rfl⟩ hl.1 rfl (Nat.le_of_ble_eq_true rfl) dX9_air_54 ⟨Nat.zero_le _, Nat.zero_le _⟩ (fun r14 i14 g14 H locs hq hT hS => ?_)
        obtain ⟨eh14, hr14⟩ := hq
        rw [(Prod.mk.inj eh14).1, (Prod.mk.inj eh14).2] at hT
        refine e_Vi (As := [.int a_a, .int r14]) (rest := []) X Y hT hS (m_X9_stiffAt hR13 a_a r14 h5 hr14) mk_X9_stiffAt gm_1701 rfl rfl (by decide) hd_X9_stiffAt ⟨rfl, rfl⟩ ⟨Nat.le_of_ble_eq_true rfl, Nat.le_of_ble_eq_true rfl⟩ hl.1 rfl (Nat.le_of_ble_eq_true rfl) dX9_air_57 ⟨Nat.zero_le _, Nat.zero_le _⟩ (fun r15 i15 g15 H locs hq hT hS => ?_)
        obtain ⟨eh15, hr15⟩ := hq
        rw [(Prod.mk.inj eh15).1, (Prod.mk.inj eh15).2] at hT
        exact hret r15 _ _ _ _ _ _ dX9_air_60 hT hS ⟨hR13, hF13, (rg_w hr15 (by decide) : rg (-5) 99 r15)⟩
      ·
        have q10 : (i1 103 6).toInt = 20 := i_eq c10
        have h16 : rg 20 20 (i1 103 6) := t_eqx 20 20 (Rg_at hR1 103 6 0 20 (by decide) rfl) (rg_k (by decide) : rg 20 20 20) (i_eq c10) (by decide)
        refine lv_bipush (v := (-5)) hx hb dX9_air_37 (by decide) ?_
        exact hret (-5) _ _ _ _ _ _ dX9_air_39 hT hS ⟨hR1, hF1, (rg_w (rg_k (by decide) : rg (-5) (-5) (-5)) (by decide) : rg (-5) 99 (-5))⟩
    ·
      obtain ⟨eh7, rfl⟩ := hq
      rw [(Prod.mk.inj eh7).1, (Prod.mk.inj eh7).2] at hT
      refine lv_if_ne (tgt := 25) hx hb dX9_air_19 (by decide) (fun c17 => (x_ne (rg_k (by decide) : rg 0 0 0) (rg_k (by decide) : rg 0 0 0) (i_ne c17) (by decide)).elim) (fun c17 => ?_)
      refine lv_bipush (v := (-2)) hx hb dX9_air_22 (by decide) ?_
      exact hret (-2) _ _ _ _ _ _ dX9_air_24 hT hS ⟨hR1, hF1, (rg_w (rg_k (by decide) : rg (-2) (-2) (-2)) (by decide) : rg (-5) 99 (-2))⟩
  ·
    obtain ⟨eh3, rfl⟩ := hq
    rw [(Prod.mk.inj eh3).1, (Prod.mk.inj eh3).2] at hT
    refine lv_if_eq (tgt := 22) hx hb dX9_air_11 (by decide) (fun c18 => ?_) (fun c18 => (x_ne (rg_k (by decide) : rg 0 0 0) (rg_k (by decide) : rg 0 0 0) (i_ne c18) (by decide)).elim)
    refine lv_bipush (v := (-2)) hx hb dX9_air_22 (by decide) ?_
    exact hret (-2) _ _ _ _ _ _ dX9_air_24 hT hS ⟨hR1, hF1, (rg_w (rg_k (by decide) : rg (-2) (-2) (-2)) (by decide) : rg (-5) 99 (-2))⟩
set_option maxRecDepth 100000 in
set_option maxHeartbeats 4000000 in
theorem m_X9_undo {l : Launch} {D : va_G} {h : Nat → Nat} {cz : Nat → ClassId} {z : EZ} {i : Nat → Nat → Int32} {g : Nat → Nat → Int64} (hR : Rg rA i) : DtI l yX9_undo cX9_undo 1 (some .int) ({ frames := 1, cells := 0, slots := 0, locals := 20 } : Room) D h cz z i g [.ref (h 96)] (fun r u => Rg rA u.1 ∧ Fr [96, 103] [] i g u ∧ rg (-5) 19 r) := by
  refine e_I pn_X9_undo (Nat.le_of_ble_eq_true rfl) ?_
  intro p e s m args below meth c ls Q X Y hret hT hl hS
  have hx := X.1
  have hb := X.2.1
  have hl : lv_has ls 1 [(0, .ref (h 96))] := hl
  have hF : Fr [96, 103] [] i g (i, g) := Fr_rf _ _ _ _
  refine lv_aload_n hx hb dX9_undo_0 rfl (lv_at hl 0 rfl) ?_
  refine lv_iconst (v := 0) hx hb dX9_undo_1 (by decide) ?_
  refine r_puti X hT hS 96 0 pk_9_83 rfl rfl rfl rfl (by decide) dX9_undo_2 (fun H locs i1 ei1 hT hS => ?_)
  have hR1 := Rg_put hR ei1 (-2147483648) 2147483647 rfl (rg_k (by decide) : rg 0 0 0) (by decide)
  have hF1 := Fr_puti hF ei1 (by decide)
  refine lv_aload_n hx hb dX9_undo_5 rfl (lv_at hl 0 rfl) ?_
  refine e_Vi (As := []) (rest := []) X Y hT hS (m_X9_isTale hR1) mk_X9_isTale gm_1685 rfl rfl (by decide) hd_X9_isTale ⟨rfl, rfl⟩ ⟨Nat.le_of_ble_eq_true rfl, Nat.le_of_ble_eq_true rfl⟩ hl.1 rfl (Nat.le_of_ble_eq_true rfl) dX9_undo_6 ⟨Nat.zero_le _, Nat.zero_le _⟩ (fun r2 i2 g2 H locs hq hT hS => ?_)
  obtain ⟨eh2, hr2⟩ := hq
  rw [(Prod.mk.inj eh2).1, (Prod.mk.inj eh2).2] at hT
  refine lv_if_ne (tgt := 15) hx hb dX9_undo_9 (by decide) (fun c3 => ?_) (fun c3 => ?_)
  ·
    have q3 : ¬ r2.toInt = 0 := i_ne c3
    have h4 : rg 1 1 r2 := t_nelo 1 hr2 (rg_k (by decide) : rg 0 0 0) (i_ne c3) (by decide)
    refine lv_aload_n hx hb dX9_undo_15 rfl (lv_at hl 0 rfl) ?_
    refine r_getr X hT 96 17 103 fk_9_34 rfl rfl (by decide) dX9_undo_16 ?_
    refine lv_bipush (v := 6) hx hb dX9_undo_19 (by decide) ?_
    refine r_ialdc X hT 103 6 rfl (by decide) (v_in (rg_k (by decide) : rg 6 6 6) (by decide)) (by decide) dX9_undo_21 ?_
    refine lv_if_ne (tgt := 28) hx hb dX9_undo_22 (by decide) (fun c5 => ?_) (fun c5 => ?_)
    ·
      have q5 : ¬ (i1 103 6).toInt = 0 := i_ne c5
      have h6 : rg 1 20 (i1 103 6) := t_nelo 1 (Rg_at hR1 103 6 0 20 (by decide) rfl) (rg_k (by decide) : rg 0 0 0) (i_ne c5) (by decide)
      refine lv_aload_n hx hb dX9_undo_28 rfl (lv_at hl 0 rfl) ?_
      refine r_getr X hT 96 17 103 fk_9_34 rfl rfl (by decide) dX9_undo_29 ?_
      refine lv_bipush (v := 6) hx hb dX9_undo_32 (by decide) ?_
      refine lv_dup2_11 hx hb dX9_undo_34 rfl rfl ?_
      refine r_ialdc X hT 103 6 rfl (by decide) (v_in (rg_k (by decide) : rg 6 6 6) (by decide)) (by decide) dX9_undo_35 ?_
      refine lv_iconst (v := 1) hx hb dX9_undo_36 (by decide) ?_
      refine q_isub hx hb dX9_undo_37 (fun x7 ex7 => ?_)
      obtain ⟨hx7, ax7⟩ := rg_sub 0 19 ex7 h6 (rg_k (by decide) : rg 1 1 1) (by decide)
      replace ax7 : x7.toInt = (i1 103 6).toInt - 1 := ax7
      refine r_iastc X hT hS 103 6 rfl (by decide) (v_in (rg_k (by decide) : rg 6 6 6) (by decide)) (by decide) dX9_undo_38 (fun H locs i8 ei8 hT hS => ?_)
      have hR8 := Rg_put hR1 ei8 0 20 rfl hx7 (by decide)
      have hF8 := Fr_puti hF1 ei8 (by decide)
      refine lv_aload_n hx hb dX9_undo_39 rfl (lv_at hl 0 rfl) ?_
      refine r_getr X hT 96 17 103 fk_9_34 rfl rfl (by decide) dX9_undo_40 ?_
      refine lv_bipush (v := 6) hx hb dX9_undo_43 (by decide) ?_
      refine r_ialdc X hT 103 6 rfl (by decide) (v_in (rg_k (by decide) : rg 6 6 6) (by decide)) (by decide) dX9_undo_45 ?_
      have e9 : (i8 103 6) = x7 := (z_s ei8)
      have h10 : rg 0 19 (i8 103 6) := rg_of e9 hx7
      exact hret (i8 103 6) _ _ _ _ _ _ dX9_undo_46 hT hS ⟨hR8, hF8, (rg_w h10 (by decide) : rg (-5) 19 (i8 103 6))⟩
    ·
      have q5 : (i1 103 6).toInt = 0 := i_eq c5
      have h11 : rg 0 0 (i1 103 6) := t_eqx 0 0 (Rg_at hR1 103 6 0 20 (by decide) rfl) (rg_k (by decide) : rg 0 0 0) (i_eq c5) (by decide)
      refine lv_bipush (v := (-5)) hx hb dX9_undo_25 (by decide) ?_
      exact hret (-5) _ _ _ _ _ _ dX9_undo_27 hT hS ⟨hR1, hF1, (rg_w (rg_k (by decide) : rg (-5) (-5) (-5)) (by decide) : rg (-5) 19 (-5))⟩
  ·
    have q3 : r2.toInt = 0 := i_eq c3
    have h12 : rg 0 0 r2 := t_eqx 0 0 hr2 (rg_k (by decide) : rg 0 0 0) (i_eq c3) (by decide)
    refine lv_bipush (v := (-2)) hx hb dX9_undo_12 (by decide) ?_
    exact hret (-2) _ _ _ _ _ _ dX9_undo_14 hT hS ⟨hR1, hF1, (rg_w (rg_k (by decide) : rg (-2) (-2) (-2)) (by decide) : rg (-5) 19 (-2))⟩
set_option maxRecDepth 100000 in
set_option maxHeartbeats 4000000 in
theorem m_X9_anew {l : Launch} {D : va_G} {h : Nat → Nat} {cz : Nat → ClassId} {z : EZ} {i : Nat → Nat → Int32} {g : Nat → Nat → Int64} (hR : Rg rA i) : DtI l yX9_anew cX9_anew 2 (some .int) ({ frames := 1, cells := 0, slots := 0, locals := 20 } : Room) D h cz z i g [.ref (h 96)] (fun r u => Rg rA u.1 ∧ Fr [96, 103] [] i g u ∧ rg (-2) 20 r) := by
  refine e_I pn_X9_anew (Nat.le_of_ble_eq_true rfl) ?_
  intro p e s m args below meth c ls Q X Y hret hT hl hS
  have hx := X.1
  have hb := X.2.1
  have hl : lv_has ls 2 [(0, .ref (h 96))] := hl
  have hF : Fr [96, 103] [] i g (i, g) := Fr_rf _ _ _ _
  refine lv_aload_n hx hb dX9_anew_0 rfl (lv_at hl 0 rfl) ?_
  refine lv_iconst (v := 0) hx hb dX9_anew_1 (by decide) ?_
  refine r_puti X hT hS 96 0 pk_9_83 rfl rfl rfl rfl (by decide) dX9_anew_2 (fun H locs i1 ei1 hT hS => ?_)
  have hR1 := Rg_put hR ei1 (-2147483648) 2147483647 rfl (rg_k (by decide) : rg 0 0 0) (by decide)
  have hF1 := Fr_puti hF ei1 (by decide)
  refine lv_aload_n hx hb dX9_anew_5 rfl (lv_at hl 0 rfl) ?_
  refine e_Vi (As := []) (rest := []) X Y hT hS (m_X9_isTale hR1) mk_X9_isTale gm_1685 rfl rfl (by decide) hd_X9_isTale ⟨rfl, rfl⟩ ⟨Nat.le_of_ble_eq_true rfl, Nat.le_of_ble_eq_true rfl⟩ hl.1 rfl (Nat.le_of_ble_eq_true rfl) dX9_anew_6 ⟨Nat.zero_le _, Nat.zero_le _⟩ (fun r2 i2 g2 H locs hq hT hS => ?_)
  obtain ⟨eh2, hr2⟩ := hq
  rw [(Prod.mk.inj eh2).1, (Prod.mk.inj eh2).2] at hT
  refine lv_if_ne (tgt := 15) hx hb dX9_anew_9 (by decide) (fun c3 => ?_) (fun c3 => ?_)
  ·
    have q3 : ¬ r2.toInt = 0 := i_ne c3
    have h4 : rg 1 1 r2 := t_nelo 1 hr2 (rg_k (by decide) : rg 0 0 0) (i_ne c3) (by decide)
    refine lv_aload_n hx hb dX9_anew_15 rfl (lv_at hl 0 rfl) ?_
    refine r_getr X hT 96 17 103 fk_9_34 rfl rfl (by decide) dX9_anew_16 ?_
    refine lv_bipush (v := 6) hx hb dX9_anew_19 (by decide) ?_
    refine r_ialdc X hT 103 6 rfl (by decide) (v_in (rg_k (by decide) : rg 6 6 6) (by decide)) (by decide) dX9_anew_21 ?_
    refine lv_istore_n (lv' := [(1, .int (i1 103 6)), (0, .ref (h 96))]) hx hb dX9_anew_22 rfl hl (by decide) rfl (fun ls hl => ?_)
    refine lv_aload_n hx hb dX9_anew_23 rfl (lv_at hl 1 rfl) ?_
    refine r_getr X hT 96 17 103 fk_9_34 rfl rfl (by decide) dX9_anew_24 ?_
    refine lv_bipush (v := 6) hx hb dX9_anew_27 (by decide) ?_
    refine lv_iconst (v := 0) hx hb dX9_anew_29 (by decide) ?_
    refine r_iastc X hT hS 103 6 rfl (by decide) (v_in (rg_k (by decide) : rg 6 6 6) (by decide)) (by decide) dX9_anew_30 (fun H locs i5 ei5 hT hS => ?_)
    have hR5 := Rg_put hR1 ei5 0 20 rfl (rg_k (by decide) : rg 0 0 0) (by decide)
    have hF5 := Fr_puti hF1 ei5 (by decide)
    refine lv_iload_n hx hb dX9_anew_31 rfl (lv_at hl 0 rfl) ?_
    exact hret (i1 103 6) _ _ _ _ _ _ dX9_anew_32 hT hS ⟨hR5, hF5, (rg_w (Rg_at hR1 103 6 0 20 (by decide) rfl) (by decide) : rg (-2) 20 (i1 103 6))⟩
  ·
    have q3 : r2.toInt = 0 := i_eq c3
    have h6 : rg 0 0 r2 := t_eqx 0 0 hr2 (rg_k (by decide) : rg 0 0 0) (i_eq c3) (by decide)
    refine lv_bipush (v := (-2)) hx hb dX9_anew_12 (by decide) ?_
    exact hret (-2) _ _ _ _ _ _ dX9_anew_14 hT hS ⟨hR1, hF1, (rg_w (rg_k (by decide) : rg (-2) (-2) (-2)) (by decide) : rg (-2) 20 (-2))⟩
set_option maxRecDepth 100000 in
set_option maxHeartbeats 4000000 in
theorem m_X9_isSeed {l : Launch} {D : va_G} {h : Nat → Nat} {cz : Nat → ClassId} {z : EZ} {i : Nat → Nat → Int32} {g : Nat → Nat → Int64} (a_a : Int32) : DtI l yX9_isSeed cX9_isSeed 1 (some .boolean) ({ frames := 1, cells := 0, slots := 0, locals := 25 } : Room) D h cz z i g [.int a_a] (fun r u => (u = (i, g) ∧ r = 1 ∧ rg 0 2000000000 a_a) ∨ (u = (i, g) ∧ r = 0)) := by
  refine e_Z (fun v u hq => (hq.elim (fun hq => (Or.inr hq.2.1)) (fun hq => (Or.inl hq.2)))) pn_X9_isSeed (Nat.le_of_ble_eq_true rfl) ?_
  intro p e s m args below meth c ls Q X Y hret hT hl hS
  have hx := X.1
  have hb := X.2.1
  have hl : lv_has ls 1 [(0, .int a_a)] := hl
  refine lv_iload_n hx hb dX9_isSeed_0 rfl (lv_at hl 0 rfl) ?_
  refine q_i2l hx hb dX9_isSeed_1 (fun y1 ey1 => ?_)
  obtain ⟨hy1, ay1⟩ := rg_i2l ey1 (rg_top a_a)
  refine lv_lconst (v := 0) hx hb dX9_isSeed_2 (by decide) ?_
  refine lv_ldc2 (v := 2000000000) hx hb X.2.2.2.1 (X.2.2.2.2.1 _ gm_2060) dX9_isSeed_3 ?_
  refine e_Si (As := [.long y1, .long 0, .long 2000000000]) (rest := []) X Y hT hS (m_in y1 (0) (2000000000)) sk_X9_in gm_1496 hd_X9_in ⟨rfl, rfl⟩ ⟨Nat.le_of_ble_eq_true rfl, Nat.le_of_ble_eq_true rfl⟩ hl.1 rfl (Nat.le_of_ble_eq_true rfl) dX9_isSeed_6 ⟨Nat.zero_le _, Nat.zero_le _⟩ (fun r2 i2 g2 H locs hq hT hS => ?_)
  rcases hq with hq | hq
  ·
    obtain ⟨eh2, rfl, hf2_0⟩ := hq
    rw [(Prod.mk.inj eh2).1, (Prod.mk.inj eh2).2] at hT
    replace hf2_0 : 0 ≤ y1.toInt ∧ y1.toInt ≤ 2000000000 := hf2_0
    have h3 : rgL 0 2000000000 y1 := ⟨by have := hy1.1; have := hy1.2; omega, by have := hy1.1; have := hy1.2; omega⟩
    have h4 : rg 0 2000000000 a_a := ⟨by have := h3.1; have := (rg_top a_a).1; have := ay1; omega, by have := h3.2; have := (rg_top a_a).2; have := ay1; omega⟩
    exact hret 1 _ _ _ _ _ _ dX9_isSeed_9 hT hS (Or.inl ⟨rfl, rfl, h4⟩)
  ·
    obtain ⟨eh2, rfl, hf2_0⟩ := hq
    rw [(Prod.mk.inj eh2).1, (Prod.mk.inj eh2).2] at hT
    replace hf2_0 : y1.toInt < 0 ∨ 2000000000 < y1.toInt := hf2_0
    exact hret 0 _ _ _ _ _ _ dX9_isSeed_9 hT hS (Or.inr ⟨rfl, rfl⟩)
set_option maxRecDepth 100000 in
set_option maxHeartbeats 4000000 in
theorem m_X9_draws {l : Launch} {D : va_G} {h : Nat → Nat} {cz : Nat → ClassId} {z : EZ} {i : Nat → Nat → Int32} {g : Nat → Nat → Int64} (hR : Rg rA i) (a_a : Int64) : DtI l yX9_draws cX9_draws 7 (some .int) ({ frames := 5, cells := 0, slots := 0, locals := 112 } : Room) D h cz z i g [.ref (h 96), .long a_a] (fun r u => Rg rA u.1 ∧ Fr [96, 109, 110, 111, 112, 113, 114, 115] [] i g u ∧ rg 0 255 r) := by
  refine e_I pn_X9_draws (Nat.le_of_ble_eq_true rfl) ?_
  intro p e s m args below meth c ls Q X Y hret hT hl hS
  have hx := X.1
  have hb := X.2.1
  have hl : lv_has ls 7 [(0, .ref (h 96)), (1, .long a_a)] := hl
  have hF : Fr [96, 109, 110, 111, 112, 113, 114, 115] [] i g (i, g) := Fr_rf _ _ _ _
  refine lv_aload_n hx hb dX9_draws_0 rfl (lv_at hl 0 rfl) ?_
  refine e_Vv (As := []) (rest := []) X Y hT hS (m_X9_lays hR) mk_X9_lays gm_1658 rfl rfl (by decide) hd_X9_lays ⟨rfl, rfl⟩ ⟨Nat.le_of_ble_eq_true rfl, Nat.le_of_ble_eq_true rfl⟩ hl.1 rfl (Nat.le_of_ble_eq_true rfl) dX9_draws_1 ⟨Nat.zero_le _, Nat.zero_le _⟩ (fun i1 g1 H locs hq hT hS => ?_)
  obtain ⟨hR1, hf1⟩ := hq
  have hF1 := Fr_tr hF hf1 (by decide)
  refine lv_lload_n hx hb dX9_draws_4 rfl (lv_at hl 1 rfl) ?_
  refine lv_lstore_n (lv' := [(3, .long a_a), (0, .ref (h 96)), (1, .long a_a)]) hx hb dX9_draws_5 rfl hl (by decide) rfl (fun ls hl => ?_)
  refine lv_iconst (v := 0) hx hb dX9_draws_6 (by decide) ?_
  refine lv_istore (lv' := [(5, .int 0), (3, .long a_a), (0, .ref (h 96)), (1, .long a_a)]) hx hb dX9_draws_7 hl (by decide) rfl (fun ls hl => ?_)
  refine lv_iconst (v := 0) hx hb dX9_draws_9 (by decide) ?_
  refine lv_istore (lv' := [(6, .int 0), (5, .int 0), (3, .long a_a), (0, .ref (h 96)), (1, .long a_a)]) hx hb dX9_draws_10 hl (by decide) rfl (fun ls hl => ?_)
  have L12_2 : ∀ (n3_ : Nat) (y12_3 : Int64) (x12_5 : Int32) (x12_6 : Int32) (H : Heap) (locs : List Loc) (ls : Array Slot), rg 0 255 x12_5 → rg 0 8 x12_6 → TH D h cz i1 g1 H → va_S (hA h) s.heap H locs → lv_has ls 7 [(0, .ref (h 96)), (3, .long y12_3), (5, .int x12_5), (6, .int x12_6)] → (8 - x12_6.toInt).toNat < n3_ → W p l e ({ frames := 5, cells := 0, slots := 0, locals := 112 } : Room) s m args below meth c H locs 0 0 Q (F0 m 12 ls []) := by
    intro n3_
    induction n3_ with
    | zero => intro y12_3 x12_5 x12_6 H locs ls hhx12_5 hhx12_6 hT hS hl hm3_; exact absurd hm3_ (Nat.not_lt_zero _)
    | succ n3_ ih3_ =>
      intro y12_3 x12_5 x12_6 H locs ls hhx12_5 hhx12_6 hT hS hl hm3_
      refine lv_iload hx hb dX9_draws_12 (lv_at hl 3 rfl) ?_
      refine lv_aload_n hx hb dX9_draws_14 rfl (lv_at hl 0 rfl) ?_
      refine r_getr X hT 96 17 103 fk_9_34 rfl rfl (by decide) dX9_draws_15 ?_
      refine lv_iconst (v := 5) hx hb dX9_draws_18 (by decide) ?_
      refine r_ialdc X hT 103 5 rfl (by decide) (v_in (rg_k (by decide) : rg 5 5 5) (by decide)) (by decide) dX9_draws_19 ?_
      refine lv_icmp_ge (tgt := 76) hx hb dX9_draws_20 (by decide) (fun c4 => ?_) (fun c4 => ?_)
      ·
        have q4 : (i1 103 5).toInt ≤ x12_6.toInt := i_le c4
        refine lv_aload_n hx hb dX9_draws_76 rfl (lv_at hl 0 rfl) ?_
        refine lv_iload hx hb dX9_draws_77 (lv_at hl 2 rfl) ?_
        refine lv_iconst (v := (-1)) hx hb dX9_draws_79 (by decide) ?_
        refine q_ixor hx hb dX9_draws_80 (fun x5 ex5 => ?_)
        refine r_puti X hT hS 96 26 pk_9_269 rfl rfl rfl rfl (by decide) dX9_draws_81 (fun H locs i6 ei6 hT hS => ?_)
        have hR6 := Rg_put hR1 ei6 (-2147483648) 2147483647 rfl (rg_top x5) (by decide)
        have hF6 := Fr_puti hF1 ei6 (by decide)
        refine lv_aload_n hx hb dX9_draws_84 rfl (lv_at hl 0 rfl) ?_
        refine e_Vv (As := []) (rest := []) X Y hT hS (m_X9_runs hR6) mk_X9_runs gm_1697 rfl rfl (by decide) hd_X9_runs ⟨rfl, rfl⟩ ⟨Nat.le_of_ble_eq_true rfl, Nat.le_of_ble_eq_true rfl⟩ hl.1 rfl (Nat.le_of_ble_eq_true rfl) dX9_draws_85 ⟨Nat.zero_le _, Nat.zero_le _⟩ (fun i7 g7 H locs hq hT hS => ?_)
        obtain ⟨hR7, hf7⟩ := hq
        have hF7 := Fr_tr hF6 hf7 (by decide)
        refine lv_iload hx hb dX9_draws_88 (lv_at hl 2 rfl) ?_
        exact hret x12_5 _ _ _ _ _ _ dX9_draws_90 hT hS ⟨hR7, hF7, hhx12_5⟩
      ·
        have q4 : x12_6.toInt < (i1 103 5).toInt := i_nle c4
        have h8 : rg 0 7 x12_6 := t_ltx 0 7 hhx12_6 (Rg_at hR1 103 5 0 8 (by decide) rfl) (i_nle c4) (by decide)
        have h9 : rg 1 8 (i1 103 5) := t_lty 1 8 hhx12_6 (Rg_at hR1 103 5 0 8 (by decide) rfl) (i_nle c4) (by decide)
        refine lv_ldc2 (v := 1103515245) hx hb X.2.2.2.1 (X.2.2.2.2.1 _ gm_2065) dX9_draws_23 ?_
        refine lv_lload_n hx hb dX9_draws_26 rfl (lv_at hl 1 rfl) ?_
        refine q_lmul hx hb dX9_draws_27 (fun y10 ey10 => ?_)
        refine lv_ldc2 (v := 12345) hx hb X.2.2.2.1 (X.2.2.2.2.1 _ gm_2066) dX9_draws_28 ?_
        refine q_ladd hx hb dX9_draws_31 (fun y11 ey11 => ?_)
        refine lv_ldc2 (v := 2147483648) hx hb X.2.2.2.1 (X.2.2.2.2.1 _ gm_2067) dX9_draws_32 ?_
        refine q_lrem hx hb dX9_draws_35 (nz_L (rgL_k (by decide) : rgL 2147483648 2147483648 2147483648) (by decide)) (fun y12 ey12 => ?_)
        refine lv_lstore_n (lv' := [(3, .long y12), (0, .ref (h 96)), (5, .int x12_5), (6, .int x12_6)]) hx hb dX9_draws_36 rfl hl (by decide) rfl (fun ls hl => ?_)
        refine lv_iload hx hb dX9_draws_37 (lv_at hl 2 rfl) ?_
        refine lv_lload_n hx hb dX9_draws_39 rfl (lv_at hl 0 rfl) ?_
        refine lv_ldc2 (v := 65536) hx hb X.2.2.2.1 (X.2.2.2.2.1 _ gm_2068) dX9_draws_40 ?_
        refine q_ldiv hx hb dX9_draws_43 (nz_L (rgL_k (by decide) : rgL 65536 65536 65536) (by decide)) (fun y13 ey13 => ?_)
        refine lv_ldc2 (v := 10) hx hb X.2.2.2.1 (X.2.2.2.2.1 _ gm_2044) dX9_draws_44 ?_
        refine q_lrem hx hb dX9_draws_47 (nz_L (rgL_k (by decide) : rgL 10 10 10) (by decide)) (fun y14 ey14 => ?_)
        refine lv_aload_n hx hb dX9_draws_48 rfl (lv_at hl 1 rfl) ?_
        refine r_getr X hT 96 17 103 fk_9_34 rfl rfl (by decide) dX9_draws_49 ?_
        refine lv_iconst (v := 2) hx hb dX9_draws_52 (by decide) ?_
        refine r_ialdc X hT 103 2 rfl (by decide) (v_in (rg_k (by decide) : rg 2 2 2) (by decide)) (by decide) dX9_draws_53 ?_
        refine q_i2l hx hb dX9_draws_54 (fun y15 ey15 => ?_)
        obtain ⟨hy15, ay15⟩ := rg_i2l ey15 (Rg_at hR1 103 2 0 10 (by decide) rfl)
        refine W.lcmp hx hb dX9_draws_55 ?_
        refine lv_if_ge (tgt := 66) hx hb dX9_draws_56 (by decide) (fun c16 => ?_) (fun c16 => ?_)
        ·
          have q16 : y15.toInt ≤ y14.toInt := c_ge c16
          have h17 : rgL 0 9223372036854775807 y14 := tL_ley 0 9223372036854775807 hy15 (rgL_top y14) (c_ge c16) (by decide)
          refine lv_iconst (v := 0) hx hb dX9_draws_66 (by decide) ?_
          refine q_ior hx hb dX9_draws_67 (fun x18 ex18 => ?_)
          have h19 : rg 0 255 x18 := rg_or8 ex18 hhx12_5 (rg_k (by decide) : rg 0 0 0) (by decide)
          refine lv_istore (lv' := [(5, .int x18), (3, .long y12), (0, .ref (h 96)), (6, .int x12_6)]) hx hb dX9_draws_68 hl (by decide) rfl (fun ls hl => ?_)
          obtain ⟨x20, ex20⟩ : ∃ y : Int32, y = x12_6 + 1 := ⟨_, rfl⟩
          refine lv_iinc (v := x20) (lv' := [(6, .int x20), (5, .int x18), (3, .long y12), (0, .ref (h 96))]) hx hb dX9_draws_70 hl (k := 3) rfl (by rw [ex20]; rfl) (by decide) rfl (fun ls hl => ?_)
          obtain ⟨hx20, ax20⟩ := rg_add 1 8 ex20 h8 (rg_k (by decide) : rg 1 1 1) (by decide)
          replace ax20 : x20.toInt = x12_6.toInt + 1 := ax20
          refine lv_goto (tgt := 12) hx hb dX9_draws_73 (by decide) ?_
          exact ih3_ y12 x18 x20 _ _ _ h19 (rg_w hx20 (by decide) : rg 0 8 x20) hT hS (lv_sub hl [3, 2, 1, 0] rfl) (m_up ax20 hx20 (by decide) hm3_)
        ·
          have q16 : y14.toInt < y15.toInt := c_nge c16
          have h21 : rgL (-9223372036854775808) 9 y14 := tL_ltx (-9223372036854775808) 9 (rgL_top y14) hy15 (c_nge c16) (by decide)
          refine lv_iconst (v := 1) hx hb dX9_draws_59 (by decide) ?_
          refine lv_iload hx hb dX9_draws_60 (lv_at hl 3 rfl) ?_
          refine q_ishl hx hb dX9_draws_62 (fun x22 ex22 => ?_)
          have h23 : rg 1 128 x22 := rg_shl1 ex22 h8 (by decide)
          refine lv_goto (tgt := 67) hx hb dX9_draws_63 (by decide) ?_
          refine q_ior hx hb dX9_draws_67 (fun x24 ex24 => ?_)
          have h25 : rg 0 255 x24 := rg_or8 ex24 hhx12_5 h23 (by decide)
          refine lv_istore (lv' := [(5, .int x24), (3, .long y12), (0, .ref (h 96)), (6, .int x12_6)]) hx hb dX9_draws_68 hl (by decide) rfl (fun ls hl => ?_)
          obtain ⟨x26, ex26⟩ : ∃ y : Int32, y = x12_6 + 1 := ⟨_, rfl⟩
          refine lv_iinc (v := x26) (lv' := [(6, .int x26), (5, .int x24), (3, .long y12), (0, .ref (h 96))]) hx hb dX9_draws_70 hl (k := 3) rfl (by rw [ex26]; rfl) (by decide) rfl (fun ls hl => ?_)
          obtain ⟨hx26, ax26⟩ := rg_add 1 8 ex26 h8 (rg_k (by decide) : rg 1 1 1) (by decide)
          replace ax26 : x26.toInt = x12_6.toInt + 1 := ax26
          refine lv_goto (tgt := 12) hx hb dX9_draws_73 (by decide) ?_
          exact ih3_ y12 x24 x26 _ _ _ h25 (rg_w hx26 (by decide) : rg 0 8 x26) hT hS (lv_sub hl [3, 2, 1, 0] rfl) (m_up ax26 hx26 (by decide) hm3_)
  exact L12_2 _ a_a (0) (0) _ _ _ (rg_w (rg_k (by decide) : rg 0 0 0) (by decide) : rg 0 255 0) (rg_w (rg_k (by decide) : rg 0 0 0) (by decide) : rg 0 8 0) hT hS (lv_sub hl [3, 2, 1, 0] rfl) (Nat.lt_succ_self _)
set_option maxRecDepth 100000 in
set_option maxHeartbeats 4000000 in
theorem m_X9_drawn {l : Launch} {D : va_G} {h : Nat → Nat} {cz : Nat → ClassId} {z : EZ} {i : Nat → Nat → Int32} {g : Nat → Nat → Int64} (hR : Rg rA i) (a_a : Int32) (a_b : Int32) : DtI l yX9_drawn cX9_drawn 4 (some .int) ({ frames := 6, cells := 0, slots := 0, locals := 138 } : Room) D h cz z i g [.ref (h 96), .int a_a, .int a_b] (fun r u => Rg rA u.1 ∧ Fr [96, 109, 110, 111, 112, 113, 114, 115] [] i g u) := by
  refine e_I pn_X9_drawn (Nat.le_of_ble_eq_true rfl) ?_
  intro p e s m args below meth c ls Q X Y hret hT hl hS
  have hx := X.1
  have hb := X.2.1
  have hl : lv_has ls 4 [(0, .ref (h 96)), (1, .int a_a), (2, .int a_b)] := hl
  have hF : Fr [96, 109, 110, 111, 112, 113, 114, 115] [] i g (i, g) := Fr_rf _ _ _ _
  refine lv_aload_n hx hb dX9_drawn_0 rfl (lv_at hl 0 rfl) ?_
  refine lv_iconst (v := 0) hx hb dX9_drawn_1 (by decide) ?_
  refine r_puti X hT hS 96 0 pk_9_83 rfl rfl rfl rfl (by decide) dX9_drawn_2 (fun H locs i1 ei1 hT hS => ?_)
  have hR1 := Rg_put hR ei1 (-2147483648) 2147483647 rfl (rg_k (by decide) : rg 0 0 0) (by decide)
  have hF1 := Fr_puti hF ei1 (by decide)
  refine lv_aload_n hx hb dX9_drawn_5 rfl (lv_at hl 0 rfl) ?_
  refine e_Vi (As := []) (rest := []) X Y hT hS (m_X9_isTale hR1) mk_X9_isTale gm_1685 rfl rfl (by decide) hd_X9_isTale ⟨rfl, rfl⟩ ⟨Nat.le_of_ble_eq_true rfl, Nat.le_of_ble_eq_true rfl⟩ hl.1 rfl (Nat.le_of_ble_eq_true rfl) dX9_drawn_6 ⟨Nat.zero_le _, Nat.zero_le _⟩ (fun r2 i2 g2 H locs hq hT hS => ?_)
  obtain ⟨eh2, hr2⟩ := hq
  rw [(Prod.mk.inj eh2).1, (Prod.mk.inj eh2).2] at hT
  refine lv_if_eq (tgt := 26) hx hb dX9_drawn_9 (by decide) (fun c3 => ?_) (fun c3 => ?_)
  ·
    have q3 : r2.toInt = 0 := i_eq c3
    have h4 : rg 0 0 r2 := t_eqx 0 0 hr2 (rg_k (by decide) : rg 0 0 0) (i_eq c3) (by decide)
    refine lv_bipush (v := (-2)) hx hb dX9_drawn_26 (by decide) ?_
    exact hret (-2) _ _ _ _ _ _ dX9_drawn_28 hT hS ⟨hR1, hF1⟩
  ·
    have q3 : ¬ r2.toInt = 0 := i_ne c3
    have h5 : rg 1 1 r2 := t_nelo 1 hr2 (rg_k (by decide) : rg 0 0 0) (i_ne c3) (by decide)
    refine lv_iload_n hx hb dX9_drawn_12 rfl (lv_at hl 1 rfl) ?_
    refine e_Si (As := [.int a_a]) (rest := []) X Y hT hS (m_X9_isSeed a_a) sk_X9_isSeed gm_2057 hd_X9_isSeed ⟨rfl, rfl⟩ ⟨Nat.le_of_ble_eq_true rfl, Nat.le_of_ble_eq_true rfl⟩ hl.1 rfl (Nat.le_of_ble_eq_true rfl) dX9_drawn_13 ⟨Nat.zero_le _, Nat.zero_le _⟩ (fun r6 i6 g6 H locs hq hT hS => ?_)
    rcases hq with hq | hq
    ·
      obtain ⟨eh6, rfl, hf6_0⟩ := hq
      rw [(Prod.mk.inj eh6).1, (Prod.mk.inj eh6).2] at hT
      have h7 : rg 0 2000000000 a_a := ⟨by have := (rg_top a_a).1; have := hf6_0.1; omega, by have := (rg_top a_a).2; have := hf6_0.2; omega⟩
      refine lv_if_eq (tgt := 26) hx hb dX9_drawn_16 (by decide) (fun c8 => (x_eq (rg_k (by decide) : rg 1 1 1) (rg_k (by decide) : rg 0 0 0) (i_eq c8) (by decide)).elim) (fun c8 => ?_)
      refine lv_iload_n hx hb dX9_drawn_19 rfl (lv_at hl 2 rfl) ?_
      refine e_Si (As := [.int a_b]) (rest := []) X Y hT hS (m_X9_isHalf a_b) sk_X9_isHalf gm_1902 hd_X9_isHalf ⟨rfl, rfl⟩ ⟨Nat.le_of_ble_eq_true rfl, Nat.le_of_ble_eq_true rfl⟩ hl.1 rfl (Nat.le_of_ble_eq_true rfl) dX9_drawn_20 ⟨Nat.zero_le _, Nat.zero_le _⟩ (fun r9 i9 g9 H locs hq hT hS => ?_)
      rcases hq with hq | hq
      ·
        obtain ⟨eh9, rfl, hf9_0⟩ := hq
        rw [(Prod.mk.inj eh9).1, (Prod.mk.inj eh9).2] at hT
        have h10 : rg 0 1 a_b := ⟨by have := (rg_top a_b).1; have := hf9_0.1; omega, by have := (rg_top a_b).2; have := hf9_0.2; omega⟩
        refine lv_if_ne (tgt := 29) hx hb dX9_drawn_23 (by decide) (fun c11 => ?_) (fun c11 => (x_eq (rg_k (by decide) : rg 1 1 1) (rg_k (by decide) : rg 0 0 0) (i_eq c11) (by decide)).elim)
        refine lv_aload_n hx hb dX9_drawn_29 rfl (lv_at hl 0 rfl) ?_
        refine lv_iload_n hx hb dX9_drawn_30 rfl (lv_at hl 1 rfl) ?_
        refine q_i2l hx hb dX9_drawn_31 (fun y12 ey12 => ?_)
        obtain ⟨hy12, ay12⟩ := rg_i2l ey12 h7
        refine e_Vi (As := [.long y12]) (rest := []) X Y hT hS (m_X9_draws hR1 y12) mk_X9_draws gm_2061 rfl rfl (by decide) hd_X9_draws ⟨rfl, rfl⟩ ⟨Nat.le_of_ble_eq_true rfl, Nat.le_of_ble_eq_true rfl⟩ hl.1 rfl (Nat.le_of_ble_eq_true rfl) dX9_drawn_32 ⟨Nat.zero_le _, Nat.zero_le _⟩ (fun r13 i13 g13 H locs hq hT hS => ?_)
        obtain ⟨hR13, hf13, hr13⟩ := hq
        have hF13 := Fr_tr hF1 hf13 (by decide)
        refine lv_istore_n (lv' := [(3, .int r13), (0, .ref (h 96)), (1, .int a_a), (2, .int a_b)]) hx hb dX9_drawn_35 rfl hl (by decide) rfl (fun ls hl => ?_)
        refine lv_iload_n hx hb dX9_drawn_36 rfl (lv_at hl 3 rfl) ?_
        refine lv_if_ne (tgt := 44) hx hb dX9_drawn_37 (by decide) (fun c14 => ?_) (fun c14 => ?_)
        ·
          have q14 : ¬ a_b.toInt = 0 := i_ne c14
          have h15 : rg 1 1 a_b := t_nelo 1 h10 (rg_k (by decide) : rg 0 0 0) (i_ne c14) (by decide)
          refine lv_aload_n hx hb dX9_drawn_44 rfl (lv_at hl 1 rfl) ?_
          refine r_getr X hT 96 31 112 fk_9_62 rfl rfl (by decide) dX9_drawn_45 ?_
          refine lv_aload_n hx hb dX9_drawn_48 rfl (lv_at hl 1 rfl) ?_
          refine e_Vi (As := []) (rest := [.ref (h 112)]) X Y hT hS (m_X9_years hR13) mk_X9_years gm_1689 rfl rfl (by decide) hd_X9_years ⟨rfl, rfl⟩ ⟨Nat.le_of_ble_eq_true rfl, Nat.le_of_ble_eq_true rfl⟩ hl.1 rfl (Nat.le_of_ble_eq_true rfl) dX9_drawn_49 ⟨Nat.zero_le _, Nat.zero_le _⟩ (fun r16 i16 g16 H locs hq hT hS => ?_)
          obtain ⟨eh16, hr16⟩ := hq
          rw [(Prod.mk.inj eh16).1, (Prod.mk.inj eh16).2] at hT
          refine r_iald X hT 112 rfl (by decide) (v_in hr16 (by decide)) dX9_drawn_52 ?_
          exact hret (i13 112 r16.toNatClampNeg) _ _ _ _ _ _ dX9_drawn_53 hT hS ⟨hR13, hF13⟩
        ·
          have q14 : a_b.toInt = 0 := i_eq c14
          have h17 : rg 0 0 a_b := t_eqx 0 0 h10 (rg_k (by decide) : rg 0 0 0) (i_eq c14) (by decide)
          refine lv_iload_n hx hb dX9_drawn_40 rfl (lv_at hl 0 rfl) ?_
          refine lv_goto (tgt := 53) hx hb dX9_drawn_41 (by decide) ?_
          exact hret r13 _ _ _ _ _ _ dX9_drawn_53 hT hS ⟨hR13, hF13⟩
      ·
        obtain ⟨eh9, rfl⟩ := hq
        rw [(Prod.mk.inj eh9).1, (Prod.mk.inj eh9).2] at hT
        refine lv_if_ne (tgt := 29) hx hb dX9_drawn_23 (by decide) (fun c18 => (x_ne (rg_k (by decide) : rg 0 0 0) (rg_k (by decide) : rg 0 0 0) (i_ne c18) (by decide)).elim) (fun c18 => ?_)
        refine lv_bipush (v := (-2)) hx hb dX9_drawn_26 (by decide) ?_
        exact hret (-2) _ _ _ _ _ _ dX9_drawn_28 hT hS ⟨hR1, hF1⟩
    ·
      obtain ⟨eh6, rfl⟩ := hq
      rw [(Prod.mk.inj eh6).1, (Prod.mk.inj eh6).2] at hT
      refine lv_if_eq (tgt := 26) hx hb dX9_drawn_16 (by decide) (fun c19 => ?_) (fun c19 => (x_ne (rg_k (by decide) : rg 0 0 0) (rg_k (by decide) : rg 0 0 0) (i_ne c19) (by decide)).elim)
      refine lv_bipush (v := (-2)) hx hb dX9_drawn_26 (by decide) ?_
      exact hret (-2) _ _ _ _ _ _ dX9_drawn_28 hT hS ⟨hR1, hF1⟩
set_option maxRecDepth 100000 in
set_option maxHeartbeats 4000000 in
theorem m_X9_luck {l : Launch} {D : va_G} {h : Nat → Nat} {cz : Nat → ClassId} {z : EZ} {i : Nat → Nat → Int32} {g : Nat → Nat → Int64} (hR : Rg rA i) (a_a : Int32) (a_b : Int32) (a_c : Int32) : DtI l yX9_luck cX9_luck 6 (some .int) ({ frames := 6, cells := 0, slots := 0, locals := 138 } : Room) D h cz z i g [.ref (h 96), .int a_a, .int a_b, .int a_c] (fun r u => Rg rA u.1 ∧ Fr [96, 109, 110, 111, 112, 113, 114, 115] [] i g u) := by
  refine e_I pn_X9_luck (Nat.le_of_ble_eq_true rfl) ?_
  intro p e s m args below meth c ls Q X Y hret hT hl hS
  have hx := X.1
  have hb := X.2.1
  have hl : lv_has ls 6 [(0, .ref (h 96)), (1, .int a_a), (2, .int a_b), (3, .int a_c)] := hl
  have hF : Fr [96, 109, 110, 111, 112, 113, 114, 115] [] i g (i, g) := Fr_rf _ _ _ _
  refine lv_aload_n hx hb dX9_luck_0 rfl (lv_at hl 0 rfl) ?_
  refine lv_iconst (v := 0) hx hb dX9_luck_1 (by decide) ?_
  refine r_puti X hT hS 96 0 pk_9_83 rfl rfl rfl rfl (by decide) dX9_luck_2 (fun H locs i1 ei1 hT hS => ?_)
  have hR1 := Rg_put hR ei1 (-2147483648) 2147483647 rfl (rg_k (by decide) : rg 0 0 0) (by decide)
  have hF1 := Fr_puti hF ei1 (by decide)
  refine lv_iload_n hx hb dX9_luck_5 rfl (lv_at hl 1 rfl) ?_
  refine e_Si (As := [.int a_a]) (rest := []) X Y hT hS (m_X9_isSeed a_a) sk_X9_isSeed gm_2057 hd_X9_isSeed ⟨rfl, rfl⟩ ⟨Nat.le_of_ble_eq_true rfl, Nat.le_of_ble_eq_true rfl⟩ hl.1 rfl (Nat.le_of_ble_eq_true rfl) dX9_luck_6 ⟨Nat.zero_le _, Nat.zero_le _⟩ (fun r2 i2 g2 H locs hq hT hS => ?_)
  rcases hq with hq | hq
  ·
    obtain ⟨eh2, rfl, hf2_0⟩ := hq
    rw [(Prod.mk.inj eh2).1, (Prod.mk.inj eh2).2] at hT
    have h3 : rg 0 2000000000 a_a := ⟨by have := (rg_top a_a).1; have := hf2_0.1; omega, by have := (rg_top a_a).2; have := hf2_0.2; omega⟩
    refine lv_if_eq (tgt := 33) hx hb dX9_luck_9 (by decide) (fun c4 => (x_eq (rg_k (by decide) : rg 1 1 1) (rg_k (by decide) : rg 0 0 0) (i_eq c4) (by decide)).elim) (fun c4 => ?_)
    refine lv_iload_n hx hb dX9_luck_12 rfl (lv_at hl 2 rfl) ?_
    refine q_i2l hx hb dX9_luck_13 (fun y5 ey5 => ?_)
    obtain ⟨hy5, ay5⟩ := rg_i2l ey5 (rg_top a_b)
    refine lv_lconst (v := 1) hx hb dX9_luck_14 (by decide) ?_
    refine lv_ldc2 (v := 20) hx hb X.2.2.2.1 (X.2.2.2.2.1 _ gm_2073) dX9_luck_15 ?_
    refine e_Si (As := [.long y5, .long 1, .long 20]) (rest := []) X Y hT hS (m_in y5 (1) (20)) sk_X9_in gm_1496 hd_X9_in ⟨rfl, rfl⟩ ⟨Nat.le_of_ble_eq_true rfl, Nat.le_of_ble_eq_true rfl⟩ hl.1 rfl (Nat.le_of_ble_eq_true rfl) dX9_luck_18 ⟨Nat.zero_le _, Nat.zero_le _⟩ (fun r6 i6 g6 H locs hq hT hS => ?_)
    rcases hq with hq | hq
    ·
      obtain ⟨eh6, rfl, hf6_0⟩ := hq
      rw [(Prod.mk.inj eh6).1, (Prod.mk.inj eh6).2] at hT
      replace hf6_0 : 1 ≤ y5.toInt ∧ y5.toInt ≤ 20 := hf6_0
      have h7 : rgL 1 20 y5 := ⟨by have := hy5.1; have := hy5.2; omega, by have := hy5.1; have := hy5.2; omega⟩
      have h8 : rg 1 20 a_b := ⟨by have := h7.1; have := (rg_top a_b).1; have := ay5; omega, by have := h7.2; have := (rg_top a_b).2; have := ay5; omega⟩
      refine lv_if_eq (tgt := 33) hx hb dX9_luck_21 (by decide) (fun c9 => (x_eq (rg_k (by decide) : rg 1 1 1) (rg_k (by decide) : rg 0 0 0) (i_eq c9) (by decide)).elim) (fun c9 => ?_)
      refine lv_aload_n hx hb dX9_luck_24 rfl (lv_at hl 0 rfl) ?_
      refine lv_iload_n hx hb dX9_luck_25 rfl (lv_at hl 3 rfl) ?_
      refine q_i2l hx hb dX9_luck_26 (fun y10 ey10 => ?_)
      obtain ⟨hy10, ay10⟩ := rg_i2l ey10 (rg_top a_c)
      refine e_Vi (As := [.long y10]) (rest := []) X Y hT hS (m_X9_isPart hR1 y10) mk_X9_isPart gm_1645 rfl rfl (by decide) hd_X9_isPart ⟨rfl, rfl⟩ ⟨Nat.le_of_ble_eq_true rfl, Nat.le_of_ble_eq_true rfl⟩ hl.1 rfl (Nat.le_of_ble_eq_true rfl) dX9_luck_27 ⟨Nat.zero_le _, Nat.zero_le _⟩ (fun r11 i11 g11 H locs hq hT hS => ?_)
      rcases hq with hq | hq
      ·
        obtain ⟨eh11, rfl, hf11_0⟩ := hq
        rw [(Prod.mk.inj eh11).1, (Prod.mk.inj eh11).2] at hT
        have h12 : rgL 0 5 y10 := ⟨by have := hy10.1; have := hf11_0.1; omega, by have := hy10.2; have := hf11_0.2; omega⟩
        have h13 : rg 0 5 a_c := ⟨by have := h12.1; have := (rg_top a_c).1; have := ay10; omega, by have := h12.2; have := (rg_top a_c).2; have := ay10; omega⟩
        refine lv_if_ne (tgt := 36) hx hb dX9_luck_30 (by decide) (fun c14 => ?_) (fun c14 => (x_eq (rg_k (by decide) : rg 1 1 1) (rg_k (by decide) : rg 0 0 0) (i_eq c14) (by decide)).elim)
        refine lv_iconst (v := 0) hx hb dX9_luck_36 (by decide) ?_
        refine lv_istore (lv' := [(4, .int 0), (0, .ref (h 96)), (1, .int a_a), (2, .int a_b), (3, .int a_c)]) hx hb dX9_luck_37 hl (by decide) rfl (fun ls hl => ?_)
        refine lv_iconst (v := 0) hx hb dX9_luck_39 (by decide) ?_
        refine lv_istore (lv' := [(5, .int 0), (4, .int 0), (0, .ref (h 96)), (1, .int a_a), (2, .int a_b), (3, .int a_c)]) hx hb dX9_luck_40 hl (by decide) rfl (fun ls hl => ?_)
        have L42_15 : ∀ (n17_ : Nat) (x42_4 : Int32) (x42_5 : Int32) (i16 : Nat → Nat → Int32) (g16 : Nat → Nat → Int64) (H : Heap) (locs : List Loc) (ls : Array Slot), rg 0 20 x42_5 → Rg rA i16 → Fr [96, 109, 110, 111, 112, 113, 114, 115] [] i g (i16, g16) → TH D h cz i16 g16 H → va_S (hA h) s.heap H locs → lv_has ls 6 [(0, .ref (h 96)), (1, .int a_a), (2, .int a_b), (3, .int a_c), (4, .int x42_4), (5, .int x42_5)] → (20 - x42_5.toInt).toNat < n17_ → W p l e ({ frames := 6, cells := 0, slots := 0, locals := 138 } : Room) s m args below meth c H locs 0 0 Q (F0 m 42 ls []) := by
          intro n17_
          induction n17_ with
          | zero => intro x42_4 x42_5 i16 g16 H locs ls hhx42_5 hR16 hF16 hT hS hl hm17_; exact absurd hm17_ (Nat.not_lt_zero _)
          | succ n17_ ih17_ =>
            intro x42_4 x42_5 i16 g16 H locs ls hhx42_5 hR16 hF16 hT hS hl hm17_
            refine lv_iload hx hb dX9_luck_42 (lv_at hl 5 rfl) ?_
            refine lv_iload_n hx hb dX9_luck_44 rfl (lv_at hl 2 rfl) ?_
            refine lv_icmp_ge (tgt := 83) hx hb dX9_luck_45 (by decide) (fun c18 => ?_) (fun c18 => ?_)
            ·
              have q18 : a_b.toInt ≤ x42_5.toInt := i_le c18
              have h19 : rg 1 20 x42_5 := t_ley 1 20 h8 hhx42_5 (i_le c18) (by decide)
              refine lv_iload hx hb dX9_luck_83 (lv_at hl 4 rfl) ?_
              exact hret x42_4 _ _ _ _ _ _ dX9_luck_85 hT hS ⟨hR16, hF16⟩
            ·
              have q18 : x42_5.toInt < a_b.toInt := i_nle c18
              have h20 : rg 0 19 x42_5 := t_ltx 0 19 hhx42_5 h8 (i_nle c18) (by decide)
              refine lv_aload_n hx hb dX9_luck_48 rfl (lv_at hl 0 rfl) ?_
              refine lv_iload_n hx hb dX9_luck_49 rfl (lv_at hl 1 rfl) ?_
              refine q_i2l hx hb dX9_luck_50 (fun y21 ey21 => ?_)
              obtain ⟨hy21, ay21⟩ := rg_i2l ey21 h3
              refine lv_iload hx hb dX9_luck_51 (lv_at hl 5 rfl) ?_
              refine q_i2l hx hb dX9_luck_53 (fun y22 ey22 => ?_)
              obtain ⟨hy22, ay22⟩ := rg_i2l ey22 h20
              refine q_ladd hx hb dX9_luck_54 (fun y23 ey23 => ?_)
              obtain ⟨hy23, ay23⟩ := rgL_add 0 2000000019 ey23 hy21 hy22 (by decide)
              refine e_Vi (As := [.long y23]) (rest := []) X Y hT hS (m_X9_draws hR16 y23) mk_X9_draws gm_2061 rfl rfl (by decide) hd_X9_draws ⟨rfl, rfl⟩ ⟨Nat.le_of_ble_eq_true rfl, Nat.le_of_ble_eq_true rfl⟩ hl.1 rfl (Nat.le_of_ble_eq_true rfl) dX9_luck_55 ⟨Nat.zero_le _, Nat.zero_le _⟩ (fun r24 i24 g24 H locs hq hT hS => ?_)
              obtain ⟨hR24, hf24, hr24⟩ := hq
              have hF24 := Fr_tr hF16 hf24 (by decide)
              refine lv_pop hx hb dX9_luck_58 rfl ?_
              refine lv_iload hx hb dX9_luck_59 (lv_at hl 4 rfl) ?_
              refine lv_aload_n hx hb dX9_luck_61 rfl (lv_at hl 0 rfl) ?_
              refine r_getr X hT 96 31 112 fk_9_62 rfl rfl (by decide) dX9_luck_62 ?_
              refine lv_aload_n hx hb dX9_luck_65 rfl (lv_at hl 0 rfl) ?_
              refine e_Vi (As := []) (rest := [.ref (h 112), .int x42_4]) X Y hT hS (m_X9_years hR24) mk_X9_years gm_1689 rfl rfl (by decide) hd_X9_years ⟨rfl, rfl⟩ ⟨Nat.le_of_ble_eq_true rfl, Nat.le_of_ble_eq_true rfl⟩ hl.1 rfl (Nat.le_of_ble_eq_true rfl) dX9_luck_66 ⟨Nat.zero_le _, Nat.zero_le _⟩ (fun r25 i25 g25 H locs hq hT hS => ?_)
              obtain ⟨eh25, hr25⟩ := hq
              rw [(Prod.mk.inj eh25).1, (Prod.mk.inj eh25).2] at hT
              refine r_iald X hT 112 rfl (by decide) (v_in hr25 (by decide)) dX9_luck_69 ?_
              refine lv_iload_n hx hb dX9_luck_70 rfl (lv_at hl 3 rfl) ?_
              refine q_ishr hx hb dX9_luck_71 (fun x26 ex26 => ?_)
              refine lv_iconst (v := 1) hx hb dX9_luck_72 (by decide) ?_
              refine q_iand hx hb dX9_luck_73 (fun x27 ex27 => ?_)
              have h28 : rg 0 1 x27 := rg_andr ex27 (rg_k (by decide) : rg 1 1 1) (by decide)
              refine q_iadd hx hb dX9_luck_74 (fun x29 ex29 => ?_)
              refine lv_istore (lv' := [(4, .int x29), (0, .ref (h 96)), (1, .int a_a), (2, .int a_b), (3, .int a_c), (5, .int x42_5)]) hx hb dX9_luck_75 hl (by decide) rfl (fun ls hl => ?_)
              obtain ⟨x30, ex30⟩ : ∃ y : Int32, y = x42_5 + 1 := ⟨_, rfl⟩
              refine lv_iinc (v := x30) (lv' := [(5, .int x30), (4, .int x29), (0, .ref (h 96)), (1, .int a_a), (2, .int a_b), (3, .int a_c)]) hx hb dX9_luck_77 hl (k := 5) rfl (by rw [ex30]; rfl) (by decide) rfl (fun ls hl => ?_)
              obtain ⟨hx30, ax30⟩ := rg_add 1 20 ex30 h20 (rg_k (by decide) : rg 1 1 1) (by decide)
              replace ax30 : x30.toInt = x42_5.toInt + 1 := ax30
              refine lv_goto (tgt := 42) hx hb dX9_luck_80 (by decide) ?_
              exact ih17_ x29 x30 i24 g24 _ _ _ (rg_w hx30 (by decide) : rg 0 20 x30) hR24 hF24 hT hS (lv_sub hl [2, 3, 4, 5, 1, 0] rfl) (m_up ax30 hx30 (by decide) hm17_)
        exact L42_15 _ (0) (0) i1 g _ _ _ (rg_w (rg_k (by decide) : rg 0 0 0) (by decide) : rg 0 20 0) hR1 hF1 hT hS (lv_sub hl [2, 3, 4, 5, 1, 0] rfl) (Nat.lt_succ_self _)
      ·
        obtain ⟨eh11, rfl⟩ := hq
        rw [(Prod.mk.inj eh11).1, (Prod.mk.inj eh11).2] at hT
        refine lv_if_ne (tgt := 36) hx hb dX9_luck_30 (by decide) (fun c31 => (x_ne (rg_k (by decide) : rg 0 0 0) (rg_k (by decide) : rg 0 0 0) (i_ne c31) (by decide)).elim) (fun c31 => ?_)
        refine lv_bipush (v := (-2)) hx hb dX9_luck_33 (by decide) ?_
        exact hret (-2) _ _ _ _ _ _ dX9_luck_35 hT hS ⟨hR1, hF1⟩
    ·
      obtain ⟨eh6, rfl, hf6_0⟩ := hq
      rw [(Prod.mk.inj eh6).1, (Prod.mk.inj eh6).2] at hT
      replace hf6_0 : y5.toInt < 1 ∨ 20 < y5.toInt := hf6_0
      refine lv_if_eq (tgt := 33) hx hb dX9_luck_21 (by decide) (fun c32 => ?_) (fun c32 => (x_ne (rg_k (by decide) : rg 0 0 0) (rg_k (by decide) : rg 0 0 0) (i_ne c32) (by decide)).elim)
      refine lv_bipush (v := (-2)) hx hb dX9_luck_33 (by decide) ?_
      exact hret (-2) _ _ _ _ _ _ dX9_luck_35 hT hS ⟨hR1, hF1⟩
  ·
    obtain ⟨eh2, rfl⟩ := hq
    rw [(Prod.mk.inj eh2).1, (Prod.mk.inj eh2).2] at hT
    refine lv_if_eq (tgt := 33) hx hb dX9_luck_9 (by decide) (fun c33 => ?_) (fun c33 => (x_ne (rg_k (by decide) : rg 0 0 0) (rg_k (by decide) : rg 0 0 0) (i_ne c33) (by decide)).elim)
    refine lv_bipush (v := (-2)) hx hb dX9_luck_33 (by decide) ?_
    exact hret (-2) _ _ _ _ _ _ dX9_luck_35 hT hS ⟨hR1, hF1⟩
set_option maxRecDepth 100000 in
set_option maxHeartbeats 4000000 in
theorem m_X9_rate {l : Launch} {D : va_G} {h : Nat → Nat} {cz : Nat → ClassId} {z : EZ} {i : Nat → Nat → Int32} {g : Nat → Nat → Int64} (hR : Rg rA i) (a_a : Int32) (a_b : Int32) : DtI l yX9_rate cX9_rate 4 (some .int) ({ frames := 2, cells := 0, slots := 0, locals := 47 } : Room) D h cz z i g [.ref (h 96), .int a_a, .int a_b] (fun r u => Rg rA u.1 ∧ Fr [96, 104] [] i g u ∧ rg (-5) 60 r) := by
  refine e_I pn_X9_rate (Nat.le_of_ble_eq_true rfl) ?_
  intro p e s m args below meth c ls Q X Y hret hT hl hS
  have hx := X.1
  have hb := X.2.1
  have hl : lv_has ls 4 [(0, .ref (h 96)), (1, .int a_a), (2, .int a_b)] := hl
  have hF : Fr [96, 104] [] i g (i, g) := Fr_rf _ _ _ _
  refine lv_aload_n hx hb dX9_rate_0 rfl (lv_at hl 0 rfl) ?_
  refine lv_iconst (v := 0) hx hb dX9_rate_1 (by decide) ?_
  refine r_puti X hT hS 96 0 pk_9_83 rfl rfl rfl rfl (by decide) dX9_rate_2 (fun H locs i1 ei1 hT hS => ?_)
  have hR1 := Rg_put hR ei1 (-2147483648) 2147483647 rfl (rg_k (by decide) : rg 0 0 0) (by decide)
  have hF1 := Fr_puti hF ei1 (by decide)
  refine lv_aload_n hx hb dX9_rate_5 rfl (lv_at hl 0 rfl) ?_
  refine lv_iload_n hx hb dX9_rate_6 rfl (lv_at hl 1 rfl) ?_
  refine q_i2l hx hb dX9_rate_7 (fun y2 ey2 => ?_)
  obtain ⟨hy2, ay2⟩ := rg_i2l ey2 (rg_top a_a)
  refine e_Vi (As := [.long y2]) (rest := []) X Y hT hS (m_X9_isPart hR1 y2) mk_X9_isPart gm_1645 rfl rfl (by decide) hd_X9_isPart ⟨rfl, rfl⟩ ⟨Nat.le_of_ble_eq_true rfl, Nat.le_of_ble_eq_true rfl⟩ hl.1 rfl (Nat.le_of_ble_eq_true rfl) dX9_rate_8 ⟨Nat.zero_le _, Nat.zero_le _⟩ (fun r3 i3 g3 H locs hq hT hS => ?_)
  rcases hq with hq | hq
  ·
    obtain ⟨eh3, rfl, hf3_0⟩ := hq
    rw [(Prod.mk.inj eh3).1, (Prod.mk.inj eh3).2] at hT
    have h4 : rgL 0 5 y2 := ⟨by have := hy2.1; have := hf3_0.1; omega, by have := hy2.2; have := hf3_0.2; omega⟩
    have h5 : rg 0 5 a_a := ⟨by have := h4.1; have := (rg_top a_a).1; have := ay2; omega, by have := h4.2; have := (rg_top a_a).2; have := ay2; omega⟩
    refine lv_if_eq (tgt := 26) hx hb dX9_rate_11 (by decide) (fun c6 => (x_eq (rg_k (by decide) : rg 1 1 1) (rg_k (by decide) : rg 0 0 0) (i_eq c6) (by decide)).elim) (fun c6 => ?_)
    refine lv_iload_n hx hb dX9_rate_14 rfl (lv_at hl 2 rfl) ?_
    refine q_i2l hx hb dX9_rate_15 (fun y7 ey7 => ?_)
    obtain ⟨hy7, ay7⟩ := rg_i2l ey7 (rg_top a_b)
    refine lv_lconst (v := 0) hx hb dX9_rate_16 (by decide) ?_
    refine lv_ldc2 (v := 60) hx hb X.2.2.2.1 (X.2.2.2.2.1 _ gm_2098) dX9_rate_17 ?_
    refine e_Si (As := [.long y7, .long 0, .long 60]) (rest := []) X Y hT hS (m_in y7 (0) (60)) sk_X9_in gm_1496 hd_X9_in ⟨rfl, rfl⟩ ⟨Nat.le_of_ble_eq_true rfl, Nat.le_of_ble_eq_true rfl⟩ hl.1 rfl (Nat.le_of_ble_eq_true rfl) dX9_rate_20 ⟨Nat.zero_le _, Nat.zero_le _⟩ (fun r8 i8 g8 H locs hq hT hS => ?_)
    rcases hq with hq | hq
    ·
      obtain ⟨eh8, rfl, hf8_0⟩ := hq
      rw [(Prod.mk.inj eh8).1, (Prod.mk.inj eh8).2] at hT
      replace hf8_0 : 0 ≤ y7.toInt ∧ y7.toInt ≤ 60 := hf8_0
      have h9 : rgL 0 60 y7 := ⟨by have := hy7.1; have := hy7.2; omega, by have := hy7.1; have := hy7.2; omega⟩
      have h10 : rg 0 60 a_b := ⟨by have := h9.1; have := (rg_top a_b).1; have := ay7; omega, by have := h9.2; have := (rg_top a_b).2; have := ay7; omega⟩
      refine lv_if_ne (tgt := 29) hx hb dX9_rate_23 (by decide) (fun c11 => ?_) (fun c11 => (x_eq (rg_k (by decide) : rg 1 1 1) (rg_k (by decide) : rg 0 0 0) (i_eq c11) (by decide)).elim)
      refine lv_aload_n hx hb dX9_rate_29 rfl (lv_at hl 0 rfl) ?_
      refine r_getr X hT 96 17 103 fk_9_34 rfl rfl (by decide) dX9_rate_30 ?_
      refine lv_bipush (v := 6) hx hb dX9_rate_33 (by decide) ?_
      refine r_ialdc X hT 103 6 rfl (by decide) (v_in (rg_k (by decide) : rg 6 6 6) (by decide)) (by decide) dX9_rate_35 ?_
      refine lv_if_le (tgt := 42) hx hb dX9_rate_36 (by decide) (fun c12 => ?_) (fun c12 => ?_)
      ·
        have q12 : (i1 103 6).toInt ≤ 0 := i_le c12
        have h13 : rg 0 0 (i1 103 6) := t_lex 0 0 (Rg_at hR1 103 6 0 20 (by decide) rfl) (rg_k (by decide) : rg 0 0 0) (i_le c12) (by decide)
        refine lv_aload_n hx hb dX9_rate_42 rfl (lv_at hl 0 rfl) ?_
        refine r_getr X hT 96 18 104 fk_9_37 rfl rfl (by decide) dX9_rate_43 ?_
        refine lv_iconst (v := 3) hx hb dX9_rate_46 (by decide) ?_
        refine lv_iload_n hx hb dX9_rate_47 rfl (lv_at hl 1 rfl) ?_
        refine q_imul hx hb dX9_rate_48 (fun x14 ex14 => ?_)
        obtain ⟨hx14, ax14⟩ := rg_mul 0 15 ex14 (rg_k (by decide) : rg 3 3 3) h5 (by decide)
        replace ax14 : x14.toInt = 3 * a_a.toInt := ax14
        refine r_iald X hT 104 rfl (by decide) (v_in hx14 (by decide)) dX9_rate_49 ?_
        refine lv_istore_n (lv' := [(3, .int (i1 104 x14.toNatClampNeg)), (0, .ref (h 96)), (1, .int a_a), (2, .int a_b)]) hx hb dX9_rate_50 rfl hl (by decide) rfl (fun ls hl => ?_)
        refine lv_aload_n hx hb dX9_rate_51 rfl (lv_at hl 1 rfl) ?_
        refine r_getr X hT 96 18 104 fk_9_37 rfl rfl (by decide) dX9_rate_52 ?_
        refine lv_iconst (v := 3) hx hb dX9_rate_55 (by decide) ?_
        refine lv_iload_n hx hb dX9_rate_56 rfl (lv_at hl 2 rfl) ?_
        refine q_imul hx hb dX9_rate_57 (fun x15 ex15 => ?_)
        obtain ⟨hx15, ax15⟩ := rg_mul 0 15 ex15 (rg_k (by decide) : rg 3 3 3) h5 (by decide)
        replace ax15 : x15.toInt = 3 * a_a.toInt := ax15
        refine lv_iload_n hx hb dX9_rate_58 rfl (lv_at hl 3 rfl) ?_
        refine r_iast X hT hS 104 rfl (by decide) (v_in hx15 (by decide)) dX9_rate_59 (fun H locs i16 ei16 hT hS => ?_)
        have hR16 := Rg_put hR1 ei16 0 60 rfl h10 (by decide)
        have hF16 := Fr_puti hF1 ei16 (by decide)
        refine lv_iload_n hx hb dX9_rate_60 rfl (lv_at hl 0 rfl) ?_
        exact hret (i1 104 x14.toNatClampNeg) _ _ _ _ _ _ dX9_rate_61 hT hS ⟨hR16, hF16, (rg_w (Rg_at hR1 104 x14.toNatClampNeg 0 60 (v_lt (v_in hx14 (by decide))) rfl) (by decide) : rg (-5) 60 (i1 104 x14.toNatClampNeg))⟩
      ·
        have q12 : 0 < (i1 103 6).toInt := i_nle c12
        have h17 : rg 1 20 (i1 103 6) := t_lty 1 20 (rg_k (by decide) : rg 0 0 0) (Rg_at hR1 103 6 0 20 (by decide) rfl) (i_nle c12) (by decide)
        refine lv_bipush (v := (-5)) hx hb dX9_rate_39 (by decide) ?_
        exact hret (-5) _ _ _ _ _ _ dX9_rate_41 hT hS ⟨hR1, hF1, (rg_w (rg_k (by decide) : rg (-5) (-5) (-5)) (by decide) : rg (-5) 60 (-5))⟩
    ·
      obtain ⟨eh8, rfl, hf8_0⟩ := hq
      rw [(Prod.mk.inj eh8).1, (Prod.mk.inj eh8).2] at hT
      replace hf8_0 : y7.toInt < 0 ∨ 60 < y7.toInt := hf8_0
      refine lv_if_ne (tgt := 29) hx hb dX9_rate_23 (by decide) (fun c18 => (x_ne (rg_k (by decide) : rg 0 0 0) (rg_k (by decide) : rg 0 0 0) (i_ne c18) (by decide)).elim) (fun c18 => ?_)
      refine lv_bipush (v := (-2)) hx hb dX9_rate_26 (by decide) ?_
      exact hret (-2) _ _ _ _ _ _ dX9_rate_28 hT hS ⟨hR1, hF1, (rg_w (rg_k (by decide) : rg (-2) (-2) (-2)) (by decide) : rg (-5) 60 (-2))⟩
  ·
    obtain ⟨eh3, rfl⟩ := hq
    rw [(Prod.mk.inj eh3).1, (Prod.mk.inj eh3).2] at hT
    refine lv_if_eq (tgt := 26) hx hb dX9_rate_11 (by decide) (fun c19 => ?_) (fun c19 => (x_ne (rg_k (by decide) : rg 0 0 0) (rg_k (by decide) : rg 0 0 0) (i_ne c19) (by decide)).elim)
    refine lv_bipush (v := (-2)) hx hb dX9_rate_26 (by decide) ?_
    exact hret (-2) _ _ _ _ _ _ dX9_rate_28 hT hS ⟨hR1, hF1, (rg_w (rg_k (by decide) : rg (-2) (-2) (-2)) (by decide) : rg (-5) 60 (-2))⟩
set_option maxRecDepth 100000 in
set_option maxHeartbeats 4000000 in
theorem m_X9_count {l : Launch} {D : va_G} {h : Nat → Nat} {cz : Nat → ClassId} {z : EZ} {i : Nat → Nat → Int32} {g : Nat → Nat → Int64} (hR : Rg rA i) (a_a : Int32) : DtI l yX9_count cX9_count 4 (some .int) ({ frames := 1, cells := 0, slots := 0, locals := 25 } : Room) D h cz z i g [.ref (h 96), .int a_a] (fun r u => Rg rA u.1 ∧ Fr [96] [] i g u) := by
  refine e_I pn_X9_count (Nat.le_of_ble_eq_true rfl) ?_
  intro p e s m args below meth c ls Q X Y hret hT hl hS
  have hx := X.1
  have hb := X.2.1
  have hl : lv_has ls 4 [(0, .ref (h 96)), (1, .int a_a)] := hl
  have hF : Fr [96] [] i g (i, g) := Fr_rf _ _ _ _
  refine lv_aload_n hx hb dX9_count_0 rfl (lv_at hl 0 rfl) ?_
  refine lv_iconst (v := 0) hx hb dX9_count_1 (by decide) ?_
  refine r_puti X hT hS 96 0 pk_9_83 rfl rfl rfl rfl (by decide) dX9_count_2 (fun H locs i1 ei1 hT hS => ?_)
  have hR1 := Rg_put hR ei1 (-2147483648) 2147483647 rfl (rg_k (by decide) : rg 0 0 0) (by decide)
  have hF1 := Fr_puti hF ei1 (by decide)
  refine lv_iload_n hx hb dX9_count_5 rfl (lv_at hl 1 rfl) ?_
  refine q_i2l hx hb dX9_count_6 (fun y2 ey2 => ?_)
  obtain ⟨hy2, ay2⟩ := rg_i2l ey2 (rg_top a_a)
  refine lv_lconst (v := 0) hx hb dX9_count_7 (by decide) ?_
  refine lv_ldc2 (v := 6) hx hb X.2.2.2.1 (X.2.2.2.2.1 _ gm_2103) dX9_count_8 ?_
  refine e_Si (As := [.long y2, .long 0, .long 6]) (rest := []) X Y hT hS (m_in y2 (0) (6)) sk_X9_in gm_1496 hd_X9_in ⟨rfl, rfl⟩ ⟨Nat.le_of_ble_eq_true rfl, Nat.le_of_ble_eq_true rfl⟩ hl.1 rfl (Nat.le_of_ble_eq_true rfl) dX9_count_11 ⟨Nat.zero_le _, Nat.zero_le _⟩ (fun r3 i3 g3 H locs hq hT hS => ?_)
  rcases hq with hq | hq
  ·
    obtain ⟨eh3, rfl, hf3_0⟩ := hq
    rw [(Prod.mk.inj eh3).1, (Prod.mk.inj eh3).2] at hT
    replace hf3_0 : 0 ≤ y2.toInt ∧ y2.toInt ≤ 6 := hf3_0
    have h4 : rgL 0 6 y2 := ⟨by have := hy2.1; have := hy2.2; omega, by have := hy2.1; have := hy2.2; omega⟩
    have h5 : rg 0 6 a_a := ⟨by have := h4.1; have := (rg_top a_a).1; have := ay2; omega, by have := h4.2; have := (rg_top a_a).2; have := ay2; omega⟩
    refine lv_if_eq (tgt := 24) hx hb dX9_count_14 (by decide) (fun c6 => (x_eq (rg_k (by decide) : rg 1 1 1) (rg_k (by decide) : rg 0 0 0) (i_eq c6) (by decide)).elim) (fun c6 => ?_)
    refine lv_aload_n hx hb dX9_count_17 rfl (lv_at hl 0 rfl) ?_
    refine r_getr X hT 96 17 103 fk_9_34 rfl rfl (by decide) dX9_count_18 ?_
    refine lv_iload_n hx hb dX9_count_21 rfl (lv_at hl 1 rfl) ?_
    refine r_iald X hT 103 rfl (by decide) (v_in h5 (by decide)) dX9_count_22 ?_
    have h7 : rg 0 20 (i1 103 a_a.toNatClampNeg) := Rg_ata hR1 103 a_a.toNatClampNeg 0 20 (v_lt (v_in h5 (by decide))) (aff_at (m := 1) (a := 0) (n := 7) (c := 0) (by decide) (v := a_a.toInt) ⟨by have := h5.1; omega, by have := h5.2; omega⟩ (by omega))
    exact hret (i1 103 a_a.toNatClampNeg) _ _ _ _ _ _ dX9_count_23 hT hS ⟨hR1, hF1⟩
  ·
    obtain ⟨eh3, rfl, hf3_0⟩ := hq
    rw [(Prod.mk.inj eh3).1, (Prod.mk.inj eh3).2] at hT
    replace hf3_0 : y2.toInt < 0 ∨ 6 < y2.toInt := hf3_0
    refine lv_if_eq (tgt := 24) hx hb dX9_count_14 (by decide) (fun c8 => ?_) (fun c8 => (x_ne (rg_k (by decide) : rg 0 0 0) (rg_k (by decide) : rg 0 0 0) (i_ne c8) (by decide)).elim)
    refine lv_iconst (v := 0) hx hb dX9_count_24 (by decide) ?_
    refine lv_istore_n (lv' := [(2, .int 0), (0, .ref (h 96)), (1, .int a_a)]) hx hb dX9_count_25 rfl hl (by decide) rfl (fun ls hl => ?_)
    refine lv_iload_n hx hb dX9_count_26 rfl (lv_at hl 2 rfl) ?_
    rcases Int.lt_or_le a_a.toInt 7 with c9 | c9
    ·
      refine lv_tableOut (tgt := 97) hx hb dX9_count_27 (Or.inl c9) (by decide) ?_
      refine lv_iconst (v := (-1)) hx hb dX9_count_97 (by decide) ?_
      exact hret (-1) _ _ _ _ _ _ dX9_count_98 hT hS ⟨hR1, hF1⟩
    ·
      rcases Int.lt_or_le 9 a_a.toInt with d9 | d9
      ·
        refine lv_tableOut (tgt := 97) hx hb dX9_count_27 (Or.inr d9) (by decide) ?_
        refine lv_iconst (v := (-1)) hx hb dX9_count_97 (by decide) ?_
        exact hret (-1) _ _ _ _ _ _ dX9_count_98 hT hS ⟨hR1, hF1⟩
      ·
        rcases (show a_a.toInt = 7 ∨ a_a.toInt = 8 ∨ a_a.toInt = 9 by omega) with f9 | f9 | f9
        ·
          refine lv_tableIn (tgt := 52) (off := 25) hx hb dX9_count_27 (by omega) (by omega) (by rw [f9]; rfl) (by decide) ?_
          have h10 : rg 7 7 a_a := ⟨by omega, by omega⟩
          refine lv_aload_n hx hb dX9_count_52 rfl (lv_at hl 1 rfl) ?_
          refine r_getr X hT 96 16 102 fk_9_31 rfl rfl (by decide) dX9_count_53 ?_
          refine lv_iconst (v := 0) hx hb dX9_count_56 (by decide) ?_
          refine r_ialdc X hT 102 0 rfl (by decide) (v_in (rg_k (by decide) : rg 0 0 0) (by decide)) (by decide) dX9_count_57 ?_
          exact hret (i1 102 0) _ _ _ _ _ _ dX9_count_58 hT hS ⟨hR1, hF1⟩
        ·
          refine lv_tableIn (tgt := 59) (off := 32) hx hb dX9_count_27 (by omega) (by omega) (by rw [f9]; rfl) (by decide) ?_
          have h11 : rg 8 8 a_a := ⟨by omega, by omega⟩
          refine lv_aload_n hx hb dX9_count_59 rfl (lv_at hl 1 rfl) ?_
          refine r_geti X hT 96 6 fk_9_100 rfl rfl (by decide) dX9_count_60 ?_
          exact hret (i1 96 6) _ _ _ _ _ _ dX9_count_63 hT hS ⟨hR1, hF1⟩
        ·
          refine lv_tableIn (tgt := 64) (off := 37) hx hb dX9_count_27 (by omega) (by omega) (by rw [f9]; rfl) (by decide) ?_
          have h12 : rg 9 9 a_a := ⟨by omega, by omega⟩
          refine lv_iconst (v := 0) hx hb dX9_count_64 (by decide) ?_
          refine lv_istore_n (lv' := [(3, .int 0), (2, .int 0), (0, .ref (h 96)), (1, .int a_a)]) hx hb dX9_count_65 rfl hl (by decide) rfl (fun ls hl => ?_)
          have L66_13 : ∀ (n14_ : Nat) (x66_2 : Int32) (x66_3 : Int32) (H : Heap) (locs : List Loc) (ls : Array Slot), rg 0 4 x66_3 → TH D h cz i1 g H → va_S (hA h) s.heap H locs → lv_has ls 4 [(0, .ref (h 96)), (2, .int x66_2), (3, .int x66_3)] → (4 - x66_3.toInt).toNat < n14_ → W p l e ({ frames := 1, cells := 0, slots := 0, locals := 25 } : Room) s m args below meth c H locs 0 0 Q (F0 m 66 ls []) := by
            intro n14_
            induction n14_ with
            | zero => intro x66_2 x66_3 H locs ls hhx66_3 hT hS hl hm14_; exact absurd hm14_ (Nat.not_lt_zero _)
            | succ n14_ ih14_ =>
              intro x66_2 x66_3 H locs ls hhx66_3 hT hS hl hm14_
              refine lv_iload_n hx hb dX9_count_66 rfl (lv_at hl 2 rfl) ?_
              refine lv_iconst (v := 4) hx hb dX9_count_67 (by decide) ?_
              refine lv_icmp_ge (tgt := 95) hx hb dX9_count_68 (by decide) (fun c15 => ?_) (fun c15 => ?_)
              ·
                have q15 : 4 ≤ x66_3.toInt := i_le c15
                have h16 : rg 4 4 x66_3 := t_ley 4 4 (rg_k (by decide) : rg 4 4 4) hhx66_3 (i_le c15) (by decide)
                refine lv_iload_n hx hb dX9_count_95 rfl (lv_at hl 1 rfl) ?_
                exact hret x66_2 _ _ _ _ _ _ dX9_count_96 hT hS ⟨hR1, hF1⟩
              ·
                have q15 : x66_3.toInt < 4 := i_nle c15
                have h17 : rg 0 3 x66_3 := t_ltx 0 3 hhx66_3 (rg_k (by decide) : rg 4 4 4) (i_nle c15) (by decide)
                refine lv_iload_n hx hb dX9_count_71 rfl (lv_at hl 1 rfl) ?_
                refine lv_aload_n hx hb dX9_count_72 rfl (lv_at hl 0 rfl) ?_
                refine r_getr X hT 96 1 97 fk_9_7 rfl rfl (by decide) dX9_count_73 ?_
                refine lv_iload_n hx hb dX9_count_76 rfl (lv_at hl 2 rfl) ?_
                refine r_iald X hT 97 rfl (by decide) (v_in h17 (by decide)) dX9_count_77 ?_
                refine lv_iconst (v := (-1)) hx hb dX9_count_78 (by decide) ?_
                refine lv_icmp_ne (tgt := 86) hx hb dX9_count_79 (by decide) (fun c18 => ?_) (fun c18 => ?_)
                ·
                  have q18 : ¬ (i1 97 x66_3.toNatClampNeg).toInt = (-1) := i_ne c18
                  have h19 : rg 0 3 (i1 97 x66_3.toNatClampNeg) := t_nelo 0 (Rg_at hR1 97 x66_3.toNatClampNeg (-1) 3 (v_lt (v_in h17 (by decide))) rfl) (rg_k (by decide) : rg (-1) (-1) (-1)) (i_ne c18) (by decide)
                  refine lv_iconst (v := 1) hx hb dX9_count_86 (by decide) ?_
                  refine q_iadd hx hb dX9_count_87 (fun x20 ex20 => ?_)
                  refine lv_istore_n (lv' := [(2, .int x20), (0, .ref (h 96)), (3, .int x66_3)]) hx hb dX9_count_88 rfl hl (by decide) rfl (fun ls hl => ?_)
                  obtain ⟨x21, ex21⟩ : ∃ y : Int32, y = x66_3 + 1 := ⟨_, rfl⟩
                  refine lv_iinc (v := x21) (lv' := [(3, .int x21), (2, .int x20), (0, .ref (h 96))]) hx hb dX9_count_89 hl (k := 2) rfl (by rw [ex21]; rfl) (by decide) rfl (fun ls hl => ?_)
                  obtain ⟨hx21, ax21⟩ := rg_add 1 4 ex21 h17 (rg_k (by decide) : rg 1 1 1) (by decide)
                  replace ax21 : x21.toInt = x66_3.toInt + 1 := ax21
                  refine lv_goto (tgt := 66) hx hb dX9_count_92 (by decide) ?_
                  exact ih14_ x20 x21 _ _ _ (rg_w hx21 (by decide) : rg 0 4 x21) hT hS (lv_sub hl [2, 1, 0] rfl) (m_up ax21 hx21 (by decide) hm14_)
                ·
                  have q18 : (i1 97 x66_3.toNatClampNeg).toInt = (-1) := i_eq c18
                  have h22 : rg (-1) (-1) (i1 97 x66_3.toNatClampNeg) := t_eqx (-1) (-1) (Rg_at hR1 97 x66_3.toNatClampNeg (-1) 3 (v_lt (v_in h17 (by decide))) rfl) (rg_k (by decide) : rg (-1) (-1) (-1)) (i_eq c18) (by decide)
                  refine lv_iconst (v := 0) hx hb dX9_count_82 (by decide) ?_
                  refine lv_goto (tgt := 87) hx hb dX9_count_83 (by decide) ?_
                  refine q_iadd hx hb dX9_count_87 (fun x23 ex23 => ?_)
                  obtain ⟨hx23, ax23⟩ := rg_add (-2147483648) 2147483647 ex23 (rg_top x66_2) (rg_k (by decide) : rg 0 0 0) (by decide)
                  replace ax23 : x23.toInt = x66_2.toInt + 0 := ax23
                  refine lv_istore_n (lv' := [(2, .int x23), (0, .ref (h 96)), (3, .int x66_3)]) hx hb dX9_count_88 rfl hl (by decide) rfl (fun ls hl => ?_)
                  obtain ⟨x24, ex24⟩ : ∃ y : Int32, y = x66_3 + 1 := ⟨_, rfl⟩
                  refine lv_iinc (v := x24) (lv' := [(3, .int x24), (2, .int x23), (0, .ref (h 96))]) hx hb dX9_count_89 hl (k := 2) rfl (by rw [ex24]; rfl) (by decide) rfl (fun ls hl => ?_)
                  obtain ⟨hx24, ax24⟩ := rg_add 1 4 ex24 h17 (rg_k (by decide) : rg 1 1 1) (by decide)
                  replace ax24 : x24.toInt = x66_3.toInt + 1 := ax24
                  refine lv_goto (tgt := 66) hx hb dX9_count_92 (by decide) ?_
                  exact ih14_ x23 x24 _ _ _ (rg_w hx24 (by decide) : rg 0 4 x24) hT hS (lv_sub hl [2, 1, 0] rfl) (m_up ax24 hx24 (by decide) hm14_)
          exact L66_13 _ (0) (0) _ _ _ (rg_w (rg_k (by decide) : rg 0 0 0) (by decide) : rg 0 4 0) hT hS (lv_sub hl [2, 1, 0] rfl) (Nat.lt_succ_self _)
set_option maxRecDepth 100000 in
set_option maxHeartbeats 4000000 in
theorem m_X9_copyRow_102_1_0_1 {l : Launch} {D : va_G} {h : Nat → Nat} {cz : Nat → ClassId} {z : EZ} {i : Nat → Nat → Int32} {g : Nat → Nat → Int64} (hR : Rg rA i) (a_b : Int32) (a_c : Int32) (a_d : Int32) (ha_b : rg 1 1 a_b) (ha_c : rg 0 0 a_c) (ha_d : rg 1 1 a_d) : DtV l yX9_copyRow cX9_copyRow 5 none ({ frames := 0, cells := 0, slots := 0, locals := 0 } : Room) D h cz z i g [.ref (h 102), .int a_b, .int a_c, .int a_d] (fun u => Rg rA u.1 ∧ Fr [102] [] i g u) := by
  refine e_V pn_X9_copyRow (Nat.le_of_ble_eq_true rfl) ?_
  intro p e s m args below meth c ls Q X Y hret hT hl hS
  have hx := X.1
  have hb := X.2.1
  have hl : lv_has ls 5 [(0, .ref (h 102)), (1, .int a_b), (2, .int a_c), (3, .int a_d)] := hl
  have hF : Fr [102] [] i g (i, g) := Fr_rf _ _ _ _
  refine lv_iconst (v := 0) hx hb dX9_copyRow_0 (by decide) ?_
  refine lv_istore (lv' := [(4, .int 0), (0, .ref (h 102)), (1, .int a_b), (2, .int a_c), (3, .int a_d)]) hx hb dX9_copyRow_1 hl (by decide) rfl (fun ls hl => ?_)
  have L3_1 : ∀ (n3_ : Nat) (x3_4 : Int32) (i2 : Nat → Nat → Int32) (g2 : Nat → Nat → Int64) (H : Heap) (locs : List Loc) (ls : Array Slot), rg 0 1 x3_4 → Rg rA i2 → Fr [102] [] i g (i2, g2) → TH D h cz i2 g2 H → va_S (hA h) s.heap H locs → lv_has ls 5 [(0, .ref (h 102)), (1, .int a_b), (2, .int a_c), (3, .int a_d), (4, .int x3_4)] → (1 - x3_4.toInt).toNat < n3_ → W p l e ({ frames := 0, cells := 0, slots := 0, locals := 0 } : Room) s m args below meth c H locs 0 0 Q (F0 m 3 ls []) := by
    intro n3_
    induction n3_ with
    | zero => intro x3_4 i2 g2 H locs ls hhx3_4 hR2 hF2 hT hS hl hm3_; exact absurd hm3_ (Nat.not_lt_zero _)
    | succ n3_ ih3_ =>
      intro x3_4 i2 g2 H locs ls hhx3_4 hR2 hF2 hT hS hl hm3_
      refine lv_iload hx hb dX9_copyRow_3 (lv_at hl 4 rfl) ?_
      refine lv_iload_n hx hb dX9_copyRow_5 rfl (lv_at hl 1 rfl) ?_
      refine lv_icmp_ge (tgt := 31) hx hb dX9_copyRow_6 (by decide) (fun c4 => ?_) (fun c4 => ?_)
      ·
        have q4 : a_b.toInt ≤ x3_4.toInt := i_le c4
        have h5 : rg 1 1 x3_4 := t_ley 1 1 ha_b hhx3_4 (i_le c4) (by decide)
        exact hret _ _ _ _ _ _ dX9_copyRow_31 hT hS ⟨hR2, hF2⟩
      ·
        have q4 : x3_4.toInt < a_b.toInt := i_nle c4
        have h6 : rg 0 0 x3_4 := t_ltx 0 0 hhx3_4 ha_b (i_nle c4) (by decide)
        refine lv_aload_n hx hb dX9_copyRow_9 rfl (lv_at hl 0 rfl) ?_
        refine lv_iload_n hx hb dX9_copyRow_10 rfl (lv_at hl 1 rfl) ?_
        refine lv_iload_n hx hb dX9_copyRow_11 rfl (lv_at hl 3 rfl) ?_
        refine q_imul hx hb dX9_copyRow_12 (fun x7 ex7 => ?_)
        obtain ⟨hx7, ax7⟩ := rg_mul 1 1 ex7 ha_b ha_d (by decide)
        replace ax7 : x7.toInt = a_b.toInt * a_d.toInt := ax7
        refine lv_iload hx hb dX9_copyRow_13 (lv_at hl 4 rfl) ?_
        refine q_iadd hx hb dX9_copyRow_15 (fun x8 ex8 => ?_)
        obtain ⟨hx8, ax8⟩ := rg_add 1 1 ex8 hx7 h6 (by decide)
        replace ax8 : x8.toInt = x7.toInt + x3_4.toInt := ax8
        replace ax8 : x8.toInt = x7.toInt + 0 := by have := h6.1; have := h6.2; omega
        refine lv_aload_n hx hb dX9_copyRow_16 rfl (lv_at hl 0 rfl) ?_
        refine lv_iload_n hx hb dX9_copyRow_17 rfl (lv_at hl 1 rfl) ?_
        refine lv_iload_n hx hb dX9_copyRow_18 rfl (lv_at hl 2 rfl) ?_
        refine q_imul hx hb dX9_copyRow_19 (fun x9 ex9 => ?_)
        obtain ⟨hx9, ax9⟩ := rg_mul 0 0 ex9 ha_b ha_c (by decide)
        replace ax9 : x9.toInt = a_b.toInt * a_c.toInt := ax9
        refine lv_iload hx hb dX9_copyRow_20 (lv_at hl 4 rfl) ?_
        refine q_iadd hx hb dX9_copyRow_22 (fun x10 ex10 => ?_)
        obtain ⟨hx10, ax10⟩ := rg_add 0 0 ex10 hx9 h6 (by decide)
        replace ax10 : x10.toInt = x9.toInt + x3_4.toInt := ax10
        replace ax10 : x10.toInt = x9.toInt + 0 := by have := h6.1; have := h6.2; omega
        refine r_ialdc X hT 102 0 rfl (by decide) (v_in hx10 (by decide)) (cl_c hx10 0 rfl (by decide)) dX9_copyRow_23 ?_
        refine r_iastc X hT hS 102 1 rfl (by decide) (v_in hx8 (by decide)) (cl_c hx8 1 rfl (by decide)) dX9_copyRow_24 (fun H locs i11 ei11 hT hS => ?_)
        have hR11 := Rg_put hR2 ei11 (-2147483648) 2147483647 rfl (rg_top (i2 102 0)) (by decide)
        have hF11 := Fr_puti hF2 ei11 (by decide)
        obtain ⟨x12, ex12⟩ : ∃ y : Int32, y = x3_4 + 1 := ⟨_, rfl⟩
        refine lv_iinc (v := x12) (lv' := [(4, .int x12), (0, .ref (h 102)), (1, .int a_b), (2, .int a_c), (3, .int a_d)]) hx hb dX9_copyRow_25 hl (k := 4) rfl (by rw [ex12]; rfl) (by decide) rfl (fun ls hl => ?_)
        obtain ⟨hx12, ax12⟩ := rg_add 1 1 ex12 h6 (rg_k (by decide) : rg 1 1 1) (by decide)
        replace ax12 : x12.toInt = x3_4.toInt + 1 := ax12
        refine lv_goto (tgt := 3) hx hb dX9_copyRow_28 (by decide) ?_
        exact ih3_ x12 i11 g2 _ _ _ (rg_w hx12 (by decide) : rg 0 1 x12) hR11 hF11 hT hS (lv_sub hl [1, 2, 3, 4, 0] rfl) (m_up ax12 hx12 (by decide) hm3_)
  exact L3_1 _ (0) i g _ _ _ (rg_w (rg_k (by decide) : rg 0 0 0) (by decide) : rg 0 1 0) hR hF hT hS (lv_sub hl [1, 2, 3, 4, 0] rfl) (Nat.lt_succ_self _)
set_option maxRecDepth 100000 in
set_option maxHeartbeats 4000000 in
theorem m_X9_copyRow_103_7_0_1 {l : Launch} {D : va_G} {h : Nat → Nat} {cz : Nat → ClassId} {z : EZ} {i : Nat → Nat → Int32} {g : Nat → Nat → Int64} (hR : Rg rA i) (a_b : Int32) (a_c : Int32) (a_d : Int32) (ha_b : rg 7 7 a_b) (ha_c : rg 0 0 a_c) (ha_d : rg 1 1 a_d) : DtV l yX9_copyRow cX9_copyRow 5 none ({ frames := 0, cells := 0, slots := 0, locals := 0 } : Room) D h cz z i g [.ref (h 103), .int a_b, .int a_c, .int a_d] (fun u => Rg rA u.1 ∧ Fr [103] [] i g u) := by
  refine e_V pn_X9_copyRow (Nat.le_of_ble_eq_true rfl) ?_
  intro p e s m args below meth c ls Q X Y hret hT hl hS
  have hx := X.1
  have hb := X.2.1
  have hl : lv_has ls 5 [(0, .ref (h 103)), (1, .int a_b), (2, .int a_c), (3, .int a_d)] := hl
  have hF : Fr [103] [] i g (i, g) := Fr_rf _ _ _ _
  refine lv_iconst (v := 0) hx hb dX9_copyRow_0 (by decide) ?_
  refine lv_istore (lv' := [(4, .int 0), (0, .ref (h 103)), (1, .int a_b), (2, .int a_c), (3, .int a_d)]) hx hb dX9_copyRow_1 hl (by decide) rfl (fun ls hl => ?_)
  have L3_1 : ∀ (n3_ : Nat) (x3_4 : Int32) (i2 : Nat → Nat → Int32) (g2 : Nat → Nat → Int64) (H : Heap) (locs : List Loc) (ls : Array Slot), rg 0 8 x3_4 → Rg rA i2 → Fr [103] [] i g (i2, g2) → TH D h cz i2 g2 H → va_S (hA h) s.heap H locs → lv_has ls 5 [(0, .ref (h 103)), (1, .int a_b), (2, .int a_c), (3, .int a_d), (4, .int x3_4)] → (8 - x3_4.toInt).toNat < n3_ → W p l e ({ frames := 0, cells := 0, slots := 0, locals := 0 } : Room) s m args below meth c H locs 0 0 Q (F0 m 3 ls []) := by
    intro n3_
    induction n3_ with
    | zero => intro x3_4 i2 g2 H locs ls hhx3_4 hR2 hF2 hT hS hl hm3_; exact absurd hm3_ (Nat.not_lt_zero _)
    | succ n3_ ih3_ =>
      intro x3_4 i2 g2 H locs ls hhx3_4 hR2 hF2 hT hS hl hm3_
      refine lv_iload hx hb dX9_copyRow_3 (lv_at hl 4 rfl) ?_
      refine lv_iload_n hx hb dX9_copyRow_5 rfl (lv_at hl 1 rfl) ?_
      refine lv_icmp_ge (tgt := 31) hx hb dX9_copyRow_6 (by decide) (fun c4 => ?_) (fun c4 => ?_)
      ·
        have q4 : a_b.toInt ≤ x3_4.toInt := i_le c4
        have h5 : rg 7 8 x3_4 := t_ley 7 8 ha_b hhx3_4 (i_le c4) (by decide)
        exact hret _ _ _ _ _ _ dX9_copyRow_31 hT hS ⟨hR2, hF2⟩
      ·
        have q4 : x3_4.toInt < a_b.toInt := i_nle c4
        have h6 : rg 0 6 x3_4 := t_ltx 0 6 hhx3_4 ha_b (i_nle c4) (by decide)
        refine lv_aload_n hx hb dX9_copyRow_9 rfl (lv_at hl 0 rfl) ?_
        refine lv_iload_n hx hb dX9_copyRow_10 rfl (lv_at hl 1 rfl) ?_
        refine lv_iload_n hx hb dX9_copyRow_11 rfl (lv_at hl 3 rfl) ?_
        refine q_imul hx hb dX9_copyRow_12 (fun x7 ex7 => ?_)
        obtain ⟨hx7, ax7⟩ := rg_mul 7 7 ex7 ha_b ha_d (by decide)
        replace ax7 : x7.toInt = a_b.toInt * a_d.toInt := ax7
        refine lv_iload hx hb dX9_copyRow_13 (lv_at hl 4 rfl) ?_
        refine q_iadd hx hb dX9_copyRow_15 (fun x8 ex8 => ?_)
        obtain ⟨hx8, ax8⟩ := rg_add 7 13 ex8 hx7 h6 (by decide)
        replace ax8 : x8.toInt = x7.toInt + x3_4.toInt := ax8
        replace ax8 : x8.toInt = x3_4.toInt + 7 := by have := hx7.1; have := hx7.2; omega
        refine lv_aload_n hx hb dX9_copyRow_16 rfl (lv_at hl 0 rfl) ?_
        refine lv_iload_n hx hb dX9_copyRow_17 rfl (lv_at hl 1 rfl) ?_
        refine lv_iload_n hx hb dX9_copyRow_18 rfl (lv_at hl 2 rfl) ?_
        refine q_imul hx hb dX9_copyRow_19 (fun x9 ex9 => ?_)
        obtain ⟨hx9, ax9⟩ := rg_mul 0 0 ex9 ha_b ha_c (by decide)
        replace ax9 : x9.toInt = a_b.toInt * a_c.toInt := ax9
        refine lv_iload hx hb dX9_copyRow_20 (lv_at hl 4 rfl) ?_
        refine q_iadd hx hb dX9_copyRow_22 (fun x10 ex10 => ?_)
        obtain ⟨hx10, ax10⟩ := rg_add 0 6 ex10 hx9 h6 (by decide)
        replace ax10 : x10.toInt = x9.toInt + x3_4.toInt := ax10
        replace ax10 : x10.toInt = x3_4.toInt + 0 := by have := hx9.1; have := hx9.2; omega
        refine r_iald X hT 103 rfl (by decide) (v_in hx10 (by decide)) dX9_copyRow_23 ?_
        have h11 : rg 0 20 (i2 103 x10.toNatClampNeg) := Rg_ata hR2 103 x10.toNatClampNeg 0 20 (v_lt (v_in hx10 (by decide))) (aff_at (m := 1) (a := 0) (n := 7) (c := 0) (by decide) (v := x3_4.toInt) ⟨by have := h6.1; omega, by have := h6.2; omega⟩ (by have := ax10; omega))
        refine r_iast X hT hS 103 rfl (by decide) (v_in hx8 (by decide)) dX9_copyRow_24 (fun H locs i12 ei12 hT hS => ?_)
        have hR12 := Rg_mv hR2 ei12 (v_lt (v_in hx10 (by decide))) (aff_mv (T := rA) (j := 103) (m := 1) (a := 0) (n := 7) (c := 7) (c1 := 0) (by decide) (v := x3_4.toInt) ⟨by have := h6.1; omega, by have := h6.2; omega⟩ (by have := ax8; omega) (by have := ax10; omega))
        have hF12 := Fr_puti hF2 ei12 (by decide)
        obtain ⟨x13, ex13⟩ : ∃ y : Int32, y = x3_4 + 1 := ⟨_, rfl⟩
        refine lv_iinc (v := x13) (lv' := [(4, .int x13), (0, .ref (h 103)), (1, .int a_b), (2, .int a_c), (3, .int a_d)]) hx hb dX9_copyRow_25 hl (k := 4) rfl (by rw [ex13]; rfl) (by decide) rfl (fun ls hl => ?_)
        obtain ⟨hx13, ax13⟩ := rg_add 1 7 ex13 h6 (rg_k (by decide) : rg 1 1 1) (by decide)
        replace ax13 : x13.toInt = x3_4.toInt + 1 := ax13
        refine lv_goto (tgt := 3) hx hb dX9_copyRow_28 (by decide) ?_
        exact ih3_ x13 i12 g2 _ _ _ (rg_w hx13 (by decide) : rg 0 8 x13) hR12 hF12 hT hS (lv_sub hl [1, 2, 3, 4, 0] rfl) (m_up ax13 hx13 (by decide) hm3_)
  exact L3_1 _ (0) i g _ _ _ (rg_w (rg_k (by decide) : rg 0 0 0) (by decide) : rg 0 8 0) hR hF hT hS (lv_sub hl [1, 2, 3, 4, 0] rfl) (Nat.lt_succ_self _)
set_option maxRecDepth 100000 in
set_option maxHeartbeats 4000000 in
theorem m_X9_copyRow_104_18_0_1 {l : Launch} {D : va_G} {h : Nat → Nat} {cz : Nat → ClassId} {z : EZ} {i : Nat → Nat → Int32} {g : Nat → Nat → Int64} (hR : Rg rA i) (a_b : Int32) (a_c : Int32) (a_d : Int32) (ha_b : rg 18 18 a_b) (ha_c : rg 0 0 a_c) (ha_d : rg 1 1 a_d) : DtV l yX9_copyRow cX9_copyRow 5 none ({ frames := 0, cells := 0, slots := 0, locals := 0 } : Room) D h cz z i g [.ref (h 104), .int a_b, .int a_c, .int a_d] (fun u => Rg rA u.1 ∧ Fr [104] [] i g u) := by
  refine e_V pn_X9_copyRow (Nat.le_of_ble_eq_true rfl) ?_
  intro p e s m args below meth c ls Q X Y hret hT hl hS
  have hx := X.1
  have hb := X.2.1
  have hl : lv_has ls 5 [(0, .ref (h 104)), (1, .int a_b), (2, .int a_c), (3, .int a_d)] := hl
  have hF : Fr [104] [] i g (i, g) := Fr_rf _ _ _ _
  refine lv_iconst (v := 0) hx hb dX9_copyRow_0 (by decide) ?_
  refine lv_istore (lv' := [(4, .int 0), (0, .ref (h 104)), (1, .int a_b), (2, .int a_c), (3, .int a_d)]) hx hb dX9_copyRow_1 hl (by decide) rfl (fun ls hl => ?_)
  have L3_1 : ∀ (n3_ : Nat) (x3_4 : Int32) (i2 : Nat → Nat → Int32) (g2 : Nat → Nat → Int64) (H : Heap) (locs : List Loc) (ls : Array Slot), rg 0 20 x3_4 → Rg rA i2 → Fr [104] [] i g (i2, g2) → TH D h cz i2 g2 H → va_S (hA h) s.heap H locs → lv_has ls 5 [(0, .ref (h 104)), (1, .int a_b), (2, .int a_c), (3, .int a_d), (4, .int x3_4)] → (20 - x3_4.toInt).toNat < n3_ → W p l e ({ frames := 0, cells := 0, slots := 0, locals := 0 } : Room) s m args below meth c H locs 0 0 Q (F0 m 3 ls []) := by
    intro n3_
    induction n3_ with
    | zero => intro x3_4 i2 g2 H locs ls hhx3_4 hR2 hF2 hT hS hl hm3_; exact absurd hm3_ (Nat.not_lt_zero _)
    | succ n3_ ih3_ =>
      intro x3_4 i2 g2 H locs ls hhx3_4 hR2 hF2 hT hS hl hm3_
      refine lv_iload hx hb dX9_copyRow_3 (lv_at hl 4 rfl) ?_
      refine lv_iload_n hx hb dX9_copyRow_5 rfl (lv_at hl 1 rfl) ?_
      refine lv_icmp_ge (tgt := 31) hx hb dX9_copyRow_6 (by decide) (fun c4 => ?_) (fun c4 => ?_)
      ·
        have q4 : a_b.toInt ≤ x3_4.toInt := i_le c4
        have h5 : rg 18 20 x3_4 := t_ley 18 20 ha_b hhx3_4 (i_le c4) (by decide)
        exact hret _ _ _ _ _ _ dX9_copyRow_31 hT hS ⟨hR2, hF2⟩
      ·
        have q4 : x3_4.toInt < a_b.toInt := i_nle c4
        have h6 : rg 0 17 x3_4 := t_ltx 0 17 hhx3_4 ha_b (i_nle c4) (by decide)
        refine lv_aload_n hx hb dX9_copyRow_9 rfl (lv_at hl 0 rfl) ?_
        refine lv_iload_n hx hb dX9_copyRow_10 rfl (lv_at hl 1 rfl) ?_
        refine lv_iload_n hx hb dX9_copyRow_11 rfl (lv_at hl 3 rfl) ?_
        refine q_imul hx hb dX9_copyRow_12 (fun x7 ex7 => ?_)
        obtain ⟨hx7, ax7⟩ := rg_mul 18 18 ex7 ha_b ha_d (by decide)
        replace ax7 : x7.toInt = a_b.toInt * a_d.toInt := ax7
        refine lv_iload hx hb dX9_copyRow_13 (lv_at hl 4 rfl) ?_
        refine q_iadd hx hb dX9_copyRow_15 (fun x8 ex8 => ?_)
        obtain ⟨hx8, ax8⟩ := rg_add 18 35 ex8 hx7 h6 (by decide)
        replace ax8 : x8.toInt = x7.toInt + x3_4.toInt := ax8
        replace ax8 : x8.toInt = x3_4.toInt + 18 := by have := hx7.1; have := hx7.2; omega
        refine lv_aload_n hx hb dX9_copyRow_16 rfl (lv_at hl 0 rfl) ?_
        refine lv_iload_n hx hb dX9_copyRow_17 rfl (lv_at hl 1 rfl) ?_
        refine lv_iload_n hx hb dX9_copyRow_18 rfl (lv_at hl 2 rfl) ?_
        refine q_imul hx hb dX9_copyRow_19 (fun x9 ex9 => ?_)
        obtain ⟨hx9, ax9⟩ := rg_mul 0 0 ex9 ha_b ha_c (by decide)
        replace ax9 : x9.toInt = a_b.toInt * a_c.toInt := ax9
        refine lv_iload hx hb dX9_copyRow_20 (lv_at hl 4 rfl) ?_
        refine q_iadd hx hb dX9_copyRow_22 (fun x10 ex10 => ?_)
        obtain ⟨hx10, ax10⟩ := rg_add 0 17 ex10 hx9 h6 (by decide)
        replace ax10 : x10.toInt = x9.toInt + x3_4.toInt := ax10
        replace ax10 : x10.toInt = x3_4.toInt + 0 := by have := hx9.1; have := hx9.2; omega
        refine r_iald X hT 104 rfl (by decide) (v_in hx10 (by decide)) dX9_copyRow_23 ?_
        refine r_iast X hT hS 104 rfl (by decide) (v_in hx8 (by decide)) dX9_copyRow_24 (fun H locs i11 ei11 hT hS => ?_)
        have hR11 := Rg_put hR2 ei11 0 60 rfl (Rg_at hR2 104 x10.toNatClampNeg 0 60 (v_lt (v_in hx10 (by decide))) rfl) (by decide)
        have hF11 := Fr_puti hF2 ei11 (by decide)
        obtain ⟨x12, ex12⟩ : ∃ y : Int32, y = x3_4 + 1 := ⟨_, rfl⟩
        refine lv_iinc (v := x12) (lv' := [(4, .int x12), (0, .ref (h 104)), (1, .int a_b), (2, .int a_c), (3, .int a_d)]) hx hb dX9_copyRow_25 hl (k := 4) rfl (by rw [ex12]; rfl) (by decide) rfl (fun ls hl => ?_)
        obtain ⟨hx12, ax12⟩ := rg_add 1 18 ex12 h6 (rg_k (by decide) : rg 1 1 1) (by decide)
        replace ax12 : x12.toInt = x3_4.toInt + 1 := ax12
        refine lv_goto (tgt := 3) hx hb dX9_copyRow_28 (by decide) ?_
        exact ih3_ x12 i11 g2 _ _ _ (rg_w hx12 (by decide) : rg 0 20 x12) hR11 hF11 hT hS (lv_sub hl [1, 2, 3, 4, 0] rfl) (m_up ax12 hx12 (by decide) hm3_)
  exact L3_1 _ (0) i g _ _ _ (rg_w (rg_k (by decide) : rg 0 0 0) (by decide) : rg 0 20 0) hR hF hT hS (lv_sub hl [1, 2, 3, 4, 0] rfl) (Nat.lt_succ_self _)
set_option maxRecDepth 100000 in
set_option maxHeartbeats 4000000 in
theorem m_X9_copyRow_105_20_0_1 {l : Launch} {D : va_G} {h : Nat → Nat} {cz : Nat → ClassId} {z : EZ} {i : Nat → Nat → Int32} {g : Nat → Nat → Int64} (hR : Rg rA i) (a_b : Int32) (a_c : Int32) (a_d : Int32) (ha_b : rg 20 20 a_b) (ha_c : rg 0 0 a_c) (ha_d : rg 1 1 a_d) : DtV l yX9_copyRow cX9_copyRow 5 none ({ frames := 0, cells := 0, slots := 0, locals := 0 } : Room) D h cz z i g [.ref (h 105), .int a_b, .int a_c, .int a_d] (fun u => Rg rA u.1 ∧ Fr [105] [] i g u) := by
  refine e_V pn_X9_copyRow (Nat.le_of_ble_eq_true rfl) ?_
  intro p e s m args below meth c ls Q X Y hret hT hl hS
  have hx := X.1
  have hb := X.2.1
  have hl : lv_has ls 5 [(0, .ref (h 105)), (1, .int a_b), (2, .int a_c), (3, .int a_d)] := hl
  have hF : Fr [105] [] i g (i, g) := Fr_rf _ _ _ _
  refine lv_iconst (v := 0) hx hb dX9_copyRow_0 (by decide) ?_
  refine lv_istore (lv' := [(4, .int 0), (0, .ref (h 105)), (1, .int a_b), (2, .int a_c), (3, .int a_d)]) hx hb dX9_copyRow_1 hl (by decide) rfl (fun ls hl => ?_)
  have L3_1 : ∀ (n3_ : Nat) (x3_4 : Int32) (i2 : Nat → Nat → Int32) (g2 : Nat → Nat → Int64) (H : Heap) (locs : List Loc) (ls : Array Slot), rg 0 20 x3_4 → Rg rA i2 → Fr [105] [] i g (i2, g2) → TH D h cz i2 g2 H → va_S (hA h) s.heap H locs → lv_has ls 5 [(0, .ref (h 105)), (1, .int a_b), (2, .int a_c), (3, .int a_d), (4, .int x3_4)] → (20 - x3_4.toInt).toNat < n3_ → W p l e ({ frames := 0, cells := 0, slots := 0, locals := 0 } : Room) s m args below meth c H locs 0 0 Q (F0 m 3 ls []) := by
    intro n3_
    induction n3_ with
    | zero => intro x3_4 i2 g2 H locs ls hhx3_4 hR2 hF2 hT hS hl hm3_; exact absurd hm3_ (Nat.not_lt_zero _)
    | succ n3_ ih3_ =>
      intro x3_4 i2 g2 H locs ls hhx3_4 hR2 hF2 hT hS hl hm3_
      refine lv_iload hx hb dX9_copyRow_3 (lv_at hl 4 rfl) ?_
      refine lv_iload_n hx hb dX9_copyRow_5 rfl (lv_at hl 1 rfl) ?_
      refine lv_icmp_ge (tgt := 31) hx hb dX9_copyRow_6 (by decide) (fun c4 => ?_) (fun c4 => ?_)
      ·
        have q4 : a_b.toInt ≤ x3_4.toInt := i_le c4
        have h5 : rg 20 20 x3_4 := t_ley 20 20 ha_b hhx3_4 (i_le c4) (by decide)
        exact hret _ _ _ _ _ _ dX9_copyRow_31 hT hS ⟨hR2, hF2⟩
      ·
        have q4 : x3_4.toInt < a_b.toInt := i_nle c4
        have h6 : rg 0 19 x3_4 := t_ltx 0 19 hhx3_4 ha_b (i_nle c4) (by decide)
        refine lv_aload_n hx hb dX9_copyRow_9 rfl (lv_at hl 0 rfl) ?_
        refine lv_iload_n hx hb dX9_copyRow_10 rfl (lv_at hl 1 rfl) ?_
        refine lv_iload_n hx hb dX9_copyRow_11 rfl (lv_at hl 3 rfl) ?_
        refine q_imul hx hb dX9_copyRow_12 (fun x7 ex7 => ?_)
        obtain ⟨hx7, ax7⟩ := rg_mul 20 20 ex7 ha_b ha_d (by decide)
        replace ax7 : x7.toInt = a_b.toInt * a_d.toInt := ax7
        refine lv_iload hx hb dX9_copyRow_13 (lv_at hl 4 rfl) ?_
        refine q_iadd hx hb dX9_copyRow_15 (fun x8 ex8 => ?_)
        obtain ⟨hx8, ax8⟩ := rg_add 20 39 ex8 hx7 h6 (by decide)
        replace ax8 : x8.toInt = x7.toInt + x3_4.toInt := ax8
        replace ax8 : x8.toInt = x3_4.toInt + 20 := by have := hx7.1; have := hx7.2; omega
        refine lv_aload_n hx hb dX9_copyRow_16 rfl (lv_at hl 0 rfl) ?_
        refine lv_iload_n hx hb dX9_copyRow_17 rfl (lv_at hl 1 rfl) ?_
        refine lv_iload_n hx hb dX9_copyRow_18 rfl (lv_at hl 2 rfl) ?_
        refine q_imul hx hb dX9_copyRow_19 (fun x9 ex9 => ?_)
        obtain ⟨hx9, ax9⟩ := rg_mul 0 0 ex9 ha_b ha_c (by decide)
        replace ax9 : x9.toInt = a_b.toInt * a_c.toInt := ax9
        refine lv_iload hx hb dX9_copyRow_20 (lv_at hl 4 rfl) ?_
        refine q_iadd hx hb dX9_copyRow_22 (fun x10 ex10 => ?_)
        obtain ⟨hx10, ax10⟩ := rg_add 0 19 ex10 hx9 h6 (by decide)
        replace ax10 : x10.toInt = x9.toInt + x3_4.toInt := ax10
        replace ax10 : x10.toInt = x3_4.toInt + 0 := by have := hx9.1; have := hx9.2; omega
        refine r_iald X hT 105 rfl (by decide) (v_in hx10 (by decide)) dX9_copyRow_23 ?_
        refine r_iast X hT hS 105 rfl (by decide) (v_in hx8 (by decide)) dX9_copyRow_24 (fun H locs i11 ei11 hT hS => ?_)
        have hR11 := Rg_put hR2 ei11 0 5 rfl (Rg_at hR2 105 x10.toNatClampNeg 0 5 (v_lt (v_in hx10 (by decide))) rfl) (by decide)
        have hF11 := Fr_puti hF2 ei11 (by decide)
        obtain ⟨x12, ex12⟩ : ∃ y : Int32, y = x3_4 + 1 := ⟨_, rfl⟩
        refine lv_iinc (v := x12) (lv' := [(4, .int x12), (0, .ref (h 105)), (1, .int a_b), (2, .int a_c), (3, .int a_d)]) hx hb dX9_copyRow_25 hl (k := 4) rfl (by rw [ex12]; rfl) (by decide) rfl (fun ls hl => ?_)
        obtain ⟨hx12, ax12⟩ := rg_add 1 20 ex12 h6 (rg_k (by decide) : rg 1 1 1) (by decide)
        replace ax12 : x12.toInt = x3_4.toInt + 1 := ax12
        refine lv_goto (tgt := 3) hx hb dX9_copyRow_28 (by decide) ?_
        exact ih3_ x12 i11 g2 _ _ _ (rg_w hx12 (by decide) : rg 0 20 x12) hR11 hF11 hT hS (lv_sub hl [1, 2, 3, 4, 0] rfl) (m_up ax12 hx12 (by decide) hm3_)
  exact L3_1 _ (0) i g _ _ _ (rg_w (rg_k (by decide) : rg 0 0 0) (by decide) : rg 0 20 0) hR hF hT hS (lv_sub hl [1, 2, 3, 4, 0] rfl) (Nat.lt_succ_self _)
set_option maxRecDepth 100000 in
set_option maxHeartbeats 4000000 in
theorem m_X9_copyRow_106_16_0_1 {l : Launch} {D : va_G} {h : Nat → Nat} {cz : Nat → ClassId} {z : EZ} {i : Nat → Nat → Int32} {g : Nat → Nat → Int64} (hR : Rg rA i) (a_b : Int32) (a_c : Int32) (a_d : Int32) (ha_b : rg 16 16 a_b) (ha_c : rg 0 0 a_c) (ha_d : rg 1 1 a_d) : DtV l yX9_copyRow cX9_copyRow 5 none ({ frames := 0, cells := 0, slots := 0, locals := 0 } : Room) D h cz z i g [.ref (h 106), .int a_b, .int a_c, .int a_d] (fun u => Rg rA u.1 ∧ Fr [106] [] i g u) := by
  refine e_V pn_X9_copyRow (Nat.le_of_ble_eq_true rfl) ?_
  intro p e s m args below meth c ls Q X Y hret hT hl hS
  have hx := X.1
  have hb := X.2.1
  have hl : lv_has ls 5 [(0, .ref (h 106)), (1, .int a_b), (2, .int a_c), (3, .int a_d)] := hl
  have hF : Fr [106] [] i g (i, g) := Fr_rf _ _ _ _
  refine lv_iconst (v := 0) hx hb dX9_copyRow_0 (by decide) ?_
  refine lv_istore (lv' := [(4, .int 0), (0, .ref (h 106)), (1, .int a_b), (2, .int a_c), (3, .int a_d)]) hx hb dX9_copyRow_1 hl (by decide) rfl (fun ls hl => ?_)
  have L3_1 : ∀ (n3_ : Nat) (x3_4 : Int32) (i2 : Nat → Nat → Int32) (g2 : Nat → Nat → Int64) (H : Heap) (locs : List Loc) (ls : Array Slot), rg 0 20 x3_4 → Rg rA i2 → Fr [106] [] i g (i2, g2) → TH D h cz i2 g2 H → va_S (hA h) s.heap H locs → lv_has ls 5 [(0, .ref (h 106)), (1, .int a_b), (2, .int a_c), (3, .int a_d), (4, .int x3_4)] → (20 - x3_4.toInt).toNat < n3_ → W p l e ({ frames := 0, cells := 0, slots := 0, locals := 0 } : Room) s m args below meth c H locs 0 0 Q (F0 m 3 ls []) := by
    intro n3_
    induction n3_ with
    | zero => intro x3_4 i2 g2 H locs ls hhx3_4 hR2 hF2 hT hS hl hm3_; exact absurd hm3_ (Nat.not_lt_zero _)
    | succ n3_ ih3_ =>
      intro x3_4 i2 g2 H locs ls hhx3_4 hR2 hF2 hT hS hl hm3_
      refine lv_iload hx hb dX9_copyRow_3 (lv_at hl 4 rfl) ?_
      refine lv_iload_n hx hb dX9_copyRow_5 rfl (lv_at hl 1 rfl) ?_
      refine lv_icmp_ge (tgt := 31) hx hb dX9_copyRow_6 (by decide) (fun c4 => ?_) (fun c4 => ?_)
      ·
        have q4 : a_b.toInt ≤ x3_4.toInt := i_le c4
        have h5 : rg 16 20 x3_4 := t_ley 16 20 ha_b hhx3_4 (i_le c4) (by decide)
        exact hret _ _ _ _ _ _ dX9_copyRow_31 hT hS ⟨hR2, hF2⟩
      ·
        have q4 : x3_4.toInt < a_b.toInt := i_nle c4
        have h6 : rg 0 15 x3_4 := t_ltx 0 15 hhx3_4 ha_b (i_nle c4) (by decide)
        refine lv_aload_n hx hb dX9_copyRow_9 rfl (lv_at hl 0 rfl) ?_
        refine lv_iload_n hx hb dX9_copyRow_10 rfl (lv_at hl 1 rfl) ?_
        refine lv_iload_n hx hb dX9_copyRow_11 rfl (lv_at hl 3 rfl) ?_
        refine q_imul hx hb dX9_copyRow_12 (fun x7 ex7 => ?_)
        obtain ⟨hx7, ax7⟩ := rg_mul 16 16 ex7 ha_b ha_d (by decide)
        replace ax7 : x7.toInt = a_b.toInt * a_d.toInt := ax7
        refine lv_iload hx hb dX9_copyRow_13 (lv_at hl 4 rfl) ?_
        refine q_iadd hx hb dX9_copyRow_15 (fun x8 ex8 => ?_)
        obtain ⟨hx8, ax8⟩ := rg_add 16 31 ex8 hx7 h6 (by decide)
        replace ax8 : x8.toInt = x7.toInt + x3_4.toInt := ax8
        replace ax8 : x8.toInt = x3_4.toInt + 16 := by have := hx7.1; have := hx7.2; omega
        refine lv_aload_n hx hb dX9_copyRow_16 rfl (lv_at hl 0 rfl) ?_
        refine lv_iload_n hx hb dX9_copyRow_17 rfl (lv_at hl 1 rfl) ?_
        refine lv_iload_n hx hb dX9_copyRow_18 rfl (lv_at hl 2 rfl) ?_
        refine q_imul hx hb dX9_copyRow_19 (fun x9 ex9 => ?_)
        obtain ⟨hx9, ax9⟩ := rg_mul 0 0 ex9 ha_b ha_c (by decide)
        replace ax9 : x9.toInt = a_b.toInt * a_c.toInt := ax9
        refine lv_iload hx hb dX9_copyRow_20 (lv_at hl 4 rfl) ?_
        refine q_iadd hx hb dX9_copyRow_22 (fun x10 ex10 => ?_)
        obtain ⟨hx10, ax10⟩ := rg_add 0 15 ex10 hx9 h6 (by decide)
        replace ax10 : x10.toInt = x9.toInt + x3_4.toInt := ax10
        replace ax10 : x10.toInt = x3_4.toInt + 0 := by have := hx9.1; have := hx9.2; omega
        refine r_iald X hT 106 rfl (by decide) (v_in hx10 (by decide)) dX9_copyRow_23 ?_
        have h11 : rg 0 11 (i2 106 x10.toNatClampNeg) := Rg_ata hR2 106 x10.toNatClampNeg 0 11 (v_lt (v_in hx10 (by decide))) (aff_at (m := 1) (a := 0) (n := 16) (c := 0) (by decide) (v := x3_4.toInt) ⟨by have := h6.1; omega, by have := h6.2; omega⟩ (by have := ax10; omega))
        refine r_iast X hT hS 106 rfl (by decide) (v_in hx8 (by decide)) dX9_copyRow_24 (fun H locs i12 ei12 hT hS => ?_)
        have hR12 := Rg_mv hR2 ei12 (v_lt (v_in hx10 (by decide))) (aff_mv (T := rA) (j := 106) (m := 1) (a := 0) (n := 16) (c := 16) (c1 := 0) (by decide) (v := x3_4.toInt) ⟨by have := h6.1; omega, by have := h6.2; omega⟩ (by have := ax8; omega) (by have := ax10; omega))
        have hF12 := Fr_puti hF2 ei12 (by decide)
        obtain ⟨x13, ex13⟩ : ∃ y : Int32, y = x3_4 + 1 := ⟨_, rfl⟩
        refine lv_iinc (v := x13) (lv' := [(4, .int x13), (0, .ref (h 106)), (1, .int a_b), (2, .int a_c), (3, .int a_d)]) hx hb dX9_copyRow_25 hl (k := 4) rfl (by rw [ex13]; rfl) (by decide) rfl (fun ls hl => ?_)
        obtain ⟨hx13, ax13⟩ := rg_add 1 16 ex13 h6 (rg_k (by decide) : rg 1 1 1) (by decide)
        replace ax13 : x13.toInt = x3_4.toInt + 1 := ax13
        refine lv_goto (tgt := 3) hx hb dX9_copyRow_28 (by decide) ?_
        exact ih3_ x13 i12 g2 _ _ _ (rg_w hx13 (by decide) : rg 0 20 x13) hR12 hF12 hT hS (lv_sub hl [1, 2, 3, 4, 0] rfl) (m_up ax13 hx13 (by decide) hm3_)
  exact L3_1 _ (0) i g _ _ _ (rg_w (rg_k (by decide) : rg 0 0 0) (by decide) : rg 0 20 0) hR hF hT hS (lv_sub hl [1, 2, 3, 4, 0] rfl) (Nat.lt_succ_self _)
set_option maxRecDepth 100000 in
set_option maxHeartbeats 4000000 in
theorem m_X9_copyRow_107_60_0_1 {l : Launch} {D : va_G} {h : Nat → Nat} {cz : Nat → ClassId} {z : EZ} {i : Nat → Nat → Int32} {g : Nat → Nat → Int64} (hR : Rg rA i) (a_b : Int32) (a_c : Int32) (a_d : Int32) (ha_b : rg 60 60 a_b) (ha_c : rg 0 0 a_c) (ha_d : rg 1 1 a_d) : DtV l yX9_copyRow cX9_copyRow 5 none ({ frames := 0, cells := 0, slots := 0, locals := 0 } : Room) D h cz z i g [.ref (h 107), .int a_b, .int a_c, .int a_d] (fun u => Rg rA u.1 ∧ Fr [107] [] i g u) := by
  refine e_V pn_X9_copyRow (Nat.le_of_ble_eq_true rfl) ?_
  intro p e s m args below meth c ls Q X Y hret hT hl hS
  have hx := X.1
  have hb := X.2.1
  have hl : lv_has ls 5 [(0, .ref (h 107)), (1, .int a_b), (2, .int a_c), (3, .int a_d)] := hl
  have hF : Fr [107] [] i g (i, g) := Fr_rf _ _ _ _
  refine lv_iconst (v := 0) hx hb dX9_copyRow_0 (by decide) ?_
  refine lv_istore (lv' := [(4, .int 0), (0, .ref (h 107)), (1, .int a_b), (2, .int a_c), (3, .int a_d)]) hx hb dX9_copyRow_1 hl (by decide) rfl (fun ls hl => ?_)
  have L3_1 : ∀ (n3_ : Nat) (x3_4 : Int32) (i2 : Nat → Nat → Int32) (g2 : Nat → Nat → Int64) (H : Heap) (locs : List Loc) (ls : Array Slot), rg 0 60 x3_4 → Rg rA i2 → Fr [107] [] i g (i2, g2) → TH D h cz i2 g2 H → va_S (hA h) s.heap H locs → lv_has ls 5 [(0, .ref (h 107)), (1, .int a_b), (2, .int a_c), (3, .int a_d), (4, .int x3_4)] → (60 - x3_4.toInt).toNat < n3_ → W p l e ({ frames := 0, cells := 0, slots := 0, locals := 0 } : Room) s m args below meth c H locs 0 0 Q (F0 m 3 ls []) := by
    intro n3_
    induction n3_ with
    | zero => intro x3_4 i2 g2 H locs ls hhx3_4 hR2 hF2 hT hS hl hm3_; exact absurd hm3_ (Nat.not_lt_zero _)
    | succ n3_ ih3_ =>
      intro x3_4 i2 g2 H locs ls hhx3_4 hR2 hF2 hT hS hl hm3_
      refine lv_iload hx hb dX9_copyRow_3 (lv_at hl 4 rfl) ?_
      refine lv_iload_n hx hb dX9_copyRow_5 rfl (lv_at hl 1 rfl) ?_
      refine lv_icmp_ge (tgt := 31) hx hb dX9_copyRow_6 (by decide) (fun c4 => ?_) (fun c4 => ?_)
      ·
        have q4 : a_b.toInt ≤ x3_4.toInt := i_le c4
        have h5 : rg 60 60 x3_4 := t_ley 60 60 ha_b hhx3_4 (i_le c4) (by decide)
        exact hret _ _ _ _ _ _ dX9_copyRow_31 hT hS ⟨hR2, hF2⟩
      ·
        have q4 : x3_4.toInt < a_b.toInt := i_nle c4
        have h6 : rg 0 59 x3_4 := t_ltx 0 59 hhx3_4 ha_b (i_nle c4) (by decide)
        refine lv_aload_n hx hb dX9_copyRow_9 rfl (lv_at hl 0 rfl) ?_
        refine lv_iload_n hx hb dX9_copyRow_10 rfl (lv_at hl 1 rfl) ?_
        refine lv_iload_n hx hb dX9_copyRow_11 rfl (lv_at hl 3 rfl) ?_
        refine q_imul hx hb dX9_copyRow_12 (fun x7 ex7 => ?_)
        obtain ⟨hx7, ax7⟩ := rg_mul 60 60 ex7 ha_b ha_d (by decide)
        replace ax7 : x7.toInt = a_b.toInt * a_d.toInt := ax7
        refine lv_iload hx hb dX9_copyRow_13 (lv_at hl 4 rfl) ?_
        refine q_iadd hx hb dX9_copyRow_15 (fun x8 ex8 => ?_)
        obtain ⟨hx8, ax8⟩ := rg_add 60 119 ex8 hx7 h6 (by decide)
        replace ax8 : x8.toInt = x7.toInt + x3_4.toInt := ax8
        replace ax8 : x8.toInt = x3_4.toInt + 60 := by have := hx7.1; have := hx7.2; omega
        refine lv_aload_n hx hb dX9_copyRow_16 rfl (lv_at hl 0 rfl) ?_
        refine lv_iload_n hx hb dX9_copyRow_17 rfl (lv_at hl 1 rfl) ?_
        refine lv_iload_n hx hb dX9_copyRow_18 rfl (lv_at hl 2 rfl) ?_
        refine q_imul hx hb dX9_copyRow_19 (fun x9 ex9 => ?_)
        obtain ⟨hx9, ax9⟩ := rg_mul 0 0 ex9 ha_b ha_c (by decide)
        replace ax9 : x9.toInt = a_b.toInt * a_c.toInt := ax9
        refine lv_iload hx hb dX9_copyRow_20 (lv_at hl 4 rfl) ?_
        refine q_iadd hx hb dX9_copyRow_22 (fun x10 ex10 => ?_)
        obtain ⟨hx10, ax10⟩ := rg_add 0 59 ex10 hx9 h6 (by decide)
        replace ax10 : x10.toInt = x9.toInt + x3_4.toInt := ax10
        replace ax10 : x10.toInt = x3_4.toInt + 0 := by have := hx9.1; have := hx9.2; omega
        refine r_iald X hT 107 rfl (by decide) (v_in hx10 (by decide)) dX9_copyRow_23 ?_
        have h11 : rg 0 11 (i2 107 x10.toNatClampNeg) := Rg_ata hR2 107 x10.toNatClampNeg 0 11 (v_lt (v_in hx10 (by decide))) (aff_at (m := 1) (a := 0) (n := 60) (c := 0) (by decide) (v := x3_4.toInt) ⟨by have := h6.1; omega, by have := h6.2; omega⟩ (by have := ax10; omega))
        refine r_iast X hT hS 107 rfl (by decide) (v_in hx8 (by decide)) dX9_copyRow_24 (fun H locs i12 ei12 hT hS => ?_)
        have hR12 := Rg_mv hR2 ei12 (v_lt (v_in hx10 (by decide))) (aff_mv (T := rA) (j := 107) (m := 1) (a := 0) (n := 60) (c := 60) (c1 := 0) (by decide) (v := x3_4.toInt) ⟨by have := h6.1; omega, by have := h6.2; omega⟩ (by have := ax8; omega) (by have := ax10; omega))
        have hF12 := Fr_puti hF2 ei12 (by decide)
        obtain ⟨x13, ex13⟩ : ∃ y : Int32, y = x3_4 + 1 := ⟨_, rfl⟩
        refine lv_iinc (v := x13) (lv' := [(4, .int x13), (0, .ref (h 107)), (1, .int a_b), (2, .int a_c), (3, .int a_d)]) hx hb dX9_copyRow_25 hl (k := 4) rfl (by rw [ex13]; rfl) (by decide) rfl (fun ls hl => ?_)
        obtain ⟨hx13, ax13⟩ := rg_add 1 60 ex13 h6 (rg_k (by decide) : rg 1 1 1) (by decide)
        replace ax13 : x13.toInt = x3_4.toInt + 1 := ax13
        refine lv_goto (tgt := 3) hx hb dX9_copyRow_28 (by decide) ?_
        exact ih3_ x13 i12 g2 _ _ _ (rg_w hx13 (by decide) : rg 0 60 x13) hR12 hF12 hT hS (lv_sub hl [1, 2, 3, 4, 0] rfl) (m_up ax13 hx13 (by decide) hm3_)
  exact L3_1 _ (0) i g _ _ _ (rg_w (rg_k (by decide) : rg 0 0 0) (by decide) : rg 0 60 0) hR hF hT hS (lv_sub hl [1, 2, 3, 4, 0] rfl) (Nat.lt_succ_self _)
set_option maxRecDepth 100000 in
set_option maxHeartbeats 4000000 in
theorem m_X9_copyRow_102_1_0_2 {l : Launch} {D : va_G} {h : Nat → Nat} {cz : Nat → ClassId} {z : EZ} {i : Nat → Nat → Int32} {g : Nat → Nat → Int64} (hR : Rg rA i) (a_b : Int32) (a_c : Int32) (a_d : Int32) (ha_b : rg 1 1 a_b) (ha_c : rg 0 0 a_c) (ha_d : rg 2 2 a_d) : DtV l yX9_copyRow cX9_copyRow 5 none ({ frames := 0, cells := 0, slots := 0, locals := 0 } : Room) D h cz z i g [.ref (h 102), .int a_b, .int a_c, .int a_d] (fun u => Rg rA u.1 ∧ Fr [102] [] i g u) := by
  refine e_V pn_X9_copyRow (Nat.le_of_ble_eq_true rfl) ?_
  intro p e s m args below meth c ls Q X Y hret hT hl hS
  have hx := X.1
  have hb := X.2.1
  have hl : lv_has ls 5 [(0, .ref (h 102)), (1, .int a_b), (2, .int a_c), (3, .int a_d)] := hl
  have hF : Fr [102] [] i g (i, g) := Fr_rf _ _ _ _
  refine lv_iconst (v := 0) hx hb dX9_copyRow_0 (by decide) ?_
  refine lv_istore (lv' := [(4, .int 0), (0, .ref (h 102)), (1, .int a_b), (2, .int a_c), (3, .int a_d)]) hx hb dX9_copyRow_1 hl (by decide) rfl (fun ls hl => ?_)
  have L3_1 : ∀ (n3_ : Nat) (x3_4 : Int32) (i2 : Nat → Nat → Int32) (g2 : Nat → Nat → Int64) (H : Heap) (locs : List Loc) (ls : Array Slot), rg 0 1 x3_4 → Rg rA i2 → Fr [102] [] i g (i2, g2) → TH D h cz i2 g2 H → va_S (hA h) s.heap H locs → lv_has ls 5 [(0, .ref (h 102)), (1, .int a_b), (2, .int a_c), (3, .int a_d), (4, .int x3_4)] → (1 - x3_4.toInt).toNat < n3_ → W p l e ({ frames := 0, cells := 0, slots := 0, locals := 0 } : Room) s m args below meth c H locs 0 0 Q (F0 m 3 ls []) := by
    intro n3_
    induction n3_ with
    | zero => intro x3_4 i2 g2 H locs ls hhx3_4 hR2 hF2 hT hS hl hm3_; exact absurd hm3_ (Nat.not_lt_zero _)
    | succ n3_ ih3_ =>
      intro x3_4 i2 g2 H locs ls hhx3_4 hR2 hF2 hT hS hl hm3_
      refine lv_iload hx hb dX9_copyRow_3 (lv_at hl 4 rfl) ?_
      refine lv_iload_n hx hb dX9_copyRow_5 rfl (lv_at hl 1 rfl) ?_
      refine lv_icmp_ge (tgt := 31) hx hb dX9_copyRow_6 (by decide) (fun c4 => ?_) (fun c4 => ?_)
      ·
        have q4 : a_b.toInt ≤ x3_4.toInt := i_le c4
        have h5 : rg 1 1 x3_4 := t_ley 1 1 ha_b hhx3_4 (i_le c4) (by decide)
        exact hret _ _ _ _ _ _ dX9_copyRow_31 hT hS ⟨hR2, hF2⟩
      ·
        have q4 : x3_4.toInt < a_b.toInt := i_nle c4
        have h6 : rg 0 0 x3_4 := t_ltx 0 0 hhx3_4 ha_b (i_nle c4) (by decide)
        refine lv_aload_n hx hb dX9_copyRow_9 rfl (lv_at hl 0 rfl) ?_
        refine lv_iload_n hx hb dX9_copyRow_10 rfl (lv_at hl 1 rfl) ?_
        refine lv_iload_n hx hb dX9_copyRow_11 rfl (lv_at hl 3 rfl) ?_
        refine q_imul hx hb dX9_copyRow_12 (fun x7 ex7 => ?_)
        obtain ⟨hx7, ax7⟩ := rg_mul 2 2 ex7 ha_b ha_d (by decide)
        replace ax7 : x7.toInt = a_b.toInt * a_d.toInt := ax7
        refine lv_iload hx hb dX9_copyRow_13 (lv_at hl 4 rfl) ?_
        refine q_iadd hx hb dX9_copyRow_15 (fun x8 ex8 => ?_)
        obtain ⟨hx8, ax8⟩ := rg_add 2 2 ex8 hx7 h6 (by decide)
        replace ax8 : x8.toInt = x7.toInt + x3_4.toInt := ax8
        replace ax8 : x8.toInt = x7.toInt + 0 := by have := h6.1; have := h6.2; omega
        refine lv_aload_n hx hb dX9_copyRow_16 rfl (lv_at hl 0 rfl) ?_
        refine lv_iload_n hx hb dX9_copyRow_17 rfl (lv_at hl 1 rfl) ?_
        refine lv_iload_n hx hb dX9_copyRow_18 rfl (lv_at hl 2 rfl) ?_
        refine q_imul hx hb dX9_copyRow_19 (fun x9 ex9 => ?_)
        obtain ⟨hx9, ax9⟩ := rg_mul 0 0 ex9 ha_b ha_c (by decide)
        replace ax9 : x9.toInt = a_b.toInt * a_c.toInt := ax9
        refine lv_iload hx hb dX9_copyRow_20 (lv_at hl 4 rfl) ?_
        refine q_iadd hx hb dX9_copyRow_22 (fun x10 ex10 => ?_)
        obtain ⟨hx10, ax10⟩ := rg_add 0 0 ex10 hx9 h6 (by decide)
        replace ax10 : x10.toInt = x9.toInt + x3_4.toInt := ax10
        replace ax10 : x10.toInt = x9.toInt + 0 := by have := h6.1; have := h6.2; omega
        refine r_ialdc X hT 102 0 rfl (by decide) (v_in hx10 (by decide)) (cl_c hx10 0 rfl (by decide)) dX9_copyRow_23 ?_
        refine r_iastc X hT hS 102 2 rfl (by decide) (v_in hx8 (by decide)) (cl_c hx8 2 rfl (by decide)) dX9_copyRow_24 (fun H locs i11 ei11 hT hS => ?_)
        have hR11 := Rg_put hR2 ei11 (-2147483648) 2147483647 rfl (rg_top (i2 102 0)) (by decide)
        have hF11 := Fr_puti hF2 ei11 (by decide)
        obtain ⟨x12, ex12⟩ : ∃ y : Int32, y = x3_4 + 1 := ⟨_, rfl⟩
        refine lv_iinc (v := x12) (lv' := [(4, .int x12), (0, .ref (h 102)), (1, .int a_b), (2, .int a_c), (3, .int a_d)]) hx hb dX9_copyRow_25 hl (k := 4) rfl (by rw [ex12]; rfl) (by decide) rfl (fun ls hl => ?_)
        obtain ⟨hx12, ax12⟩ := rg_add 1 1 ex12 h6 (rg_k (by decide) : rg 1 1 1) (by decide)
        replace ax12 : x12.toInt = x3_4.toInt + 1 := ax12
        refine lv_goto (tgt := 3) hx hb dX9_copyRow_28 (by decide) ?_
        exact ih3_ x12 i11 g2 _ _ _ (rg_w hx12 (by decide) : rg 0 1 x12) hR11 hF11 hT hS (lv_sub hl [1, 2, 3, 4, 0] rfl) (m_up ax12 hx12 (by decide) hm3_)
  exact L3_1 _ (0) i g _ _ _ (rg_w (rg_k (by decide) : rg 0 0 0) (by decide) : rg 0 1 0) hR hF hT hS (lv_sub hl [1, 2, 3, 4, 0] rfl) (Nat.lt_succ_self _)
