set_option maxRecDepth 100000 in
set_option maxHeartbeats 4000000 in
theorem m_J7_fill_d0a16_92 {l : Launch} {D : va_G} {h : Nat → Nat} {cz : Nat → ClassId} {z : EZ} {i : Nat → Nat → Int32} {g : Nat → Nat → Int64} (hR : Rg rA i) (a_b : Int64) : DtV l yJ7_fill_d0a16 cJ7_fill_d0a16 5 none ({ frames := 0, cells := 0, slots := 0, locals := 0 } : Room) D h cz z i g [.ref (h 92), .long a_b] (fun u => Rg rA u.1 ∧ Fr [] [92] i g u) := by
  refine e_V pn_J7_fill_d0a16 (Nat.le_of_ble_eq_true rfl) ?_
  intro p e s m args below meth c ls Q X Y hret hT hl hS
  have hx := X.1
  have hb := X.2.1
  have hl : lv_has ls 5 [(0, .ref (h 92)), (1, .long a_b)] := hl
  have hF : Fr [] [92] i g (i, g) := Fr_rf _ _ _ _
  refine lv_iconst (v := 0) hx hb dJ7_fill_d0a16_0 (by decide) ?_
  refine lv_istore_n (lv' := [(3, .int 0), (0, .ref (h 92)), (1, .long a_b)]) hx hb dJ7_fill_d0a16_1 rfl hl (by decide) rfl (fun ls hl => ?_)
  refine lv_aload_n hx hb dJ7_fill_d0a16_2 rfl (lv_at hl 1 rfl) ?_
  refine r_alen (v := 6) X hT 92 rfl (by decide) (by decide) (by decide) dJ7_fill_d0a16_3 ?_
  refine lv_istore (lv' := [(4, .int 6), (3, .int 0), (0, .ref (h 92)), (1, .long a_b)]) hx hb dJ7_fill_d0a16_4 hl (by decide) rfl (fun ls hl => ?_)
  have L6_1 : ∀ (n3_ : Nat) (x6_3 : Int32) (g2 : Nat → Nat → Int64) (H : Heap) (locs : List Loc) (ls : Array Slot), rg 0 6 x6_3 → Fr [] [92] i g (i, g2) → TH D h cz i g2 H → va_S (hA h) s.heap H locs → lv_has ls 5 [(0, .ref (h 92)), (1, .long a_b), (3, .int x6_3), (4, .int 6)] → (6 - x6_3.toInt).toNat < n3_ → W p l e ({ frames := 0, cells := 0, slots := 0, locals := 0 } : Room) s m args below meth c H locs 0 0 Q (F0 m 6 ls []) := by
    intro n3_
    induction n3_ with
    | zero => intro x6_3 g2 H locs ls hhx6_3 hF2 hT hS hl hm3_; exact absurd hm3_ (Nat.not_lt_zero _)
    | succ n3_ ih3_ =>
      intro x6_3 g2 H locs ls hhx6_3 hF2 hT hS hl hm3_
      refine lv_iload_n hx hb dJ7_fill_d0a16_6 rfl (lv_at hl 2 rfl) ?_
      refine lv_iload hx hb dJ7_fill_d0a16_7 (lv_at hl 3 rfl) ?_
      refine lv_icmp_ge (tgt := 22) hx hb dJ7_fill_d0a16_9 (by decide) (fun c4 => ?_) (fun c4 => ?_)
      ·
        have q4 : 6 ≤ x6_3.toInt := i_le c4
        have h5 : rg 6 6 x6_3 := t_ley 6 6 (rg_k (by decide) : rg 6 6 6) hhx6_3 (i_le c4) (by decide)
        exact hret _ _ _ _ _ _ dJ7_fill_d0a16_22 hT hS ⟨hR, hF2⟩
      ·
        have q4 : x6_3.toInt < 6 := i_nle c4
        have h6 : rg 0 5 x6_3 := t_ltx 0 5 hhx6_3 (rg_k (by decide) : rg 6 6 6) (i_nle c4) (by decide)
        refine lv_aload_n hx hb dJ7_fill_d0a16_12 rfl (lv_at hl 0 rfl) ?_
        refine lv_iload_n hx hb dJ7_fill_d0a16_13 rfl (lv_at hl 2 rfl) ?_
        refine lv_lload_n hx hb dJ7_fill_d0a16_14 rfl (lv_at hl 1 rfl) ?_
        refine r_last X hT hS 92 rfl (by decide) (v_in h6 (by decide)) dJ7_fill_d0a16_15 (fun H locs g7 eg7 hT hS => ?_)
        have hF7 := Fr_putl hF2 eg7 (by decide)
        obtain ⟨x8, ex8⟩ : ∃ y : Int32, y = x6_3 + 1 := ⟨_, rfl⟩
        refine lv_iinc (v := x8) (lv' := [(3, .int x8), (0, .ref (h 92)), (1, .long a_b), (4, .int 6)]) hx hb dJ7_fill_d0a16_16 hl (k := 2) rfl (by rw [ex8]; rfl) (by decide) rfl (fun ls hl => ?_)
        obtain ⟨hx8, ax8⟩ := rg_add 1 6 ex8 h6 (rg_k (by decide) : rg 1 1 1) (by decide)
        replace ax8 : x8.toInt = x6_3.toInt + 1 := ax8
        refine lv_goto (tgt := 6) hx hb dJ7_fill_d0a16_19 (by decide) ?_
        exact ih3_ x8 g7 _ _ _ (rg_w hx8 (by decide) : rg 0 6 x8) hF7 hT hS (lv_sub hl [1, 2, 0, 3] rfl) (m_up ax8 hx8 (by decide) hm3_)
  exact L6_1 _ (0) g _ _ _ (rg_w (rg_k (by decide) : rg 0 0 0) (by decide) : rg 0 6 0) hF hT hS (lv_sub hl [2, 3, 1, 0] rfl) (Nat.lt_succ_self _)
set_option maxRecDepth 100000 in
set_option maxHeartbeats 4000000 in
theorem m_X2_weightOf_91 {l : Launch} {D : va_G} {h : Nat → Nat} {cz : Nat → ClassId} {z : EZ} {i : Nat → Nat → Int32} {g : Nat → Nat → Int64} (hR : Rg rA i) (a_a : Int32) : DtL l yX2_weightOf cX2_weightOf 5 (some .long) ({ frames := 1, cells := 0, slots := 0, locals := 21 } : Room) D h cz z i g [.ref (h 91), .int a_a] (fun r u => u = (i, g)) := by
  refine e_L pn_X2_weightOf (Nat.le_of_ble_eq_true rfl) ?_
  intro p e s m args below meth c ls Q X Y hret hT hl hS
  have hx := X.1
  have hb := X.2.1
  have hl : lv_has ls 5 [(0, .ref (h 91)), (1, .int a_a)] := hl
  refine lv_lconst (v := 1) hx hb dX2_weightOf_0 (by decide) ?_
  refine lv_lstore_n (lv' := [(2, .long 1), (0, .ref (h 91)), (1, .int a_a)]) hx hb dX2_weightOf_1 rfl hl (by decide) rfl (fun ls hl => ?_)
  refine lv_iconst (v := 0) hx hb dX2_weightOf_2 (by decide) ?_
  refine lv_istore (lv' := [(4, .int 0), (2, .long 1), (0, .ref (h 91)), (1, .int a_a)]) hx hb dX2_weightOf_3 hl (by decide) rfl (fun ls hl => ?_)
  have L5_1 : ∀ (n2_ : Nat) (y5_2 : Int64) (x5_4 : Int32) (H : Heap) (locs : List Loc) (ls : Array Slot), rg 0 8 x5_4 → TH D h cz i g H → va_S (hA h) s.heap H locs → lv_has ls 5 [(0, .ref (h 91)), (1, .int a_a), (2, .long y5_2), (4, .int x5_4)] → (8 - x5_4.toInt).toNat < n2_ → W p l e ({ frames := 1, cells := 0, slots := 0, locals := 21 } : Room) s m args below meth c H locs 0 0 Q (F0 m 5 ls []) := by
    intro n2_
    induction n2_ with
    | zero => intro y5_2 x5_4 H locs ls hhx5_4 hT hS hl hm2_; exact absurd hm2_ (Nat.not_lt_zero _)
    | succ n2_ ih2_ =>
      intro y5_2 x5_4 H locs ls hhx5_4 hT hS hl hm2_
      refine lv_iload hx hb dX2_weightOf_5 (lv_at hl 3 rfl) ?_
      refine lv_aload_n hx hb dX2_weightOf_7 rfl (lv_at hl 0 rfl) ?_
      refine r_getr X hT 91 0 15 fk_2_15 rfl rfl (by decide) dX2_weightOf_8 ?_
      refine r_geti X hT 15 15 fk_2_62 rfl rfl (by decide) dX2_weightOf_11 ?_
      refine lv_icmp_ge (tgt := 57) hx hb dX2_weightOf_14 (by decide) (fun c3 => ?_) (fun c3 => ?_)
      ·
        have q3 : (i 15 15).toInt ≤ x5_4.toInt := i_le c3
        refine lv_lload_n hx hb dX2_weightOf_57 rfl (lv_at hl 2 rfl) ?_
        exact hret y5_2 _ _ _ _ _ _ dX2_weightOf_58 hT hS rfl
      ·
        have q3 : x5_4.toInt < (i 15 15).toInt := i_nle c3
        have h4 : rg 0 7 x5_4 := t_ltx 0 7 hhx5_4 (Rg_at hR 15 15 0 8 (by decide) rfl) (i_nle c3) (by decide)
        have h5 : rg 1 8 (i 15 15) := t_lty 1 8 hhx5_4 (Rg_at hR 15 15 0 8 (by decide) rfl) (i_nle c3) (by decide)
        refine lv_lload_n hx hb dX2_weightOf_17 rfl (lv_at hl 2 rfl) ?_
        refine lv_iload_n hx hb dX2_weightOf_18 rfl (lv_at hl 1 rfl) ?_
        refine lv_iload hx hb dX2_weightOf_19 (lv_at hl 3 rfl) ?_
        refine e_Ni (As := [.int a_a, .int x5_4]) (rest := [.long y5_2]) X Y hT hS (m_X8_hasBit a_a x5_4) sk_X8_hasBit Y.n3 hd_X8_hasBit ⟨rfl, rfl⟩ ⟨Nat.le_of_ble_eq_true rfl, Nat.le_of_ble_eq_true rfl⟩ hl.1 rfl (Nat.le_of_ble_eq_true rfl) dX2_weightOf_21 ⟨Nat.zero_le _, Nat.zero_le _⟩ (fun r6 i6 g6 H locs hq hT hS => ?_)
        obtain ⟨eh6, hr6⟩ := hq
        rw [(Prod.mk.inj eh6).1, (Prod.mk.inj eh6).2] at hT
        refine lv_if_eq (tgt := 38) hx hb dX2_weightOf_24 (by decide) (fun c7 => ?_) (fun c7 => ?_)
        ·
          have q7 : r6.toInt = 0 := i_eq c7
          have h8 : rg 0 0 r6 := t_eqx 0 0 hr6 (rg_k (by decide) : rg 0 0 0) (i_eq c7) (by decide)
          refine lv_bipush (v := 10) hx hb dX2_weightOf_38 (by decide) ?_
          refine lv_aload_n hx hb dX2_weightOf_40 rfl (lv_at hl 0 rfl) ?_
          refine r_getr X hT 91 0 15 fk_2_15 rfl rfl (by decide) dX2_weightOf_41 ?_
          refine r_geti X hT 15 12 fk_2_70 rfl rfl (by decide) dX2_weightOf_44 ?_
          refine q_isub hx hb dX2_weightOf_47 (fun x9 ex9 => ?_)
          refine q_i2l hx hb dX2_weightOf_48 (fun y10 ey10 => ?_)
          obtain ⟨hy10, ay10⟩ := rg_i2l ey10 (rg_top x9)
          refine q_lmul hx hb dX2_weightOf_49 (fun y11 ey11 => ?_)
          refine lv_lstore_n (lv' := [(2, .long y11), (0, .ref (h 91)), (1, .int a_a), (4, .int x5_4)]) hx hb dX2_weightOf_50 rfl hl (by decide) rfl (fun ls hl => ?_)
          obtain ⟨x12, ex12⟩ : ∃ y : Int32, y = x5_4 + 1 := ⟨_, rfl⟩
          refine lv_iinc (v := x12) (lv' := [(4, .int x12), (2, .long y11), (0, .ref (h 91)), (1, .int a_a)]) hx hb dX2_weightOf_51 hl (k := 3) rfl (by rw [ex12]; rfl) (by decide) rfl (fun ls hl => ?_)
          obtain ⟨hx12, ax12⟩ := rg_add 1 8 ex12 h4 (rg_k (by decide) : rg 1 1 1) (by decide)
          replace ax12 : x12.toInt = x5_4.toInt + 1 := ax12
          refine lv_goto (tgt := 5) hx hb dX2_weightOf_54 (by decide) ?_
          exact ih2_ y11 x12 _ _ _ (rg_w hx12 (by decide) : rg 0 8 x12) hT hS (lv_sub hl [2, 3, 1, 0] rfl) (m_up ax12 hx12 (by decide) hm2_)
        ·
          have q7 : ¬ r6.toInt = 0 := i_ne c7
          have h13 : rg 1 1 r6 := t_nelo 1 hr6 (rg_k (by decide) : rg 0 0 0) (i_ne c7) (by decide)
          refine lv_aload_n hx hb dX2_weightOf_27 rfl (lv_at hl 0 rfl) ?_
          refine r_getr X hT 91 0 15 fk_2_15 rfl rfl (by decide) dX2_weightOf_28 ?_
          refine r_geti X hT 15 12 fk_2_70 rfl rfl (by decide) dX2_weightOf_31 ?_
          refine q_i2l hx hb dX2_weightOf_34 (fun y14 ey14 => ?_)
          obtain ⟨hy14, ay14⟩ := rg_i2l ey14 (rg_top (i 15 12))
          refine lv_goto (tgt := 49) hx hb dX2_weightOf_35 (by decide) ?_
          refine q_lmul hx hb dX2_weightOf_49 (fun y15 ey15 => ?_)
          refine lv_lstore_n (lv' := [(2, .long y15), (0, .ref (h 91)), (1, .int a_a), (4, .int x5_4)]) hx hb dX2_weightOf_50 rfl hl (by decide) rfl (fun ls hl => ?_)
          obtain ⟨x16, ex16⟩ : ∃ y : Int32, y = x5_4 + 1 := ⟨_, rfl⟩
          refine lv_iinc (v := x16) (lv' := [(4, .int x16), (2, .long y15), (0, .ref (h 91)), (1, .int a_a)]) hx hb dX2_weightOf_51 hl (k := 3) rfl (by rw [ex16]; rfl) (by decide) rfl (fun ls hl => ?_)
          obtain ⟨hx16, ax16⟩ := rg_add 1 8 ex16 h4 (rg_k (by decide) : rg 1 1 1) (by decide)
          replace ax16 : x16.toInt = x5_4.toInt + 1 := ax16
          refine lv_goto (tgt := 5) hx hb dX2_weightOf_54 (by decide) ?_
          exact ih2_ y15 x16 _ _ _ (rg_w hx16 (by decide) : rg 0 8 x16) hT hS (lv_sub hl [2, 3, 1, 0] rfl) (m_up ax16 hx16 (by decide) hm2_)
  exact L5_1 _ (1) (0) _ _ _ (rg_w (rg_k (by decide) : rg 0 0 0) (by decide) : rg 0 8 0) hT hS (lv_sub hl [2, 3, 1, 0] rfl) (Nat.lt_succ_self _)
set_option maxRecDepth 100000 in
set_option maxHeartbeats 4000000 in
theorem m_X0_openIn_72 {l : Launch} {D : va_G} {h : Nat → Nat} {cz : Nat → ClassId} {z : EZ} {i : Nat → Nat → Int32} {g : Nat → Nat → Int64} (hR : Rg rA i) (a_a : Int32) : DtI l yX0_openIn cX0_openIn 2 (some .int) ({ frames := 0, cells := 0, slots := 0, locals := 0 } : Room) D h cz z i g [.ref (h 72), .int a_a] (fun r u => u = (i, g)) := by
  refine e_I pn_X0_openIn (Nat.le_of_ble_eq_true rfl) ?_
  intro p e s m args below meth c ls Q X Y hret hT hl hS
  have hx := X.1
  have hb := X.2.1
  have hl : lv_has ls 2 [(0, .ref (h 72)), (1, .int a_a)] := hl
  refine lv_iload_n hx hb dX0_openIn_0 rfl (lv_at hl 1 rfl) ?_
  refine lv_if_lt (tgt := 19) hx hb dX0_openIn_1 (by decide) (fun c1 => ?_) (fun c1 => ?_)
  ·
    have q1 : a_a.toInt < 0 := i_lt c1
    have h2 : rg (-2147483648) (-1) a_a := t_ltx (-2147483648) (-1) (rg_top a_a) (rg_k (by decide) : rg 0 0 0) (i_lt c1) (by decide)
    refine lv_iconst (v := 0) hx hb dX0_openIn_19 (by decide) ?_
    exact hret 0 _ _ _ _ _ _ dX0_openIn_20 hT hS rfl
  ·
    have q1 : 0 ≤ a_a.toInt := i_nlt c1
    have h3 : rg 0 2147483647 a_a := t_ley 0 2147483647 (rg_k (by decide) : rg 0 0 0) (rg_top a_a) (i_nlt c1) (by decide)
    refine lv_iload_n hx hb dX0_openIn_4 rfl (lv_at hl 1 rfl) ?_
    refine lv_bipush (v := 12) hx hb dX0_openIn_5 (by decide) ?_
    refine lv_icmp_gt (tgt := 19) hx hb dX0_openIn_7 (by decide) (fun c4 => ?_) (fun c4 => ?_)
    ·
      have q4 : 12 < a_a.toInt := i_lt c4
      have h5 : rg 13 2147483647 a_a := t_lty 13 2147483647 (rg_k (by decide) : rg 12 12 12) h3 (i_lt c4) (by decide)
      refine lv_iconst (v := 0) hx hb dX0_openIn_19 (by decide) ?_
      exact hret 0 _ _ _ _ _ _ dX0_openIn_20 hT hS rfl
    ·
      have q4 : a_a.toInt ≤ 12 := i_nlt c4
      have h6 : rg 0 12 a_a := t_lex 0 12 h3 (rg_k (by decide) : rg 12 12 12) (i_nlt c4) (by decide)
      refine lv_aload_n hx hb dX0_openIn_10 rfl (lv_at hl 0 rfl) ?_
      refine r_getr X hT 72 4 76 fk_0_21 rfl rfl (by decide) dX0_openIn_11 ?_
      refine lv_iload_n hx hb dX0_openIn_14 rfl (lv_at hl 1 rfl) ?_
      refine r_iald X hT 76 rfl (by decide) (v_in h6 (by decide)) dX0_openIn_15 ?_
      refine lv_goto (tgt := 20) hx hb dX0_openIn_16 (by decide) ?_
      exact hret (i 76 a_a.toNatClampNeg) _ _ _ _ _ _ dX0_openIn_20 hT hS rfl
set_option maxRecDepth 100000 in
set_option maxHeartbeats 4000000 in
theorem m_X2_addToOpen_91 {l : Launch} {D : va_G} {h : Nat → Nat} {cz : Nat → ClassId} {z : EZ} {i : Nat → Nat → Int32} {g : Nat → Nat → Int64} (hR : Rg rA i) (a_a : Int64) : DtV l yX2_addToOpen cX2_addToOpen 5 none ({ frames := 1, cells := 0, slots := 0, locals := 21 } : Room) D h cz z i g [.ref (h 91), .long a_a] (fun u => Rg rA u.1 ∧ Fr [] [92] i g u) := by
  refine e_V pn_X2_addToOpen (Nat.le_of_ble_eq_true rfl) ?_
  intro p e s m args below meth c ls Q X Y hret hT hl hS
  have hx := X.1
  have hb := X.2.1
  have hl : lv_has ls 5 [(0, .ref (h 91)), (1, .long a_a)] := hl
  have hF : Fr [] [92] i g (i, g) := Fr_rf _ _ _ _
  refine lv_aload_n hx hb dX2_addToOpen_0 rfl (lv_at hl 0 rfl) ?_
  refine r_getr X hT 91 1 72 fk_2_19 rfl rfl (by decide) dX2_addToOpen_1 ?_
  refine lv_aload_n hx hb dX2_addToOpen_4 rfl (lv_at hl 0 rfl) ?_
  refine r_getr X hT 91 0 15 fk_2_15 rfl rfl (by decide) dX2_addToOpen_5 ?_
  refine r_geti X hT 15 10 fk_2_73 rfl rfl (by decide) dX2_addToOpen_8 ?_
  refine e_Vi (As := [.int (i 15 10)]) (rest := []) X Y hT hS (m_X0_openIn_72 hR (i 15 10)) mk_X0_openIn gm_1223 rfl rfl (by decide) hd_X0_openIn ⟨rfl, rfl⟩ ⟨Nat.le_of_ble_eq_true rfl, Nat.le_of_ble_eq_true rfl⟩ hl.1 rfl (Nat.le_of_ble_eq_true rfl) dX2_addToOpen_11 ⟨Nat.zero_le _, Nat.zero_le _⟩ (fun r1 i1 g1 H locs hq hT hS => ?_)
  have eh1 := hq
  rw [(Prod.mk.inj eh1).1, (Prod.mk.inj eh1).2] at hT
  refine lv_istore_n (lv' := [(3, .int r1), (0, .ref (h 91)), (1, .long a_a)]) hx hb dX2_addToOpen_14 rfl hl (by decide) rfl (fun ls hl => ?_)
  refine lv_iconst (v := 0) hx hb dX2_addToOpen_15 (by decide) ?_
  refine lv_istore (lv' := [(4, .int 0), (3, .int r1), (0, .ref (h 91)), (1, .long a_a)]) hx hb dX2_addToOpen_16 hl (by decide) rfl (fun ls hl => ?_)
  have L18_2 : ∀ (n4_ : Nat) (x18_4 : Int32) (g3 : Nat → Nat → Int64) (H : Heap) (locs : List Loc) (ls : Array Slot), rg 0 6 x18_4 → Fr [] [92] i g (i, g3) → TH D h cz i g3 H → va_S (hA h) s.heap H locs → lv_has ls 5 [(0, .ref (h 91)), (1, .long a_a), (3, .int r1), (4, .int x18_4)] → (6 - x18_4.toInt).toNat < n4_ → W p l e ({ frames := 1, cells := 0, slots := 0, locals := 21 } : Room) s m args below meth c H locs 0 0 Q (F0 m 18 ls []) := by
    intro n4_
    induction n4_ with
    | zero => intro x18_4 g3 H locs ls hhx18_4 hF3 hT hS hl hm4_; exact absurd hm4_ (Nat.not_lt_zero _)
    | succ n4_ ih4_ =>
      intro x18_4 g3 H locs ls hhx18_4 hF3 hT hS hl hm4_
      refine lv_iload hx hb dX2_addToOpen_18 (lv_at hl 3 rfl) ?_
      refine lv_aload_n hx hb dX2_addToOpen_20 rfl (lv_at hl 0 rfl) ?_
      refine r_getr X hT 91 0 15 fk_2_15 rfl rfl (by decide) dX2_addToOpen_21 ?_
      refine r_geti X hT 15 13 fk_2_80 rfl rfl (by decide) dX2_addToOpen_24 ?_
      refine lv_icmp_ge (tgt := 60) hx hb dX2_addToOpen_27 (by decide) (fun c5 => ?_) (fun c5 => ?_)
      ·
        have q5 : (i 15 13).toInt ≤ x18_4.toInt := i_le c5
        exact hret _ _ _ _ _ _ dX2_addToOpen_60 hT hS ⟨hR, hF3⟩
      ·
        have q5 : x18_4.toInt < (i 15 13).toInt := i_nle c5
        have h6 : rg 0 5 x18_4 := t_ltx 0 5 hhx18_4 (Rg_at hR 15 13 0 6 (by decide) rfl) (i_nle c5) (by decide)
        have h7 : rg 1 6 (i 15 13) := t_lty 1 6 hhx18_4 (Rg_at hR 15 13 0 6 (by decide) rfl) (i_nle c5) (by decide)
        refine lv_aload_n hx hb dX2_addToOpen_30 rfl (lv_at hl 0 rfl) ?_
        refine r_getr X hT 91 2 92 fk_2_9 rfl rfl (by decide) dX2_addToOpen_31 ?_
        refine lv_iload hx hb dX2_addToOpen_34 (lv_at hl 3 rfl) ?_
        refine lv_dup2_11 hx hb dX2_addToOpen_36 rfl rfl ?_
        refine r_lald X hT 92 rfl (by decide) (v_in h6 (by decide)) dX2_addToOpen_37 ?_
        refine lv_iload_n hx hb dX2_addToOpen_38 rfl (lv_at hl 2 rfl) ?_
        refine lv_iload hx hb dX2_addToOpen_39 (lv_at hl 3 rfl) ?_
        refine e_Ni (As := [.int r1, .int x18_4]) (rest := [.long (g3 92 x18_4.toNatClampNeg), .int x18_4, .ref (h 92)]) X Y hT hS (m_X8_hasBit r1 x18_4) sk_X8_hasBit Y.n3 hd_X8_hasBit ⟨rfl, rfl⟩ ⟨Nat.le_of_ble_eq_true rfl, Nat.le_of_ble_eq_true rfl⟩ hl.1 rfl (Nat.le_of_ble_eq_true rfl) dX2_addToOpen_41 ⟨Nat.zero_le _, Nat.zero_le _⟩ (fun r8 i8 g8 H locs hq hT hS => ?_)
        obtain ⟨eh8, hr8⟩ := hq
        rw [(Prod.mk.inj eh8).1, (Prod.mk.inj eh8).2] at hT
        refine lv_if_eq (tgt := 51) hx hb dX2_addToOpen_44 (by decide) (fun c9 => ?_) (fun c9 => ?_)
        ·
          have q9 : r8.toInt = 0 := i_eq c9
          have h10 : rg 0 0 r8 := t_eqx 0 0 hr8 (rg_k (by decide) : rg 0 0 0) (i_eq c9) (by decide)
          refine lv_lconst (v := 0) hx hb dX2_addToOpen_51 (by decide) ?_
          refine q_ladd hx hb dX2_addToOpen_52 (fun y11 ey11 => ?_)
          obtain ⟨hy11, ay11⟩ := rgL_add (-9223372036854775808) 9223372036854775807 ey11 (rgL_top (g3 92 x18_4.toNatClampNeg)) (rgL_k (by decide) : rgL 0 0 0) (by decide)
          refine r_last X hT hS 92 rfl (by decide) (v_in h6 (by decide)) dX2_addToOpen_53 (fun H locs g12 eg12 hT hS => ?_)
          have hF12 := Fr_putl hF3 eg12 (by decide)
          obtain ⟨x13, ex13⟩ : ∃ y : Int32, y = x18_4 + 1 := ⟨_, rfl⟩
          refine lv_iinc (v := x13) (lv' := [(4, .int x13), (0, .ref (h 91)), (1, .long a_a), (3, .int r1)]) hx hb dX2_addToOpen_54 hl (k := 3) rfl (by rw [ex13]; rfl) (by decide) rfl (fun ls hl => ?_)
          obtain ⟨hx13, ax13⟩ := rg_add 1 6 ex13 h6 (rg_k (by decide) : rg 1 1 1) (by decide)
          replace ax13 : x13.toInt = x18_4.toInt + 1 := ax13
          refine lv_goto (tgt := 18) hx hb dX2_addToOpen_57 (by decide) ?_
          exact ih4_ x13 g12 _ _ _ (rg_w hx13 (by decide) : rg 0 6 x13) hF12 hT hS (lv_sub hl [1, 2, 3, 0] rfl) (m_up ax13 hx13 (by decide) hm4_)
        ·
          have q9 : ¬ r8.toInt = 0 := i_ne c9
          have h14 : rg 1 1 r8 := t_nelo 1 hr8 (rg_k (by decide) : rg 0 0 0) (i_ne c9) (by decide)
          refine lv_lload_n hx hb dX2_addToOpen_47 rfl (lv_at hl 1 rfl) ?_
          refine lv_goto (tgt := 52) hx hb dX2_addToOpen_48 (by decide) ?_
          refine q_ladd hx hb dX2_addToOpen_52 (fun y15 ey15 => ?_)
          refine r_last X hT hS 92 rfl (by decide) (v_in h6 (by decide)) dX2_addToOpen_53 (fun H locs g16 eg16 hT hS => ?_)
          have hF16 := Fr_putl hF3 eg16 (by decide)
          obtain ⟨x17, ex17⟩ : ∃ y : Int32, y = x18_4 + 1 := ⟨_, rfl⟩
          refine lv_iinc (v := x17) (lv' := [(4, .int x17), (0, .ref (h 91)), (1, .long a_a), (3, .int r1)]) hx hb dX2_addToOpen_54 hl (k := 3) rfl (by rw [ex17]; rfl) (by decide) rfl (fun ls hl => ?_)
          obtain ⟨hx17, ax17⟩ := rg_add 1 6 ex17 h6 (rg_k (by decide) : rg 1 1 1) (by decide)
          replace ax17 : x17.toInt = x18_4.toInt + 1 := ax17
          refine lv_goto (tgt := 18) hx hb dX2_addToOpen_57 (by decide) ?_
          exact ih4_ x17 g16 _ _ _ (rg_w hx17 (by decide) : rg 0 6 x17) hF16 hT hS (lv_sub hl [1, 2, 3, 0] rfl) (m_up ax17 hx17 (by decide) hm4_)
  exact L18_2 _ (0) g _ _ _ (rg_w (rg_k (by decide) : rg 0 0 0) (by decide) : rg 0 6 0) hF hT hS (lv_sub hl [2, 3, 1, 0] rfl) (Nat.lt_succ_self _)
set_option maxRecDepth 100000 in
set_option maxHeartbeats 4000000 in
theorem m_X2_weigh_91 {l : Launch} {D : va_G} {h : Nat → Nat} {cz : Nat → ClassId} {z : EZ} {i : Nat → Nat → Int32} {g : Nat → Nat → Int64} (hR : Rg rA i) : DtV l yX2_weigh cX2_weigh 4 none ({ frames := 5, cells := 0, slots := 0, locals := 133 } : Room) D h cz z i g [.ref (h 91)] (fun u => Rg rA u.1 ∧ Fr [72, 73, 74, 75, 76, 77, 78] [91, 92] i g u) := by
  refine e_V pn_X2_weigh (Nat.le_of_ble_eq_true rfl) ?_
  intro p e s m args below meth c ls Q X Y hret hT hl hS
  have hx := X.1
  have hb := X.2.1
  have hl : lv_has ls 4 [(0, .ref (h 91))] := hl
  have hF : Fr [72, 73, 74, 75, 76, 77, 78] [91, 92] i g (i, g) := Fr_rf _ _ _ _
  refine lv_aload_n hx hb dX2_weigh_0 rfl (lv_at hl 0 rfl) ?_
  refine r_getr X hT 91 1 72 fk_2_19 rfl rfl (by decide) dX2_weigh_1 ?_
  refine lv_iconst (v := (-1)) hx hb dX2_weigh_4 (by decide) ?_
  refine e_Vv (As := [.int (-1)]) (rest := []) X Y hT hS (m_X0_begin_72 hR ((-1))) mk_X0_begin gm_1207 rfl rfl (by decide) hd_X0_begin ⟨rfl, rfl⟩ ⟨Nat.le_of_ble_eq_true rfl, Nat.le_of_ble_eq_true rfl⟩ hl.1 rfl (Nat.le_of_ble_eq_true rfl) dX2_weigh_5 ⟨Nat.zero_le _, Nat.zero_le _⟩ (fun i1 g1 H locs hq hT hS => ?_)
  obtain ⟨hR1, hf1⟩ := hq
  have hF1 := Fr_tr hF hf1 (by decide)
  refine lv_aload_n hx hb dX2_weigh_8 rfl (lv_at hl 0 rfl) ?_
  refine r_getr X hT 91 2 92 fk_2_9 rfl rfl (by decide) dX2_weigh_9 ?_
  refine lv_lconst (v := 0) hx hb dX2_weigh_12 (by decide) ?_
  refine e_Sv (As := [.ref (h 92), .long 0]) (rest := []) X Y hT hS (m_J7_fill_d0a16_92 hR1 (0)) sk_J7_fill_d0a16 gm_1208 hd_J7_fill_d0a16 ⟨rfl, rfl⟩ ⟨Nat.le_of_ble_eq_true rfl, Nat.le_of_ble_eq_true rfl⟩ hl.1 rfl (Nat.le_of_ble_eq_true rfl) dX2_weigh_13 ⟨Nat.zero_le _, Nat.zero_le _⟩ (fun i2 g2 H locs hq hT hS => ?_)
  obtain ⟨hR2, hf2⟩ := hq
  have hF2 := Fr_tr hF1 hf2 (by decide)
  refine lv_aload_n hx hb dX2_weigh_16 rfl (lv_at hl 0 rfl) ?_
  refine lv_lconst (v := 0) hx hb dX2_weigh_17 (by decide) ?_
  refine r_putl X hT hS 91 3 pk_2_35 rfl rfl (by decide) dX2_weigh_18 (fun H locs g3 eg3 hT hS => ?_)
  have hF3 := Fr_putl hF2 eg3 (by decide)
  refine lv_aload_n hx hb dX2_weigh_21 rfl (lv_at hl 0 rfl) ?_
  refine lv_lconst (v := 0) hx hb dX2_weigh_22 (by decide) ?_
  refine r_putl X hT hS 91 4 pk_2_39 rfl rfl (by decide) dX2_weigh_23 (fun H locs g4 eg4 hT hS => ?_)
  have hF4 := Fr_putl hF3 eg4 (by decide)
  refine lv_iconst (v := 0) hx hb dX2_weigh_26 (by decide) ?_
  refine lv_istore_n (lv' := [(1, .int 0), (0, .ref (h 91))]) hx hb dX2_weigh_27 rfl hl (by decide) rfl (fun ls hl => ?_)
  have L28_5 : ∀ (n7_ : Nat) (x28_1 : Int32) (i6 : Nat → Nat → Int32) (g6 : Nat → Nat → Int64) (H : Heap) (locs : List Loc) (ls : Array Slot), rg 0 256 x28_1 → Rg rA i6 → Fr [72, 73, 74, 75, 76, 77, 78] [91, 92] i g (i6, g6) → TH D h cz i6 g6 H → va_S (hA h) s.heap H locs → lv_has ls 4 [(0, .ref (h 91)), (1, .int x28_1)] → (256 - x28_1.toInt).toNat < n7_ → W p l e ({ frames := 5, cells := 0, slots := 0, locals := 133 } : Room) s m args below meth c H locs 0 0 Q (F0 m 28 ls []) := by
    intro n7_
    induction n7_ with
    | zero => intro x28_1 i6 g6 H locs ls hhx28_1 hR6 hF6 hT hS hl hm7_; exact absurd hm7_ (Nat.not_lt_zero _)
    | succ n7_ ih7_ =>
      intro x28_1 i6 g6 H locs ls hhx28_1 hR6 hF6 hT hS hl hm7_
      refine lv_iload_n hx hb dX2_weigh_28 rfl (lv_at hl 1 rfl) ?_
      refine lv_aload_n hx hb dX2_weigh_29 rfl (lv_at hl 0 rfl) ?_
      refine r_getr X hT 91 0 15 fk_2_15 rfl rfl (by decide) dX2_weigh_30 ?_
      refine e_Vi (As := []) (rest := [.int x28_1]) X Y hT hS (m_X6_everyKnife_15 hR6) mk_X6_everyKnife gm_1211 rfl rfl (by decide) hd_X6_everyKnife ⟨rfl, rfl⟩ ⟨Nat.le_of_ble_eq_true rfl, Nat.le_of_ble_eq_true rfl⟩ hl.1 rfl (Nat.le_of_ble_eq_true rfl) dX2_weigh_33 ⟨Nat.zero_le _, Nat.zero_le _⟩ (fun r8 i8 g8 H locs hq hT hS => ?_)
      obtain ⟨eh8, hr8⟩ := hq
      rw [(Prod.mk.inj eh8).1, (Prod.mk.inj eh8).2] at hT
      refine lv_icmp_gt (tgt := 99) hx hb dX2_weigh_36 (by decide) (fun c9 => ?_) (fun c9 => ?_)
      ·
        have q9 : r8.toInt < x28_1.toInt := i_lt c9
        have h10 : rg 1 256 x28_1 := t_lty 1 256 hr8 hhx28_1 (i_lt c9) (by decide)
        exact hret _ _ _ _ _ _ dX2_weigh_99 hT hS ⟨hR6, hF6⟩
      ·
        have q9 : x28_1.toInt ≤ r8.toInt := i_nlt c9
        have h11 : rg 0 255 x28_1 := t_lex 0 255 hhx28_1 hr8 (i_nlt c9) (by decide)
        refine lv_aload_n hx hb dX2_weigh_39 rfl (lv_at hl 0 rfl) ?_
        refine lv_iload_n hx hb dX2_weigh_40 rfl (lv_at hl 1 rfl) ?_
        refine e_Vl (As := [.int x28_1]) (rest := []) X Y hT hS (m_X2_weightOf_91 hR6 x28_1) mk_X2_weightOf gm_1212 rfl rfl (by decide) hd_X2_weightOf ⟨rfl, rfl⟩ ⟨Nat.le_of_ble_eq_true rfl, Nat.le_of_ble_eq_true rfl⟩ hl.1 rfl (Nat.le_of_ble_eq_true rfl) dX2_weigh_41 ⟨Nat.zero_le _, Nat.zero_le _⟩ (fun r12 i12 g12 H locs hq hT hS => ?_)
        have eh12 := hq
        rw [(Prod.mk.inj eh12).1, (Prod.mk.inj eh12).2] at hT
        refine lv_lstore_n (lv' := [(2, .long r12), (0, .ref (h 91)), (1, .int x28_1)]) hx hb dX2_weigh_44 rfl hl (by decide) rfl (fun ls hl => ?_)
        refine lv_lload_n hx hb dX2_weigh_45 rfl (lv_at hl 0 rfl) ?_
        refine lv_lconst (v := 0) hx hb dX2_weigh_46 (by decide) ?_
        refine W.lcmp hx hb dX2_weigh_47 ?_
        refine lv_if_le (tgt := 93) hx hb dX2_weigh_48 (by decide) (fun c13 => ?_) (fun c13 => ?_)
        ·
          have q13 : r12.toInt ≤ 0 := c_le c13
          have h14 : rgL (-9223372036854775808) 0 r12 := tL_lex (-9223372036854775808) 0 (rgL_top r12) (rgL_k (by decide) : rgL 0 0 0) (c_le c13) (by decide)
          obtain ⟨x15, ex15⟩ : ∃ y : Int32, y = x28_1 + 1 := ⟨_, rfl⟩
          refine lv_iinc (v := x15) (lv' := [(1, .int x15), (2, .long r12), (0, .ref (h 91))]) hx hb dX2_weigh_93 hl (k := 2) rfl (by rw [ex15]; rfl) (by decide) rfl (fun ls hl => ?_)
          obtain ⟨hx15, ax15⟩ := rg_add 1 256 ex15 h11 (rg_k (by decide) : rg 1 1 1) (by decide)
          replace ax15 : x15.toInt = x28_1.toInt + 1 := ax15
          refine lv_goto (tgt := 28) hx hb dX2_weigh_96 (by decide) ?_
          exact ih7_ x15 i6 g6 _ _ _ (rg_w hx15 (by decide) : rg 0 256 x15) hR6 hF6 hT hS (lv_sub hl [2, 0] rfl) (m_up ax15 hx15 (by decide) hm7_)
        ·
          have q13 : 0 < r12.toInt := c_nle c13
          have h16 : rgL 1 9223372036854775807 r12 := tL_lty 1 9223372036854775807 (rgL_k (by decide) : rgL 0 0 0) (rgL_top r12) (c_nle c13) (by decide)
          refine lv_aload_n hx hb dX2_weigh_51 rfl (lv_at hl 1 rfl) ?_
          refine r_getr X hT 91 1 72 fk_2_19 rfl rfl (by decide) dX2_weigh_52 ?_
          refine lv_iload_n hx hb dX2_weigh_55 rfl (lv_at hl 2 rfl) ?_
          refine e_Vv (As := [.int x28_1]) (rest := []) X Y hT hS (m_X0_unfoldWith_72 hR6 x28_1) mk_X0_unfoldWith gm_1217 rfl rfl (by decide) hd_X0_unfoldWith ⟨rfl, rfl⟩ ⟨Nat.le_of_ble_eq_true rfl, Nat.le_of_ble_eq_true rfl⟩ hl.1 rfl (Nat.le_of_ble_eq_true rfl) dX2_weigh_56 ⟨Nat.zero_le _, Nat.zero_le _⟩ (fun i17 g17 H locs hq hT hS => ?_)
          obtain ⟨hR17, hf17⟩ := hq
          have hF17 := Fr_tr hF6 hf17 (by decide)
          refine lv_aload_n hx hb dX2_weigh_59 rfl (lv_at hl 1 rfl) ?_
          refine lv_dup hx hb dX2_weigh_60 rfl ?_
          refine r_getl X hT 91 4 fk_2_39 rfl rfl (by decide) dX2_weigh_61 ?_
          refine lv_lload_n hx hb dX2_weigh_64 rfl (lv_at hl 0 rfl) ?_
          refine q_ladd hx hb dX2_weigh_65 (fun y18 ey18 => ?_)
          refine r_putl X hT hS 91 4 pk_2_39 rfl rfl (by decide) dX2_weigh_66 (fun H locs g19 eg19 hT hS => ?_)
          have hF19 := Fr_putl hF17 eg19 (by decide)
          refine lv_aload_n hx hb dX2_weigh_69 rfl (lv_at hl 1 rfl) ?_
          refine lv_dup hx hb dX2_weigh_70 rfl ?_
          refine r_getl X hT 91 3 fk_2_35 rfl rfl (by decide) dX2_weigh_71 ?_
          refine lv_lload_n hx hb dX2_weigh_74 rfl (lv_at hl 0 rfl) ?_
          refine lv_aload_n hx hb dX2_weigh_75 rfl (lv_at hl 1 rfl) ?_
          refine r_getr X hT 91 1 72 fk_2_19 rfl rfl (by decide) dX2_weigh_76 ?_
          refine e_Vi (As := []) (rest := [.long r12, .long (g19 91 3), .ref (h 91)]) X Y hT hS (m_X0_readInAll_72 hR17) mk_X0_readInAll gm_1218 rfl rfl (by decide) hd_X0_readInAll ⟨rfl, rfl⟩ ⟨Nat.le_of_ble_eq_true rfl, Nat.le_of_ble_eq_true rfl⟩ hl.1 rfl (Nat.le_of_ble_eq_true rfl) dX2_weigh_79 ⟨Nat.zero_le _, Nat.zero_le _⟩ (fun r20 i20 g20 H locs hq hT hS => ?_)
          obtain ⟨hR20, hf20⟩ := hq
          have hF20 := Fr_tr hF19 hf20 (by decide)
          refine q_i2l hx hb dX2_weigh_82 (fun y21 ey21 => ?_)
          obtain ⟨hy21, ay21⟩ := rg_i2l ey21 (rg_top r20)
          refine q_lmul hx hb dX2_weigh_83 (fun y22 ey22 => ?_)
          refine q_ladd hx hb dX2_weigh_84 (fun y23 ey23 => ?_)
          refine r_putl X hT hS 91 3 pk_2_35 rfl rfl (by decide) dX2_weigh_85 (fun H locs g24 eg24 hT hS => ?_)
          have hF24 := Fr_putl hF20 eg24 (by decide)
          refine lv_aload_n hx hb dX2_weigh_88 rfl (lv_at hl 1 rfl) ?_
          refine lv_lload_n hx hb dX2_weigh_89 rfl (lv_at hl 0 rfl) ?_
          refine e_Vv (As := [.long r12]) (rest := []) X Y hT hS (m_X2_addToOpen_91 hR20 r12) mk_X2_addToOpen gm_1219 rfl rfl (by decide) hd_X2_addToOpen ⟨rfl, rfl⟩ ⟨Nat.le_of_ble_eq_true rfl, Nat.le_of_ble_eq_true rfl⟩ hl.1 rfl (Nat.le_of_ble_eq_true rfl) dX2_weigh_90 ⟨Nat.zero_le _, Nat.zero_le _⟩ (fun i25 g25 H locs hq hT hS => ?_)
          obtain ⟨hR25, hf25⟩ := hq
          have hF25 := Fr_tr hF24 hf25 (by decide)
          obtain ⟨x26, ex26⟩ : ∃ y : Int32, y = x28_1 + 1 := ⟨_, rfl⟩
          refine lv_iinc (v := x26) (lv' := [(1, .int x26), (2, .long r12), (0, .ref (h 91))]) hx hb dX2_weigh_93 hl (k := 2) rfl (by rw [ex26]; rfl) (by decide) rfl (fun ls hl => ?_)
          obtain ⟨hx26, ax26⟩ := rg_add 1 256 ex26 h11 (rg_k (by decide) : rg 1 1 1) (by decide)
          replace ax26 : x26.toInt = x28_1.toInt + 1 := ax26
          refine lv_goto (tgt := 28) hx hb dX2_weigh_96 (by decide) ?_
          exact ih7_ x26 i25 g25 _ _ _ (rg_w hx26 (by decide) : rg 0 256 x26) hR25 hF25 hT hS (lv_sub hl [2, 0] rfl) (m_up ax26 hx26 (by decide) hm7_)
  exact L28_5 _ (0) i2 g4 _ _ _ (rg_w (rg_k (by decide) : rg 0 0 0) (by decide) : rg 0 256 0) hR2 hF4 hT hS (lv_sub hl [1, 0] rfl) (Nat.lt_succ_self _)
set_option maxRecDepth 100000 in
set_option maxHeartbeats 4000000 in
theorem m_X8_weighOdds {l : Launch} {D : va_G} {h : Nat → Nat} {cz : Nat → ClassId} {z : EZ} {i : Nat → Nat → Int32} {g : Nat → Nat → Int64} (hR : Rg rA i) : DtV l yX8_weighOdds cX8_weighOdds 1 none ({ frames := 6, cells := 0, slots := 0, locals := 156 } : Room) D h cz z i g [.ref (h 0)] (fun u => Rg rA u.1 ∧ Fr [0, 72, 73, 74, 75, 76, 77, 78] [91, 92] i g u) := by
  refine e_V pn_X8_weighOdds (Nat.le_of_ble_eq_true rfl) ?_
  intro p e s m args below meth c ls Q X Y hret hT hl hS
  have hx := X.1
  have hb := X.2.1
  have hl : lv_has ls 1 [(0, .ref (h 0))] := hl
  have hF : Fr [0, 72, 73, 74, 75, 76, 77, 78] [91, 92] i g (i, g) := Fr_rf _ _ _ _
  refine lv_aload_n hx hb dX8_weighOdds_0 rfl (lv_at hl 0 rfl) ?_
  refine r_geti X hT 0 13 fk_8_91 rfl rfl (by decide) dX8_weighOdds_1 ?_
  refine lv_if_eq (tgt := 19) hx hb dX8_weighOdds_4 (by decide) (fun c1 => ?_) (fun c1 => ?_)
  ·
    have q1 : (i 0 13).toInt = 0 := i_eq c1
    have h2 : rg 0 0 (i 0 13) := t_eqx 0 0 (Rg_at hR 0 13 0 1 (by decide) rfl) (rg_k (by decide) : rg 0 0 0) (i_eq c1) (by decide)
    exact hret _ _ _ _ _ _ dX8_weighOdds_19 hT hS ⟨hR, hF⟩
  ·
    have q1 : ¬ (i 0 13).toInt = 0 := i_ne c1
    have h3 : rg 1 1 (i 0 13) := t_nelo 1 (Rg_at hR 0 13 0 1 (by decide) rfl) (rg_k (by decide) : rg 0 0 0) (i_ne c1) (by decide)
    refine lv_aload_n hx hb dX8_weighOdds_7 rfl (lv_at hl 0 rfl) ?_
    refine r_getr X hT 0 10 91 fk_8_74 rfl rfl (by decide) dX8_weighOdds_8 ?_
    refine e_Vv (As := []) (rest := []) X Y hT hS (m_X2_weigh_91 hR) mk_X2_weigh gm_1203 rfl rfl (by decide) hd_X2_weigh ⟨rfl, rfl⟩ ⟨Nat.le_of_ble_eq_true rfl, Nat.le_of_ble_eq_true rfl⟩ hl.1 rfl (Nat.le_of_ble_eq_true rfl) dX8_weighOdds_11 ⟨Nat.zero_le _, Nat.zero_le _⟩ (fun i4 g4 H locs hq hT hS => ?_)
    obtain ⟨hR4, hf4⟩ := hq
    have hF4 := Fr_tr hF hf4 (by decide)
    refine lv_aload_n hx hb dX8_weighOdds_14 rfl (lv_at hl 0 rfl) ?_
    refine lv_iconst (v := 0) hx hb dX8_weighOdds_15 (by decide) ?_
    refine r_puti X hT hS 0 13 pk_8_91 rfl rfl rfl rfl (by decide) dX8_weighOdds_16 (fun H locs i5 ei5 hT hS => ?_)
    have hR5 := Rg_put hR4 ei5 0 1 rfl (rg_k (by decide) : rg 0 0 0) (by decide)
    have hF5 := Fr_puti hF4 ei5 (by decide)
    exact hret _ _ _ _ _ _ dX8_weighOdds_19 hT hS ⟨hR5, hF5⟩
set_option maxRecDepth 100000 in
set_option maxHeartbeats 4000000 in
theorem m_X8_chance {l : Launch} {D : va_G} {h : Nat → Nat} {cz : Nat → ClassId} {z : EZ} {i : Nat → Nat → Int32} {g : Nat → Nat → Int64} (hR : Rg rA i) (a_a : Int32) (a_b : Int32) : DtI l yX8_chance cX8_chance 3 (some .int) ({ frames := 7, cells := 0, slots := 0, locals := 176 } : Room) D h cz z i g [.ref (h 0), .int a_a, .int a_b] (fun r u => Rg rA u.1 ∧ Fr [0, 72, 73, 74, 75, 76, 77, 78] [91, 92] i g u) := by
  refine e_I pn_X8_chance (Nat.le_of_ble_eq_true rfl) ?_
  intro p e s m args below meth c ls Q X Y hret hT hl hS
  have hx := X.1
  have hb := X.2.1
  have hl : lv_has ls 3 [(0, .ref (h 0)), (1, .int a_a), (2, .int a_b)] := hl
  have hF : Fr [0, 72, 73, 74, 75, 76, 77, 78] [91, 92] i g (i, g) := Fr_rf _ _ _ _
  refine lv_aload_n hx hb dX8_chance_0 rfl (lv_at hl 0 rfl) ?_
  refine r_getr X hT 0 3 15 fk_8_32 rfl rfl (by decide) dX8_chance_1 ?_
  refine lv_iload_n hx hb dX8_chance_4 rfl (lv_at hl 1 rfl) ?_
  refine e_Vi (As := [.int a_a]) (rest := []) X Y hT hS (m_X6_hasPart_15 hR a_a) mk_X6_hasPart gm_669 rfl rfl (by decide) hd_X6_hasPart ⟨rfl, rfl⟩ ⟨Nat.le_of_ble_eq_true rfl, Nat.le_of_ble_eq_true rfl⟩ hl.1 rfl (Nat.le_of_ble_eq_true rfl) dX8_chance_5 ⟨Nat.zero_le _, Nat.zero_le _⟩ (fun r1 i1 g1 H locs hq hT hS => ?_)
  rcases hq with hq | hq
  ·
    obtain ⟨eh1, rfl, hf1_0⟩ := hq
    rw [(Prod.mk.inj eh1).1, (Prod.mk.inj eh1).2] at hT
    have h2 : rg 0 5 a_a := ⟨by have := (rg_top a_a).1; have := hf1_0.1; omega, by have := (rg_top a_a).2; have := hf1_0.2; omega⟩
    refine lv_if_eq (tgt := 18) hx hb dX8_chance_8 (by decide) (fun c3 => (x_eq (rg_k (by decide) : rg 1 1 1) (rg_k (by decide) : rg 0 0 0) (i_eq c3) (by decide)).elim) (fun c3 => ?_)
    refine lv_iload_n hx hb dX8_chance_11 rfl (lv_at hl 2 rfl) ?_
    refine e_Si (As := [.int a_b]) (rest := []) X Y hT hS (m_X8_isAboveOrBelow a_b) sk_X8_isAboveOrBelow gm_983 hd_X8_isAboveOrBelow ⟨rfl, rfl⟩ ⟨Nat.le_of_ble_eq_true rfl, Nat.le_of_ble_eq_true rfl⟩ hl.1 rfl (Nat.le_of_ble_eq_true rfl) dX8_chance_12 ⟨Nat.zero_le _, Nat.zero_le _⟩ (fun r4 i4 g4 H locs hq hT hS => ?_)
    rcases hq with hq | hq
    ·
      obtain ⟨eh4, rfl, hf4_0⟩ := hq
      rw [(Prod.mk.inj eh4).1, (Prod.mk.inj eh4).2] at hT
      have h5 : rg 0 1 a_b := ⟨by have := (rg_top a_b).1; have := hf4_0.1; omega, by have := (rg_top a_b).2; have := hf4_0.2; omega⟩
      refine lv_if_ne (tgt := 21) hx hb dX8_chance_15 (by decide) (fun c6 => ?_) (fun c6 => (x_eq (rg_k (by decide) : rg 1 1 1) (rg_k (by decide) : rg 0 0 0) (i_eq c6) (by decide)).elim)
      refine lv_aload_n hx hb dX8_chance_21 rfl (lv_at hl 0 rfl) ?_
      refine e_Vv (As := []) (rest := []) X Y hT hS (m_X8_weighOdds hR) mk_X8_weighOdds gm_1199 rfl rfl (by decide) hd_X8_weighOdds ⟨rfl, rfl⟩ ⟨Nat.le_of_ble_eq_true rfl, Nat.le_of_ble_eq_true rfl⟩ hl.1 rfl (Nat.le_of_ble_eq_true rfl) dX8_chance_22 ⟨Nat.zero_le _, Nat.zero_le _⟩ (fun i7 g7 H locs hq hT hS => ?_)
      obtain ⟨hR7, hf7⟩ := hq
      have hF7 := Fr_tr hF hf7 (by decide)
      refine lv_aload_n hx hb dX8_chance_25 rfl (lv_at hl 0 rfl) ?_
      refine r_getr X hT 0 10 91 fk_8_74 rfl rfl (by decide) dX8_chance_26 ?_
      refine r_getr X hT 91 2 92 fk_8_351 rfl rfl (by decide) dX8_chance_29 ?_
      refine lv_iload_n hx hb dX8_chance_32 rfl (lv_at hl 1 rfl) ?_
      refine r_lald X hT 92 rfl (by decide) (v_in h2 (by decide)) dX8_chance_33 ?_
      refine lv_aload_n hx hb dX8_chance_34 rfl (lv_at hl 0 rfl) ?_
      refine r_getr X hT 0 10 91 fk_8_74 rfl rfl (by decide) dX8_chance_35 ?_
      refine r_getl X hT 91 4 fk_8_355 rfl rfl (by decide) dX8_chance_38 ?_
      refine lv_iload_n hx hb dX8_chance_41 rfl (lv_at hl 2 rfl) ?_
      refine e_Sl (As := [.long (g7 92 a_a.toNatClampNeg), .long (g7 91 4), .int a_b]) (rest := []) X Y hT hS (m_X8_lowestTerms (g7 92 a_a.toNatClampNeg) (g7 91 4) a_b) sk_X8_lowestTerms gm_992 hd_X8_lowestTerms ⟨rfl, rfl⟩ ⟨Nat.le_of_ble_eq_true rfl, Nat.le_of_ble_eq_true rfl⟩ hl.1 rfl (Nat.le_of_ble_eq_true rfl) dX8_chance_42 ⟨Nat.zero_le _, Nat.zero_le _⟩ (fun r8 i8 g8 H locs hq hT hS => ?_)
      have eh8 := hq
      rw [(Prod.mk.inj eh8).1, (Prod.mk.inj eh8).2] at hT
      refine q_l2i hx hb dX8_chance_45 (fun x9 ex9 => ?_)
      exact hret x9 _ _ _ _ _ _ dX8_chance_46 hT hS ⟨hR7, hF7⟩
    ·
      obtain ⟨eh4, rfl⟩ := hq
      rw [(Prod.mk.inj eh4).1, (Prod.mk.inj eh4).2] at hT
      refine lv_if_ne (tgt := 21) hx hb dX8_chance_15 (by decide) (fun c10 => (x_ne (rg_k (by decide) : rg 0 0 0) (rg_k (by decide) : rg 0 0 0) (i_ne c10) (by decide)).elim) (fun c10 => ?_)
      refine lv_bipush (v := (-2)) hx hb dX8_chance_18 (by decide) ?_
      exact hret (-2) _ _ _ _ _ _ dX8_chance_20 hT hS ⟨hR, hF⟩
  ·
    obtain ⟨eh1, rfl⟩ := hq
    rw [(Prod.mk.inj eh1).1, (Prod.mk.inj eh1).2] at hT
    refine lv_if_eq (tgt := 18) hx hb dX8_chance_8 (by decide) (fun c11 => ?_) (fun c11 => (x_ne (rg_k (by decide) : rg 0 0 0) (rg_k (by decide) : rg 0 0 0) (i_ne c11) (by decide)).elim)
    refine lv_bipush (v := (-2)) hx hb dX8_chance_18 (by decide) ?_
    exact hret (-2) _ _ _ _ _ _ dX8_chance_20 hT hS ⟨hR, hF⟩
set_option maxRecDepth 100000 in
set_option maxHeartbeats 4000000 in
theorem m_X8_mean {l : Launch} {D : va_G} {h : Nat → Nat} {cz : Nat → ClassId} {z : EZ} {i : Nat → Nat → Int32} {g : Nat → Nat → Int64} (hR : Rg rA i) (a_a : Int32) : DtL l yX8_mean cX8_mean 2 (some .long) ({ frames := 7, cells := 0, slots := 0, locals := 176 } : Room) D h cz z i g [.ref (h 0), .int a_a] (fun r u => Rg rA u.1 ∧ Fr [0, 72, 73, 74, 75, 76, 77, 78] [91, 92] i g u) := by
  refine e_L pn_X8_mean (Nat.le_of_ble_eq_true rfl) ?_
  intro p e s m args below meth c ls Q X Y hret hT hl hS
  have hx := X.1
  have hb := X.2.1
  have hl : lv_has ls 2 [(0, .ref (h 0)), (1, .int a_a)] := hl
  have hF : Fr [0, 72, 73, 74, 75, 76, 77, 78] [91, 92] i g (i, g) := Fr_rf _ _ _ _
  refine lv_aload_n hx hb dX8_mean_0 rfl (lv_at hl 0 rfl) ?_
  refine r_getr X hT 0 3 15 fk_8_32 rfl rfl (by decide) dX8_mean_1 ?_
  refine e_Vi (As := []) (rest := []) X Y hT hS (m_X6_isTold_15 hR) mk_X6_isTold gm_698 rfl rfl (by decide) hd_X6_isTold ⟨rfl, rfl⟩ ⟨Nat.le_of_ble_eq_true rfl, Nat.le_of_ble_eq_true rfl⟩ hl.1 rfl (Nat.le_of_ble_eq_true rfl) dX8_mean_4 ⟨Nat.zero_le _, Nat.zero_le _⟩ (fun r1 i1 g1 H locs hq hT hS => ?_)
  obtain ⟨eh1, hr1⟩ := hq
  rw [(Prod.mk.inj eh1).1, (Prod.mk.inj eh1).2] at hT
  refine lv_if_eq (tgt := 17) hx hb dX8_mean_7 (by decide) (fun c2 => ?_) (fun c2 => ?_)
  ·
    have q2 : r1.toInt = 0 := i_eq c2
    have h3 : rg 0 0 r1 := t_eqx 0 0 hr1 (rg_k (by decide) : rg 0 0 0) (i_eq c2) (by decide)
    refine lv_ldc2 (v := (-2)) hx hb X.2.2.2.1 (X.2.2.2.2.1 _ gm_1228) dX8_mean_17 ?_
    exact hret (-2) _ _ _ _ _ _ dX8_mean_20 hT hS ⟨hR, hF⟩
  ·
    have q2 : ¬ r1.toInt = 0 := i_ne c2
    have h4 : rg 1 1 r1 := t_nelo 1 hr1 (rg_k (by decide) : rg 0 0 0) (i_ne c2) (by decide)
    refine lv_iload_n hx hb dX8_mean_10 rfl (lv_at hl 1 rfl) ?_
    refine e_Si (As := [.int a_a]) (rest := []) X Y hT hS (m_X8_isAboveOrBelow a_a) sk_X8_isAboveOrBelow gm_983 hd_X8_isAboveOrBelow ⟨rfl, rfl⟩ ⟨Nat.le_of_ble_eq_true rfl, Nat.le_of_ble_eq_true rfl⟩ hl.1 rfl (Nat.le_of_ble_eq_true rfl) dX8_mean_11 ⟨Nat.zero_le _, Nat.zero_le _⟩ (fun r5 i5 g5 H locs hq hT hS => ?_)
    rcases hq with hq | hq
    ·
      obtain ⟨eh5, rfl, hf5_0⟩ := hq
      rw [(Prod.mk.inj eh5).1, (Prod.mk.inj eh5).2] at hT
      have h6 : rg 0 1 a_a := ⟨by have := (rg_top a_a).1; have := hf5_0.1; omega, by have := (rg_top a_a).2; have := hf5_0.2; omega⟩
      refine lv_if_ne (tgt := 21) hx hb dX8_mean_14 (by decide) (fun c7 => ?_) (fun c7 => (x_eq (rg_k (by decide) : rg 1 1 1) (rg_k (by decide) : rg 0 0 0) (i_eq c7) (by decide)).elim)
      refine lv_aload_n hx hb dX8_mean_21 rfl (lv_at hl 0 rfl) ?_
      refine e_Vv (As := []) (rest := []) X Y hT hS (m_X8_weighOdds hR) mk_X8_weighOdds gm_1199 rfl rfl (by decide) hd_X8_weighOdds ⟨rfl, rfl⟩ ⟨Nat.le_of_ble_eq_true rfl, Nat.le_of_ble_eq_true rfl⟩ hl.1 rfl (Nat.le_of_ble_eq_true rfl) dX8_mean_22 ⟨Nat.zero_le _, Nat.zero_le _⟩ (fun i8 g8 H locs hq hT hS => ?_)
      obtain ⟨hR8, hf8⟩ := hq
      have hF8 := Fr_tr hF hf8 (by decide)
      refine lv_aload_n hx hb dX8_mean_25 rfl (lv_at hl 0 rfl) ?_
      refine r_getr X hT 0 10 91 fk_8_74 rfl rfl (by decide) dX8_mean_26 ?_
      refine r_getl X hT 91 3 fk_8_361 rfl rfl (by decide) dX8_mean_29 ?_
      refine lv_aload_n hx hb dX8_mean_32 rfl (lv_at hl 0 rfl) ?_
      refine r_getr X hT 0 10 91 fk_8_74 rfl rfl (by decide) dX8_mean_33 ?_
      refine r_getl X hT 91 4 fk_8_355 rfl rfl (by decide) dX8_mean_36 ?_
      refine lv_iload_n hx hb dX8_mean_39 rfl (lv_at hl 1 rfl) ?_
      refine e_Sl (As := [.long (g8 91 3), .long (g8 91 4), .int a_a]) (rest := []) X Y hT hS (m_X8_lowestTerms (g8 91 3) (g8 91 4) a_a) sk_X8_lowestTerms gm_992 hd_X8_lowestTerms ⟨rfl, rfl⟩ ⟨Nat.le_of_ble_eq_true rfl, Nat.le_of_ble_eq_true rfl⟩ hl.1 rfl (Nat.le_of_ble_eq_true rfl) dX8_mean_40 ⟨Nat.zero_le _, Nat.zero_le _⟩ (fun r9 i9 g9 H locs hq hT hS => ?_)
      have eh9 := hq
      rw [(Prod.mk.inj eh9).1, (Prod.mk.inj eh9).2] at hT
      exact hret r9 _ _ _ _ _ _ dX8_mean_43 hT hS ⟨hR8, hF8⟩
    ·
      obtain ⟨eh5, rfl⟩ := hq
      rw [(Prod.mk.inj eh5).1, (Prod.mk.inj eh5).2] at hT
      refine lv_if_ne (tgt := 21) hx hb dX8_mean_14 (by decide) (fun c10 => (x_ne (rg_k (by decide) : rg 0 0 0) (rg_k (by decide) : rg 0 0 0) (i_ne c10) (by decide)).elim) (fun c10 => ?_)
      refine lv_ldc2 (v := (-2)) hx hb X.2.2.2.1 (X.2.2.2.2.1 _ gm_1228) dX8_mean_17 ?_
      exact hret (-2) _ _ _ _ _ _ dX8_mean_20 hT hS ⟨hR, hF⟩
set_option maxRecDepth 100000 in
set_option maxHeartbeats 4000000 in
theorem m_X8_refuseAct {l : Launch} {D : va_G} {h : Nat → Nat} {cz : Nat → ClassId} {z : EZ} {i : Nat → Nat → Int32} {g : Nat → Nat → Int64} (hR : Rg rA i) (a_a : Int32) (a_b : Int32) : DtI l yX8_refuseAct cX8_refuseAct 3 (some .int) ({ frames := 1, cells := 0, slots := 0, locals := 21 } : Room) D h cz z i g [.ref (h 0), .int a_a, .int a_b] (fun r u => (u = (i, g) ∧ r = 0 ∧ rg 0 5 a_a ∧ rg 0 11 a_b) ∨ (u = (i, g) ∧ r = (-2)) ∨ (u = (i, g) ∧ r = (-5) ∧ rg 0 5 a_a ∧ rg 0 11 a_b)) := by
  refine e_I pn_X8_refuseAct (Nat.le_of_ble_eq_true rfl) ?_
  intro p e s m args below meth c ls Q X Y hret hT hl hS
  have hx := X.1
  have hb := X.2.1
  have hl : lv_has ls 3 [(0, .ref (h 0)), (1, .int a_a), (2, .int a_b)] := hl
  refine lv_aload_n hx hb dX8_refuseAct_0 rfl (lv_at hl 0 rfl) ?_
  refine r_getr X hT 0 3 15 fk_8_32 rfl rfl (by decide) dX8_refuseAct_1 ?_
  refine lv_iload_n hx hb dX8_refuseAct_4 rfl (lv_at hl 1 rfl) ?_
  refine e_Vi (As := [.int a_a]) (rest := []) X Y hT hS (m_X6_hasPart_15 hR a_a) mk_X6_hasPart gm_669 rfl rfl (by decide) hd_X6_hasPart ⟨rfl, rfl⟩ ⟨Nat.le_of_ble_eq_true rfl, Nat.le_of_ble_eq_true rfl⟩ hl.1 rfl (Nat.le_of_ble_eq_true rfl) dX8_refuseAct_5 ⟨Nat.zero_le _, Nat.zero_le _⟩ (fun r1 i1 g1 H locs hq hT hS => ?_)
  rcases hq with hq | hq
  ·
    obtain ⟨eh1, rfl, hf1_0⟩ := hq
    rw [(Prod.mk.inj eh1).1, (Prod.mk.inj eh1).2] at hT
    have h2 : rg 0 5 a_a := ⟨by have := (rg_top a_a).1; have := hf1_0.1; omega, by have := (rg_top a_a).2; have := hf1_0.2; omega⟩
    refine lv_if_eq (tgt := 22) hx hb dX8_refuseAct_8 (by decide) (fun c3 => (x_eq (rg_k (by decide) : rg 1 1 1) (rg_k (by decide) : rg 0 0 0) (i_eq c3) (by decide)).elim) (fun c3 => ?_)
    refine lv_aload_n hx hb dX8_refuseAct_11 rfl (lv_at hl 0 rfl) ?_
    refine r_getr X hT 0 3 15 fk_8_32 rfl rfl (by decide) dX8_refuseAct_12 ?_
    refine lv_iload_n hx hb dX8_refuseAct_15 rfl (lv_at hl 2 rfl) ?_
    refine e_Vi (As := [.int a_b]) (rest := []) X Y hT hS (m_X6_hasWorkingYear_15 hR a_b) mk_X6_hasWorkingYear gm_827 rfl rfl (by decide) hd_X6_hasWorkingYear ⟨rfl, rfl⟩ ⟨Nat.le_of_ble_eq_true rfl, Nat.le_of_ble_eq_true rfl⟩ hl.1 rfl (Nat.le_of_ble_eq_true rfl) dX8_refuseAct_16 ⟨Nat.zero_le _, Nat.zero_le _⟩ (fun r4 i4 g4 H locs hq hT hS => ?_)
    rcases hq with hq | hq
    ·
      obtain ⟨eh4, rfl, hf4_0⟩ := hq
      rw [(Prod.mk.inj eh4).1, (Prod.mk.inj eh4).2] at hT
      have h5 : rg 0 11 a_b := ⟨by have := (rg_top a_b).1; have := hf4_0.1; omega, by have := (rg_top a_b).2; have := hf4_0.2; omega⟩
      refine lv_if_ne (tgt := 25) hx hb dX8_refuseAct_19 (by decide) (fun c6 => ?_) (fun c6 => (x_eq (rg_k (by decide) : rg 1 1 1) (rg_k (by decide) : rg 0 0 0) (i_eq c6) (by decide)).elim)
      refine lv_aload_n hx hb dX8_refuseAct_25 rfl (lv_at hl 0 rfl) ?_
      refine r_getr X hT 0 3 15 fk_8_32 rfl rfl (by decide) dX8_refuseAct_26 ?_
      refine r_geti X hT 15 16 fk_8_179 rfl rfl (by decide) dX8_refuseAct_29 ?_
      refine lv_bipush (v := 20) hx hb dX8_refuseAct_32 (by decide) ?_
      refine lv_icmp_ge (tgt := 41) hx hb dX8_refuseAct_34 (by decide) (fun c7 => ?_) (fun c7 => ?_)
      ·
        have q7 : 20 ≤ (i 15 16).toInt := i_le c7
        have h8 : rg 20 20 (i 15 16) := t_ley 20 20 (rg_k (by decide) : rg 20 20 20) (Rg_at hR 15 16 0 20 (by decide) rfl) (i_le c7) (by decide)
        refine lv_bipush (v := (-5)) hx hb dX8_refuseAct_41 (by decide) ?_
        exact hret (-5) _ _ _ _ _ _ dX8_refuseAct_43 hT hS (Or.inr (Or.inr ⟨rfl, rfl, h2, h5⟩))
      ·
        have q7 : (i 15 16).toInt < 20 := i_nle c7
        have h9 : rg 0 19 (i 15 16) := t_ltx 0 19 (Rg_at hR 15 16 0 20 (by decide) rfl) (rg_k (by decide) : rg 20 20 20) (i_nle c7) (by decide)
        refine lv_iconst (v := 0) hx hb dX8_refuseAct_37 (by decide) ?_
        refine lv_goto (tgt := 43) hx hb dX8_refuseAct_38 (by decide) ?_
        exact hret 0 _ _ _ _ _ _ dX8_refuseAct_43 hT hS (Or.inl ⟨rfl, rfl, h2, h5⟩)
    ·
      obtain ⟨eh4, rfl⟩ := hq
      rw [(Prod.mk.inj eh4).1, (Prod.mk.inj eh4).2] at hT
      refine lv_if_ne (tgt := 25) hx hb dX8_refuseAct_19 (by decide) (fun c10 => (x_ne (rg_k (by decide) : rg 0 0 0) (rg_k (by decide) : rg 0 0 0) (i_ne c10) (by decide)).elim) (fun c10 => ?_)
      refine lv_bipush (v := (-2)) hx hb dX8_refuseAct_22 (by decide) ?_
      exact hret (-2) _ _ _ _ _ _ dX8_refuseAct_24 hT hS (Or.inr (Or.inl ⟨rfl, rfl⟩))
  ·
    obtain ⟨eh1, rfl⟩ := hq
    rw [(Prod.mk.inj eh1).1, (Prod.mk.inj eh1).2] at hT
    refine lv_if_eq (tgt := 22) hx hb dX8_refuseAct_8 (by decide) (fun c11 => ?_) (fun c11 => (x_ne (rg_k (by decide) : rg 0 0 0) (rg_k (by decide) : rg 0 0 0) (i_ne c11) (by decide)).elim)
    refine lv_bipush (v := (-2)) hx hb dX8_refuseAct_22 (by decide) ?_
    exact hret (-2) _ _ _ _ _ _ dX8_refuseAct_24 hT hS (Or.inr (Or.inl ⟨rfl, rfl⟩))
set_option maxRecDepth 100000 in
set_option maxHeartbeats 4000000 in
theorem m_X6_addAct_15 {l : Launch} {D : va_G} {h : Nat → Nat} {cz : Nat → ClassId} {z : EZ} {i : Nat → Nat → Int32} {g : Nat → Nat → Int64} (hR : Rg rA i) (a_a : Int32) (a_b : Int32) (a_c : Int32) (ha_a : rg 0 1 a_a) (ha_b : rg 0 5 a_b) (ha_c : rg 0 11 a_c) : DtV l yX6_addAct cX6_addAct 4 none ({ frames := 0, cells := 0, slots := 0, locals := 0 } : Room) D h cz z i g [.ref (h 15), .int a_a, .int a_b, .int a_c] (fun u => Rg rA u.1 ∧ Fr [15, 23, 24, 25] [] i g u) := by
  refine e_V pn_X6_addAct (Nat.le_of_ble_eq_true rfl) ?_
  intro p e s m args below meth c ls Q X Y hret hT hl hS
  have hx := X.1
  have hb := X.2.1
  have hl : lv_has ls 4 [(0, .ref (h 15)), (1, .int a_a), (2, .int a_b), (3, .int a_c)] := hl
  have hF : Fr [15, 23, 24, 25] [] i g (i, g) := Fr_rf _ _ _ _
  refine lv_aload_n hx hb dX6_addAct_0 rfl (lv_at hl 0 rfl) ?_
  refine r_geti X hT 15 16 fk_6_61 rfl rfl (by decide) dX6_addAct_1 ?_
  refine lv_bipush (v := 20) hx hb dX6_addAct_4 (by decide) ?_
  refine lv_icmp_ge (tgt := 49) hx hb dX6_addAct_6 (by decide) (fun c1 => ?_) (fun c1 => ?_)
  ·
    have q1 : 20 ≤ (i 15 16).toInt := i_le c1
    have h2 : rg 20 20 (i 15 16) := t_ley 20 20 (rg_k (by decide) : rg 20 20 20) (Rg_at hR 15 16 0 20 (by decide) rfl) (i_le c1) (by decide)
    exact hret _ _ _ _ _ _ dX6_addAct_49 hT hS ⟨hR, hF⟩
  ·
    have q1 : (i 15 16).toInt < 20 := i_nle c1
    have h3 : rg 0 19 (i 15 16) := t_ltx 0 19 (Rg_at hR 15 16 0 20 (by decide) rfl) (rg_k (by decide) : rg 20 20 20) (i_nle c1) (by decide)
    refine lv_aload_n hx hb dX6_addAct_9 rfl (lv_at hl 0 rfl) ?_
    refine r_getr X hT 15 7 23 fk_6_33 rfl rfl (by decide) dX6_addAct_10 ?_
    refine lv_aload_n hx hb dX6_addAct_13 rfl (lv_at hl 0 rfl) ?_
    refine r_geti X hT 15 16 fk_6_61 rfl rfl (by decide) dX6_addAct_14 ?_
    refine lv_iload_n hx hb dX6_addAct_17 rfl (lv_at hl 1 rfl) ?_
    refine r_iast X hT hS 23 rfl (by decide) (v_in h3 (by decide)) dX6_addAct_18 (fun H locs i4 ei4 hT hS => ?_)
    have hR4 := Rg_put hR ei4 0 1 rfl ha_a (by decide)
    have hF4 := Fr_puti hF ei4 (by decide)
    refine lv_aload_n hx hb dX6_addAct_19 rfl (lv_at hl 0 rfl) ?_
    refine r_getr X hT 15 8 24 fk_6_36 rfl rfl (by decide) dX6_addAct_20 ?_
    refine lv_aload_n hx hb dX6_addAct_23 rfl (lv_at hl 0 rfl) ?_
    refine r_geti X hT 15 16 fk_6_61 rfl rfl (by decide) dX6_addAct_24 ?_
    have e5 : (i4 15 16) = (i 15 16) := (z_j ei4 rfl (by decide))
    have h6 : rg 0 19 (i4 15 16) := rg_of e5 h3
    refine lv_iload_n hx hb dX6_addAct_27 rfl (lv_at hl 2 rfl) ?_
    refine r_iast X hT hS 24 rfl (by decide) (v_in h6 (by decide)) dX6_addAct_28 (fun H locs i7 ei7 hT hS => ?_)
    have hR7 := Rg_put hR4 ei7 0 5 rfl ha_b (by decide)
    have hF7 := Fr_puti hF4 ei7 (by decide)
    refine lv_aload_n hx hb dX6_addAct_29 rfl (lv_at hl 0 rfl) ?_
    refine r_getr X hT 15 9 25 fk_6_39 rfl rfl (by decide) dX6_addAct_30 ?_
    refine lv_aload_n hx hb dX6_addAct_33 rfl (lv_at hl 0 rfl) ?_
    refine r_geti X hT 15 16 fk_6_61 rfl rfl (by decide) dX6_addAct_34 ?_
    have e8 : (i7 15 16) = (i 15 16) := (z_j ei7 (z_j ei4 rfl (by decide)) (by decide))
    have h9 : rg 0 19 (i7 15 16) := rg_of e8 h3
    refine lv_iload_n hx hb dX6_addAct_37 rfl (lv_at hl 3 rfl) ?_
    refine r_iast X hT hS 25 rfl (by decide) (v_in h9 (by decide)) dX6_addAct_38 (fun H locs i10 ei10 hT hS => ?_)
    have hR10 := Rg_put hR7 ei10 0 11 rfl ha_c (by decide)
    have hF10 := Fr_puti hF7 ei10 (by decide)
    refine lv_aload_n hx hb dX6_addAct_39 rfl (lv_at hl 0 rfl) ?_
    refine lv_dup hx hb dX6_addAct_40 rfl ?_
    refine r_geti X hT 15 16 fk_6_61 rfl rfl (by decide) dX6_addAct_41 ?_
    have e11 : (i10 15 16) = (i 15 16) := (z_j ei10 (z_j ei7 (z_j ei4 rfl (by decide)) (by decide)) (by decide))
    have h12 : rg 0 19 (i10 15 16) := rg_of e11 h3
    refine lv_iconst (v := 1) hx hb dX6_addAct_44 (by decide) ?_
    refine q_iadd hx hb dX6_addAct_45 (fun x13 ex13 => ?_)
    obtain ⟨hx13, ax13⟩ := rg_add 1 20 ex13 h12 (rg_k (by decide) : rg 1 1 1) (by decide)
    replace ax13 : x13.toInt = (i10 15 16).toInt + 1 := ax13
    refine r_puti X hT hS 15 16 pk_6_61 rfl rfl rfl rfl (by decide) dX6_addAct_46 (fun H locs i14 ei14 hT hS => ?_)
    have hR14 := Rg_put hR10 ei14 0 20 rfl hx13 (by decide)
    have hF14 := Fr_puti hF10 ei14 (by decide)
    exact hret _ _ _ _ _ _ dX6_addAct_49 hT hS ⟨hR14, hF14⟩
set_option maxRecDepth 100000 in
set_option maxHeartbeats 4000000 in
theorem m_X8_knife {l : Launch} {D : va_G} {h : Nat → Nat} {cz : Nat → ClassId} {z : EZ} {i : Nat → Nat → Int32} {g : Nat → Nat → Int64} (hR : Rg rA i) (a_a : Int32) (a_b : Int32) : DtI l yX8_knife cX8_knife 4 (some .int) ({ frames := 5, cells := 0, slots := 0, locals := 133 } : Room) D h cz z i g [.ref (h 0), .int a_a, .int a_b] (fun r u => Rg rA u.1 ∧ Fr [0, 15, 23, 24, 25, 65, 66, 67, 68, 69, 70, 71] [] i g u) := by
  refine e_I pn_X8_knife (Nat.le_of_ble_eq_true rfl) ?_
  intro p e s m args below meth c ls Q X Y hret hT hl hS
  have hx := X.1
  have hb := X.2.1
  have hl : lv_has ls 4 [(0, .ref (h 0)), (1, .int a_a), (2, .int a_b)] := hl
  have hF : Fr [0, 15, 23, 24, 25, 65, 66, 67, 68, 69, 70, 71] [] i g (i, g) := Fr_rf _ _ _ _
  refine lv_aload_n hx hb dX8_knife_0 rfl (lv_at hl 0 rfl) ?_
  refine lv_iload_n hx hb dX8_knife_1 rfl (lv_at hl 1 rfl) ?_
  refine lv_iload_n hx hb dX8_knife_2 rfl (lv_at hl 2 rfl) ?_
  refine e_Vi (As := [.int a_a, .int a_b]) (rest := []) X Y hT hS (m_X8_refuseAct hR a_a a_b) mk_X8_refuseAct gm_1254 rfl rfl (by decide) hd_X8_refuseAct ⟨rfl, rfl⟩ ⟨Nat.le_of_ble_eq_true rfl, Nat.le_of_ble_eq_true rfl⟩ hl.1 rfl (Nat.le_of_ble_eq_true rfl) dX8_knife_3 ⟨Nat.zero_le _, Nat.zero_le _⟩ (fun r1 i1 g1 H locs hq hT hS => ?_)
  rcases hq with hq | hq | hq
  ·
    obtain ⟨eh1, rfl, hf1_0, hf1_1⟩ := hq
    rw [(Prod.mk.inj eh1).1, (Prod.mk.inj eh1).2] at hT
    have h2 : rg 0 5 a_a := ⟨by have := (rg_top a_a).1; have := hf1_0.1; omega, by have := (rg_top a_a).2; have := hf1_0.2; omega⟩
    have h3 : rg 0 11 a_b := ⟨by have := (rg_top a_b).1; have := hf1_1.1; omega, by have := (rg_top a_b).2; have := hf1_1.2; omega⟩
    refine lv_istore_n (lv' := [(3, .int 0), (0, .ref (h 0)), (1, .int a_a), (2, .int a_b)]) hx hb dX8_knife_6 rfl hl (by decide) rfl (fun ls hl => ?_)
    refine lv_iload_n hx hb dX8_knife_7 rfl (lv_at hl 0 rfl) ?_
    refine lv_if_eq (tgt := 13) hx hb dX8_knife_8 (by decide) (fun c4 => ?_) (fun c4 => (x_ne (rg_k (by decide) : rg 0 0 0) (rg_k (by decide) : rg 0 0 0) (i_ne c4) (by decide)).elim)
    refine lv_aload_n hx hb dX8_knife_13 rfl (lv_at hl 1 rfl) ?_
    refine r_getr X hT 0 3 15 fk_8_32 rfl rfl (by decide) dX8_knife_14 ?_
    refine lv_iconst (v := 0) hx hb dX8_knife_17 (by decide) ?_
    refine lv_iload_n hx hb dX8_knife_18 rfl (lv_at hl 2 rfl) ?_
    refine lv_iload_n hx hb dX8_knife_19 rfl (lv_at hl 3 rfl) ?_
    refine e_Vv (As := [.int 0, .int a_a, .int a_b]) (rest := []) X Y hT hS (m_X6_addAct_15 hR (0) a_a a_b (rg_w (rg_k (by decide) : rg 0 0 0) (by decide) : rg 0 1 0) h2 h3) mk_X6_addAct gm_1258 rfl rfl (by decide) hd_X6_addAct ⟨rfl, rfl⟩ ⟨Nat.le_of_ble_eq_true rfl, Nat.le_of_ble_eq_true rfl⟩ hl.1 rfl (Nat.le_of_ble_eq_true rfl) dX8_knife_20 ⟨Nat.zero_le _, Nat.zero_le _⟩ (fun i5 g5 H locs hq hT hS => ?_)
    obtain ⟨hR5, hf5⟩ := hq
    have hF5 := Fr_tr hF hf5 (by decide)
    refine lv_aload_n hx hb dX8_knife_23 rfl (lv_at hl 1 rfl) ?_
    refine e_Vv (As := []) (rest := []) X Y hT hS (m_X8_forgetAnswers hR5) mk_X8_forgetAnswers gm_657 rfl rfl (by decide) hd_X8_forgetAnswers ⟨rfl, rfl⟩ ⟨Nat.le_of_ble_eq_true rfl, Nat.le_of_ble_eq_true rfl⟩ hl.1 rfl (Nat.le_of_ble_eq_true rfl) dX8_knife_24 ⟨Nat.zero_le _, Nat.zero_le _⟩ (fun i6 g6 H locs hq hT hS => ?_)
    obtain ⟨hR6, hf6⟩ := hq
    have hF6 := Fr_tr hF5 hf6 (by decide)
    refine lv_aload_n hx hb dX8_knife_27 rfl (lv_at hl 1 rfl) ?_
    refine e_Vr (As := []) (rest := []) X Y hT hS (m_X8_current hR6) mk_X8_current gm_736 rfl rfl (by decide) hd_X8_current ⟨rfl, rfl⟩ ⟨Nat.le_of_ble_eq_true rfl, Nat.le_of_ble_eq_true rfl⟩ hl.1 rfl (Nat.le_of_ble_eq_true rfl) dX8_knife_28 ⟨Nat.zero_le _, Nat.zero_le _⟩ (fun i7 g7 H locs hq hT hS => ?_)
    obtain ⟨hR7, hf7⟩ := hq
    have hF7 := Fr_tr hF6 hf7 (by decide)
    refine e_Vi (As := []) (rest := []) X Y hT hS (m_X0_readInAll_65 hR7) mk_X0_readInAll gm_840 rfl rfl (by decide) hd_X0_readInAll ⟨rfl, rfl⟩ ⟨Nat.le_of_ble_eq_true rfl, Nat.le_of_ble_eq_true rfl⟩ hl.1 rfl (Nat.le_of_ble_eq_true rfl) dX8_knife_31 ⟨Nat.zero_le _, Nat.zero_le _⟩ (fun r8 i8 g8 H locs hq hT hS => ?_)
    obtain ⟨hR8, hf8⟩ := hq
    have hF8 := Fr_tr hF7 hf8 (by decide)
    exact hret r8 _ _ _ _ _ _ dX8_knife_34 hT hS ⟨hR8, hF8⟩
  ·
    obtain ⟨eh1, rfl⟩ := hq
    rw [(Prod.mk.inj eh1).1, (Prod.mk.inj eh1).2] at hT
    refine lv_istore_n (lv' := [(3, .int (-2)), (0, .ref (h 0)), (1, .int a_a), (2, .int a_b)]) hx hb dX8_knife_6 rfl hl (by decide) rfl (fun ls hl => ?_)
    refine lv_iload_n hx hb dX8_knife_7 rfl (lv_at hl 0 rfl) ?_
    refine lv_if_eq (tgt := 13) hx hb dX8_knife_8 (by decide) (fun c9 => (x_eq (rg_k (by decide) : rg (-2) (-2) (-2)) (rg_k (by decide) : rg 0 0 0) (i_eq c9) (by decide)).elim) (fun c9 => ?_)
    refine lv_iload_n hx hb dX8_knife_11 rfl (lv_at hl 0 rfl) ?_
    exact hret (-2) _ _ _ _ _ _ dX8_knife_12 hT hS ⟨hR, hF⟩
  ·
    obtain ⟨eh1, rfl, hf1_0, hf1_1⟩ := hq
    rw [(Prod.mk.inj eh1).1, (Prod.mk.inj eh1).2] at hT
    have h10 : rg 0 5 a_a := ⟨by have := (rg_top a_a).1; have := hf1_0.1; omega, by have := (rg_top a_a).2; have := hf1_0.2; omega⟩
    have h11 : rg 0 11 a_b := ⟨by have := (rg_top a_b).1; have := hf1_1.1; omega, by have := (rg_top a_b).2; have := hf1_1.2; omega⟩
    refine lv_istore_n (lv' := [(3, .int (-5)), (0, .ref (h 0)), (1, .int a_a), (2, .int a_b)]) hx hb dX8_knife_6 rfl hl (by decide) rfl (fun ls hl => ?_)
    refine lv_iload_n hx hb dX8_knife_7 rfl (lv_at hl 0 rfl) ?_
    refine lv_if_eq (tgt := 13) hx hb dX8_knife_8 (by decide) (fun c12 => (x_eq (rg_k (by decide) : rg (-5) (-5) (-5)) (rg_k (by decide) : rg 0 0 0) (i_eq c12) (by decide)).elim) (fun c12 => ?_)
    refine lv_iload_n hx hb dX8_knife_11 rfl (lv_at hl 0 rfl) ?_
    exact hret (-5) _ _ _ _ _ _ dX8_knife_12 hT hS ⟨hR, hF⟩
set_option maxRecDepth 100000 in
set_option maxHeartbeats 4000000 in
theorem m_X8_air {l : Launch} {D : va_G} {h : Nat → Nat} {cz : Nat → ClassId} {z : EZ} {i : Nat → Nat → Int32} {g : Nat → Nat → Int64} (hR : Rg rA i) (a_a : Int32) (a_b : Int32) : DtI l yX8_air cX8_air 4 (some .int) ({ frames := 5, cells := 0, slots := 0, locals := 111 } : Room) D h cz z i g [.ref (h 0), .int a_a, .int a_b] (fun r u => Rg rA u.1 ∧ Fr [0, 15, 23, 24, 25, 65, 66, 67, 68, 69, 70, 71] [] i g u ∧ rg (-5) 99 r) := by
  refine e_I pn_X8_air (Nat.le_of_ble_eq_true rfl) ?_
  intro p e s m args below meth c ls Q X Y hret hT hl hS
  have hx := X.1
  have hb := X.2.1
  have hl : lv_has ls 4 [(0, .ref (h 0)), (1, .int a_a), (2, .int a_b)] := hl
  have hF : Fr [0, 15, 23, 24, 25, 65, 66, 67, 68, 69, 70, 71] [] i g (i, g) := Fr_rf _ _ _ _
  refine lv_aload_n hx hb dX8_air_0 rfl (lv_at hl 0 rfl) ?_
  refine lv_iload_n hx hb dX8_air_1 rfl (lv_at hl 1 rfl) ?_
  refine lv_iload_n hx hb dX8_air_2 rfl (lv_at hl 2 rfl) ?_
  refine e_Vi (As := [.int a_a, .int a_b]) (rest := []) X Y hT hS (m_X8_refuseAct hR a_a a_b) mk_X8_refuseAct gm_1254 rfl rfl (by decide) hd_X8_refuseAct ⟨rfl, rfl⟩ ⟨Nat.le_of_ble_eq_true rfl, Nat.le_of_ble_eq_true rfl⟩ hl.1 rfl (Nat.le_of_ble_eq_true rfl) dX8_air_3 ⟨Nat.zero_le _, Nat.zero_le _⟩ (fun r1 i1 g1 H locs hq hT hS => ?_)
  rcases hq with hq | hq | hq
  ·
    obtain ⟨eh1, rfl, hf1_0, hf1_1⟩ := hq
    rw [(Prod.mk.inj eh1).1, (Prod.mk.inj eh1).2] at hT
    have h2 : rg 0 5 a_a := ⟨by have := (rg_top a_a).1; have := hf1_0.1; omega, by have := (rg_top a_a).2; have := hf1_0.2; omega⟩
    have h3 : rg 0 11 a_b := ⟨by have := (rg_top a_b).1; have := hf1_1.1; omega, by have := (rg_top a_b).2; have := hf1_1.2; omega⟩
    refine lv_istore_n (lv' := [(3, .int 0), (0, .ref (h 0)), (1, .int a_a), (2, .int a_b)]) hx hb dX8_air_6 rfl hl (by decide) rfl (fun ls hl => ?_)
    refine lv_iload_n hx hb dX8_air_7 rfl (lv_at hl 0 rfl) ?_
    refine lv_if_eq (tgt := 13) hx hb dX8_air_8 (by decide) (fun c4 => ?_) (fun c4 => (x_ne (rg_k (by decide) : rg 0 0 0) (rg_k (by decide) : rg 0 0 0) (i_ne c4) (by decide)).elim)
    refine lv_aload_n hx hb dX8_air_13 rfl (lv_at hl 1 rfl) ?_
    refine r_getr X hT 0 3 15 fk_8_32 rfl rfl (by decide) dX8_air_14 ?_
    refine lv_iconst (v := 1) hx hb dX8_air_17 (by decide) ?_
    refine lv_iload_n hx hb dX8_air_18 rfl (lv_at hl 2 rfl) ?_
    refine lv_iload_n hx hb dX8_air_19 rfl (lv_at hl 3 rfl) ?_
    refine e_Vv (As := [.int 1, .int a_a, .int a_b]) (rest := []) X Y hT hS (m_X6_addAct_15 hR (1) a_a a_b (rg_w (rg_k (by decide) : rg 1 1 1) (by decide) : rg 0 1 1) h2 h3) mk_X6_addAct gm_1258 rfl rfl (by decide) hd_X6_addAct ⟨rfl, rfl⟩ ⟨Nat.le_of_ble_eq_true rfl, Nat.le_of_ble_eq_true rfl⟩ hl.1 rfl (Nat.le_of_ble_eq_true rfl) dX8_air_20 ⟨Nat.zero_le _, Nat.zero_le _⟩ (fun i5 g5 H locs hq hT hS => ?_)
    obtain ⟨hR5, hf5⟩ := hq
    have hF5 := Fr_tr hF hf5 (by decide)
    refine lv_aload_n hx hb dX8_air_23 rfl (lv_at hl 1 rfl) ?_
    refine e_Vv (As := []) (rest := []) X Y hT hS (m_X8_forgetAnswers hR5) mk_X8_forgetAnswers gm_657 rfl rfl (by decide) hd_X8_forgetAnswers ⟨rfl, rfl⟩ ⟨Nat.le_of_ble_eq_true rfl, Nat.le_of_ble_eq_true rfl⟩ hl.1 rfl (Nat.le_of_ble_eq_true rfl) dX8_air_24 ⟨Nat.zero_le _, Nat.zero_le _⟩ (fun i6 g6 H locs hq hT hS => ?_)
    obtain ⟨hR6, hf6⟩ := hq
    have hF6 := Fr_tr hF5 hf6 (by decide)
    refine lv_aload_n hx hb dX8_air_27 rfl (lv_at hl 1 rfl) ?_
    refine e_Vr (As := []) (rest := []) X Y hT hS (m_X8_current hR6) mk_X8_current gm_736 rfl rfl (by decide) hd_X8_current ⟨rfl, rfl⟩ ⟨Nat.le_of_ble_eq_true rfl, Nat.le_of_ble_eq_true rfl⟩ hl.1 rfl (Nat.le_of_ble_eq_true rfl) dX8_air_28 ⟨Nat.zero_le _, Nat.zero_le _⟩ (fun i7 g7 H locs hq hT hS => ?_)
    obtain ⟨hR7, hf7⟩ := hq
    have hF7 := Fr_tr hF6 hf7 (by decide)
    refine lv_iload_n hx hb dX8_air_31 rfl (lv_at hl 2 rfl) ?_
    refine lv_aload_n hx hb dX8_air_32 rfl (lv_at hl 1 rfl) ?_
    refine r_getr X hT 0 3 15 fk_8_32 rfl rfl (by decide) dX8_air_33 ?_
    refine r_geti X hT 15 10 fk_8_168 rfl rfl (by decide) dX8_air_36 ?_
    refine e_Vi (As := [.int a_a, .int (i7 15 10)]) (rest := []) X Y hT hS (m_X0_stiffness_65 hR7 a_a (i7 15 10) h2) mk_X0_stiffness gm_769 rfl rfl (by decide) hd_X0_stiffness ⟨rfl, rfl⟩ ⟨Nat.le_of_ble_eq_true rfl, Nat.le_of_ble_eq_true rfl⟩ hl.1 rfl (Nat.le_of_ble_eq_true rfl) dX8_air_39 ⟨Nat.zero_le _, Nat.zero_le _⟩ (fun r8 i8 g8 H locs hq hT hS => ?_)
    obtain ⟨hR8, hf8, hr8⟩ := hq
    have hF8 := Fr_tr hF7 hf8 (by decide)
    exact hret r8 _ _ _ _ _ _ dX8_air_42 hT hS ⟨hR8, hF8, (rg_w hr8 (by decide) : rg (-5) 99 r8)⟩
  ·
    obtain ⟨eh1, rfl⟩ := hq
    rw [(Prod.mk.inj eh1).1, (Prod.mk.inj eh1).2] at hT
    refine lv_istore_n (lv' := [(3, .int (-2)), (0, .ref (h 0)), (1, .int a_a), (2, .int a_b)]) hx hb dX8_air_6 rfl hl (by decide) rfl (fun ls hl => ?_)
    refine lv_iload_n hx hb dX8_air_7 rfl (lv_at hl 0 rfl) ?_
    refine lv_if_eq (tgt := 13) hx hb dX8_air_8 (by decide) (fun c9 => (x_eq (rg_k (by decide) : rg (-2) (-2) (-2)) (rg_k (by decide) : rg 0 0 0) (i_eq c9) (by decide)).elim) (fun c9 => ?_)
    refine lv_iload_n hx hb dX8_air_11 rfl (lv_at hl 0 rfl) ?_
    exact hret (-2) _ _ _ _ _ _ dX8_air_12 hT hS ⟨hR, hF, (rg_w (rg_k (by decide) : rg (-2) (-2) (-2)) (by decide) : rg (-5) 99 (-2))⟩
  ·
    obtain ⟨eh1, rfl, hf1_0, hf1_1⟩ := hq
    rw [(Prod.mk.inj eh1).1, (Prod.mk.inj eh1).2] at hT
    have h10 : rg 0 5 a_a := ⟨by have := (rg_top a_a).1; have := hf1_0.1; omega, by have := (rg_top a_a).2; have := hf1_0.2; omega⟩
    have h11 : rg 0 11 a_b := ⟨by have := (rg_top a_b).1; have := hf1_1.1; omega, by have := (rg_top a_b).2; have := hf1_1.2; omega⟩
    refine lv_istore_n (lv' := [(3, .int (-5)), (0, .ref (h 0)), (1, .int a_a), (2, .int a_b)]) hx hb dX8_air_6 rfl hl (by decide) rfl (fun ls hl => ?_)
    refine lv_iload_n hx hb dX8_air_7 rfl (lv_at hl 0 rfl) ?_
    refine lv_if_eq (tgt := 13) hx hb dX8_air_8 (by decide) (fun c12 => (x_eq (rg_k (by decide) : rg (-5) (-5) (-5)) (rg_k (by decide) : rg 0 0 0) (i_eq c12) (by decide)).elim) (fun c12 => ?_)
    refine lv_iload_n hx hb dX8_air_11 rfl (lv_at hl 0 rfl) ?_
    exact hret (-5) _ _ _ _ _ _ dX8_air_12 hT hS ⟨hR, hF, (rg_w (rg_k (by decide) : rg (-5) (-5) (-5)) (by decide) : rg (-5) 99 (-5))⟩
set_option maxRecDepth 100000 in
set_option maxHeartbeats 4000000 in
theorem m_X8_undo {l : Launch} {D : va_G} {h : Nat → Nat} {cz : Nat → ClassId} {z : EZ} {i : Nat → Nat → Int32} {g : Nat → Nat → Int64} (hR : Rg rA i) : DtI l yX8_undo cX8_undo 1 (some .int) ({ frames := 1, cells := 0, slots := 0, locals := 20 } : Room) D h cz z i g [.ref (h 0)] (fun r u => Rg rA u.1 ∧ Fr [0, 15] [] i g u ∧ rg (-5) 19 r) := by
  refine e_I pn_X8_undo (Nat.le_of_ble_eq_true rfl) ?_
  intro p e s m args below meth c ls Q X Y hret hT hl hS
  have hx := X.1
  have hb := X.2.1
  have hl : lv_has ls 1 [(0, .ref (h 0))] := hl
  have hF : Fr [0, 15] [] i g (i, g) := Fr_rf _ _ _ _
  refine lv_aload_n hx hb dX8_undo_0 rfl (lv_at hl 0 rfl) ?_
  refine r_getr X hT 0 3 15 fk_8_32 rfl rfl (by decide) dX8_undo_1 ?_
  refine e_Vi (As := []) (rest := []) X Y hT hS (m_X6_isTold_15 hR) mk_X6_isTold gm_698 rfl rfl (by decide) hd_X6_isTold ⟨rfl, rfl⟩ ⟨Nat.le_of_ble_eq_true rfl, Nat.le_of_ble_eq_true rfl⟩ hl.1 rfl (Nat.le_of_ble_eq_true rfl) dX8_undo_4 ⟨Nat.zero_le _, Nat.zero_le _⟩ (fun r1 i1 g1 H locs hq hT hS => ?_)
  obtain ⟨eh1, hr1⟩ := hq
  rw [(Prod.mk.inj eh1).1, (Prod.mk.inj eh1).2] at hT
  refine lv_if_ne (tgt := 13) hx hb dX8_undo_7 (by decide) (fun c2 => ?_) (fun c2 => ?_)
  ·
    have q2 : ¬ r1.toInt = 0 := i_ne c2
    have h3 : rg 1 1 r1 := t_nelo 1 hr1 (rg_k (by decide) : rg 0 0 0) (i_ne c2) (by decide)
    refine lv_aload_n hx hb dX8_undo_13 rfl (lv_at hl 0 rfl) ?_
    refine r_getr X hT 0 3 15 fk_8_32 rfl rfl (by decide) dX8_undo_14 ?_
    refine r_geti X hT 15 16 fk_8_179 rfl rfl (by decide) dX8_undo_17 ?_
    refine lv_if_ne (tgt := 26) hx hb dX8_undo_20 (by decide) (fun c4 => ?_) (fun c4 => ?_)
    ·
      have q4 : ¬ (i 15 16).toInt = 0 := i_ne c4
      have h5 : rg 1 20 (i 15 16) := t_nelo 1 (Rg_at hR 15 16 0 20 (by decide) rfl) (rg_k (by decide) : rg 0 0 0) (i_ne c4) (by decide)
      refine lv_aload_n hx hb dX8_undo_26 rfl (lv_at hl 0 rfl) ?_
      refine r_getr X hT 0 3 15 fk_8_32 rfl rfl (by decide) dX8_undo_27 ?_
      refine lv_dup hx hb dX8_undo_30 rfl ?_
      refine r_geti X hT 15 16 fk_8_179 rfl rfl (by decide) dX8_undo_31 ?_
      refine lv_iconst (v := 1) hx hb dX8_undo_34 (by decide) ?_
      refine q_isub hx hb dX8_undo_35 (fun x6 ex6 => ?_)
      obtain ⟨hx6, ax6⟩ := rg_sub 0 19 ex6 h5 (rg_k (by decide) : rg 1 1 1) (by decide)
      replace ax6 : x6.toInt = (i 15 16).toInt - 1 := ax6
      refine r_puti X hT hS 15 16 pk_8_179 rfl rfl rfl rfl (by decide) dX8_undo_36 (fun H locs i7 ei7 hT hS => ?_)
      have hR7 := Rg_put hR ei7 0 20 rfl hx6 (by decide)
      have hF7 := Fr_puti hF ei7 (by decide)
      refine lv_aload_n hx hb dX8_undo_39 rfl (lv_at hl 0 rfl) ?_
      refine e_Vv (As := []) (rest := []) X Y hT hS (m_X8_forgetAnswers hR7) mk_X8_forgetAnswers gm_657 rfl rfl (by decide) hd_X8_forgetAnswers ⟨rfl, rfl⟩ ⟨Nat.le_of_ble_eq_true rfl, Nat.le_of_ble_eq_true rfl⟩ hl.1 rfl (Nat.le_of_ble_eq_true rfl) dX8_undo_40 ⟨Nat.zero_le _, Nat.zero_le _⟩ (fun i8 g8 H locs hq hT hS => ?_)
      obtain ⟨hR8, hf8⟩ := hq
      have hF8 := Fr_tr hF7 hf8 (by decide)
      refine lv_aload_n hx hb dX8_undo_43 rfl (lv_at hl 0 rfl) ?_
      refine r_getr X hT 0 3 15 fk_8_32 rfl rfl (by decide) dX8_undo_44 ?_
      refine r_geti X hT 15 16 fk_8_179 rfl rfl (by decide) dX8_undo_47 ?_
      have e9 : (i8 15 16) = x6 := (z_F hf8 (z_s ei7) (by decide))
      have h10 : rg 0 19 (i8 15 16) := rg_of e9 hx6
      exact hret (i8 15 16) _ _ _ _ _ _ dX8_undo_50 hT hS ⟨hR8, hF8, (rg_w h10 (by decide) : rg (-5) 19 (i8 15 16))⟩
    ·
      have q4 : (i 15 16).toInt = 0 := i_eq c4
      have h11 : rg 0 0 (i 15 16) := t_eqx 0 0 (Rg_at hR 15 16 0 20 (by decide) rfl) (rg_k (by decide) : rg 0 0 0) (i_eq c4) (by decide)
      refine lv_bipush (v := (-5)) hx hb dX8_undo_23 (by decide) ?_
      exact hret (-5) _ _ _ _ _ _ dX8_undo_25 hT hS ⟨hR, hF, (rg_w (rg_k (by decide) : rg (-5) (-5) (-5)) (by decide) : rg (-5) 19 (-5))⟩
  ·
    have q2 : r1.toInt = 0 := i_eq c2
    have h12 : rg 0 0 r1 := t_eqx 0 0 hr1 (rg_k (by decide) : rg 0 0 0) (i_eq c2) (by decide)
    refine lv_bipush (v := (-2)) hx hb dX8_undo_10 (by decide) ?_
    exact hret (-2) _ _ _ _ _ _ dX8_undo_12 hT hS ⟨hR, hF, (rg_w (rg_k (by decide) : rg (-2) (-2) (-2)) (by decide) : rg (-5) 19 (-2))⟩
set_option maxRecDepth 100000 in
set_option maxHeartbeats 4000000 in
theorem m_X8_anew {l : Launch} {D : va_G} {h : Nat → Nat} {cz : Nat → ClassId} {z : EZ} {i : Nat → Nat → Int32} {g : Nat → Nat → Int64} (hR : Rg rA i) : DtI l yX8_anew cX8_anew 2 (some .int) ({ frames := 1, cells := 0, slots := 0, locals := 20 } : Room) D h cz z i g [.ref (h 0)] (fun r u => Rg rA u.1 ∧ Fr [0, 15] [] i g u ∧ rg (-2) 20 r) := by
  refine e_I pn_X8_anew (Nat.le_of_ble_eq_true rfl) ?_
  intro p e s m args below meth c ls Q X Y hret hT hl hS
  have hx := X.1
  have hb := X.2.1
  have hl : lv_has ls 2 [(0, .ref (h 0))] := hl
  have hF : Fr [0, 15] [] i g (i, g) := Fr_rf _ _ _ _
  refine lv_aload_n hx hb dX8_anew_0 rfl (lv_at hl 0 rfl) ?_
  refine r_getr X hT 0 3 15 fk_8_32 rfl rfl (by decide) dX8_anew_1 ?_
  refine e_Vi (As := []) (rest := []) X Y hT hS (m_X6_isTold_15 hR) mk_X6_isTold gm_698 rfl rfl (by decide) hd_X6_isTold ⟨rfl, rfl⟩ ⟨Nat.le_of_ble_eq_true rfl, Nat.le_of_ble_eq_true rfl⟩ hl.1 rfl (Nat.le_of_ble_eq_true rfl) dX8_anew_4 ⟨Nat.zero_le _, Nat.zero_le _⟩ (fun r1 i1 g1 H locs hq hT hS => ?_)
  obtain ⟨eh1, hr1⟩ := hq
  rw [(Prod.mk.inj eh1).1, (Prod.mk.inj eh1).2] at hT
  refine lv_if_ne (tgt := 13) hx hb dX8_anew_7 (by decide) (fun c2 => ?_) (fun c2 => ?_)
  ·
    have q2 : ¬ r1.toInt = 0 := i_ne c2
    have h3 : rg 1 1 r1 := t_nelo 1 hr1 (rg_k (by decide) : rg 0 0 0) (i_ne c2) (by decide)
    refine lv_aload_n hx hb dX8_anew_13 rfl (lv_at hl 0 rfl) ?_
    refine r_getr X hT 0 3 15 fk_8_32 rfl rfl (by decide) dX8_anew_14 ?_
    refine r_geti X hT 15 16 fk_8_179 rfl rfl (by decide) dX8_anew_17 ?_
    refine lv_istore_n (lv' := [(1, .int (i 15 16)), (0, .ref (h 0))]) hx hb dX8_anew_20 rfl hl (by decide) rfl (fun ls hl => ?_)
    refine lv_aload_n hx hb dX8_anew_21 rfl (lv_at hl 1 rfl) ?_
    refine r_getr X hT 0 3 15 fk_8_32 rfl rfl (by decide) dX8_anew_22 ?_
    refine lv_iconst (v := 0) hx hb dX8_anew_25 (by decide) ?_
    refine r_puti X hT hS 15 16 pk_8_179 rfl rfl rfl rfl (by decide) dX8_anew_26 (fun H locs i4 ei4 hT hS => ?_)
    have hR4 := Rg_put hR ei4 0 20 rfl (rg_k (by decide) : rg 0 0 0) (by decide)
    have hF4 := Fr_puti hF ei4 (by decide)
    refine lv_aload_n hx hb dX8_anew_29 rfl (lv_at hl 1 rfl) ?_
    refine e_Vv (As := []) (rest := []) X Y hT hS (m_X8_forgetAnswers hR4) mk_X8_forgetAnswers gm_657 rfl rfl (by decide) hd_X8_forgetAnswers ⟨rfl, rfl⟩ ⟨Nat.le_of_ble_eq_true rfl, Nat.le_of_ble_eq_true rfl⟩ hl.1 rfl (Nat.le_of_ble_eq_true rfl) dX8_anew_30 ⟨Nat.zero_le _, Nat.zero_le _⟩ (fun i5 g5 H locs hq hT hS => ?_)
    obtain ⟨hR5, hf5⟩ := hq
    have hF5 := Fr_tr hF4 hf5 (by decide)
    refine lv_iload_n hx hb dX8_anew_33 rfl (lv_at hl 0 rfl) ?_
    exact hret (i 15 16) _ _ _ _ _ _ dX8_anew_34 hT hS ⟨hR5, hF5, (rg_w (Rg_at hR 15 16 0 20 (by decide) rfl) (by decide) : rg (-2) 20 (i 15 16))⟩
  ·
    have q2 : r1.toInt = 0 := i_eq c2
    have h6 : rg 0 0 r1 := t_eqx 0 0 hr1 (rg_k (by decide) : rg 0 0 0) (i_eq c2) (by decide)
    refine lv_bipush (v := (-2)) hx hb dX8_anew_10 (by decide) ?_
    exact hret (-2) _ _ _ _ _ _ dX8_anew_12 hT hS ⟨hR, hF, (rg_w (rg_k (by decide) : rg (-2) (-2) (-2)) (by decide) : rg (-2) 20 (-2))⟩
set_option maxRecDepth 100000 in
set_option maxHeartbeats 4000000 in
theorem m_X8_isSeed {l : Launch} {D : va_G} {h : Nat → Nat} {cz : Nat → ClassId} {z : EZ} {i : Nat → Nat → Int32} {g : Nat → Nat → Int64} (a_a : Int32) : DtI l yX8_isSeed cX8_isSeed 1 (some .boolean) ({ frames := 0, cells := 0, slots := 0, locals := 0 } : Room) D h cz z i g [.int a_a] (fun r u => (u = (i, g) ∧ r = 1 ∧ rg 0 2000000000 a_a) ∨ (u = (i, g) ∧ r = 0)) := by
  refine e_Z (fun v u hq => (hq.elim (fun hq => (Or.inr hq.2.1)) (fun hq => (Or.inl hq.2)))) pn_X8_isSeed (Nat.le_of_ble_eq_true rfl) ?_
  intro p e s m args below meth c ls Q X Y hret hT hl hS
  have hx := X.1
  have hb := X.2.1
  have hl : lv_has ls 1 [(0, .int a_a)] := hl
  refine lv_iload_n hx hb dX8_isSeed_0 rfl (lv_at hl 0 rfl) ?_
  refine lv_if_lt (tgt := 15) hx hb dX8_isSeed_1 (by decide) (fun c1 => ?_) (fun c1 => ?_)
  ·
    have q1 : a_a.toInt < 0 := i_lt c1
    have h2 : rg (-2147483648) (-1) a_a := t_ltx (-2147483648) (-1) (rg_top a_a) (rg_k (by decide) : rg 0 0 0) (i_lt c1) (by decide)
    refine lv_iconst (v := 0) hx hb dX8_isSeed_15 (by decide) ?_
    exact hret 0 _ _ _ _ _ _ dX8_isSeed_16 hT hS (Or.inr ⟨rfl, rfl⟩)
  ·
    have q1 : 0 ≤ a_a.toInt := i_nlt c1
    have h3 : rg 0 2147483647 a_a := t_ley 0 2147483647 (rg_k (by decide) : rg 0 0 0) (rg_top a_a) (i_nlt c1) (by decide)
    refine lv_iload_n hx hb dX8_isSeed_4 rfl (lv_at hl 0 rfl) ?_
    refine lv_ldcw (v := 2000000000) hx hb X.2.2.2.1 (X.2.2.2.2.1 _ gm_1236) dX8_isSeed_5 ?_
    refine lv_icmp_gt (tgt := 15) hx hb dX8_isSeed_8 (by decide) (fun c4 => ?_) (fun c4 => ?_)
    ·
      have q4 : 2000000000 < a_a.toInt := i_lt c4
      have h5 : rg 2000000001 2147483647 a_a := t_lty 2000000001 2147483647 (rg_k (by decide) : rg 2000000000 2000000000 2000000000) h3 (i_lt c4) (by decide)
      refine lv_iconst (v := 0) hx hb dX8_isSeed_15 (by decide) ?_
      exact hret 0 _ _ _ _ _ _ dX8_isSeed_16 hT hS (Or.inr ⟨rfl, rfl⟩)
    ·
      have q4 : a_a.toInt ≤ 2000000000 := i_nlt c4
      have h6 : rg 0 2000000000 a_a := t_lex 0 2000000000 h3 (rg_k (by decide) : rg 2000000000 2000000000 2000000000) (i_nlt c4) (by decide)
      refine lv_iconst (v := 1) hx hb dX8_isSeed_11 (by decide) ?_
      refine lv_goto (tgt := 16) hx hb dX8_isSeed_12 (by decide) ?_
      exact hret 1 _ _ _ _ _ _ dX8_isSeed_16 hT hS (Or.inl ⟨rfl, rfl, h6⟩)
set_option maxRecDepth 100000 in
set_option maxHeartbeats 4000000 in
theorem m_X8_knivesDrawn {l : Launch} {D : va_G} {h : Nat → Nat} {cz : Nat → ClassId} {z : EZ} {i : Nat → Nat → Int32} {g : Nat → Nat → Int64} (hR : Rg rA i) (a_a : Int64) : DtI l yX8_knivesDrawn cX8_knivesDrawn 7 (some .int) ({ frames := 0, cells := 0, slots := 0, locals := 0 } : Room) D h cz z i g [.ref (h 0), .long a_a] (fun r u => u = (i, g) ∧ rg 0 255 r) := by
  refine e_I pn_X8_knivesDrawn (Nat.le_of_ble_eq_true rfl) ?_
  intro p e s m args below meth c ls Q X Y hret hT hl hS
  have hx := X.1
  have hb := X.2.1
  have hl : lv_has ls 7 [(0, .ref (h 0)), (1, .long a_a)] := hl
  refine lv_lload_n hx hb dX8_knivesDrawn_0 rfl (lv_at hl 1 rfl) ?_
  refine lv_lstore_n (lv' := [(3, .long a_a), (0, .ref (h 0)), (1, .long a_a)]) hx hb dX8_knivesDrawn_1 rfl hl (by decide) rfl (fun ls hl => ?_)
  refine lv_iconst (v := 0) hx hb dX8_knivesDrawn_2 (by decide) ?_
  refine lv_istore (lv' := [(5, .int 0), (3, .long a_a), (0, .ref (h 0)), (1, .long a_a)]) hx hb dX8_knivesDrawn_3 hl (by decide) rfl (fun ls hl => ?_)
  refine lv_iconst (v := 0) hx hb dX8_knivesDrawn_5 (by decide) ?_
  refine lv_istore (lv' := [(6, .int 0), (5, .int 0), (3, .long a_a), (0, .ref (h 0)), (1, .long a_a)]) hx hb dX8_knivesDrawn_6 hl (by decide) rfl (fun ls hl => ?_)
  have L8_1 : ∀ (n2_ : Nat) (y8_3 : Int64) (x8_5 : Int32) (x8_6 : Int32) (H : Heap) (locs : List Loc) (ls : Array Slot), rg 0 255 x8_5 → rg 0 8 x8_6 → TH D h cz i g H → va_S (hA h) s.heap H locs → lv_has ls 7 [(0, .ref (h 0)), (3, .long y8_3), (5, .int x8_5), (6, .int x8_6)] → (8 - x8_6.toInt).toNat < n2_ → W p l e ({ frames := 0, cells := 0, slots := 0, locals := 0 } : Room) s m args below meth c H locs 0 0 Q (F0 m 8 ls []) := by
    intro n2_
    induction n2_ with
    | zero => intro y8_3 x8_5 x8_6 H locs ls hhx8_5 hhx8_6 hT hS hl hm2_; exact absurd hm2_ (Nat.not_lt_zero _)
    | succ n2_ ih2_ =>
      intro y8_3 x8_5 x8_6 H locs ls hhx8_5 hhx8_6 hT hS hl hm2_
      refine lv_iload hx hb dX8_knivesDrawn_8 (lv_at hl 3 rfl) ?_
      refine lv_aload_n hx hb dX8_knivesDrawn_10 rfl (lv_at hl 0 rfl) ?_
      refine r_getr X hT 0 3 15 fk_8_32 rfl rfl (by decide) dX8_knivesDrawn_11 ?_
      refine r_geti X hT 15 15 fk_8_162 rfl rfl (by decide) dX8_knivesDrawn_14 ?_
      refine lv_icmp_ge (tgt := 70) hx hb dX8_knivesDrawn_17 (by decide) (fun c3 => ?_) (fun c3 => ?_)
      ·
        have q3 : (i 15 15).toInt ≤ x8_6.toInt := i_le c3
        refine lv_iload hx hb dX8_knivesDrawn_70 (lv_at hl 2 rfl) ?_
        exact hret x8_5 _ _ _ _ _ _ dX8_knivesDrawn_72 hT hS ⟨rfl, hhx8_5⟩
      ·
        have q3 : x8_6.toInt < (i 15 15).toInt := i_nle c3
        have h4 : rg 0 7 x8_6 := t_ltx 0 7 hhx8_6 (Rg_at hR 15 15 0 8 (by decide) rfl) (i_nle c3) (by decide)
        have h5 : rg 1 8 (i 15 15) := t_lty 1 8 hhx8_6 (Rg_at hR 15 15 0 8 (by decide) rfl) (i_nle c3) (by decide)
        refine lv_ldc2 (v := 1103515245) hx hb X.2.2.2.1 (X.2.2.2.2.1 _ gm_1241) dX8_knivesDrawn_20 ?_
        refine lv_lload_n hx hb dX8_knivesDrawn_23 rfl (lv_at hl 1 rfl) ?_
        refine q_lmul hx hb dX8_knivesDrawn_24 (fun y6 ey6 => ?_)
        refine lv_ldc2 (v := 12345) hx hb X.2.2.2.1 (X.2.2.2.2.1 _ gm_1242) dX8_knivesDrawn_25 ?_
        refine q_ladd hx hb dX8_knivesDrawn_28 (fun y7 ey7 => ?_)
        refine lv_ldc2 (v := 2147483648) hx hb X.2.2.2.1 (X.2.2.2.2.1 _ gm_1243) dX8_knivesDrawn_29 ?_
        refine q_lrem hx hb dX8_knivesDrawn_32 (nz_L (rgL_k (by decide) : rgL 2147483648 2147483648 2147483648) (by decide)) (fun y8 ey8 => ?_)
        refine lv_lstore_n (lv' := [(3, .long y8), (0, .ref (h 0)), (5, .int x8_5), (6, .int x8_6)]) hx hb dX8_knivesDrawn_33 rfl hl (by decide) rfl (fun ls hl => ?_)
        refine lv_lload_n hx hb dX8_knivesDrawn_34 rfl (lv_at hl 0 rfl) ?_
        refine lv_ldc2 (v := 65536) hx hb X.2.2.2.1 (X.2.2.2.2.1 _ gm_1244) dX8_knivesDrawn_35 ?_
        refine q_ldiv hx hb dX8_knivesDrawn_38 (nz_L (rgL_k (by decide) : rgL 65536 65536 65536) (by decide)) (fun y9 ey9 => ?_)
        refine lv_ldc2 (v := 10) hx hb X.2.2.2.1 (X.2.2.2.2.1 _ gm_1245) dX8_knivesDrawn_39 ?_
        refine q_lrem hx hb dX8_knivesDrawn_42 (nz_L (rgL_k (by decide) : rgL 10 10 10) (by decide)) (fun y10 ey10 => ?_)
        refine lv_aload_n hx hb dX8_knivesDrawn_43 rfl (lv_at hl 1 rfl) ?_
        refine r_getr X hT 0 3 15 fk_8_32 rfl rfl (by decide) dX8_knivesDrawn_44 ?_
        refine r_geti X hT 15 12 fk_8_174 rfl rfl (by decide) dX8_knivesDrawn_47 ?_
        refine q_i2l hx hb dX8_knivesDrawn_50 (fun y11 ey11 => ?_)
        obtain ⟨hy11, ay11⟩ := rg_i2l ey11 (rg_top (i 15 12))
        refine W.lcmp hx hb dX8_knivesDrawn_51 ?_
        refine lv_if_ge (tgt := 64) hx hb dX8_knivesDrawn_52 (by decide) (fun c12 => ?_) (fun c12 => ?_)
        ·
          have q12 : y11.toInt ≤ y10.toInt := c_ge c12
          have h13 : rgL (-2147483648) 9223372036854775807 y10 := tL_ley (-2147483648) 9223372036854775807 hy11 (rgL_top y10) (c_ge c12) (by decide)
          obtain ⟨x14, ex14⟩ : ∃ y : Int32, y = x8_6 + 1 := ⟨_, rfl⟩
          refine lv_iinc (v := x14) (lv' := [(6, .int x14), (3, .long y8), (0, .ref (h 0)), (5, .int x8_5)]) hx hb dX8_knivesDrawn_64 hl (k := 3) rfl (by rw [ex14]; rfl) (by decide) rfl (fun ls hl => ?_)
          obtain ⟨hx14, ax14⟩ := rg_add 1 8 ex14 h4 (rg_k (by decide) : rg 1 1 1) (by decide)
          replace ax14 : x14.toInt = x8_6.toInt + 1 := ax14
          refine lv_goto (tgt := 8) hx hb dX8_knivesDrawn_67 (by decide) ?_
          exact ih2_ y8 x8_5 x14 _ _ _ hhx8_5 (rg_w hx14 (by decide) : rg 0 8 x14) hT hS (lv_sub hl [2, 1, 3, 0] rfl) (m_up ax14 hx14 (by decide) hm2_)
        ·
          have q12 : y10.toInt < y11.toInt := c_nge c12
          have h15 : rgL (-9223372036854775808) 2147483646 y10 := tL_ltx (-9223372036854775808) 2147483646 (rgL_top y10) hy11 (c_nge c12) (by decide)
          refine lv_iload hx hb dX8_knivesDrawn_55 (lv_at hl 2 rfl) ?_
          refine lv_iconst (v := 1) hx hb dX8_knivesDrawn_57 (by decide) ?_
          refine lv_iload hx hb dX8_knivesDrawn_58 (lv_at hl 3 rfl) ?_
          refine q_ishl hx hb dX8_knivesDrawn_60 (fun x16 ex16 => ?_)
          have h17 : rg 1 128 x16 := rg_shl1 ex16 h4 (by decide)
          refine q_ior hx hb dX8_knivesDrawn_61 (fun x18 ex18 => ?_)
          have h19 : rg 0 255 x18 := rg_or8 ex18 hhx8_5 h17 (by decide)
          refine lv_istore (lv' := [(5, .int x18), (3, .long y8), (0, .ref (h 0)), (6, .int x8_6)]) hx hb dX8_knivesDrawn_62 hl (by decide) rfl (fun ls hl => ?_)
          obtain ⟨x20, ex20⟩ : ∃ y : Int32, y = x8_6 + 1 := ⟨_, rfl⟩
          refine lv_iinc (v := x20) (lv' := [(6, .int x20), (5, .int x18), (3, .long y8), (0, .ref (h 0))]) hx hb dX8_knivesDrawn_64 hl (k := 3) rfl (by rw [ex20]; rfl) (by decide) rfl (fun ls hl => ?_)
          obtain ⟨hx20, ax20⟩ := rg_add 1 8 ex20 h4 (rg_k (by decide) : rg 1 1 1) (by decide)
          replace ax20 : x20.toInt = x8_6.toInt + 1 := ax20
          refine lv_goto (tgt := 8) hx hb dX8_knivesDrawn_67 (by decide) ?_
          exact ih2_ y8 x18 x20 _ _ _ h19 (rg_w hx20 (by decide) : rg 0 8 x20) hT hS (lv_sub hl [3, 2, 1, 0] rfl) (m_up ax20 hx20 (by decide) hm2_)
  exact L8_1 _ a_a (0) (0) _ _ _ (rg_w (rg_k (by decide) : rg 0 0 0) (by decide) : rg 0 255 0) (rg_w (rg_k (by decide) : rg 0 0 0) (by decide) : rg 0 8 0) hT hS (lv_sub hl [3, 2, 1, 0] rfl) (Nat.lt_succ_self _)
set_option maxRecDepth 100000 in
set_option maxHeartbeats 4000000 in
theorem m_X8_drawn {l : Launch} {D : va_G} {h : Nat → Nat} {cz : Nat → ClassId} {z : EZ} {i : Nat → Nat → Int32} {g : Nat → Nat → Int64} (hR : Rg rA i) (a_a : Int32) (a_b : Int32) : DtI l yX8_drawn cX8_drawn 4 (some .int) ({ frames := 5, cells := 0, slots := 0, locals := 111 } : Room) D h cz z i g [.ref (h 0), .int a_a, .int a_b] (fun r u => Rg rA u.1 ∧ Fr [72, 73, 74, 75, 76, 77] [] i g u) := by
  refine e_I pn_X8_drawn (Nat.le_of_ble_eq_true rfl) ?_
  intro p e s m args below meth c ls Q X Y hret hT hl hS
  have hx := X.1
  have hb := X.2.1
  have hl : lv_has ls 4 [(0, .ref (h 0)), (1, .int a_a), (2, .int a_b)] := hl
  have hF : Fr [72, 73, 74, 75, 76, 77] [] i g (i, g) := Fr_rf _ _ _ _
  refine lv_aload_n hx hb dX8_drawn_0 rfl (lv_at hl 0 rfl) ?_
  refine r_getr X hT 0 3 15 fk_8_32 rfl rfl (by decide) dX8_drawn_1 ?_
  refine e_Vi (As := []) (rest := []) X Y hT hS (m_X6_isTold_15 hR) mk_X6_isTold gm_698 rfl rfl (by decide) hd_X6_isTold ⟨rfl, rfl⟩ ⟨Nat.le_of_ble_eq_true rfl, Nat.le_of_ble_eq_true rfl⟩ hl.1 rfl (Nat.le_of_ble_eq_true rfl) dX8_drawn_4 ⟨Nat.zero_le _, Nat.zero_le _⟩ (fun r1 i1 g1 H locs hq hT hS => ?_)
  obtain ⟨eh1, hr1⟩ := hq
  rw [(Prod.mk.inj eh1).1, (Prod.mk.inj eh1).2] at hT
  refine lv_if_eq (tgt := 26) hx hb dX8_drawn_7 (by decide) (fun c2 => ?_) (fun c2 => ?_)
  ·
    have q2 : r1.toInt = 0 := i_eq c2
    have h3 : rg 0 0 r1 := t_eqx 0 0 hr1 (rg_k (by decide) : rg 0 0 0) (i_eq c2) (by decide)
    refine lv_bipush (v := (-2)) hx hb dX8_drawn_26 (by decide) ?_
    exact hret (-2) _ _ _ _ _ _ dX8_drawn_28 hT hS ⟨hR, hF⟩
  ·
    have q2 : ¬ r1.toInt = 0 := i_ne c2
    have h4 : rg 1 1 r1 := t_nelo 1 hr1 (rg_k (by decide) : rg 0 0 0) (i_ne c2) (by decide)
    refine lv_iload_n hx hb dX8_drawn_10 rfl (lv_at hl 1 rfl) ?_
    refine e_Si (As := [.int a_a]) (rest := []) X Y hT hS (m_X8_isSeed a_a) sk_X8_isSeed gm_1233 hd_X8_isSeed ⟨rfl, rfl⟩ ⟨Nat.le_of_ble_eq_true rfl, Nat.le_of_ble_eq_true rfl⟩ hl.1 rfl (Nat.le_of_ble_eq_true rfl) dX8_drawn_11 ⟨Nat.zero_le _, Nat.zero_le _⟩ (fun r5 i5 g5 H locs hq hT hS => ?_)
    rcases hq with hq | hq
    ·
      obtain ⟨eh5, rfl, hf5_0⟩ := hq
      rw [(Prod.mk.inj eh5).1, (Prod.mk.inj eh5).2] at hT
      have h6 : rg 0 2000000000 a_a := ⟨by have := (rg_top a_a).1; have := hf5_0.1; omega, by have := (rg_top a_a).2; have := hf5_0.2; omega⟩
      refine lv_if_eq (tgt := 26) hx hb dX8_drawn_14 (by decide) (fun c7 => (x_eq (rg_k (by decide) : rg 1 1 1) (rg_k (by decide) : rg 0 0 0) (i_eq c7) (by decide)).elim) (fun c7 => ?_)
      refine lv_iload_n hx hb dX8_drawn_17 rfl (lv_at hl 2 rfl) ?_
      refine lv_if_eq (tgt := 29) hx hb dX8_drawn_18 (by decide) (fun c8 => ?_) (fun c8 => ?_)
      ·
        have q8 : a_b.toInt = 0 := i_eq c8
        have h9 : rg 0 0 a_b := t_eqx 0 0 (rg_top a_b) (rg_k (by decide) : rg 0 0 0) (i_eq c8) (by decide)
        refine lv_aload_n hx hb dX8_drawn_29 rfl (lv_at hl 0 rfl) ?_
        refine lv_iload_n hx hb dX8_drawn_30 rfl (lv_at hl 1 rfl) ?_
        refine q_i2l hx hb dX8_drawn_31 (fun y10 ey10 => ?_)
        obtain ⟨hy10, ay10⟩ := rg_i2l ey10 h6
        refine e_Vi (As := [.long y10]) (rest := []) X Y hT hS (m_X8_knivesDrawn hR y10) mk_X8_knivesDrawn gm_1237 rfl rfl (by decide) hd_X8_knivesDrawn ⟨rfl, rfl⟩ ⟨Nat.le_of_ble_eq_true rfl, Nat.le_of_ble_eq_true rfl⟩ hl.1 rfl (Nat.le_of_ble_eq_true rfl) dX8_drawn_32 ⟨Nat.zero_le _, Nat.zero_le _⟩ (fun r11 i11 g11 H locs hq hT hS => ?_)
        obtain ⟨eh11, hr11⟩ := hq
        rw [(Prod.mk.inj eh11).1, (Prod.mk.inj eh11).2] at hT
        refine lv_istore_n (lv' := [(3, .int r11), (0, .ref (h 0)), (1, .int a_a), (2, .int a_b)]) hx hb dX8_drawn_35 rfl hl (by decide) rfl (fun ls hl => ?_)
        refine lv_iload_n hx hb dX8_drawn_36 rfl (lv_at hl 3 rfl) ?_
        refine lv_if_ne (tgt := 42) hx hb dX8_drawn_37 (by decide) (fun c12 => (x_ne h9 (rg_k (by decide) : rg 0 0 0) (i_ne c12) (by decide)).elim) (fun c12 => ?_)
        have q12 : a_b.toInt = 0 := i_eq c12
        refine lv_iload_n hx hb dX8_drawn_40 rfl (lv_at hl 0 rfl) ?_
        exact hret r11 _ _ _ _ _ _ dX8_drawn_41 hT hS ⟨hR, hF⟩
      ·
        have q8 : ¬ a_b.toInt = 0 := i_ne c8
        refine lv_iload_n hx hb dX8_drawn_21 rfl (lv_at hl 2 rfl) ?_
        refine lv_iconst (v := 1) hx hb dX8_drawn_22 (by decide) ?_
        refine lv_icmp_eq (tgt := 29) hx hb dX8_drawn_23 (by decide) (fun c13 => ?_) (fun c13 => ?_)
        ·
          have q13 : a_b.toInt = 1 := i_eq c13
          have h14 : rg 1 1 a_b := t_eqx 1 1 (rg_top a_b) (rg_k (by decide) : rg 1 1 1) (i_eq c13) (by decide)
          refine lv_aload_n hx hb dX8_drawn_29 rfl (lv_at hl 0 rfl) ?_
          refine lv_iload_n hx hb dX8_drawn_30 rfl (lv_at hl 1 rfl) ?_
          refine q_i2l hx hb dX8_drawn_31 (fun y15 ey15 => ?_)
          obtain ⟨hy15, ay15⟩ := rg_i2l ey15 h6
          refine e_Vi (As := [.long y15]) (rest := []) X Y hT hS (m_X8_knivesDrawn hR y15) mk_X8_knivesDrawn gm_1237 rfl rfl (by decide) hd_X8_knivesDrawn ⟨rfl, rfl⟩ ⟨Nat.le_of_ble_eq_true rfl, Nat.le_of_ble_eq_true rfl⟩ hl.1 rfl (Nat.le_of_ble_eq_true rfl) dX8_drawn_32 ⟨Nat.zero_le _, Nat.zero_le _⟩ (fun r16 i16 g16 H locs hq hT hS => ?_)
          obtain ⟨eh16, hr16⟩ := hq
          rw [(Prod.mk.inj eh16).1, (Prod.mk.inj eh16).2] at hT
          refine lv_istore_n (lv' := [(3, .int r16), (0, .ref (h 0)), (1, .int a_a), (2, .int a_b)]) hx hb dX8_drawn_35 rfl hl (by decide) rfl (fun ls hl => ?_)
          refine lv_iload_n hx hb dX8_drawn_36 rfl (lv_at hl 3 rfl) ?_
          refine lv_if_ne (tgt := 42) hx hb dX8_drawn_37 (by decide) (fun c17 => ?_) (fun c17 => (x_eq h14 (rg_k (by decide) : rg 0 0 0) (i_eq c17) (by decide)).elim)
          have q17 : ¬ a_b.toInt = 0 := i_ne c17
          refine lv_aload_n hx hb dX8_drawn_42 rfl (lv_at hl 1 rfl) ?_
          refine lv_iload_n hx hb dX8_drawn_43 rfl (lv_at hl 0 rfl) ?_
          refine e_Vv (As := [.int r16]) (rest := []) X Y hT hS (m_X8_asNow hR r16) mk_X8_asNow gm_1131 rfl rfl (by decide) hd_X8_asNow ⟨rfl, rfl⟩ ⟨Nat.le_of_ble_eq_true rfl, Nat.le_of_ble_eq_true rfl⟩ hl.1 rfl (Nat.le_of_ble_eq_true rfl) dX8_drawn_44 ⟨Nat.zero_le _, Nat.zero_le _⟩ (fun i18 g18 H locs hq hT hS => ?_)
          obtain ⟨hR18, hf18⟩ := hq
          have hF18 := Fr_tr hF hf18 (by decide)
          refine lv_aload_n hx hb dX8_drawn_47 rfl (lv_at hl 1 rfl) ?_
          refine r_getr X hT 0 8 72 fk_8_59 rfl rfl (by decide) dX8_drawn_48 ?_
          refine lv_aload_n hx hb dX8_drawn_51 rfl (lv_at hl 1 rfl) ?_
          refine r_getr X hT 0 3 15 fk_8_32 rfl rfl (by decide) dX8_drawn_52 ?_
          refine r_geti X hT 15 10 fk_8_168 rfl rfl (by decide) dX8_drawn_55 ?_
          refine e_Vi (As := [.int (i18 15 10)]) (rest := []) X Y hT hS (m_X0_openIn_72 hR18 (i18 15 10)) mk_X0_openIn gm_799 rfl rfl (by decide) hd_X0_openIn ⟨rfl, rfl⟩ ⟨Nat.le_of_ble_eq_true rfl, Nat.le_of_ble_eq_true rfl⟩ hl.1 rfl (Nat.le_of_ble_eq_true rfl) dX8_drawn_58 ⟨Nat.zero_le _, Nat.zero_le _⟩ (fun r19 i19 g19 H locs hq hT hS => ?_)
          have eh19 := hq
          rw [(Prod.mk.inj eh19).1, (Prod.mk.inj eh19).2] at hT
          exact hret r19 _ _ _ _ _ _ dX8_drawn_61 hT hS ⟨hR18, hF18⟩
        ·
          have q13 : ¬ a_b.toInt = 1 := i_ne c13
          refine lv_bipush (v := (-2)) hx hb dX8_drawn_26 (by decide) ?_
          exact hret (-2) _ _ _ _ _ _ dX8_drawn_28 hT hS ⟨hR, hF⟩
    ·
      obtain ⟨eh5, rfl⟩ := hq
      rw [(Prod.mk.inj eh5).1, (Prod.mk.inj eh5).2] at hT
      refine lv_if_eq (tgt := 26) hx hb dX8_drawn_14 (by decide) (fun c20 => ?_) (fun c20 => (x_ne (rg_k (by decide) : rg 0 0 0) (rg_k (by decide) : rg 0 0 0) (i_ne c20) (by decide)).elim)
      refine lv_bipush (v := (-2)) hx hb dX8_drawn_26 (by decide) ?_
      exact hret (-2) _ _ _ _ _ _ dX8_drawn_28 hT hS ⟨hR, hF⟩
set_option maxRecDepth 100000 in
set_option maxHeartbeats 4000000 in
theorem m_X8_luck {l : Launch} {D : va_G} {h : Nat → Nat} {cz : Nat → ClassId} {z : EZ} {i : Nat → Nat → Int32} {g : Nat → Nat → Int64} (hR : Rg rA i) (a_a : Int32) (a_b : Int32) (a_c : Int32) : DtI l yX8_luck cX8_luck 6 (some .int) ({ frames := 5, cells := 0, slots := 0, locals := 111 } : Room) D h cz z i g [.ref (h 0), .int a_a, .int a_b, .int a_c] (fun r u => Rg rA u.1 ∧ Fr [72, 73, 74, 75, 76, 77] [] i g u) := by
  refine e_I pn_X8_luck (Nat.le_of_ble_eq_true rfl) ?_
  intro p e s m args below meth c ls Q X Y hret hT hl hS
  have hx := X.1
  have hb := X.2.1
  have hl : lv_has ls 6 [(0, .ref (h 0)), (1, .int a_a), (2, .int a_b), (3, .int a_c)] := hl
  have hF : Fr [72, 73, 74, 75, 76, 77] [] i g (i, g) := Fr_rf _ _ _ _
  refine lv_aload_n hx hb dX8_luck_0 rfl (lv_at hl 0 rfl) ?_
  refine r_getr X hT 0 3 15 fk_8_32 rfl rfl (by decide) dX8_luck_1 ?_
  refine lv_iload_n hx hb dX8_luck_4 rfl (lv_at hl 3 rfl) ?_
  refine e_Vi (As := [.int a_c]) (rest := []) X Y hT hS (m_X6_hasPart_15 hR a_c) mk_X6_hasPart gm_669 rfl rfl (by decide) hd_X6_hasPart ⟨rfl, rfl⟩ ⟨Nat.le_of_ble_eq_true rfl, Nat.le_of_ble_eq_true rfl⟩ hl.1 rfl (Nat.le_of_ble_eq_true rfl) dX8_luck_5 ⟨Nat.zero_le _, Nat.zero_le _⟩ (fun r1 i1 g1 H locs hq hT hS => ?_)
  rcases hq with hq | hq
  ·
    obtain ⟨eh1, rfl, hf1_0⟩ := hq
    rw [(Prod.mk.inj eh1).1, (Prod.mk.inj eh1).2] at hT
    have h2 : rg 0 5 a_c := ⟨by have := (rg_top a_c).1; have := hf1_0.1; omega, by have := (rg_top a_c).2; have := hf1_0.2; omega⟩
    refine lv_if_eq (tgt := 29) hx hb dX8_luck_8 (by decide) (fun c3 => (x_eq (rg_k (by decide) : rg 1 1 1) (rg_k (by decide) : rg 0 0 0) (i_eq c3) (by decide)).elim) (fun c3 => ?_)
    refine lv_iload_n hx hb dX8_luck_11 rfl (lv_at hl 1 rfl) ?_
    refine e_Si (As := [.int a_a]) (rest := []) X Y hT hS (m_X8_isSeed a_a) sk_X8_isSeed gm_1233 hd_X8_isSeed ⟨rfl, rfl⟩ ⟨Nat.le_of_ble_eq_true rfl, Nat.le_of_ble_eq_true rfl⟩ hl.1 rfl (Nat.le_of_ble_eq_true rfl) dX8_luck_12 ⟨Nat.zero_le _, Nat.zero_le _⟩ (fun r4 i4 g4 H locs hq hT hS => ?_)
    rcases hq with hq | hq
    ·
      obtain ⟨eh4, rfl, hf4_0⟩ := hq
      rw [(Prod.mk.inj eh4).1, (Prod.mk.inj eh4).2] at hT
      have h5 : rg 0 2000000000 a_a := ⟨by have := (rg_top a_a).1; have := hf4_0.1; omega, by have := (rg_top a_a).2; have := hf4_0.2; omega⟩
      refine lv_if_eq (tgt := 29) hx hb dX8_luck_15 (by decide) (fun c6 => (x_eq (rg_k (by decide) : rg 1 1 1) (rg_k (by decide) : rg 0 0 0) (i_eq c6) (by decide)).elim) (fun c6 => ?_)
      refine lv_iload_n hx hb dX8_luck_18 rfl (lv_at hl 2 rfl) ?_
      refine lv_iconst (v := 1) hx hb dX8_luck_19 (by decide) ?_
      refine lv_icmp_lt (tgt := 29) hx hb dX8_luck_20 (by decide) (fun c7 => ?_) (fun c7 => ?_)
      ·
        have q7 : a_b.toInt < 1 := i_lt c7
        have h8 : rg (-2147483648) 0 a_b := t_ltx (-2147483648) 0 (rg_top a_b) (rg_k (by decide) : rg 1 1 1) (i_lt c7) (by decide)
        refine lv_bipush (v := (-2)) hx hb dX8_luck_29 (by decide) ?_
        exact hret (-2) _ _ _ _ _ _ dX8_luck_31 hT hS ⟨hR, hF⟩
      ·
        have q7 : 1 ≤ a_b.toInt := i_nlt c7
        have h9 : rg 1 2147483647 a_b := t_ley 1 2147483647 (rg_k (by decide) : rg 1 1 1) (rg_top a_b) (i_nlt c7) (by decide)
        refine lv_iload_n hx hb dX8_luck_23 rfl (lv_at hl 2 rfl) ?_
        refine lv_bipush (v := 20) hx hb dX8_luck_24 (by decide) ?_
        refine lv_icmp_le (tgt := 32) hx hb dX8_luck_26 (by decide) (fun c10 => ?_) (fun c10 => ?_)
        ·
          have q10 : a_b.toInt ≤ 20 := i_le c10
          have h11 : rg 1 20 a_b := t_lex 1 20 h9 (rg_k (by decide) : rg 20 20 20) (i_le c10) (by decide)
          refine lv_iconst (v := 0) hx hb dX8_luck_32 (by decide) ?_
          refine lv_istore (lv' := [(4, .int 0), (0, .ref (h 0)), (1, .int a_a), (2, .int a_b), (3, .int a_c)]) hx hb dX8_luck_33 hl (by decide) rfl (fun ls hl => ?_)
          refine lv_iconst (v := 0) hx hb dX8_luck_35 (by decide) ?_
          refine lv_istore (lv' := [(5, .int 0), (4, .int 0), (0, .ref (h 0)), (1, .int a_a), (2, .int a_b), (3, .int a_c)]) hx hb dX8_luck_36 hl (by decide) rfl (fun ls hl => ?_)
          have L38_12 : ∀ (n14_ : Nat) (x38_4 : Int32) (x38_5 : Int32) (i13 : Nat → Nat → Int32) (g13 : Nat → Nat → Int64) (H : Heap) (locs : List Loc) (ls : Array Slot), rg 0 20 x38_5 → Rg rA i13 → Fr [72, 73, 74, 75, 76, 77] [] i g (i13, g13) → TH D h cz i13 g13 H → va_S (hA h) s.heap H locs → lv_has ls 6 [(0, .ref (h 0)), (1, .int a_a), (2, .int a_b), (3, .int a_c), (4, .int x38_4), (5, .int x38_5)] → (20 - x38_5.toInt).toNat < n14_ → W p l e ({ frames := 5, cells := 0, slots := 0, locals := 111 } : Room) s m args below meth c H locs 0 0 Q (F0 m 38 ls []) := by
            intro n14_
            induction n14_ with
            | zero => intro x38_4 x38_5 i13 g13 H locs ls hhx38_5 hR13 hF13 hT hS hl hm14_; exact absurd hm14_ (Nat.not_lt_zero _)
            | succ n14_ ih14_ =>
              intro x38_4 x38_5 i13 g13 H locs ls hhx38_5 hR13 hF13 hT hS hl hm14_
              refine lv_iload hx hb dX8_luck_38 (lv_at hl 5 rfl) ?_
              refine lv_iload_n hx hb dX8_luck_40 rfl (lv_at hl 2 rfl) ?_
              refine lv_icmp_ge (tgt := 95) hx hb dX8_luck_41 (by decide) (fun c15 => ?_) (fun c15 => ?_)
              ·
                have q15 : a_b.toInt ≤ x38_5.toInt := i_le c15
                have h16 : rg 1 20 x38_5 := t_ley 1 20 h11 hhx38_5 (i_le c15) (by decide)
                refine lv_iload hx hb dX8_luck_95 (lv_at hl 4 rfl) ?_
                exact hret x38_4 _ _ _ _ _ _ dX8_luck_97 hT hS ⟨hR13, hF13⟩
              ·
                have q15 : x38_5.toInt < a_b.toInt := i_nle c15
                have h17 : rg 0 19 x38_5 := t_ltx 0 19 hhx38_5 h11 (i_nle c15) (by decide)
                refine lv_aload_n hx hb dX8_luck_44 rfl (lv_at hl 0 rfl) ?_
                refine lv_aload_n hx hb dX8_luck_45 rfl (lv_at hl 0 rfl) ?_
                refine lv_iload_n hx hb dX8_luck_46 rfl (lv_at hl 1 rfl) ?_
                refine q_i2l hx hb dX8_luck_47 (fun y18 ey18 => ?_)
                obtain ⟨hy18, ay18⟩ := rg_i2l ey18 h5
                refine lv_iload hx hb dX8_luck_48 (lv_at hl 5 rfl) ?_
                refine q_i2l hx hb dX8_luck_50 (fun y19 ey19 => ?_)
                obtain ⟨hy19, ay19⟩ := rg_i2l ey19 h17
                refine q_ladd hx hb dX8_luck_51 (fun y20 ey20 => ?_)
                obtain ⟨hy20, ay20⟩ := rgL_add 0 2000000019 ey20 hy18 hy19 (by decide)
                refine e_Vi (As := [.long y20]) (rest := [.ref (h 0)]) X Y hT hS (m_X8_knivesDrawn hR13 y20) mk_X8_knivesDrawn gm_1237 rfl rfl (by decide) hd_X8_knivesDrawn ⟨rfl, rfl⟩ ⟨Nat.le_of_ble_eq_true rfl, Nat.le_of_ble_eq_true rfl⟩ hl.1 rfl (Nat.le_of_ble_eq_true rfl) dX8_luck_52 ⟨Nat.zero_le _, Nat.zero_le _⟩ (fun r21 i21 g21 H locs hq hT hS => ?_)
                obtain ⟨eh21, hr21⟩ := hq
                rw [(Prod.mk.inj eh21).1, (Prod.mk.inj eh21).2] at hT
                refine e_Vv (As := [.int r21]) (rest := []) X Y hT hS (m_X8_asNow hR13 r21) mk_X8_asNow gm_1131 rfl rfl (by decide) hd_X8_asNow ⟨rfl, rfl⟩ ⟨Nat.le_of_ble_eq_true rfl, Nat.le_of_ble_eq_true rfl⟩ hl.1 rfl (Nat.le_of_ble_eq_true rfl) dX8_luck_55 ⟨Nat.zero_le _, Nat.zero_le _⟩ (fun i22 g22 H locs hq hT hS => ?_)
                obtain ⟨hR22, hf22⟩ := hq
                have hF22 := Fr_tr hF13 hf22 (by decide)
                refine lv_iload hx hb dX8_luck_58 (lv_at hl 4 rfl) ?_
                refine lv_aload_n hx hb dX8_luck_60 rfl (lv_at hl 0 rfl) ?_
                refine r_getr X hT 0 8 72 fk_8_59 rfl rfl (by decide) dX8_luck_61 ?_
                refine lv_aload_n hx hb dX8_luck_64 rfl (lv_at hl 0 rfl) ?_
                refine r_getr X hT 0 3 15 fk_8_32 rfl rfl (by decide) dX8_luck_65 ?_
                refine r_geti X hT 15 10 fk_8_168 rfl rfl (by decide) dX8_luck_68 ?_
                refine e_Vi (As := [.int (i22 15 10)]) (rest := [.int x38_4]) X Y hT hS (m_X0_openIn_72 hR22 (i22 15 10)) mk_X0_openIn gm_799 rfl rfl (by decide) hd_X0_openIn ⟨rfl, rfl⟩ ⟨Nat.le_of_ble_eq_true rfl, Nat.le_of_ble_eq_true rfl⟩ hl.1 rfl (Nat.le_of_ble_eq_true rfl) dX8_luck_71 ⟨Nat.zero_le _, Nat.zero_le _⟩ (fun r23 i23 g23 H locs hq hT hS => ?_)
                have eh23 := hq
                rw [(Prod.mk.inj eh23).1, (Prod.mk.inj eh23).2] at hT
                refine lv_iload_n hx hb dX8_luck_74 rfl (lv_at hl 3 rfl) ?_
                refine e_Si (As := [.int r23, .int a_c]) (rest := [.int x38_4]) X Y hT hS (m_X8_hasBit r23 a_c) sk_X8_hasBit gm_685 hd_X8_hasBit ⟨rfl, rfl⟩ ⟨Nat.le_of_ble_eq_true rfl, Nat.le_of_ble_eq_true rfl⟩ hl.1 rfl (Nat.le_of_ble_eq_true rfl) dX8_luck_75 ⟨Nat.zero_le _, Nat.zero_le _⟩ (fun r24 i24 g24 H locs hq hT hS => ?_)
                obtain ⟨eh24, hr24⟩ := hq
                rw [(Prod.mk.inj eh24).1, (Prod.mk.inj eh24).2] at hT
                refine lv_if_eq (tgt := 85) hx hb dX8_luck_78 (by decide) (fun c25 => ?_) (fun c25 => ?_)
                ·
                  have q25 : r24.toInt = 0 := i_eq c25
                  have h26 : rg 0 0 r24 := t_eqx 0 0 hr24 (rg_k (by decide) : rg 0 0 0) (i_eq c25) (by decide)
                  refine lv_iconst (v := 0) hx hb dX8_luck_85 (by decide) ?_
                  refine q_iadd hx hb dX8_luck_86 (fun x27 ex27 => ?_)
                  obtain ⟨hx27, ax27⟩ := rg_add (-2147483648) 2147483647 ex27 (rg_top x38_4) (rg_k (by decide) : rg 0 0 0) (by decide)
                  replace ax27 : x27.toInt = x38_4.toInt + 0 := ax27
                  refine lv_istore (lv' := [(4, .int x27), (0, .ref (h 0)), (1, .int a_a), (2, .int a_b), (3, .int a_c), (5, .int x38_5)]) hx hb dX8_luck_87 hl (by decide) rfl (fun ls hl => ?_)
                  obtain ⟨x28, ex28⟩ : ∃ y : Int32, y = x38_5 + 1 := ⟨_, rfl⟩
                  refine lv_iinc (v := x28) (lv' := [(5, .int x28), (4, .int x27), (0, .ref (h 0)), (1, .int a_a), (2, .int a_b), (3, .int a_c)]) hx hb dX8_luck_89 hl (k := 5) rfl (by rw [ex28]; rfl) (by decide) rfl (fun ls hl => ?_)
                  obtain ⟨hx28, ax28⟩ := rg_add 1 20 ex28 h17 (rg_k (by decide) : rg 1 1 1) (by decide)
                  replace ax28 : x28.toInt = x38_5.toInt + 1 := ax28
                  refine lv_goto (tgt := 38) hx hb dX8_luck_92 (by decide) ?_
                  exact ih14_ x27 x28 i22 g22 _ _ _ (rg_w hx28 (by decide) : rg 0 20 x28) hR22 hF22 hT hS (lv_sub hl [2, 3, 4, 5, 1, 0] rfl) (m_up ax28 hx28 (by decide) hm14_)
                ·
                  have q25 : ¬ r24.toInt = 0 := i_ne c25
                  have h29 : rg 1 1 r24 := t_nelo 1 hr24 (rg_k (by decide) : rg 0 0 0) (i_ne c25) (by decide)
                  refine lv_iconst (v := 1) hx hb dX8_luck_81 (by decide) ?_
                  refine lv_goto (tgt := 86) hx hb dX8_luck_82 (by decide) ?_
                  refine q_iadd hx hb dX8_luck_86 (fun x30 ex30 => ?_)
                  refine lv_istore (lv' := [(4, .int x30), (0, .ref (h 0)), (1, .int a_a), (2, .int a_b), (3, .int a_c), (5, .int x38_5)]) hx hb dX8_luck_87 hl (by decide) rfl (fun ls hl => ?_)
                  obtain ⟨x31, ex31⟩ : ∃ y : Int32, y = x38_5 + 1 := ⟨_, rfl⟩
                  refine lv_iinc (v := x31) (lv' := [(5, .int x31), (4, .int x30), (0, .ref (h 0)), (1, .int a_a), (2, .int a_b), (3, .int a_c)]) hx hb dX8_luck_89 hl (k := 5) rfl (by rw [ex31]; rfl) (by decide) rfl (fun ls hl => ?_)
                  obtain ⟨hx31, ax31⟩ := rg_add 1 20 ex31 h17 (rg_k (by decide) : rg 1 1 1) (by decide)
                  replace ax31 : x31.toInt = x38_5.toInt + 1 := ax31
                  refine lv_goto (tgt := 38) hx hb dX8_luck_92 (by decide) ?_
                  exact ih14_ x30 x31 i22 g22 _ _ _ (rg_w hx31 (by decide) : rg 0 20 x31) hR22 hF22 hT hS (lv_sub hl [2, 3, 4, 5, 1, 0] rfl) (m_up ax31 hx31 (by decide) hm14_)
          exact L38_12 _ (0) (0) i g _ _ _ (rg_w (rg_k (by decide) : rg 0 0 0) (by decide) : rg 0 20 0) hR hF hT hS (lv_sub hl [2, 3, 4, 5, 1, 0] rfl) (Nat.lt_succ_self _)
        ·
          have q10 : 20 < a_b.toInt := i_nle c10
          have h32 : rg 21 2147483647 a_b := t_lty 21 2147483647 (rg_k (by decide) : rg 20 20 20) h9 (i_nle c10) (by decide)
          refine lv_bipush (v := (-2)) hx hb dX8_luck_29 (by decide) ?_
          exact hret (-2) _ _ _ _ _ _ dX8_luck_31 hT hS ⟨hR, hF⟩
    ·
      obtain ⟨eh4, rfl⟩ := hq
      rw [(Prod.mk.inj eh4).1, (Prod.mk.inj eh4).2] at hT
      refine lv_if_eq (tgt := 29) hx hb dX8_luck_15 (by decide) (fun c33 => ?_) (fun c33 => (x_ne (rg_k (by decide) : rg 0 0 0) (rg_k (by decide) : rg 0 0 0) (i_ne c33) (by decide)).elim)
      refine lv_bipush (v := (-2)) hx hb dX8_luck_29 (by decide) ?_
      exact hret (-2) _ _ _ _ _ _ dX8_luck_31 hT hS ⟨hR, hF⟩
  ·
    obtain ⟨eh1, rfl⟩ := hq
    rw [(Prod.mk.inj eh1).1, (Prod.mk.inj eh1).2] at hT
    refine lv_if_eq (tgt := 29) hx hb dX8_luck_8 (by decide) (fun c34 => ?_) (fun c34 => (x_ne (rg_k (by decide) : rg 0 0 0) (rg_k (by decide) : rg 0 0 0) (i_ne c34) (by decide)).elim)
    refine lv_bipush (v := (-2)) hx hb dX8_luck_29 (by decide) ?_
    exact hret (-2) _ _ _ _ _ _ dX8_luck_31 hT hS ⟨hR, hF⟩
set_option maxRecDepth 100000 in
set_option maxHeartbeats 4000000 in
theorem m_X8_rate {l : Launch} {D : va_G} {h : Nat → Nat} {cz : Nat → ClassId} {z : EZ} {i : Nat → Nat → Int32} {g : Nat → Nat → Int64} (hR : Rg rA i) (a_a : Int32) (a_b : Int32) : DtI l yX8_rate cX8_rate 4 (some .int) ({ frames := 1, cells := 0, slots := 0, locals := 21 } : Room) D h cz z i g [.ref (h 0), .int a_a, .int a_b] (fun r u => Rg rA u.1 ∧ Fr [0, 16] [] i g u ∧ rg (-5) 60 r) := by
  refine e_I pn_X8_rate (Nat.le_of_ble_eq_true rfl) ?_
  intro p e s m args below meth c ls Q X Y hret hT hl hS
  have hx := X.1
  have hb := X.2.1
  have hl : lv_has ls 4 [(0, .ref (h 0)), (1, .int a_a), (2, .int a_b)] := hl
  have hF : Fr [0, 16] [] i g (i, g) := Fr_rf _ _ _ _
  refine lv_aload_n hx hb dX8_rate_0 rfl (lv_at hl 0 rfl) ?_
  refine r_getr X hT 0 3 15 fk_8_32 rfl rfl (by decide) dX8_rate_1 ?_
  refine lv_iload_n hx hb dX8_rate_4 rfl (lv_at hl 1 rfl) ?_
  refine e_Vi (As := [.int a_a]) (rest := []) X Y hT hS (m_X6_hasPart_15 hR a_a) mk_X6_hasPart gm_669 rfl rfl (by decide) hd_X6_hasPart ⟨rfl, rfl⟩ ⟨Nat.le_of_ble_eq_true rfl, Nat.le_of_ble_eq_true rfl⟩ hl.1 rfl (Nat.le_of_ble_eq_true rfl) dX8_rate_5 ⟨Nat.zero_le _, Nat.zero_le _⟩ (fun r1 i1 g1 H locs hq hT hS => ?_)
  rcases hq with hq | hq
  ·
    obtain ⟨eh1, rfl, hf1_0⟩ := hq
    rw [(Prod.mk.inj eh1).1, (Prod.mk.inj eh1).2] at hT
    have h2 : rg 0 5 a_a := ⟨by have := (rg_top a_a).1; have := hf1_0.1; omega, by have := (rg_top a_a).2; have := hf1_0.2; omega⟩
    refine lv_if_eq (tgt := 21) hx hb dX8_rate_8 (by decide) (fun c3 => (x_eq (rg_k (by decide) : rg 1 1 1) (rg_k (by decide) : rg 0 0 0) (i_eq c3) (by decide)).elim) (fun c3 => ?_)
    refine lv_iload_n hx hb dX8_rate_11 rfl (lv_at hl 2 rfl) ?_
    refine lv_if_lt (tgt := 21) hx hb dX8_rate_12 (by decide) (fun c4 => ?_) (fun c4 => ?_)
    ·
      have q4 : a_b.toInt < 0 := i_lt c4
      have h5 : rg (-2147483648) (-1) a_b := t_ltx (-2147483648) (-1) (rg_top a_b) (rg_k (by decide) : rg 0 0 0) (i_lt c4) (by decide)
      refine lv_bipush (v := (-2)) hx hb dX8_rate_21 (by decide) ?_
      exact hret (-2) _ _ _ _ _ _ dX8_rate_23 hT hS ⟨hR, hF, (rg_w (rg_k (by decide) : rg (-2) (-2) (-2)) (by decide) : rg (-5) 60 (-2))⟩
    ·
      have q4 : 0 ≤ a_b.toInt := i_nlt c4
      have h6 : rg 0 2147483647 a_b := t_ley 0 2147483647 (rg_k (by decide) : rg 0 0 0) (rg_top a_b) (i_nlt c4) (by decide)
      refine lv_iload_n hx hb dX8_rate_15 rfl (lv_at hl 2 rfl) ?_
      refine lv_bipush (v := 60) hx hb dX8_rate_16 (by decide) ?_
      refine lv_icmp_le (tgt := 24) hx hb dX8_rate_18 (by decide) (fun c7 => ?_) (fun c7 => ?_)
      ·
        have q7 : a_b.toInt ≤ 60 := i_le c7
        have h8 : rg 0 60 a_b := t_lex 0 60 h6 (rg_k (by decide) : rg 60 60 60) (i_le c7) (by decide)
        refine lv_aload_n hx hb dX8_rate_24 rfl (lv_at hl 0 rfl) ?_
        refine r_getr X hT 0 3 15 fk_8_32 rfl rfl (by decide) dX8_rate_25 ?_
        refine r_geti X hT 15 16 fk_8_179 rfl rfl (by decide) dX8_rate_28 ?_
        refine lv_if_le (tgt := 37) hx hb dX8_rate_31 (by decide) (fun c9 => ?_) (fun c9 => ?_)
        ·
          have q9 : (i 15 16).toInt ≤ 0 := i_le c9
          have h10 : rg 0 0 (i 15 16) := t_lex 0 0 (Rg_at hR 15 16 0 20 (by decide) rfl) (rg_k (by decide) : rg 0 0 0) (i_le c9) (by decide)
          refine lv_aload_n hx hb dX8_rate_37 rfl (lv_at hl 0 rfl) ?_
          refine r_getr X hT 0 3 15 fk_8_32 rfl rfl (by decide) dX8_rate_38 ?_
          refine r_getr X hT 15 0 16 fk_8_131 rfl rfl (by decide) dX8_rate_41 ?_
          refine lv_iload_n hx hb dX8_rate_44 rfl (lv_at hl 1 rfl) ?_
          refine r_iald X hT 16 rfl (by decide) (v_in h2 (by decide)) dX8_rate_45 ?_
          refine lv_istore_n (lv' := [(3, .int (i 16 a_a.toNatClampNeg)), (0, .ref (h 0)), (1, .int a_a), (2, .int a_b)]) hx hb dX8_rate_46 rfl hl (by decide) rfl (fun ls hl => ?_)
          refine lv_aload_n hx hb dX8_rate_47 rfl (lv_at hl 1 rfl) ?_
          refine r_getr X hT 0 3 15 fk_8_32 rfl rfl (by decide) dX8_rate_48 ?_
          refine r_getr X hT 15 0 16 fk_8_131 rfl rfl (by decide) dX8_rate_51 ?_
          refine lv_iload_n hx hb dX8_rate_54 rfl (lv_at hl 2 rfl) ?_
          refine lv_iload_n hx hb dX8_rate_55 rfl (lv_at hl 3 rfl) ?_
          refine r_iast X hT hS 16 rfl (by decide) (v_in h2 (by decide)) dX8_rate_56 (fun H locs i11 ei11 hT hS => ?_)
          have hR11 := Rg_put hR ei11 0 60 rfl h8 (by decide)
          have hF11 := Fr_puti hF ei11 (by decide)
          refine lv_aload_n hx hb dX8_rate_57 rfl (lv_at hl 1 rfl) ?_
          refine e_Vv (As := []) (rest := []) X Y hT hS (m_X8_forgetAnswers hR11) mk_X8_forgetAnswers gm_657 rfl rfl (by decide) hd_X8_forgetAnswers ⟨rfl, rfl⟩ ⟨Nat.le_of_ble_eq_true rfl, Nat.le_of_ble_eq_true rfl⟩ hl.1 rfl (Nat.le_of_ble_eq_true rfl) dX8_rate_58 ⟨Nat.zero_le _, Nat.zero_le _⟩ (fun i12 g12 H locs hq hT hS => ?_)
          obtain ⟨hR12, hf12⟩ := hq
          have hF12 := Fr_tr hF11 hf12 (by decide)
          refine lv_iload_n hx hb dX8_rate_61 rfl (lv_at hl 0 rfl) ?_
          exact hret (i 16 a_a.toNatClampNeg) _ _ _ _ _ _ dX8_rate_62 hT hS ⟨hR12, hF12, (rg_w (Rg_at hR 16 a_a.toNatClampNeg 0 60 (v_lt (v_in h2 (by decide))) rfl) (by decide) : rg (-5) 60 (i 16 a_a.toNatClampNeg))⟩
        ·
          have q9 : 0 < (i 15 16).toInt := i_nle c9
          have h13 : rg 1 20 (i 15 16) := t_lty 1 20 (rg_k (by decide) : rg 0 0 0) (Rg_at hR 15 16 0 20 (by decide) rfl) (i_nle c9) (by decide)
          refine lv_bipush (v := (-5)) hx hb dX8_rate_34 (by decide) ?_
          exact hret (-5) _ _ _ _ _ _ dX8_rate_36 hT hS ⟨hR, hF, (rg_w (rg_k (by decide) : rg (-5) (-5) (-5)) (by decide) : rg (-5) 60 (-5))⟩
      ·
        have q7 : 60 < a_b.toInt := i_nle c7
        have h14 : rg 61 2147483647 a_b := t_lty 61 2147483647 (rg_k (by decide) : rg 60 60 60) h6 (i_nle c7) (by decide)
        refine lv_bipush (v := (-2)) hx hb dX8_rate_21 (by decide) ?_
        exact hret (-2) _ _ _ _ _ _ dX8_rate_23 hT hS ⟨hR, hF, (rg_w (rg_k (by decide) : rg (-2) (-2) (-2)) (by decide) : rg (-5) 60 (-2))⟩
  ·
    obtain ⟨eh1, rfl⟩ := hq
    rw [(Prod.mk.inj eh1).1, (Prod.mk.inj eh1).2] at hT
    refine lv_if_eq (tgt := 21) hx hb dX8_rate_8 (by decide) (fun c15 => ?_) (fun c15 => (x_ne (rg_k (by decide) : rg 0 0 0) (rg_k (by decide) : rg 0 0 0) (i_ne c15) (by decide)).elim)
    refine lv_bipush (v := (-2)) hx hb dX8_rate_21 (by decide) ?_
    exact hret (-2) _ _ _ _ _ _ dX8_rate_23 hT hS ⟨hR, hF, (rg_w (rg_k (by decide) : rg (-2) (-2) (-2)) (by decide) : rg (-5) 60 (-2))⟩
set_option maxRecDepth 100000 in
set_option maxHeartbeats 4000000 in
theorem m_X5_filled_61 {l : Launch} {D : va_G} {h : Nat → Nat} {cz : Nat → ClassId} {z : EZ} {i : Nat → Nat → Int32} {g : Nat → Nat → Int64} (hR : Rg rA i) : DtI l yX5_filled cX5_filled 3 (some .int) ({ frames := 1, cells := 0, slots := 0, locals := 21 } : Room) D h cz z i g [.ref (h 61)] (fun r u => u = (i, g)) := by
  refine e_I pn_X5_filled (Nat.le_of_ble_eq_true rfl) ?_
  intro p e s m args below meth c ls Q X Y hret hT hl hS
  have hx := X.1
  have hb := X.2.1
  have hl : lv_has ls 3 [(0, .ref (h 61))] := hl
  refine lv_iconst (v := 0) hx hb dX5_filled_0 (by decide) ?_
  refine lv_istore_n (lv' := [(1, .int 0), (0, .ref (h 61))]) hx hb dX5_filled_1 rfl hl (by decide) rfl (fun ls hl => ?_)
  refine lv_iconst (v := 0) hx hb dX5_filled_2 (by decide) ?_
  refine lv_istore_n (lv' := [(2, .int 0), (1, .int 0), (0, .ref (h 61))]) hx hb dX5_filled_3 rfl hl (by decide) rfl (fun ls hl => ?_)
  have L4_1 : ∀ (n2_ : Nat) (x4_1 : Int32) (x4_2 : Int32) (H : Heap) (locs : List Loc) (ls : Array Slot), rg 0 4 x4_2 → TH D h cz i g H → va_S (hA h) s.heap H locs → lv_has ls 3 [(0, .ref (h 61)), (1, .int x4_1), (2, .int x4_2)] → (4 - x4_2.toInt).toNat < n2_ → W p l e ({ frames := 1, cells := 0, slots := 0, locals := 21 } : Room) s m args below meth c H locs 0 0 Q (F0 m 4 ls []) := by
    intro n2_
    induction n2_ with
    | zero => intro x4_1 x4_2 H locs ls hhx4_2 hT hS hl hm2_; exact absurd hm2_ (Nat.not_lt_zero _)
    | succ n2_ ih2_ =>
      intro x4_1 x4_2 H locs ls hhx4_2 hT hS hl hm2_
      refine lv_iload_n hx hb dX5_filled_4 rfl (lv_at hl 2 rfl) ?_
      refine lv_iconst (v := 4) hx hb dX5_filled_5 (by decide) ?_
      refine lv_icmp_ge (tgt := 31) hx hb dX5_filled_6 (by decide) (fun c3 => ?_) (fun c3 => ?_)
      ·
        have q3 : 4 ≤ x4_2.toInt := i_le c3
        have h4 : rg 4 4 x4_2 := t_ley 4 4 (rg_k (by decide) : rg 4 4 4) hhx4_2 (i_le c3) (by decide)
        refine lv_iload_n hx hb dX5_filled_31 rfl (lv_at hl 1 rfl) ?_
        exact hret x4_1 _ _ _ _ _ _ dX5_filled_32 hT hS rfl
      ·
        have q3 : x4_2.toInt < 4 := i_nle c3
        have h5 : rg 0 3 x4_2 := t_ltx 0 3 hhx4_2 (rg_k (by decide) : rg 4 4 4) (i_nle c3) (by decide)
        refine lv_iload_n hx hb dX5_filled_9 rfl (lv_at hl 1 rfl) ?_
        refine lv_aload_n hx hb dX5_filled_10 rfl (lv_at hl 0 rfl) ?_
        refine lv_iload_n hx hb dX5_filled_11 rfl (lv_at hl 2 rfl) ?_
        refine e_Vi (As := [.int x4_2]) (rest := [.int x4_1]) X Y hT hS (m_X5_isBare hR x4_2 h5) mk_X5_isBare gm_719 rfl rfl (by decide) hd_X5_isBare ⟨rfl, rfl⟩ ⟨Nat.le_of_ble_eq_true rfl, Nat.le_of_ble_eq_true rfl⟩ hl.1 rfl (Nat.le_of_ble_eq_true rfl) dX5_filled_12 ⟨Nat.zero_le _, Nat.zero_le _⟩ (fun r6 i6 g6 H locs hq hT hS => ?_)
        rcases hq with hq | hq
        ·
          obtain ⟨eh6, rfl, hf6_0⟩ := hq
          rw [(Prod.mk.inj eh6).1, (Prod.mk.inj eh6).2] at hT
          refine lv_if_eq (tgt := 22) hx hb dX5_filled_15 (by decide) (fun c7 => (x_eq (rg_k (by decide) : rg 1 1 1) (rg_k (by decide) : rg 0 0 0) (i_eq c7) (by decide)).elim) (fun c7 => ?_)
          refine lv_iconst (v := 0) hx hb dX5_filled_18 (by decide) ?_
          refine lv_goto (tgt := 23) hx hb dX5_filled_19 (by decide) ?_
          refine q_iadd hx hb dX5_filled_23 (fun x8 ex8 => ?_)
          obtain ⟨hx8, ax8⟩ := rg_add (-2147483648) 2147483647 ex8 (rg_top x4_1) (rg_k (by decide) : rg 0 0 0) (by decide)
          replace ax8 : x8.toInt = x4_1.toInt + 0 := ax8
          refine lv_istore_n (lv' := [(1, .int x8), (0, .ref (h 61)), (2, .int x4_2)]) hx hb dX5_filled_24 rfl hl (by decide) rfl (fun ls hl => ?_)
          obtain ⟨x9, ex9⟩ : ∃ y : Int32, y = x4_2 + 1 := ⟨_, rfl⟩
          refine lv_iinc (v := x9) (lv' := [(2, .int x9), (1, .int x8), (0, .ref (h 61))]) hx hb dX5_filled_25 hl (k := 2) rfl (by rw [ex9]; rfl) (by decide) rfl (fun ls hl => ?_)
          obtain ⟨hx9, ax9⟩ := rg_add 1 4 ex9 h5 (rg_k (by decide) : rg 1 1 1) (by decide)
          replace ax9 : x9.toInt = x4_2.toInt + 1 := ax9
          refine lv_goto (tgt := 4) hx hb dX5_filled_28 (by decide) ?_
          exact ih2_ x8 x9 _ _ _ (rg_w hx9 (by decide) : rg 0 4 x9) hT hS (lv_sub hl [2, 1, 0] rfl) (m_up ax9 hx9 (by decide) hm2_)
        ·
          obtain ⟨eh6, rfl, hf6_0⟩ := hq
          rw [(Prod.mk.inj eh6).1, (Prod.mk.inj eh6).2] at hT
          refine lv_if_eq (tgt := 22) hx hb dX5_filled_15 (by decide) (fun c10 => ?_) (fun c10 => (x_ne (rg_k (by decide) : rg 0 0 0) (rg_k (by decide) : rg 0 0 0) (i_ne c10) (by decide)).elim)
          refine lv_iconst (v := 1) hx hb dX5_filled_22 (by decide) ?_
          refine q_iadd hx hb dX5_filled_23 (fun x11 ex11 => ?_)
          refine lv_istore_n (lv' := [(1, .int x11), (0, .ref (h 61)), (2, .int x4_2)]) hx hb dX5_filled_24 rfl hl (by decide) rfl (fun ls hl => ?_)
          obtain ⟨x12, ex12⟩ : ∃ y : Int32, y = x4_2 + 1 := ⟨_, rfl⟩
          refine lv_iinc (v := x12) (lv' := [(2, .int x12), (1, .int x11), (0, .ref (h 61))]) hx hb dX5_filled_25 hl (k := 2) rfl (by rw [ex12]; rfl) (by decide) rfl (fun ls hl => ?_)
          obtain ⟨hx12, ax12⟩ := rg_add 1 4 ex12 h5 (rg_k (by decide) : rg 1 1 1) (by decide)
          replace ax12 : x12.toInt = x4_2.toInt + 1 := ax12
          refine lv_goto (tgt := 4) hx hb dX5_filled_28 (by decide) ?_
          exact ih2_ x11 x12 _ _ _ (rg_w hx12 (by decide) : rg 0 4 x12) hT hS (lv_sub hl [2, 1, 0] rfl) (m_up ax12 hx12 (by decide) hm2_)
  exact L4_1 _ (0) (0) _ _ _ (rg_w (rg_k (by decide) : rg 0 0 0) (by decide) : rg 0 4 0) hT hS (lv_sub hl [2, 1, 0] rfl) (Nat.lt_succ_self _)
set_option maxRecDepth 100000 in
set_option maxHeartbeats 4000000 in
theorem m_X8_count {l : Launch} {D : va_G} {h : Nat → Nat} {cz : Nat → ClassId} {z : EZ} {i : Nat → Nat → Int32} {g : Nat → Nat → Int64} (hR : Rg rA i) (a_a : Int32) : DtI l yX8_count cX8_count 2 (some .int) ({ frames := 2, cells := 0, slots := 0, locals := 43 } : Room) D h cz z i g [.ref (h 0), .int a_a] (fun r u => u = (i, g)) := by
  refine e_I pn_X8_count (Nat.le_of_ble_eq_true rfl) ?_
  intro p e s m args below meth c ls Q X Y hret hT hl hS
  have hx := X.1
  have hb := X.2.1
  have hl : lv_has ls 2 [(0, .ref (h 0)), (1, .int a_a)] := hl
  refine lv_iload_n hx hb dX8_count_0 rfl (lv_at hl 1 rfl) ?_
  rcases Int.lt_or_le a_a.toInt 0 with c1 | c1
  ·
    refine lv_tableOut (tgt := 136) hx hb dX8_count_1 (Or.inl c1) (by decide) ?_
    refine lv_iconst (v := (-1)) hx hb dX8_count_136 (by decide) ?_
    exact hret (-1) _ _ _ _ _ _ dX8_count_137 hT hS rfl
  ·
    rcases Int.lt_or_le 9 a_a.toInt with d1 | d1
    ·
      refine lv_tableOut (tgt := 136) hx hb dX8_count_1 (Or.inr d1) (by decide) ?_
      refine lv_iconst (v := (-1)) hx hb dX8_count_136 (by decide) ?_
      exact hret (-1) _ _ _ _ _ _ dX8_count_137 hT hS rfl
    ·
      rcases (show a_a.toInt = 0 ∨ a_a.toInt = 1 ∨ a_a.toInt = 2 ∨ a_a.toInt = 3 ∨ a_a.toInt = 4 ∨ a_a.toInt = 5 ∨ a_a.toInt = 6 ∨ a_a.toInt = 7 ∨ a_a.toInt = 8 ∨ a_a.toInt = 9 by omega) with f1 | f1 | f1 | f1 | f1 | f1 | f1 | f1 | f1 | f1
      ·
        refine lv_tableIn (tgt := 56) (off := 55) hx hb dX8_count_1 (by omega) (by omega) (by rw [f1]; rfl) (by decide) ?_
        have h2 : rg 0 0 a_a := ⟨by omega, by omega⟩
        refine lv_aload_n hx hb dX8_count_56 rfl (lv_at hl 0 rfl) ?_
        refine r_getr X hT 0 3 15 fk_8_32 rfl rfl (by decide) dX8_count_57 ?_
        refine r_geti X hT 15 10 fk_8_168 rfl rfl (by decide) dX8_count_60 ?_
        exact hret (i 15 10) _ _ _ _ _ _ dX8_count_63 hT hS rfl
      ·
        refine lv_tableIn (tgt := 64) (off := 63) hx hb dX8_count_1 (by omega) (by omega) (by rw [f1]; rfl) (by decide) ?_
        have h3 : rg 1 1 a_a := ⟨by omega, by omega⟩
        refine lv_aload_n hx hb dX8_count_64 rfl (lv_at hl 0 rfl) ?_
        refine r_getr X hT 0 3 15 fk_8_32 rfl rfl (by decide) dX8_count_65 ?_
        refine r_geti X hT 15 11 fk_8_171 rfl rfl (by decide) dX8_count_68 ?_
        exact hret (i 15 11) _ _ _ _ _ _ dX8_count_71 hT hS rfl
      ·
        refine lv_tableIn (tgt := 72) (off := 71) hx hb dX8_count_1 (by omega) (by omega) (by rw [f1]; rfl) (by decide) ?_
        have h4 : rg 2 2 a_a := ⟨by omega, by omega⟩
        refine lv_aload_n hx hb dX8_count_72 rfl (lv_at hl 0 rfl) ?_
        refine r_getr X hT 0 3 15 fk_8_32 rfl rfl (by decide) dX8_count_73 ?_
        refine r_geti X hT 15 12 fk_8_174 rfl rfl (by decide) dX8_count_76 ?_
        exact hret (i 15 12) _ _ _ _ _ _ dX8_count_79 hT hS rfl
      ·
        refine lv_tableIn (tgt := 80) (off := 79) hx hb dX8_count_1 (by omega) (by omega) (by rw [f1]; rfl) (by decide) ?_
        have h5 : rg 3 3 a_a := ⟨by omega, by omega⟩
        refine lv_aload_n hx hb dX8_count_80 rfl (lv_at hl 0 rfl) ?_
        refine r_getr X hT 0 3 15 fk_8_32 rfl rfl (by decide) dX8_count_81 ?_
        refine r_geti X hT 15 13 fk_8_156 rfl rfl (by decide) dX8_count_84 ?_
        exact hret (i 15 13) _ _ _ _ _ _ dX8_count_87 hT hS rfl
      ·
        refine lv_tableIn (tgt := 88) (off := 87) hx hb dX8_count_1 (by omega) (by omega) (by rw [f1]; rfl) (by decide) ?_
        have h6 : rg 4 4 a_a := ⟨by omega, by omega⟩
        refine lv_aload_n hx hb dX8_count_88 rfl (lv_at hl 0 rfl) ?_
        refine r_getr X hT 0 3 15 fk_8_32 rfl rfl (by decide) dX8_count_89 ?_
        refine r_geti X hT 15 14 fk_8_176 rfl rfl (by decide) dX8_count_92 ?_
        exact hret (i 15 14) _ _ _ _ _ _ dX8_count_95 hT hS rfl
      ·
        refine lv_tableIn (tgt := 96) (off := 95) hx hb dX8_count_1 (by omega) (by omega) (by rw [f1]; rfl) (by decide) ?_
        have h7 : rg 5 5 a_a := ⟨by omega, by omega⟩
        refine lv_aload_n hx hb dX8_count_96 rfl (lv_at hl 0 rfl) ?_
        refine r_getr X hT 0 3 15 fk_8_32 rfl rfl (by decide) dX8_count_97 ?_
        refine r_geti X hT 15 15 fk_8_162 rfl rfl (by decide) dX8_count_100 ?_
        exact hret (i 15 15) _ _ _ _ _ _ dX8_count_103 hT hS rfl
      ·
        refine lv_tableIn (tgt := 104) (off := 103) hx hb dX8_count_1 (by omega) (by omega) (by rw [f1]; rfl) (by decide) ?_
        have h8 : rg 6 6 a_a := ⟨by omega, by omega⟩
        refine lv_aload_n hx hb dX8_count_104 rfl (lv_at hl 0 rfl) ?_
        refine r_getr X hT 0 3 15 fk_8_32 rfl rfl (by decide) dX8_count_105 ?_
        refine r_geti X hT 15 16 fk_8_179 rfl rfl (by decide) dX8_count_108 ?_
        exact hret (i 15 16) _ _ _ _ _ _ dX8_count_111 hT hS rfl
      ·
        refine lv_tableIn (tgt := 112) (off := 111) hx hb dX8_count_1 (by omega) (by omega) (by rw [f1]; rfl) (by decide) ?_
        have h9 : rg 7 7 a_a := ⟨by omega, by omega⟩
        refine lv_aload_n hx hb dX8_count_112 rfl (lv_at hl 0 rfl) ?_
        refine r_getr X hT 0 3 15 fk_8_32 rfl rfl (by decide) dX8_count_113 ?_
        refine r_geti X hT 15 17 fk_8_118 rfl rfl (by decide) dX8_count_116 ?_
        exact hret (i 15 17) _ _ _ _ _ _ dX8_count_119 hT hS rfl
      ·
        refine lv_tableIn (tgt := 120) (off := 119) hx hb dX8_count_1 (by omega) (by omega) (by rw [f1]; rfl) (by decide) ?_
        have h10 : rg 8 8 a_a := ⟨by omega, by omega⟩
        refine lv_aload_n hx hb dX8_count_120 rfl (lv_at hl 0 rfl) ?_
        refine r_getr X hT 0 0 1 fk_8_10 rfl rfl (by decide) dX8_count_121 ?_
        refine r_geti X hT 1 1 fk_8_106 rfl rfl (by decide) dX8_count_124 ?_
        exact hret (i 1 1) _ _ _ _ _ _ dX8_count_127 hT hS rfl
      ·
        refine lv_tableIn (tgt := 128) (off := 127) hx hb dX8_count_1 (by omega) (by omega) (by rw [f1]; rfl) (by decide) ?_
        have h11 : rg 9 9 a_a := ⟨by omega, by omega⟩
        refine lv_aload_n hx hb dX8_count_128 rfl (lv_at hl 0 rfl) ?_
        refine r_getr X hT 0 6 61 fk_8_46 rfl rfl (by decide) dX8_count_129 ?_
        refine e_Vi (As := []) (rest := []) X Y hT hS (m_X5_filled_61 hR) mk_X5_filled gm_715 rfl rfl (by decide) hd_X5_filled ⟨rfl, rfl⟩ ⟨Nat.le_of_ble_eq_true rfl, Nat.le_of_ble_eq_true rfl⟩ hl.1 rfl (Nat.le_of_ble_eq_true rfl) dX8_count_132 ⟨Nat.zero_le _, Nat.zero_le _⟩ (fun r12 i12 g12 H locs hq hT hS => ?_)
        have eh12 := hq
        rw [(Prod.mk.inj eh12).1, (Prod.mk.inj eh12).2] at hT
        exact hret r12 _ _ _ _ _ _ dX8_count_135 hT hS rfl
set_option maxRecDepth 100000 in
set_option maxHeartbeats 4000000 in
theorem m_X6_become_27_15 {l : Launch} {D : va_G} {h : Nat → Nat} {cz : Nat → ClassId} {z : EZ} {i : Nat → Nat → Int32} {g : Nat → Nat → Int64} (hR : Rg rA i) : DtV l yX6_become cX6_become 2 none ({ frames := 1, cells := 0, slots := 0, locals := 40 } : Room) D h cz z i g [.ref (h 27), .ref (h 15)] (fun u => Rg rA u.1 ∧ Fr [27, 28, 29, 30, 31, 32, 33, 34, 35, 36, 37] [] i g u) := by
  refine e_V pn_X6_become (Nat.le_of_ble_eq_true rfl) ?_
  intro p e s m args below meth c ls Q X Y hret hT hl hS
  have hx := X.1
  have hb := X.2.1
  have hl : lv_has ls 2 [(0, .ref (h 27)), (1, .ref (h 15))] := hl
  have hF : Fr [27, 28, 29, 30, 31, 32, 33, 34, 35, 36, 37] [] i g (i, g) := Fr_rf _ _ _ _
  refine lv_aload_n hx hb dX6_become_0 rfl (lv_at hl 0 rfl) ?_
  refine lv_aload_n hx hb dX6_become_1 rfl (lv_at hl 1 rfl) ?_
  refine r_geti X hT 15 10 fk_6_42 rfl rfl (by decide) dX6_become_2 ?_
  refine r_puti X hT hS 27 10 pk_6_42 rfl rfl rfl rfl (by decide) dX6_become_5 (fun H locs i1 ei1 hT hS => ?_)
  have hR1 := Rg_put hR ei1 (-1) 12 rfl (Rg_at hR 15 10 (-1) 12 (by decide) rfl) (by decide)
  have hF1 := Fr_puti hF ei1 (by decide)
  refine lv_aload_n hx hb dX6_become_8 rfl (lv_at hl 0 rfl) ?_
  refine lv_aload_n hx hb dX6_become_9 rfl (lv_at hl 1 rfl) ?_
  refine r_geti X hT 15 11 fk_6_46 rfl rfl (by decide) dX6_become_10 ?_
  refine r_puti X hT hS 27 11 pk_6_46 rfl rfl rfl rfl (by decide) dX6_become_13 (fun H locs i2 ei2 hT hS => ?_)
  have hR2 := Rg_put hR1 ei2 (-2147483648) 2147483647 rfl (rg_top (i1 15 11)) (by decide)
  have hF2 := Fr_puti hF1 ei2 (by decide)
  refine lv_aload_n hx hb dX6_become_16 rfl (lv_at hl 0 rfl) ?_
  refine lv_aload_n hx hb dX6_become_17 rfl (lv_at hl 1 rfl) ?_
  refine r_geti X hT 15 12 fk_6_49 rfl rfl (by decide) dX6_become_18 ?_
  refine r_puti X hT hS 27 12 pk_6_49 rfl rfl rfl rfl (by decide) dX6_become_21 (fun H locs i3 ei3 hT hS => ?_)
  have hR3 := Rg_put hR2 ei3 (-2147483648) 2147483647 rfl (rg_top (i2 15 12)) (by decide)
  have hF3 := Fr_puti hF2 ei3 (by decide)
  refine lv_aload_n hx hb dX6_become_24 rfl (lv_at hl 0 rfl) ?_
  refine lv_aload_n hx hb dX6_become_25 rfl (lv_at hl 1 rfl) ?_
  refine r_geti X hT 15 13 fk_6_52 rfl rfl (by decide) dX6_become_26 ?_
  refine r_puti X hT hS 27 13 pk_6_52 rfl rfl rfl rfl (by decide) dX6_become_29 (fun H locs i4 ei4 hT hS => ?_)
  have hR4 := Rg_put hR3 ei4 0 6 rfl (Rg_at hR3 15 13 0 6 (by decide) rfl) (by decide)
  have hF4 := Fr_puti hF3 ei4 (by decide)
  refine lv_aload_n hx hb dX6_become_32 rfl (lv_at hl 0 rfl) ?_
  refine lv_aload_n hx hb dX6_become_33 rfl (lv_at hl 1 rfl) ?_
  refine r_geti X hT 15 14 fk_6_55 rfl rfl (by decide) dX6_become_34 ?_
  refine r_puti X hT hS 27 14 pk_6_55 rfl rfl rfl rfl (by decide) dX6_become_37 (fun H locs i5 ei5 hT hS => ?_)
  have hR5 := Rg_put hR4 ei5 0 10 rfl (Rg_at hR4 15 14 0 10 (by decide) rfl) (by decide)
  have hF5 := Fr_puti hF4 ei5 (by decide)
  refine lv_aload_n hx hb dX6_become_40 rfl (lv_at hl 0 rfl) ?_
  refine lv_aload_n hx hb dX6_become_41 rfl (lv_at hl 1 rfl) ?_
  refine r_geti X hT 15 15 fk_6_58 rfl rfl (by decide) dX6_become_42 ?_
  refine r_puti X hT hS 27 15 pk_6_58 rfl rfl rfl rfl (by decide) dX6_become_45 (fun H locs i6 ei6 hT hS => ?_)
  have hR6 := Rg_put hR5 ei6 0 8 rfl (Rg_at hR5 15 15 0 8 (by decide) rfl) (by decide)
  have hF6 := Fr_puti hF5 ei6 (by decide)
  refine lv_aload_n hx hb dX6_become_48 rfl (lv_at hl 0 rfl) ?_
  refine lv_aload_n hx hb dX6_become_49 rfl (lv_at hl 1 rfl) ?_
  refine r_geti X hT 15 16 fk_6_61 rfl rfl (by decide) dX6_become_50 ?_
  refine r_puti X hT hS 27 16 pk_6_61 rfl rfl rfl rfl (by decide) dX6_become_53 (fun H locs i7 ei7 hT hS => ?_)
  have hR7 := Rg_put hR6 ei7 0 20 rfl (Rg_at hR6 15 16 0 20 (by decide) rfl) (by decide)
  have hF7 := Fr_puti hF6 ei7 (by decide)
  refine lv_aload_n hx hb dX6_become_56 rfl (lv_at hl 0 rfl) ?_
  refine lv_aload_n hx hb dX6_become_57 rfl (lv_at hl 1 rfl) ?_
  refine r_geti X hT 15 17 fk_6_64 rfl rfl (by decide) dX6_become_58 ?_
  refine r_puti X hT hS 27 17 pk_6_64 rfl rfl rfl rfl (by decide) dX6_become_61 (fun H locs i8 ei8 hT hS => ?_)
  have hR8 := Rg_put hR7 ei8 (-2147483648) 2147483647 rfl (rg_top (i7 15 17)) (by decide)
  have hF8 := Fr_puti hF7 ei8 (by decide)
  refine lv_aload_n hx hb dX6_become_64 rfl (lv_at hl 1 rfl) ?_
  refine r_getr X hT 15 0 16 fk_6_9 rfl rfl (by decide) dX6_become_65 ?_
  refine lv_iconst (v := 0) hx hb dX6_become_68 (by decide) ?_
  refine lv_aload_n hx hb dX6_become_69 rfl (lv_at hl 0 rfl) ?_
  refine r_getr X hT 27 0 28 fk_6_9 rfl rfl (by decide) dX6_become_70 ?_
  refine lv_iconst (v := 0) hx hb dX6_become_73 (by decide) ?_
  refine lv_bipush (v := 6) hx hb dX6_become_74 (by decide) ?_
  refine r_copyi X hT hS hl.1 16 28 rfl rfl (by decide) (by decide) gm_654 gm_656 gm_655 gm_123 (rg_k (by decide) : rg 0 0 0) (rg_k (by decide) : rg 0 0 0) (rg_k (by decide) : rg 6 6 6) (by decide) (Nat.le_of_ble_eq_true rfl) (by decide +kernel) dX6_become_76 (fun H locs i9 ei9 hT hS => ?_)
  have hR9 := Rg_cpy hR8 ei9 0 60 0 60 (fun _ => rfl) (fun _ => rfl) (by decide) (by decide)
  have hF9 := Fr_cpy hF8 ei9 (by decide)
  refine lv_aload_n hx hb dX6_become_79 rfl (lv_at hl 1 rfl) ?_
  refine r_getr X hT 15 1 17 fk_6_15 rfl rfl (by decide) dX6_become_80 ?_
  refine lv_iconst (v := 0) hx hb dX6_become_83 (by decide) ?_
  refine lv_aload_n hx hb dX6_become_84 rfl (lv_at hl 0 rfl) ?_
  refine r_getr X hT 27 1 29 fk_6_15 rfl rfl (by decide) dX6_become_85 ?_
  refine lv_iconst (v := 0) hx hb dX6_become_88 (by decide) ?_
  refine lv_bipush (v := 6) hx hb dX6_become_89 (by decide) ?_
  refine r_copyi X hT hS hl.1 17 29 rfl rfl (by decide) (by decide) gm_654 gm_656 gm_655 gm_123 (rg_k (by decide) : rg 0 0 0) (rg_k (by decide) : rg 0 0 0) (rg_k (by decide) : rg 6 6 6) (by decide) (Nat.le_of_ble_eq_true rfl) (by decide +kernel) dX6_become_91 (fun H locs i10 ei10 hT hS => ?_)
  have hR10 := Rg_cpy hR9 ei10 0 9 0 9 (fun _ => rfl) (fun _ => rfl) (by decide) (by decide)
  have hF10 := Fr_cpy hF9 ei10 (by decide)
  refine lv_aload_n hx hb dX6_become_94 rfl (lv_at hl 1 rfl) ?_
  refine r_getr X hT 15 2 18 fk_6_18 rfl rfl (by decide) dX6_become_95 ?_
  refine lv_iconst (v := 0) hx hb dX6_become_98 (by decide) ?_
  refine lv_aload_n hx hb dX6_become_99 rfl (lv_at hl 0 rfl) ?_
  refine r_getr X hT 27 2 30 fk_6_18 rfl rfl (by decide) dX6_become_100 ?_
  refine lv_iconst (v := 0) hx hb dX6_become_103 (by decide) ?_
  refine lv_bipush (v := 6) hx hb dX6_become_104 (by decide) ?_
  refine r_copyi X hT hS hl.1 18 30 rfl rfl (by decide) (by decide) gm_654 gm_656 gm_655 gm_123 (rg_k (by decide) : rg 0 0 0) (rg_k (by decide) : rg 0 0 0) (rg_k (by decide) : rg 6 6 6) (by decide) (Nat.le_of_ble_eq_true rfl) (by decide +kernel) dX6_become_106 (fun H locs i11 ei11 hT hS => ?_)
  have hR11 := Rg_cpy hR10 ei11 0 60 0 60 (fun _ => rfl) (fun _ => rfl) (by decide) (by decide)
  have hF11 := Fr_cpy hF10 ei11 (by decide)
  refine lv_aload_n hx hb dX6_become_109 rfl (lv_at hl 1 rfl) ?_
  refine r_getr X hT 15 3 19 fk_6_21 rfl rfl (by decide) dX6_become_110 ?_
  refine lv_iconst (v := 0) hx hb dX6_become_113 (by decide) ?_
  refine lv_aload_n hx hb dX6_become_114 rfl (lv_at hl 0 rfl) ?_
  refine r_getr X hT 27 3 31 fk_6_21 rfl rfl (by decide) dX6_become_115 ?_
  refine lv_iconst (v := 0) hx hb dX6_become_118 (by decide) ?_
  refine lv_bipush (v := 10) hx hb dX6_become_119 (by decide) ?_
  refine r_copyi X hT hS hl.1 19 31 rfl rfl (by decide) (by decide) gm_654 gm_656 gm_655 gm_123 (rg_k (by decide) : rg 0 0 0) (rg_k (by decide) : rg 0 0 0) (rg_k (by decide) : rg 10 10 10) (by decide) (Nat.le_of_ble_eq_true rfl) (by decide +kernel) dX6_become_121 (fun H locs i12 ei12 hT hS => ?_)
  have hR12 := Rg_cpy hR11 ei12 0 5 0 5 (fun _ => rfl) (fun _ => rfl) (by decide) (by decide)
  have hF12 := Fr_cpy hF11 ei12 (by decide)
  refine lv_aload_n hx hb dX6_become_124 rfl (lv_at hl 1 rfl) ?_
  refine r_getr X hT 15 4 20 fk_6_24 rfl rfl (by decide) dX6_become_125 ?_
  refine lv_iconst (v := 0) hx hb dX6_become_128 (by decide) ?_
  refine lv_aload_n hx hb dX6_become_129 rfl (lv_at hl 0 rfl) ?_
  refine r_getr X hT 27 4 32 fk_6_24 rfl rfl (by decide) dX6_become_130 ?_
  refine lv_iconst (v := 0) hx hb dX6_become_133 (by decide) ?_
  refine lv_bipush (v := 10) hx hb dX6_become_134 (by decide) ?_
  refine r_copyi X hT hS hl.1 20 32 rfl rfl (by decide) (by decide) gm_654 gm_656 gm_655 gm_123 (rg_k (by decide) : rg 0 0 0) (rg_k (by decide) : rg 0 0 0) (rg_k (by decide) : rg 10 10 10) (by decide) (Nat.le_of_ble_eq_true rfl) (by decide +kernel) dX6_become_136 (fun H locs i13 ei13 hT hS => ?_)
  have hR13 := Rg_cpy hR12 ei13 0 5 0 5 (fun _ => rfl) (fun _ => rfl) (by decide) (by decide)
  have hF13 := Fr_cpy hF12 ei13 (by decide)
  refine lv_aload_n hx hb dX6_become_139 rfl (lv_at hl 1 rfl) ?_
  refine r_getr X hT 15 5 21 fk_6_27 rfl rfl (by decide) dX6_become_140 ?_
  refine lv_iconst (v := 0) hx hb dX6_become_143 (by decide) ?_
  refine lv_aload_n hx hb dX6_become_144 rfl (lv_at hl 0 rfl) ?_
  refine r_getr X hT 27 5 33 fk_6_27 rfl rfl (by decide) dX6_become_145 ?_
  refine lv_iconst (v := 0) hx hb dX6_become_148 (by decide) ?_
  refine lv_bipush (v := 8) hx hb dX6_become_149 (by decide) ?_
  refine r_copyi X hT hS hl.1 21 33 rfl rfl (by decide) (by decide) gm_654 gm_656 gm_655 gm_123 (rg_k (by decide) : rg 0 0 0) (rg_k (by decide) : rg 0 0 0) (rg_k (by decide) : rg 8 8 8) (by decide) (Nat.le_of_ble_eq_true rfl) (by decide +kernel) dX6_become_151 (fun H locs i14 ei14 hT hS => ?_)
  have hR14 := Rg_cpy hR13 ei14 0 5 0 5 (fun _ => rfl) (fun _ => rfl) (by decide) (by decide)
  have hF14 := Fr_cpy hF13 ei14 (by decide)
  refine lv_aload_n hx hb dX6_become_154 rfl (lv_at hl 1 rfl) ?_
  refine r_getr X hT 15 6 22 fk_6_30 rfl rfl (by decide) dX6_become_155 ?_
  refine lv_iconst (v := 0) hx hb dX6_become_158 (by decide) ?_
  refine lv_aload_n hx hb dX6_become_159 rfl (lv_at hl 0 rfl) ?_
  refine r_getr X hT 27 6 34 fk_6_30 rfl rfl (by decide) dX6_become_160 ?_
  refine lv_iconst (v := 0) hx hb dX6_become_163 (by decide) ?_
  refine lv_bipush (v := 8) hx hb dX6_become_164 (by decide) ?_
  refine r_copyi X hT hS hl.1 22 34 rfl rfl (by decide) (by decide) gm_654 gm_656 gm_655 gm_123 (rg_k (by decide) : rg 0 0 0) (rg_k (by decide) : rg 0 0 0) (rg_k (by decide) : rg 8 8 8) (by decide) (Nat.le_of_ble_eq_true rfl) (by decide +kernel) dX6_become_166 (fun H locs i15 ei15 hT hS => ?_)
  have hR15 := Rg_cpy hR14 ei15 0 11 0 11 (fun _ => rfl) (fun _ => rfl) (by decide) (by decide)
  have hF15 := Fr_cpy hF14 ei15 (by decide)
  refine lv_aload_n hx hb dX6_become_169 rfl (lv_at hl 1 rfl) ?_
  refine r_getr X hT 15 7 23 fk_6_33 rfl rfl (by decide) dX6_become_170 ?_
  refine lv_iconst (v := 0) hx hb dX6_become_173 (by decide) ?_
  refine lv_aload_n hx hb dX6_become_174 rfl (lv_at hl 0 rfl) ?_
  refine r_getr X hT 27 7 35 fk_6_33 rfl rfl (by decide) dX6_become_175 ?_
  refine lv_iconst (v := 0) hx hb dX6_become_178 (by decide) ?_
  refine lv_bipush (v := 20) hx hb dX6_become_179 (by decide) ?_
  refine r_copyi X hT hS hl.1 23 35 rfl rfl (by decide) (by decide) gm_654 gm_656 gm_655 gm_123 (rg_k (by decide) : rg 0 0 0) (rg_k (by decide) : rg 0 0 0) (rg_k (by decide) : rg 20 20 20) (by decide) (Nat.le_of_ble_eq_true rfl) (by decide +kernel) dX6_become_181 (fun H locs i16 ei16 hT hS => ?_)
  have hR16 := Rg_cpy hR15 ei16 0 1 0 1 (fun _ => rfl) (fun _ => rfl) (by decide) (by decide)
  have hF16 := Fr_cpy hF15 ei16 (by decide)
  refine lv_aload_n hx hb dX6_become_184 rfl (lv_at hl 1 rfl) ?_
  refine r_getr X hT 15 8 24 fk_6_36 rfl rfl (by decide) dX6_become_185 ?_
  refine lv_iconst (v := 0) hx hb dX6_become_188 (by decide) ?_
  refine lv_aload_n hx hb dX6_become_189 rfl (lv_at hl 0 rfl) ?_
  refine r_getr X hT 27 8 36 fk_6_36 rfl rfl (by decide) dX6_become_190 ?_
  refine lv_iconst (v := 0) hx hb dX6_become_193 (by decide) ?_
  refine lv_bipush (v := 20) hx hb dX6_become_194 (by decide) ?_
  refine r_copyi X hT hS hl.1 24 36 rfl rfl (by decide) (by decide) gm_654 gm_656 gm_655 gm_123 (rg_k (by decide) : rg 0 0 0) (rg_k (by decide) : rg 0 0 0) (rg_k (by decide) : rg 20 20 20) (by decide) (Nat.le_of_ble_eq_true rfl) (by decide +kernel) dX6_become_196 (fun H locs i17 ei17 hT hS => ?_)
  have hR17 := Rg_cpy hR16 ei17 0 5 0 5 (fun _ => rfl) (fun _ => rfl) (by decide) (by decide)
  have hF17 := Fr_cpy hF16 ei17 (by decide)
  refine lv_aload_n hx hb dX6_become_199 rfl (lv_at hl 1 rfl) ?_
  refine r_getr X hT 15 9 25 fk_6_39 rfl rfl (by decide) dX6_become_200 ?_
  refine lv_iconst (v := 0) hx hb dX6_become_203 (by decide) ?_
  refine lv_aload_n hx hb dX6_become_204 rfl (lv_at hl 0 rfl) ?_
  refine r_getr X hT 27 9 37 fk_6_39 rfl rfl (by decide) dX6_become_205 ?_
  refine lv_iconst (v := 0) hx hb dX6_become_208 (by decide) ?_
  refine lv_bipush (v := 20) hx hb dX6_become_209 (by decide) ?_
  refine r_copyi X hT hS hl.1 25 37 rfl rfl (by decide) (by decide) gm_654 gm_656 gm_655 gm_123 (rg_k (by decide) : rg 0 0 0) (rg_k (by decide) : rg 0 0 0) (rg_k (by decide) : rg 20 20 20) (by decide) (Nat.le_of_ble_eq_true rfl) (by decide +kernel) dX6_become_211 (fun H locs i18 ei18 hT hS => ?_)
  have hR18 := Rg_cpy hR17 ei18 0 11 0 11 (fun _ => rfl) (fun _ => rfl) (by decide) (by decide)
  have hF18 := Fr_cpy hF17 ei18 (by decide)
  exact hret _ _ _ _ _ _ dX6_become_214 hT hS ⟨hR18, hF18⟩
set_option maxRecDepth 100000 in
set_option maxHeartbeats 4000000 in
theorem m_X6_become_38_15 {l : Launch} {D : va_G} {h : Nat → Nat} {cz : Nat → ClassId} {z : EZ} {i : Nat → Nat → Int32} {g : Nat → Nat → Int64} (hR : Rg rA i) : DtV l yX6_become cX6_become 2 none ({ frames := 1, cells := 0, slots := 0, locals := 40 } : Room) D h cz z i g [.ref (h 38), .ref (h 15)] (fun u => Rg rA u.1 ∧ Fr [38, 39, 40, 41, 42, 43, 44, 45, 46, 47, 48] [] i g u) := by
  refine e_V pn_X6_become (Nat.le_of_ble_eq_true rfl) ?_
  intro p e s m args below meth c ls Q X Y hret hT hl hS
  have hx := X.1
  have hb := X.2.1
  have hl : lv_has ls 2 [(0, .ref (h 38)), (1, .ref (h 15))] := hl
  have hF : Fr [38, 39, 40, 41, 42, 43, 44, 45, 46, 47, 48] [] i g (i, g) := Fr_rf _ _ _ _
  refine lv_aload_n hx hb dX6_become_0 rfl (lv_at hl 0 rfl) ?_
  refine lv_aload_n hx hb dX6_become_1 rfl (lv_at hl 1 rfl) ?_
  refine r_geti X hT 15 10 fk_6_42 rfl rfl (by decide) dX6_become_2 ?_
  refine r_puti X hT hS 38 10 pk_6_42 rfl rfl rfl rfl (by decide) dX6_become_5 (fun H locs i1 ei1 hT hS => ?_)
  have hR1 := Rg_put hR ei1 (-1) 12 rfl (Rg_at hR 15 10 (-1) 12 (by decide) rfl) (by decide)
  have hF1 := Fr_puti hF ei1 (by decide)
  refine lv_aload_n hx hb dX6_become_8 rfl (lv_at hl 0 rfl) ?_
  refine lv_aload_n hx hb dX6_become_9 rfl (lv_at hl 1 rfl) ?_
  refine r_geti X hT 15 11 fk_6_46 rfl rfl (by decide) dX6_become_10 ?_
  refine r_puti X hT hS 38 11 pk_6_46 rfl rfl rfl rfl (by decide) dX6_become_13 (fun H locs i2 ei2 hT hS => ?_)
  have hR2 := Rg_put hR1 ei2 (-2147483648) 2147483647 rfl (rg_top (i1 15 11)) (by decide)
  have hF2 := Fr_puti hF1 ei2 (by decide)
  refine lv_aload_n hx hb dX6_become_16 rfl (lv_at hl 0 rfl) ?_
  refine lv_aload_n hx hb dX6_become_17 rfl (lv_at hl 1 rfl) ?_
  refine r_geti X hT 15 12 fk_6_49 rfl rfl (by decide) dX6_become_18 ?_
  refine r_puti X hT hS 38 12 pk_6_49 rfl rfl rfl rfl (by decide) dX6_become_21 (fun H locs i3 ei3 hT hS => ?_)
  have hR3 := Rg_put hR2 ei3 (-2147483648) 2147483647 rfl (rg_top (i2 15 12)) (by decide)
  have hF3 := Fr_puti hF2 ei3 (by decide)
  refine lv_aload_n hx hb dX6_become_24 rfl (lv_at hl 0 rfl) ?_
  refine lv_aload_n hx hb dX6_become_25 rfl (lv_at hl 1 rfl) ?_
  refine r_geti X hT 15 13 fk_6_52 rfl rfl (by decide) dX6_become_26 ?_
  refine r_puti X hT hS 38 13 pk_6_52 rfl rfl rfl rfl (by decide) dX6_become_29 (fun H locs i4 ei4 hT hS => ?_)
  have hR4 := Rg_put hR3 ei4 0 6 rfl (Rg_at hR3 15 13 0 6 (by decide) rfl) (by decide)
  have hF4 := Fr_puti hF3 ei4 (by decide)
  refine lv_aload_n hx hb dX6_become_32 rfl (lv_at hl 0 rfl) ?_
  refine lv_aload_n hx hb dX6_become_33 rfl (lv_at hl 1 rfl) ?_
  refine r_geti X hT 15 14 fk_6_55 rfl rfl (by decide) dX6_become_34 ?_
  refine r_puti X hT hS 38 14 pk_6_55 rfl rfl rfl rfl (by decide) dX6_become_37 (fun H locs i5 ei5 hT hS => ?_)
  have hR5 := Rg_put hR4 ei5 0 10 rfl (Rg_at hR4 15 14 0 10 (by decide) rfl) (by decide)
  have hF5 := Fr_puti hF4 ei5 (by decide)
  refine lv_aload_n hx hb dX6_become_40 rfl (lv_at hl 0 rfl) ?_
  refine lv_aload_n hx hb dX6_become_41 rfl (lv_at hl 1 rfl) ?_
  refine r_geti X hT 15 15 fk_6_58 rfl rfl (by decide) dX6_become_42 ?_
  refine r_puti X hT hS 38 15 pk_6_58 rfl rfl rfl rfl (by decide) dX6_become_45 (fun H locs i6 ei6 hT hS => ?_)
  have hR6 := Rg_put hR5 ei6 0 8 rfl (Rg_at hR5 15 15 0 8 (by decide) rfl) (by decide)
  have hF6 := Fr_puti hF5 ei6 (by decide)
  refine lv_aload_n hx hb dX6_become_48 rfl (lv_at hl 0 rfl) ?_
  refine lv_aload_n hx hb dX6_become_49 rfl (lv_at hl 1 rfl) ?_
  refine r_geti X hT 15 16 fk_6_61 rfl rfl (by decide) dX6_become_50 ?_
  refine r_puti X hT hS 38 16 pk_6_61 rfl rfl rfl rfl (by decide) dX6_become_53 (fun H locs i7 ei7 hT hS => ?_)
  have hR7 := Rg_put hR6 ei7 0 20 rfl (Rg_at hR6 15 16 0 20 (by decide) rfl) (by decide)
  have hF7 := Fr_puti hF6 ei7 (by decide)
  refine lv_aload_n hx hb dX6_become_56 rfl (lv_at hl 0 rfl) ?_
  refine lv_aload_n hx hb dX6_become_57 rfl (lv_at hl 1 rfl) ?_
  refine r_geti X hT 15 17 fk_6_64 rfl rfl (by decide) dX6_become_58 ?_
  refine r_puti X hT hS 38 17 pk_6_64 rfl rfl rfl rfl (by decide) dX6_become_61 (fun H locs i8 ei8 hT hS => ?_)
  have hR8 := Rg_put hR7 ei8 (-2147483648) 2147483647 rfl (rg_top (i7 15 17)) (by decide)
  have hF8 := Fr_puti hF7 ei8 (by decide)
  refine lv_aload_n hx hb dX6_become_64 rfl (lv_at hl 1 rfl) ?_
  refine r_getr X hT 15 0 16 fk_6_9 rfl rfl (by decide) dX6_become_65 ?_
  refine lv_iconst (v := 0) hx hb dX6_become_68 (by decide) ?_
  refine lv_aload_n hx hb dX6_become_69 rfl (lv_at hl 0 rfl) ?_
  refine r_getr X hT 38 0 39 fk_6_9 rfl rfl (by decide) dX6_become_70 ?_
  refine lv_iconst (v := 0) hx hb dX6_become_73 (by decide) ?_
  refine lv_bipush (v := 6) hx hb dX6_become_74 (by decide) ?_
  refine r_copyi X hT hS hl.1 16 39 rfl rfl (by decide) (by decide) gm_654 gm_656 gm_655 gm_123 (rg_k (by decide) : rg 0 0 0) (rg_k (by decide) : rg 0 0 0) (rg_k (by decide) : rg 6 6 6) (by decide) (Nat.le_of_ble_eq_true rfl) (by decide +kernel) dX6_become_76 (fun H locs i9 ei9 hT hS => ?_)
  have hR9 := Rg_cpy hR8 ei9 0 60 0 60 (fun _ => rfl) (fun _ => rfl) (by decide) (by decide)
  have hF9 := Fr_cpy hF8 ei9 (by decide)
  refine lv_aload_n hx hb dX6_become_79 rfl (lv_at hl 1 rfl) ?_
  refine r_getr X hT 15 1 17 fk_6_15 rfl rfl (by decide) dX6_become_80 ?_
  refine lv_iconst (v := 0) hx hb dX6_become_83 (by decide) ?_
  refine lv_aload_n hx hb dX6_become_84 rfl (lv_at hl 0 rfl) ?_
  refine r_getr X hT 38 1 40 fk_6_15 rfl rfl (by decide) dX6_become_85 ?_
  refine lv_iconst (v := 0) hx hb dX6_become_88 (by decide) ?_
  refine lv_bipush (v := 6) hx hb dX6_become_89 (by decide) ?_
  refine r_copyi X hT hS hl.1 17 40 rfl rfl (by decide) (by decide) gm_654 gm_656 gm_655 gm_123 (rg_k (by decide) : rg 0 0 0) (rg_k (by decide) : rg 0 0 0) (rg_k (by decide) : rg 6 6 6) (by decide) (Nat.le_of_ble_eq_true rfl) (by decide +kernel) dX6_become_91 (fun H locs i10 ei10 hT hS => ?_)
  have hR10 := Rg_cpy hR9 ei10 0 9 0 9 (fun _ => rfl) (fun _ => rfl) (by decide) (by decide)
  have hF10 := Fr_cpy hF9 ei10 (by decide)
  refine lv_aload_n hx hb dX6_become_94 rfl (lv_at hl 1 rfl) ?_
  refine r_getr X hT 15 2 18 fk_6_18 rfl rfl (by decide) dX6_become_95 ?_
  refine lv_iconst (v := 0) hx hb dX6_become_98 (by decide) ?_
  refine lv_aload_n hx hb dX6_become_99 rfl (lv_at hl 0 rfl) ?_
  refine r_getr X hT 38 2 41 fk_6_18 rfl rfl (by decide) dX6_become_100 ?_
  refine lv_iconst (v := 0) hx hb dX6_become_103 (by decide) ?_
  refine lv_bipush (v := 6) hx hb dX6_become_104 (by decide) ?_
  refine r_copyi X hT hS hl.1 18 41 rfl rfl (by decide) (by decide) gm_654 gm_656 gm_655 gm_123 (rg_k (by decide) : rg 0 0 0) (rg_k (by decide) : rg 0 0 0) (rg_k (by decide) : rg 6 6 6) (by decide) (Nat.le_of_ble_eq_true rfl) (by decide +kernel) dX6_become_106 (fun H locs i11 ei11 hT hS => ?_)
  have hR11 := Rg_cpy hR10 ei11 0 60 0 60 (fun _ => rfl) (fun _ => rfl) (by decide) (by decide)
  have hF11 := Fr_cpy hF10 ei11 (by decide)
  refine lv_aload_n hx hb dX6_become_109 rfl (lv_at hl 1 rfl) ?_
  refine r_getr X hT 15 3 19 fk_6_21 rfl rfl (by decide) dX6_become_110 ?_
  refine lv_iconst (v := 0) hx hb dX6_become_113 (by decide) ?_
  refine lv_aload_n hx hb dX6_become_114 rfl (lv_at hl 0 rfl) ?_
  refine r_getr X hT 38 3 42 fk_6_21 rfl rfl (by decide) dX6_become_115 ?_
  refine lv_iconst (v := 0) hx hb dX6_become_118 (by decide) ?_
  refine lv_bipush (v := 10) hx hb dX6_become_119 (by decide) ?_
  refine r_copyi X hT hS hl.1 19 42 rfl rfl (by decide) (by decide) gm_654 gm_656 gm_655 gm_123 (rg_k (by decide) : rg 0 0 0) (rg_k (by decide) : rg 0 0 0) (rg_k (by decide) : rg 10 10 10) (by decide) (Nat.le_of_ble_eq_true rfl) (by decide +kernel) dX6_become_121 (fun H locs i12 ei12 hT hS => ?_)
  have hR12 := Rg_cpy hR11 ei12 0 5 0 5 (fun _ => rfl) (fun _ => rfl) (by decide) (by decide)
  have hF12 := Fr_cpy hF11 ei12 (by decide)
  refine lv_aload_n hx hb dX6_become_124 rfl (lv_at hl 1 rfl) ?_
  refine r_getr X hT 15 4 20 fk_6_24 rfl rfl (by decide) dX6_become_125 ?_
  refine lv_iconst (v := 0) hx hb dX6_become_128 (by decide) ?_
  refine lv_aload_n hx hb dX6_become_129 rfl (lv_at hl 0 rfl) ?_
  refine r_getr X hT 38 4 43 fk_6_24 rfl rfl (by decide) dX6_become_130 ?_
  refine lv_iconst (v := 0) hx hb dX6_become_133 (by decide) ?_
  refine lv_bipush (v := 10) hx hb dX6_become_134 (by decide) ?_
  refine r_copyi X hT hS hl.1 20 43 rfl rfl (by decide) (by decide) gm_654 gm_656 gm_655 gm_123 (rg_k (by decide) : rg 0 0 0) (rg_k (by decide) : rg 0 0 0) (rg_k (by decide) : rg 10 10 10) (by decide) (Nat.le_of_ble_eq_true rfl) (by decide +kernel) dX6_become_136 (fun H locs i13 ei13 hT hS => ?_)
  have hR13 := Rg_cpy hR12 ei13 0 5 0 5 (fun _ => rfl) (fun _ => rfl) (by decide) (by decide)
  have hF13 := Fr_cpy hF12 ei13 (by decide)
  refine lv_aload_n hx hb dX6_become_139 rfl (lv_at hl 1 rfl) ?_
  refine r_getr X hT 15 5 21 fk_6_27 rfl rfl (by decide) dX6_become_140 ?_
  refine lv_iconst (v := 0) hx hb dX6_become_143 (by decide) ?_
  refine lv_aload_n hx hb dX6_become_144 rfl (lv_at hl 0 rfl) ?_
  refine r_getr X hT 38 5 44 fk_6_27 rfl rfl (by decide) dX6_become_145 ?_
  refine lv_iconst (v := 0) hx hb dX6_become_148 (by decide) ?_
  refine lv_bipush (v := 8) hx hb dX6_become_149 (by decide) ?_
  refine r_copyi X hT hS hl.1 21 44 rfl rfl (by decide) (by decide) gm_654 gm_656 gm_655 gm_123 (rg_k (by decide) : rg 0 0 0) (rg_k (by decide) : rg 0 0 0) (rg_k (by decide) : rg 8 8 8) (by decide) (Nat.le_of_ble_eq_true rfl) (by decide +kernel) dX6_become_151 (fun H locs i14 ei14 hT hS => ?_)
  have hR14 := Rg_cpy hR13 ei14 0 5 0 5 (fun _ => rfl) (fun _ => rfl) (by decide) (by decide)
  have hF14 := Fr_cpy hF13 ei14 (by decide)
  refine lv_aload_n hx hb dX6_become_154 rfl (lv_at hl 1 rfl) ?_
  refine r_getr X hT 15 6 22 fk_6_30 rfl rfl (by decide) dX6_become_155 ?_
  refine lv_iconst (v := 0) hx hb dX6_become_158 (by decide) ?_
  refine lv_aload_n hx hb dX6_become_159 rfl (lv_at hl 0 rfl) ?_
  refine r_getr X hT 38 6 45 fk_6_30 rfl rfl (by decide) dX6_become_160 ?_
  refine lv_iconst (v := 0) hx hb dX6_become_163 (by decide) ?_
  refine lv_bipush (v := 8) hx hb dX6_become_164 (by decide) ?_
  refine r_copyi X hT hS hl.1 22 45 rfl rfl (by decide) (by decide) gm_654 gm_656 gm_655 gm_123 (rg_k (by decide) : rg 0 0 0) (rg_k (by decide) : rg 0 0 0) (rg_k (by decide) : rg 8 8 8) (by decide) (Nat.le_of_ble_eq_true rfl) (by decide +kernel) dX6_become_166 (fun H locs i15 ei15 hT hS => ?_)
  have hR15 := Rg_cpy hR14 ei15 0 11 0 11 (fun _ => rfl) (fun _ => rfl) (by decide) (by decide)
  have hF15 := Fr_cpy hF14 ei15 (by decide)
  refine lv_aload_n hx hb dX6_become_169 rfl (lv_at hl 1 rfl) ?_
  refine r_getr X hT 15 7 23 fk_6_33 rfl rfl (by decide) dX6_become_170 ?_
  refine lv_iconst (v := 0) hx hb dX6_become_173 (by decide) ?_
  refine lv_aload_n hx hb dX6_become_174 rfl (lv_at hl 0 rfl) ?_
  refine r_getr X hT 38 7 46 fk_6_33 rfl rfl (by decide) dX6_become_175 ?_
  refine lv_iconst (v := 0) hx hb dX6_become_178 (by decide) ?_
  refine lv_bipush (v := 20) hx hb dX6_become_179 (by decide) ?_
  refine r_copyi X hT hS hl.1 23 46 rfl rfl (by decide) (by decide) gm_654 gm_656 gm_655 gm_123 (rg_k (by decide) : rg 0 0 0) (rg_k (by decide) : rg 0 0 0) (rg_k (by decide) : rg 20 20 20) (by decide) (Nat.le_of_ble_eq_true rfl) (by decide +kernel) dX6_become_181 (fun H locs i16 ei16 hT hS => ?_)
  have hR16 := Rg_cpy hR15 ei16 0 1 0 1 (fun _ => rfl) (fun _ => rfl) (by decide) (by decide)
  have hF16 := Fr_cpy hF15 ei16 (by decide)
  refine lv_aload_n hx hb dX6_become_184 rfl (lv_at hl 1 rfl) ?_
  refine r_getr X hT 15 8 24 fk_6_36 rfl rfl (by decide) dX6_become_185 ?_
  refine lv_iconst (v := 0) hx hb dX6_become_188 (by decide) ?_
  refine lv_aload_n hx hb dX6_become_189 rfl (lv_at hl 0 rfl) ?_
  refine r_getr X hT 38 8 47 fk_6_36 rfl rfl (by decide) dX6_become_190 ?_
  refine lv_iconst (v := 0) hx hb dX6_become_193 (by decide) ?_
  refine lv_bipush (v := 20) hx hb dX6_become_194 (by decide) ?_
  refine r_copyi X hT hS hl.1 24 47 rfl rfl (by decide) (by decide) gm_654 gm_656 gm_655 gm_123 (rg_k (by decide) : rg 0 0 0) (rg_k (by decide) : rg 0 0 0) (rg_k (by decide) : rg 20 20 20) (by decide) (Nat.le_of_ble_eq_true rfl) (by decide +kernel) dX6_become_196 (fun H locs i17 ei17 hT hS => ?_)
  have hR17 := Rg_cpy hR16 ei17 0 5 0 5 (fun _ => rfl) (fun _ => rfl) (by decide) (by decide)
  have hF17 := Fr_cpy hF16 ei17 (by decide)
  refine lv_aload_n hx hb dX6_become_199 rfl (lv_at hl 1 rfl) ?_
  refine r_getr X hT 15 9 25 fk_6_39 rfl rfl (by decide) dX6_become_200 ?_
  refine lv_iconst (v := 0) hx hb dX6_become_203 (by decide) ?_
  refine lv_aload_n hx hb dX6_become_204 rfl (lv_at hl 0 rfl) ?_
  refine r_getr X hT 38 9 48 fk_6_39 rfl rfl (by decide) dX6_become_205 ?_
  refine lv_iconst (v := 0) hx hb dX6_become_208 (by decide) ?_
  refine lv_bipush (v := 20) hx hb dX6_become_209 (by decide) ?_
  refine r_copyi X hT hS hl.1 25 48 rfl rfl (by decide) (by decide) gm_654 gm_656 gm_655 gm_123 (rg_k (by decide) : rg 0 0 0) (rg_k (by decide) : rg 0 0 0) (rg_k (by decide) : rg 20 20 20) (by decide) (Nat.le_of_ble_eq_true rfl) (by decide +kernel) dX6_become_211 (fun H locs i18 ei18 hT hS => ?_)
  have hR18 := Rg_cpy hR17 ei18 0 11 0 11 (fun _ => rfl) (fun _ => rfl) (by decide) (by decide)
  have hF18 := Fr_cpy hF17 ei18 (by decide)
  exact hret _ _ _ _ _ _ dX6_become_214 hT hS ⟨hR18, hF18⟩
set_option maxRecDepth 100000 in
set_option maxHeartbeats 4000000 in
theorem m_X6_become_49_15 {l : Launch} {D : va_G} {h : Nat → Nat} {cz : Nat → ClassId} {z : EZ} {i : Nat → Nat → Int32} {g : Nat → Nat → Int64} (hR : Rg rA i) : DtV l yX6_become cX6_become 2 none ({ frames := 1, cells := 0, slots := 0, locals := 40 } : Room) D h cz z i g [.ref (h 49), .ref (h 15)] (fun u => Rg rA u.1 ∧ Fr [49, 50, 51, 52, 53, 54, 55, 56, 57, 58, 59] [] i g u) := by
  refine e_V pn_X6_become (Nat.le_of_ble_eq_true rfl) ?_
  intro p e s m args below meth c ls Q X Y hret hT hl hS
  have hx := X.1
  have hb := X.2.1
  have hl : lv_has ls 2 [(0, .ref (h 49)), (1, .ref (h 15))] := hl
  have hF : Fr [49, 50, 51, 52, 53, 54, 55, 56, 57, 58, 59] [] i g (i, g) := Fr_rf _ _ _ _
  refine lv_aload_n hx hb dX6_become_0 rfl (lv_at hl 0 rfl) ?_
  refine lv_aload_n hx hb dX6_become_1 rfl (lv_at hl 1 rfl) ?_
  refine r_geti X hT 15 10 fk_6_42 rfl rfl (by decide) dX6_become_2 ?_
  refine r_puti X hT hS 49 10 pk_6_42 rfl rfl rfl rfl (by decide) dX6_become_5 (fun H locs i1 ei1 hT hS => ?_)
  have hR1 := Rg_put hR ei1 (-1) 12 rfl (Rg_at hR 15 10 (-1) 12 (by decide) rfl) (by decide)
  have hF1 := Fr_puti hF ei1 (by decide)
  refine lv_aload_n hx hb dX6_become_8 rfl (lv_at hl 0 rfl) ?_
  refine lv_aload_n hx hb dX6_become_9 rfl (lv_at hl 1 rfl) ?_
  refine r_geti X hT 15 11 fk_6_46 rfl rfl (by decide) dX6_become_10 ?_
  refine r_puti X hT hS 49 11 pk_6_46 rfl rfl rfl rfl (by decide) dX6_become_13 (fun H locs i2 ei2 hT hS => ?_)
  have hR2 := Rg_put hR1 ei2 (-2147483648) 2147483647 rfl (rg_top (i1 15 11)) (by decide)
  have hF2 := Fr_puti hF1 ei2 (by decide)
  refine lv_aload_n hx hb dX6_become_16 rfl (lv_at hl 0 rfl) ?_
  refine lv_aload_n hx hb dX6_become_17 rfl (lv_at hl 1 rfl) ?_
  refine r_geti X hT 15 12 fk_6_49 rfl rfl (by decide) dX6_become_18 ?_
  refine r_puti X hT hS 49 12 pk_6_49 rfl rfl rfl rfl (by decide) dX6_become_21 (fun H locs i3 ei3 hT hS => ?_)
  have hR3 := Rg_put hR2 ei3 (-2147483648) 2147483647 rfl (rg_top (i2 15 12)) (by decide)
  have hF3 := Fr_puti hF2 ei3 (by decide)
  refine lv_aload_n hx hb dX6_become_24 rfl (lv_at hl 0 rfl) ?_
  refine lv_aload_n hx hb dX6_become_25 rfl (lv_at hl 1 rfl) ?_
  refine r_geti X hT 15 13 fk_6_52 rfl rfl (by decide) dX6_become_26 ?_
  refine r_puti X hT hS 49 13 pk_6_52 rfl rfl rfl rfl (by decide) dX6_become_29 (fun H locs i4 ei4 hT hS => ?_)
  have hR4 := Rg_put hR3 ei4 0 6 rfl (Rg_at hR3 15 13 0 6 (by decide) rfl) (by decide)
  have hF4 := Fr_puti hF3 ei4 (by decide)
  refine lv_aload_n hx hb dX6_become_32 rfl (lv_at hl 0 rfl) ?_
  refine lv_aload_n hx hb dX6_become_33 rfl (lv_at hl 1 rfl) ?_
  refine r_geti X hT 15 14 fk_6_55 rfl rfl (by decide) dX6_become_34 ?_
  refine r_puti X hT hS 49 14 pk_6_55 rfl rfl rfl rfl (by decide) dX6_become_37 (fun H locs i5 ei5 hT hS => ?_)
  have hR5 := Rg_put hR4 ei5 0 10 rfl (Rg_at hR4 15 14 0 10 (by decide) rfl) (by decide)
  have hF5 := Fr_puti hF4 ei5 (by decide)
  refine lv_aload_n hx hb dX6_become_40 rfl (lv_at hl 0 rfl) ?_
  refine lv_aload_n hx hb dX6_become_41 rfl (lv_at hl 1 rfl) ?_
  refine r_geti X hT 15 15 fk_6_58 rfl rfl (by decide) dX6_become_42 ?_
  refine r_puti X hT hS 49 15 pk_6_58 rfl rfl rfl rfl (by decide) dX6_become_45 (fun H locs i6 ei6 hT hS => ?_)
  have hR6 := Rg_put hR5 ei6 0 8 rfl (Rg_at hR5 15 15 0 8 (by decide) rfl) (by decide)
  have hF6 := Fr_puti hF5 ei6 (by decide)
  refine lv_aload_n hx hb dX6_become_48 rfl (lv_at hl 0 rfl) ?_
  refine lv_aload_n hx hb dX6_become_49 rfl (lv_at hl 1 rfl) ?_
  refine r_geti X hT 15 16 fk_6_61 rfl rfl (by decide) dX6_become_50 ?_
  refine r_puti X hT hS 49 16 pk_6_61 rfl rfl rfl rfl (by decide) dX6_become_53 (fun H locs i7 ei7 hT hS => ?_)
  have hR7 := Rg_put hR6 ei7 0 20 rfl (Rg_at hR6 15 16 0 20 (by decide) rfl) (by decide)
  have hF7 := Fr_puti hF6 ei7 (by decide)
  refine lv_aload_n hx hb dX6_become_56 rfl (lv_at hl 0 rfl) ?_
  refine lv_aload_n hx hb dX6_become_57 rfl (lv_at hl 1 rfl) ?_
  refine r_geti X hT 15 17 fk_6_64 rfl rfl (by decide) dX6_become_58 ?_
  refine r_puti X hT hS 49 17 pk_6_64 rfl rfl rfl rfl (by decide) dX6_become_61 (fun H locs i8 ei8 hT hS => ?_)
  have hR8 := Rg_put hR7 ei8 (-2147483648) 2147483647 rfl (rg_top (i7 15 17)) (by decide)
  have hF8 := Fr_puti hF7 ei8 (by decide)
  refine lv_aload_n hx hb dX6_become_64 rfl (lv_at hl 1 rfl) ?_
  refine r_getr X hT 15 0 16 fk_6_9 rfl rfl (by decide) dX6_become_65 ?_
  refine lv_iconst (v := 0) hx hb dX6_become_68 (by decide) ?_
  refine lv_aload_n hx hb dX6_become_69 rfl (lv_at hl 0 rfl) ?_
  refine r_getr X hT 49 0 50 fk_6_9 rfl rfl (by decide) dX6_become_70 ?_
  refine lv_iconst (v := 0) hx hb dX6_become_73 (by decide) ?_
  refine lv_bipush (v := 6) hx hb dX6_become_74 (by decide) ?_
  refine r_copyi X hT hS hl.1 16 50 rfl rfl (by decide) (by decide) gm_654 gm_656 gm_655 gm_123 (rg_k (by decide) : rg 0 0 0) (rg_k (by decide) : rg 0 0 0) (rg_k (by decide) : rg 6 6 6) (by decide) (Nat.le_of_ble_eq_true rfl) (by decide +kernel) dX6_become_76 (fun H locs i9 ei9 hT hS => ?_)
  have hR9 := Rg_cpy hR8 ei9 0 60 0 60 (fun _ => rfl) (fun _ => rfl) (by decide) (by decide)
  have hF9 := Fr_cpy hF8 ei9 (by decide)
  refine lv_aload_n hx hb dX6_become_79 rfl (lv_at hl 1 rfl) ?_
  refine r_getr X hT 15 1 17 fk_6_15 rfl rfl (by decide) dX6_become_80 ?_
  refine lv_iconst (v := 0) hx hb dX6_become_83 (by decide) ?_
  refine lv_aload_n hx hb dX6_become_84 rfl (lv_at hl 0 rfl) ?_
  refine r_getr X hT 49 1 51 fk_6_15 rfl rfl (by decide) dX6_become_85 ?_
  refine lv_iconst (v := 0) hx hb dX6_become_88 (by decide) ?_
  refine lv_bipush (v := 6) hx hb dX6_become_89 (by decide) ?_
  refine r_copyi X hT hS hl.1 17 51 rfl rfl (by decide) (by decide) gm_654 gm_656 gm_655 gm_123 (rg_k (by decide) : rg 0 0 0) (rg_k (by decide) : rg 0 0 0) (rg_k (by decide) : rg 6 6 6) (by decide) (Nat.le_of_ble_eq_true rfl) (by decide +kernel) dX6_become_91 (fun H locs i10 ei10 hT hS => ?_)
  have hR10 := Rg_cpy hR9 ei10 0 9 0 9 (fun _ => rfl) (fun _ => rfl) (by decide) (by decide)
  have hF10 := Fr_cpy hF9 ei10 (by decide)
  refine lv_aload_n hx hb dX6_become_94 rfl (lv_at hl 1 rfl) ?_
  refine r_getr X hT 15 2 18 fk_6_18 rfl rfl (by decide) dX6_become_95 ?_
  refine lv_iconst (v := 0) hx hb dX6_become_98 (by decide) ?_
  refine lv_aload_n hx hb dX6_become_99 rfl (lv_at hl 0 rfl) ?_
  refine r_getr X hT 49 2 52 fk_6_18 rfl rfl (by decide) dX6_become_100 ?_
  refine lv_iconst (v := 0) hx hb dX6_become_103 (by decide) ?_
  refine lv_bipush (v := 6) hx hb dX6_become_104 (by decide) ?_
  refine r_copyi X hT hS hl.1 18 52 rfl rfl (by decide) (by decide) gm_654 gm_656 gm_655 gm_123 (rg_k (by decide) : rg 0 0 0) (rg_k (by decide) : rg 0 0 0) (rg_k (by decide) : rg 6 6 6) (by decide) (Nat.le_of_ble_eq_true rfl) (by decide +kernel) dX6_become_106 (fun H locs i11 ei11 hT hS => ?_)
  have hR11 := Rg_cpy hR10 ei11 0 60 0 60 (fun _ => rfl) (fun _ => rfl) (by decide) (by decide)
  have hF11 := Fr_cpy hF10 ei11 (by decide)
  refine lv_aload_n hx hb dX6_become_109 rfl (lv_at hl 1 rfl) ?_
  refine r_getr X hT 15 3 19 fk_6_21 rfl rfl (by decide) dX6_become_110 ?_
  refine lv_iconst (v := 0) hx hb dX6_become_113 (by decide) ?_
  refine lv_aload_n hx hb dX6_become_114 rfl (lv_at hl 0 rfl) ?_
  refine r_getr X hT 49 3 53 fk_6_21 rfl rfl (by decide) dX6_become_115 ?_
  refine lv_iconst (v := 0) hx hb dX6_become_118 (by decide) ?_
  refine lv_bipush (v := 10) hx hb dX6_become_119 (by decide) ?_
  refine r_copyi X hT hS hl.1 19 53 rfl rfl (by decide) (by decide) gm_654 gm_656 gm_655 gm_123 (rg_k (by decide) : rg 0 0 0) (rg_k (by decide) : rg 0 0 0) (rg_k (by decide) : rg 10 10 10) (by decide) (Nat.le_of_ble_eq_true rfl) (by decide +kernel) dX6_become_121 (fun H locs i12 ei12 hT hS => ?_)
  have hR12 := Rg_cpy hR11 ei12 0 5 0 5 (fun _ => rfl) (fun _ => rfl) (by decide) (by decide)
  have hF12 := Fr_cpy hF11 ei12 (by decide)
  refine lv_aload_n hx hb dX6_become_124 rfl (lv_at hl 1 rfl) ?_
  refine r_getr X hT 15 4 20 fk_6_24 rfl rfl (by decide) dX6_become_125 ?_
  refine lv_iconst (v := 0) hx hb dX6_become_128 (by decide) ?_
  refine lv_aload_n hx hb dX6_become_129 rfl (lv_at hl 0 rfl) ?_
  refine r_getr X hT 49 4 54 fk_6_24 rfl rfl (by decide) dX6_become_130 ?_
  refine lv_iconst (v := 0) hx hb dX6_become_133 (by decide) ?_
  refine lv_bipush (v := 10) hx hb dX6_become_134 (by decide) ?_
  refine r_copyi X hT hS hl.1 20 54 rfl rfl (by decide) (by decide) gm_654 gm_656 gm_655 gm_123 (rg_k (by decide) : rg 0 0 0) (rg_k (by decide) : rg 0 0 0) (rg_k (by decide) : rg 10 10 10) (by decide) (Nat.le_of_ble_eq_true rfl) (by decide +kernel) dX6_become_136 (fun H locs i13 ei13 hT hS => ?_)
  have hR13 := Rg_cpy hR12 ei13 0 5 0 5 (fun _ => rfl) (fun _ => rfl) (by decide) (by decide)
  have hF13 := Fr_cpy hF12 ei13 (by decide)
  refine lv_aload_n hx hb dX6_become_139 rfl (lv_at hl 1 rfl) ?_
  refine r_getr X hT 15 5 21 fk_6_27 rfl rfl (by decide) dX6_become_140 ?_
  refine lv_iconst (v := 0) hx hb dX6_become_143 (by decide) ?_
  refine lv_aload_n hx hb dX6_become_144 rfl (lv_at hl 0 rfl) ?_
  refine r_getr X hT 49 5 55 fk_6_27 rfl rfl (by decide) dX6_become_145 ?_
  refine lv_iconst (v := 0) hx hb dX6_become_148 (by decide) ?_
  refine lv_bipush (v := 8) hx hb dX6_become_149 (by decide) ?_
  refine r_copyi X hT hS hl.1 21 55 rfl rfl (by decide) (by decide) gm_654 gm_656 gm_655 gm_123 (rg_k (by decide) : rg 0 0 0) (rg_k (by decide) : rg 0 0 0) (rg_k (by decide) : rg 8 8 8) (by decide) (Nat.le_of_ble_eq_true rfl) (by decide +kernel) dX6_become_151 (fun H locs i14 ei14 hT hS => ?_)
  have hR14 := Rg_cpy hR13 ei14 0 5 0 5 (fun _ => rfl) (fun _ => rfl) (by decide) (by decide)
  have hF14 := Fr_cpy hF13 ei14 (by decide)
  refine lv_aload_n hx hb dX6_become_154 rfl (lv_at hl 1 rfl) ?_
  refine r_getr X hT 15 6 22 fk_6_30 rfl rfl (by decide) dX6_become_155 ?_
  refine lv_iconst (v := 0) hx hb dX6_become_158 (by decide) ?_
  refine lv_aload_n hx hb dX6_become_159 rfl (lv_at hl 0 rfl) ?_
  refine r_getr X hT 49 6 56 fk_6_30 rfl rfl (by decide) dX6_become_160 ?_
  refine lv_iconst (v := 0) hx hb dX6_become_163 (by decide) ?_
  refine lv_bipush (v := 8) hx hb dX6_become_164 (by decide) ?_
  refine r_copyi X hT hS hl.1 22 56 rfl rfl (by decide) (by decide) gm_654 gm_656 gm_655 gm_123 (rg_k (by decide) : rg 0 0 0) (rg_k (by decide) : rg 0 0 0) (rg_k (by decide) : rg 8 8 8) (by decide) (Nat.le_of_ble_eq_true rfl) (by decide +kernel) dX6_become_166 (fun H locs i15 ei15 hT hS => ?_)
  have hR15 := Rg_cpy hR14 ei15 0 11 0 11 (fun _ => rfl) (fun _ => rfl) (by decide) (by decide)
  have hF15 := Fr_cpy hF14 ei15 (by decide)
  refine lv_aload_n hx hb dX6_become_169 rfl (lv_at hl 1 rfl) ?_
  refine r_getr X hT 15 7 23 fk_6_33 rfl rfl (by decide) dX6_become_170 ?_
  refine lv_iconst (v := 0) hx hb dX6_become_173 (by decide) ?_
  refine lv_aload_n hx hb dX6_become_174 rfl (lv_at hl 0 rfl) ?_
  refine r_getr X hT 49 7 57 fk_6_33 rfl rfl (by decide) dX6_become_175 ?_
  refine lv_iconst (v := 0) hx hb dX6_become_178 (by decide) ?_
  refine lv_bipush (v := 20) hx hb dX6_become_179 (by decide) ?_
  refine r_copyi X hT hS hl.1 23 57 rfl rfl (by decide) (by decide) gm_654 gm_656 gm_655 gm_123 (rg_k (by decide) : rg 0 0 0) (rg_k (by decide) : rg 0 0 0) (rg_k (by decide) : rg 20 20 20) (by decide) (Nat.le_of_ble_eq_true rfl) (by decide +kernel) dX6_become_181 (fun H locs i16 ei16 hT hS => ?_)
  have hR16 := Rg_cpy hR15 ei16 0 1 0 1 (fun _ => rfl) (fun _ => rfl) (by decide) (by decide)
  have hF16 := Fr_cpy hF15 ei16 (by decide)
  refine lv_aload_n hx hb dX6_become_184 rfl (lv_at hl 1 rfl) ?_
  refine r_getr X hT 15 8 24 fk_6_36 rfl rfl (by decide) dX6_become_185 ?_
  refine lv_iconst (v := 0) hx hb dX6_become_188 (by decide) ?_
  refine lv_aload_n hx hb dX6_become_189 rfl (lv_at hl 0 rfl) ?_
  refine r_getr X hT 49 8 58 fk_6_36 rfl rfl (by decide) dX6_become_190 ?_
  refine lv_iconst (v := 0) hx hb dX6_become_193 (by decide) ?_
  refine lv_bipush (v := 20) hx hb dX6_become_194 (by decide) ?_
  refine r_copyi X hT hS hl.1 24 58 rfl rfl (by decide) (by decide) gm_654 gm_656 gm_655 gm_123 (rg_k (by decide) : rg 0 0 0) (rg_k (by decide) : rg 0 0 0) (rg_k (by decide) : rg 20 20 20) (by decide) (Nat.le_of_ble_eq_true rfl) (by decide +kernel) dX6_become_196 (fun H locs i17 ei17 hT hS => ?_)
  have hR17 := Rg_cpy hR16 ei17 0 5 0 5 (fun _ => rfl) (fun _ => rfl) (by decide) (by decide)
  have hF17 := Fr_cpy hF16 ei17 (by decide)
  refine lv_aload_n hx hb dX6_become_199 rfl (lv_at hl 1 rfl) ?_
  refine r_getr X hT 15 9 25 fk_6_39 rfl rfl (by decide) dX6_become_200 ?_
  refine lv_iconst (v := 0) hx hb dX6_become_203 (by decide) ?_
  refine lv_aload_n hx hb dX6_become_204 rfl (lv_at hl 0 rfl) ?_
  refine r_getr X hT 49 9 59 fk_6_39 rfl rfl (by decide) dX6_become_205 ?_
  refine lv_iconst (v := 0) hx hb dX6_become_208 (by decide) ?_
  refine lv_bipush (v := 20) hx hb dX6_become_209 (by decide) ?_
  refine r_copyi X hT hS hl.1 25 59 rfl rfl (by decide) (by decide) gm_654 gm_656 gm_655 gm_123 (rg_k (by decide) : rg 0 0 0) (rg_k (by decide) : rg 0 0 0) (rg_k (by decide) : rg 20 20 20) (by decide) (Nat.le_of_ble_eq_true rfl) (by decide +kernel) dX6_become_211 (fun H locs i18 ei18 hT hS => ?_)
  have hR18 := Rg_cpy hR17 ei18 0 11 0 11 (fun _ => rfl) (fun _ => rfl) (by decide) (by decide)
  have hF18 := Fr_cpy hF17 ei18 (by decide)
  exact hret _ _ _ _ _ _ dX6_become_214 hT hS ⟨hR18, hF18⟩
set_option maxRecDepth 100000 in
set_option maxHeartbeats 4000000 in
theorem m_X8_image {l : Launch} {D : va_G} {h : Nat → Nat} {cz : Nat → ClassId} {z : EZ} {i : Nat → Nat → Int32} {g : Nat → Nat → Int64} (hR : Rg rA i) (a_a : Int32) : DtI l yX8_image cX8_image 2 (some .int) ({ frames := 2, cells := 0, slots := 0, locals := 61 } : Room) D h cz z i g [.ref (h 0), .int a_a] (fun r u => (Rg rA u.1 ∧ Fr [27, 28, 29, 30, 31, 32, 33, 34, 35, 36, 37, 38, 39, 40, 41, 42, 43, 44, 45, 46, 47, 48, 49, 50, 51, 52, 53, 54, 55, 56, 57, 58, 59, 60] [] i g u ∧ r = 0 ∧ (0 ≤ a_a.toInt ∧ a_a.toInt ≤ 2)) ∨ (Rg rA u.1 ∧ Fr [27, 28, 29, 30, 31, 32, 33, 34, 35, 36, 37, 38, 39, 40, 41, 42, 43, 44, 45, 46, 47, 48, 49, 50, 51, 52, 53, 54, 55, 56, 57, 58, 59, 60] [] i g u ∧ r = (-2) ∧ (a_a.toInt < 0 ∨ 2 < a_a.toInt))) := by
  refine e_I pn_X8_image (Nat.le_of_ble_eq_true rfl) ?_
  intro p e s m args below meth c ls Q X Y hret hT hl hS
  have hx := X.1
  have hb := X.2.1
  have hl : lv_has ls 2 [(0, .ref (h 0)), (1, .int a_a)] := hl
  have hF : Fr [27, 28, 29, 30, 31, 32, 33, 34, 35, 36, 37, 38, 39, 40, 41, 42, 43, 44, 45, 46, 47, 48, 49, 50, 51, 52, 53, 54, 55, 56, 57, 58, 59, 60] [] i g (i, g) := Fr_rf _ _ _ _
  refine lv_iload_n hx hb dX8_image_0 rfl (lv_at hl 1 rfl) ?_
  refine lv_if_lt (tgt := 9) hx hb dX8_image_1 (by decide) (fun c1 => ?_) (fun c1 => ?_)
  ·
    have q1 : a_a.toInt < 0 := i_lt c1
    have h2 : rg (-2147483648) (-1) a_a := t_ltx (-2147483648) (-1) (rg_top a_a) (rg_k (by decide) : rg 0 0 0) (i_lt c1) (by decide)
    refine lv_bipush (v := (-2)) hx hb dX8_image_9 (by decide) ?_
    exact hret (-2) _ _ _ _ _ _ dX8_image_11 hT hS (Or.inr ⟨hR, hF, rfl, (by have := h2.1; have := h2.2; omega)⟩)
  ·
    have q1 : 0 ≤ a_a.toInt := i_nlt c1
    have h3 : rg 0 2147483647 a_a := t_ley 0 2147483647 (rg_k (by decide) : rg 0 0 0) (rg_top a_a) (i_nlt c1) (by decide)
    refine lv_iload_n hx hb dX8_image_4 rfl (lv_at hl 1 rfl) ?_
    refine lv_iconst (v := 3) hx hb dX8_image_5 (by decide) ?_
    refine lv_icmp_lt (tgt := 12) hx hb dX8_image_6 (by decide) (fun c4 => ?_) (fun c4 => ?_)
    ·
      have q4 : a_a.toInt < 3 := i_lt c4
      have h5 : rg 0 2 a_a := t_ltx 0 2 h3 (rg_k (by decide) : rg 3 3 3) (i_lt c4) (by decide)
      refine lv_aload_n hx hb dX8_image_12 rfl (lv_at hl 0 rfl) ?_
      refine r_getr X hT 0 4 26 fk_8_35 rfl rfl (by decide) dX8_image_13 ?_
      refine lv_iload_n hx hb dX8_image_16 rfl (lv_at hl 1 rfl) ?_
      rcases (show a_a.toInt = 0 ∨ a_a.toInt = 1 ∨ a_a.toInt = 2 by have := h5.1; have := h5.2; omega) with f6 | f6 | f6
      ·
        have h7 : rg 0 0 a_a := ⟨by omega, by omega⟩
        refine r_aald X hT 26 27 rfl (by decide) (v_in h5 (by decide)) (by rw [cl_c h7 0 rfl (by decide)]; rfl) dX8_image_17 ?_
        refine lv_aload_n hx hb dX8_image_18 rfl (lv_at hl 0 rfl) ?_
        refine r_getr X hT 0 3 15 fk_8_32 rfl rfl (by decide) dX8_image_19 ?_
        refine e_Vv (As := [.ref (h 15)]) (rest := []) X Y hT hS (m_X6_become_27_15 hR) mk_X6_become gm_650 rfl rfl (by decide) hd_X6_become ⟨rfl, rfl⟩ ⟨Nat.le_of_ble_eq_true rfl, Nat.le_of_ble_eq_true rfl⟩ hl.1 rfl (Nat.le_of_ble_eq_true rfl) dX8_image_22 ⟨Nat.zero_le _, Nat.zero_le _⟩ (fun i8 g8 H locs hq hT hS => ?_)
        obtain ⟨hR8, hf8⟩ := hq
        have hF8 := Fr_tr hF hf8 (by decide)
        refine lv_aload_n hx hb dX8_image_25 rfl (lv_at hl 0 rfl) ?_
        refine r_getr X hT 0 5 60 fk_8_39 rfl rfl (by decide) dX8_image_26 ?_
        refine lv_iload_n hx hb dX8_image_29 rfl (lv_at hl 1 rfl) ?_
        refine lv_iconst (v := 1) hx hb dX8_image_30 (by decide) ?_
        refine r_zastc X hT hS 60 0 rfl (by decide) (v_in h7 (by decide)) (cl_c h7 0 rfl (by decide)) dX8_image_31 (fun H locs i9 ei9 hT hS => ?_)
        have hR9 := Rg_put hR8 ei9 0 1 rfl (rg_k (by decide) : rg 1 1 1) (by decide)
        have hF9 := Fr_puti hF8 ei9 (by decide)
        refine lv_iconst (v := 0) hx hb dX8_image_32 (by decide) ?_
        exact hret 0 _ _ _ _ _ _ dX8_image_33 hT hS (Or.inl ⟨hR9, hF9, rfl, (by have := h7.1; have := h7.2; omega)⟩)
      ·
        have h10 : rg 1 1 a_a := ⟨by omega, by omega⟩
        refine r_aald X hT 26 38 rfl (by decide) (v_in h5 (by decide)) (by rw [cl_c h10 1 rfl (by decide)]; rfl) dX8_image_17 ?_
        refine lv_aload_n hx hb dX8_image_18 rfl (lv_at hl 0 rfl) ?_
        refine r_getr X hT 0 3 15 fk_8_32 rfl rfl (by decide) dX8_image_19 ?_
        refine e_Vv (As := [.ref (h 15)]) (rest := []) X Y hT hS (m_X6_become_38_15 hR) mk_X6_become gm_650 rfl rfl (by decide) hd_X6_become ⟨rfl, rfl⟩ ⟨Nat.le_of_ble_eq_true rfl, Nat.le_of_ble_eq_true rfl⟩ hl.1 rfl (Nat.le_of_ble_eq_true rfl) dX8_image_22 ⟨Nat.zero_le _, Nat.zero_le _⟩ (fun i11 g11 H locs hq hT hS => ?_)
        obtain ⟨hR11, hf11⟩ := hq
        have hF11 := Fr_tr hF hf11 (by decide)
        refine lv_aload_n hx hb dX8_image_25 rfl (lv_at hl 0 rfl) ?_
        refine r_getr X hT 0 5 60 fk_8_39 rfl rfl (by decide) dX8_image_26 ?_
        refine lv_iload_n hx hb dX8_image_29 rfl (lv_at hl 1 rfl) ?_
        refine lv_iconst (v := 1) hx hb dX8_image_30 (by decide) ?_
        refine r_zastc X hT hS 60 1 rfl (by decide) (v_in h10 (by decide)) (cl_c h10 1 rfl (by decide)) dX8_image_31 (fun H locs i12 ei12 hT hS => ?_)
        have hR12 := Rg_put hR11 ei12 0 1 rfl (rg_k (by decide) : rg 1 1 1) (by decide)
        have hF12 := Fr_puti hF11 ei12 (by decide)
        refine lv_iconst (v := 0) hx hb dX8_image_32 (by decide) ?_
        exact hret 0 _ _ _ _ _ _ dX8_image_33 hT hS (Or.inl ⟨hR12, hF12, rfl, (by have := h10.1; have := h10.2; omega)⟩)
      ·
        have h13 : rg 2 2 a_a := ⟨by omega, by omega⟩
        refine r_aald X hT 26 49 rfl (by decide) (v_in h5 (by decide)) (by rw [cl_c h13 2 rfl (by decide)]; rfl) dX8_image_17 ?_
        refine lv_aload_n hx hb dX8_image_18 rfl (lv_at hl 0 rfl) ?_
        refine r_getr X hT 0 3 15 fk_8_32 rfl rfl (by decide) dX8_image_19 ?_
        refine e_Vv (As := [.ref (h 15)]) (rest := []) X Y hT hS (m_X6_become_49_15 hR) mk_X6_become gm_650 rfl rfl (by decide) hd_X6_become ⟨rfl, rfl⟩ ⟨Nat.le_of_ble_eq_true rfl, Nat.le_of_ble_eq_true rfl⟩ hl.1 rfl (Nat.le_of_ble_eq_true rfl) dX8_image_22 ⟨Nat.zero_le _, Nat.zero_le _⟩ (fun i14 g14 H locs hq hT hS => ?_)
        obtain ⟨hR14, hf14⟩ := hq
        have hF14 := Fr_tr hF hf14 (by decide)
        refine lv_aload_n hx hb dX8_image_25 rfl (lv_at hl 0 rfl) ?_
        refine r_getr X hT 0 5 60 fk_8_39 rfl rfl (by decide) dX8_image_26 ?_
        refine lv_iload_n hx hb dX8_image_29 rfl (lv_at hl 1 rfl) ?_
        refine lv_iconst (v := 1) hx hb dX8_image_30 (by decide) ?_
        refine r_zastc X hT hS 60 2 rfl (by decide) (v_in h13 (by decide)) (cl_c h13 2 rfl (by decide)) dX8_image_31 (fun H locs i15 ei15 hT hS => ?_)
        have hR15 := Rg_put hR14 ei15 0 1 rfl (rg_k (by decide) : rg 1 1 1) (by decide)
        have hF15 := Fr_puti hF14 ei15 (by decide)
        refine lv_iconst (v := 0) hx hb dX8_image_32 (by decide) ?_
        exact hret 0 _ _ _ _ _ _ dX8_image_33 hT hS (Or.inl ⟨hR15, hF15, rfl, (by have := h13.1; have := h13.2; omega)⟩)
    ·
      have q4 : 3 ≤ a_a.toInt := i_nlt c4
      have h16 : rg 3 2147483647 a_a := t_ley 3 2147483647 (rg_k (by decide) : rg 3 3 3) h3 (i_nlt c4) (by decide)
      refine lv_bipush (v := (-2)) hx hb dX8_image_9 (by decide) ?_
      exact hret (-2) _ _ _ _ _ _ dX8_image_11 hT hS (Or.inr ⟨hR, hF, rfl, (by have := h16.1; have := h16.2; omega)⟩)
