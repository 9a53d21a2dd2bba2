set_option maxRecDepth 100000 in
set_option maxHeartbeats 4000000 in
theorem m_X8_leaves {l : Launch} {D : va_G} {h : Nat → Nat} {cz : Nat → ClassId} {z : EZ} {i : Nat → Nat → Int32} {g : Nat → Nat → Int64} (hR : Rg rA i) (a_a : Int32) (a_b : Int32) : DtI l yX8_leaves cX8_leaves 4 (some .int) ({ frames := 7, cells := 0, slots := 0, locals := 188 } : Room) D h cz z i g [.ref (h 0), .int a_a, .int a_b] (fun r u => Rg rA u.1 ∧ Fr [0, 65, 66, 67, 68, 69, 70, 71, 93, 94, 95] [] i g u) := by
  refine e_I pn_X8_leaves (Nat.le_of_ble_eq_true rfl) ?_
  intro p e s m args below meth c ls Q X Y hret hT hl hS
  have hx := X.1
  have hb := X.2.1
  have hl : lv_has ls 4 [(0, .ref (h 0)), (1, .int a_a), (2, .int a_b)] := hl
  have hF : Fr [0, 65, 66, 67, 68, 69, 70, 71, 93, 94, 95] [] i g (i, g) := Fr_rf _ _ _ _
  refine lv_aload_n hx hb dX8_leaves_0 rfl (lv_at hl 0 rfl) ?_
  refine lv_iload_n hx hb dX8_leaves_1 rfl (lv_at hl 1 rfl) ?_
  refine lv_iload_n hx hb dX8_leaves_2 rfl (lv_at hl 2 rfl) ?_
  refine e_Vi (As := [.int a_a, .int a_b]) (rest := []) X Y hT hS (m_X8_refuseSeenOf hR a_a a_b) mk_X8_refuseSeenOf gm_1048 rfl rfl (by decide) hd_X8_refuseSeenOf ⟨rfl, rfl⟩ ⟨Nat.le_of_ble_eq_true rfl, Nat.le_of_ble_eq_true rfl⟩ hl.1 rfl (Nat.le_of_ble_eq_true rfl) dX8_leaves_3 ⟨Nat.zero_le _, Nat.zero_le _⟩ (fun r1 i1 g1 H locs hq hT hS => ?_)
  rcases hq with hq | hq
  ·
    obtain ⟨eh1, rfl, hp1_0, hf1_0, hf1_1⟩ := hq
    rw [(Prod.mk.inj eh1).1, (Prod.mk.inj eh1).2] at hT
    replace hp1_0 : seenC i g a_a := by rw [eh1] at hp1_0; exact hp1_0
    have h2 : rg 0 3 a_a := ⟨by have := (rg_top a_a).1; have := hf1_0.1; omega, by have := (rg_top a_a).2; have := hf1_0.2; omega⟩
    have h3 : rg 0 5 a_b := ⟨by have := (rg_top a_b).1; have := hf1_1.1; omega, by have := (rg_top a_b).2; have := hf1_1.2; omega⟩
    refine lv_istore_n (lv' := [(3, .int 0), (0, .ref (h 0)), (1, .int a_a), (2, .int a_b)]) hx hb dX8_leaves_6 rfl hl (by decide) rfl (fun ls hl => ?_)
    refine lv_iload_n hx hb dX8_leaves_7 rfl (lv_at hl 0 rfl) ?_
    refine lv_if_eq (tgt := 13) hx hb dX8_leaves_8 (by decide) (fun c4 => ?_) (fun c4 => (x_ne (rg_k (by decide) : rg 0 0 0) (rg_k (by decide) : rg 0 0 0) (i_ne c4) (by decide)).elim)
    refine lv_aload_n hx hb dX8_leaves_13 rfl (lv_at hl 1 rfl) ?_
    refine r_getr X hT 0 11 93 fk_8_83 rfl rfl (by decide) dX8_leaves_14 ?_
    refine lv_iload_n hx hb dX8_leaves_17 rfl (lv_at hl 2 rfl) ?_
    refine lv_iload_n hx hb dX8_leaves_18 rfl (lv_at hl 3 rfl) ?_
    refine lv_aload_n hx hb dX8_leaves_19 rfl (lv_at hl 1 rfl) ?_
    refine e_Vr (As := []) (rest := [.int a_b, .int a_a, .ref (h 93)]) X Y hT hS (m_X8_current hR) mk_X8_current gm_736 rfl rfl (by decide) hd_X8_current ⟨rfl, rfl⟩ ⟨Nat.le_of_ble_eq_true rfl, Nat.le_of_ble_eq_true rfl⟩ hl.1 rfl (Nat.le_of_ble_eq_true rfl) dX8_leaves_20 ⟨Nat.zero_le _, Nat.zero_le _⟩ (fun i5 g5 H locs hq hT hS => ?_)
    obtain ⟨hR5, hf5⟩ := hq
    have hF5 := Fr_tr hF hf5 (by decide)
    have hN5 : seenC i5 g5 a_a := seenC_f hp1_0 hf5 (by decide) (by decide)
    refine e_Vv (As := [.int a_a, .int a_b, .ref (h 65)]) (rest := []) X Y hT hS (m_X1_choose_65 hR5 a_a a_b h2 h3 hN5) mk_X1_choose gm_1108 rfl rfl (by decide) hd_X1_choose ⟨rfl, rfl⟩ ⟨Nat.le_of_ble_eq_true rfl, Nat.le_of_ble_eq_true rfl⟩ hl.1 rfl (Nat.le_of_ble_eq_true rfl) dX8_leaves_23 ⟨Nat.zero_le _, Nat.zero_le _⟩ (fun i6 g6 H locs hq hT hS => ?_)
    obtain ⟨hR6, hf6⟩ := hq
    have hF6 := Fr_tr hF5 hf6 (by decide)
    have hN6 : seenC i6 g6 a_a := seenC_f hN5 hf6 (by decide) (by decide)
    refine lv_aload_n hx hb dX8_leaves_26 rfl (lv_at hl 1 rfl) ?_
    refine r_getr X hT 0 11 93 fk_8_83 rfl rfl (by decide) dX8_leaves_27 ?_
    refine r_geti X hT 93 5 fk_8_309 rfl rfl (by decide) dX8_leaves_30 ?_
    exact hret (i6 93 5) _ _ _ _ _ _ dX8_leaves_33 hT hS ⟨hR6, hF6⟩
  ·
    obtain ⟨eh1, hr1⟩ := hq
    rw [(Prod.mk.inj eh1).1, (Prod.mk.inj eh1).2] at hT
    refine lv_istore_n (lv' := [(3, .int r1), (0, .ref (h 0)), (1, .int a_a), (2, .int a_b)]) hx hb dX8_leaves_6 rfl hl (by decide) rfl (fun ls hl => ?_)
    refine lv_iload_n hx hb dX8_leaves_7 rfl (lv_at hl 0 rfl) ?_
    refine lv_if_eq (tgt := 13) hx hb dX8_leaves_8 (by decide) (fun c7 => (x_eq hr1 (rg_k (by decide) : rg 0 0 0) (i_eq c7) (by decide)).elim) (fun c7 => ?_)
    have q7 : ¬ r1.toInt = 0 := i_ne c7
    refine lv_iload_n hx hb dX8_leaves_11 rfl (lv_at hl 0 rfl) ?_
    exact hret r1 _ _ _ _ _ _ dX8_leaves_12 hT hS ⟨hR, hF⟩
set_option maxRecDepth 100000 in
set_option maxHeartbeats 4000000 in
theorem m_X0_unfoldWith_72 {l : Launch} {D : va_G} {h : Nat → Nat} {cz : Nat → ClassId} {z : EZ} {i : Nat → Nat → Int32} {g : Nat → Nat → Int64} (hR : Rg rA i) (a_a : Int32) : DtV l yX0_unfoldWith cX0_unfoldWith 3 none ({ frames := 3, cells := 0, slots := 0, locals := 68 } : Room) D h cz z i g [.ref (h 72), .int a_a] (fun u => Rg rA u.1 ∧ Fr [72, 75, 76, 77] [] i g u) := by
  refine e_V pn_X0_unfoldWith (Nat.le_of_ble_eq_true rfl) ?_
  intro p e s m args below meth c ls Q X Y hret hT hl hS
  have hx := X.1
  have hb := X.2.1
  have hl : lv_has ls 3 [(0, .ref (h 72)), (1, .int a_a)] := hl
  have hF : Fr [72, 75, 76, 77] [] i g (i, g) := Fr_rf _ _ _ _
  refine lv_aload_n hx hb dX0_unfoldWith_0 rfl (lv_at hl 0 rfl) ?_
  refine r_getr X hT 72 3 75 fk_0_18 rfl rfl (by decide) dX0_unfoldWith_1 ?_
  refine lv_iconst (v := 0) hx hb dX0_unfoldWith_4 (by decide) ?_
  refine e_Sv (As := [.ref (h 75), .int 0]) (rest := []) X Y hT hS (m_J7_fill_53178_75_0 hR (0) (rg_k (by decide) : rg 0 0 0)) sk_J7_fill_53178 gm_745 hd_J7_fill_53178 ⟨rfl, rfl⟩ ⟨Nat.le_of_ble_eq_true rfl, Nat.le_of_ble_eq_true rfl⟩ hl.1 rfl (Nat.le_of_ble_eq_true rfl) dX0_unfoldWith_5 ⟨Nat.zero_le _, Nat.zero_le _⟩ (fun i1 g1 H locs hq hT hS => ?_)
  obtain ⟨hR1, hf1, hf1_0⟩ := hq
  have hF1 := Fr_tr hF hf1 (by decide)
  refine lv_iconst (v := 0) hx hb dX0_unfoldWith_8 (by decide) ?_
  refine lv_istore_n (lv' := [(2, .int 0), (0, .ref (h 72)), (1, .int a_a)]) hx hb dX0_unfoldWith_9 rfl hl (by decide) rfl (fun ls hl => ?_)
  have L10_2 : ∀ (n4_ : Nat) (x10_2 : Int32) (i3 : Nat → Nat → Int32) (g3 : Nat → Nat → Int64) (H : Heap) (locs : List Loc) (ls : Array Slot), rg 0 8 x10_2 → Rg rA i3 → Fr [72, 75, 76, 77] [] i g (i3, g3) → TH D h cz i3 g3 H → va_S (hA h) s.heap H locs → lv_has ls 3 [(0, .ref (h 72)), (1, .int a_a), (2, .int x10_2)] → (8 - x10_2.toInt).toNat < n4_ → W p l e ({ frames := 3, cells := 0, slots := 0, locals := 68 } : Room) s m args below meth c H locs 0 0 Q (F0 m 10 ls []) := by
    intro n4_
    induction n4_ with
    | zero => intro x10_2 i3 g3 H locs ls hhx10_2 hR3 hF3 hT hS hl hm4_; exact absurd hm4_ (Nat.not_lt_zero _)
    | succ n4_ ih4_ =>
      intro x10_2 i3 g3 H locs ls hhx10_2 hR3 hF3 hT hS hl hm4_
      refine lv_iload_n hx hb dX0_unfoldWith_10 rfl (lv_at hl 2 rfl) ?_
      refine lv_aload_n hx hb dX0_unfoldWith_11 rfl (lv_at hl 0 rfl) ?_
      refine r_getr X hT 72 0 15 fk_0_30 rfl rfl (by decide) dX0_unfoldWith_12 ?_
      refine r_geti X hT 15 15 fk_0_69 rfl rfl (by decide) dX0_unfoldWith_15 ?_
      refine lv_icmp_ge (tgt := 63) hx hb dX0_unfoldWith_18 (by decide) (fun c5 => ?_) (fun c5 => ?_)
      ·
        have q5 : (i3 15 15).toInt ≤ x10_2.toInt := i_le c5
        refine lv_iconst (v := 0) hx hb dX0_unfoldWith_63 (by decide) ?_
        refine lv_istore_n (lv' := [(2, .int 0), (0, .ref (h 72)), (1, .int a_a)]) hx hb dX0_unfoldWith_64 rfl hl (by decide) rfl (fun ls hl => ?_)
        have L65_6 : ∀ (n8_ : Nat) (x65_1_2 : Int32) (i7 : Nat → Nat → Int32) (g7 : Nat → Nat → Int64) (H : Heap) (locs : List Loc) (ls : Array Slot), rg 0 20 x65_1_2 → Rg rA i7 → Fr [72, 75, 76, 77] [] i g (i7, g7) → TH D h cz i7 g7 H → va_S (hA h) s.heap H locs → lv_has ls 3 [(0, .ref (h 72)), (2, .int x65_1_2)] → (20 - x65_1_2.toInt).toNat < n8_ → W p l e ({ frames := 3, cells := 0, slots := 0, locals := 68 } : Room) s m args below meth c H locs 0 0 Q (F0 m 65 ls []) := by
          intro n8_
          induction n8_ with
          | zero => intro x65_1_2 i7 g7 H locs ls hhx65_1_2 hR7 hF7 hT hS hl hm8_; exact absurd hm8_ (Nat.not_lt_zero _)
          | succ n8_ ih8_ =>
            intro x65_1_2 i7 g7 H locs ls hhx65_1_2 hR7 hF7 hT hS hl hm8_
            refine lv_iload_n hx hb dX0_unfoldWith_65 rfl (lv_at hl 1 rfl) ?_
            refine lv_aload_n hx hb dX0_unfoldWith_66 rfl (lv_at hl 0 rfl) ?_
            refine r_getr X hT 72 0 15 fk_0_30 rfl rfl (by decide) dX0_unfoldWith_67 ?_
            refine r_geti X hT 15 16 fk_0_57 rfl rfl (by decide) dX0_unfoldWith_70 ?_
            refine lv_icmp_ge (tgt := 122) hx hb dX0_unfoldWith_73 (by decide) (fun c9 => ?_) (fun c9 => ?_)
            ·
              have q9 : (i7 15 16).toInt ≤ x65_1_2.toInt := i_le c9
              refine lv_aload_n hx hb dX0_unfoldWith_122 rfl (lv_at hl 0 rfl) ?_
              refine e_Vv (As := []) (rest := []) X Y hT hS (m_X0_unfold_72 hR7) mk_X0_unfold gm_757 rfl rfl (by decide) hd_X0_unfold ⟨rfl, rfl⟩ ⟨Nat.le_of_ble_eq_true rfl, Nat.le_of_ble_eq_true rfl⟩ hl.1 rfl (Nat.le_of_ble_eq_true rfl) dX0_unfoldWith_123 ⟨Nat.zero_le _, Nat.zero_le _⟩ (fun i10 g10 H locs hq hT hS => ?_)
              obtain ⟨hR10, hf10⟩ := hq
              have hF10 := Fr_tr hF7 hf10 (by decide)
              exact hret _ _ _ _ _ _ dX0_unfoldWith_126 hT hS ⟨hR10, hF10⟩
            ·
              have q9 : x65_1_2.toInt < (i7 15 16).toInt := i_nle c9
              have h11 : rg 0 19 x65_1_2 := t_ltx 0 19 hhx65_1_2 (Rg_at hR7 15 16 0 20 (by decide) rfl) (i_nle c9) (by decide)
              have h12 : rg 1 20 (i7 15 16) := t_lty 1 20 hhx65_1_2 (Rg_at hR7 15 16 0 20 (by decide) rfl) (i_nle c9) (by decide)
              refine lv_aload_n hx hb dX0_unfoldWith_76 rfl (lv_at hl 0 rfl) ?_
              refine r_getr X hT 72 0 15 fk_0_30 rfl rfl (by decide) dX0_unfoldWith_77 ?_
              refine r_getr X hT 15 7 23 fk_0_60 rfl rfl (by decide) dX0_unfoldWith_80 ?_
              refine lv_iload_n hx hb dX0_unfoldWith_83 rfl (lv_at hl 1 rfl) ?_
              refine r_iald X hT 23 rfl (by decide) (v_in h11 (by decide)) dX0_unfoldWith_84 ?_
              refine lv_if_ne (tgt := 116) hx hb dX0_unfoldWith_85 (by decide) (fun c13 => ?_) (fun c13 => ?_)
              ·
                have q13 : ¬ (i7 23 x65_1_2.toNatClampNeg).toInt = 0 := i_ne c13
                have h14 : rg 1 1 (i7 23 x65_1_2.toNatClampNeg) := t_nelo 1 (Rg_at hR7 23 x65_1_2.toNatClampNeg 0 1 (v_lt (v_in h11 (by decide))) rfl) (rg_k (by decide) : rg 0 0 0) (i_ne c13) (by decide)
                obtain ⟨x15, ex15⟩ : ∃ y : Int32, y = x65_1_2 + 1 := ⟨_, rfl⟩
                refine lv_iinc (v := x15) (lv' := [(2, .int x15), (0, .ref (h 72))]) hx hb dX0_unfoldWith_116 hl (k := 1) rfl (by rw [ex15]; rfl) (by decide) rfl (fun ls hl => ?_)
                obtain ⟨hx15, ax15⟩ := rg_add 1 20 ex15 h11 (rg_k (by decide) : rg 1 1 1) (by decide)
                replace ax15 : x15.toInt = x65_1_2.toInt + 1 := ax15
                refine lv_goto (tgt := 65) hx hb dX0_unfoldWith_119 (by decide) ?_
                exact ih8_ x15 i7 g7 _ _ _ (rg_w hx15 (by decide) : rg 0 20 x15) hR7 hF7 hT hS (lv_sub hl [1, 0] rfl) (m_up ax15 hx15 (by decide) hm8_)
              ·
                have q13 : (i7 23 x65_1_2.toNatClampNeg).toInt = 0 := i_eq c13
                have h16 : rg 0 0 (i7 23 x65_1_2.toNatClampNeg) := t_eqx 0 0 (Rg_at hR7 23 x65_1_2.toNatClampNeg 0 1 (v_lt (v_in h11 (by decide))) rfl) (rg_k (by decide) : rg 0 0 0) (i_eq c13) (by decide)
                refine lv_aload_n hx hb dX0_unfoldWith_88 rfl (lv_at hl 0 rfl) ?_
                refine r_getr X hT 72 3 75 fk_0_18 rfl rfl (by decide) dX0_unfoldWith_89 ?_
                refine lv_aload_n hx hb dX0_unfoldWith_92 rfl (lv_at hl 0 rfl) ?_
                refine r_getr X hT 72 0 15 fk_0_30 rfl rfl (by decide) dX0_unfoldWith_93 ?_
                refine r_getr X hT 15 9 25 fk_0_63 rfl rfl (by decide) dX0_unfoldWith_96 ?_
                refine lv_iload_n hx hb dX0_unfoldWith_99 rfl (lv_at hl 1 rfl) ?_
                refine r_iald X hT 25 rfl (by decide) (v_in h11 (by decide)) dX0_unfoldWith_100 ?_
                refine lv_dup2_11 hx hb dX0_unfoldWith_101 rfl rfl ?_
                refine r_iald X hT 75 rfl (by decide) (v_in (Rg_at hR7 25 x65_1_2.toNatClampNeg 0 11 (v_lt (v_in h11 (by decide))) rfl) (by decide)) dX0_unfoldWith_102 ?_
                refine lv_iconst (v := 1) hx hb dX0_unfoldWith_103 (by decide) ?_
                refine lv_aload_n hx hb dX0_unfoldWith_104 rfl (lv_at hl 0 rfl) ?_
                refine r_getr X hT 72 0 15 fk_0_30 rfl rfl (by decide) dX0_unfoldWith_105 ?_
                refine r_getr X hT 15 8 24 fk_0_66 rfl rfl (by decide) dX0_unfoldWith_108 ?_
                refine lv_iload_n hx hb dX0_unfoldWith_111 rfl (lv_at hl 1 rfl) ?_
                refine r_iald X hT 24 rfl (by decide) (v_in h11 (by decide)) dX0_unfoldWith_112 ?_
                refine q_ishl hx hb dX0_unfoldWith_113 (fun x17 ex17 => ?_)
                have h18 : rg 1 32 x17 := rg_shl1 ex17 (Rg_at hR7 24 x65_1_2.toNatClampNeg 0 5 (v_lt (v_in h11 (by decide))) rfl) (by decide)
                refine q_ior hx hb dX0_unfoldWith_114 (fun x19 ex19 => ?_)
                refine r_iast X hT hS 75 rfl (by decide) (v_in (Rg_at hR7 25 x65_1_2.toNatClampNeg 0 11 (v_lt (v_in h11 (by decide))) rfl) (by decide)) dX0_unfoldWith_115 (fun H locs i20 ei20 hT hS => ?_)
                have hR20 := Rg_put hR7 ei20 (-2147483648) 2147483647 rfl (rg_top x19) (by decide)
                have hF20 := Fr_puti hF7 ei20 (by decide)
                obtain ⟨x21, ex21⟩ : ∃ y : Int32, y = x65_1_2 + 1 := ⟨_, rfl⟩
                refine lv_iinc (v := x21) (lv' := [(2, .int x21), (0, .ref (h 72))]) hx hb dX0_unfoldWith_116 hl (k := 1) rfl (by rw [ex21]; rfl) (by decide) rfl (fun ls hl => ?_)
                obtain ⟨hx21, ax21⟩ := rg_add 1 20 ex21 h11 (rg_k (by decide) : rg 1 1 1) (by decide)
                replace ax21 : x21.toInt = x65_1_2.toInt + 1 := ax21
                refine lv_goto (tgt := 65) hx hb dX0_unfoldWith_119 (by decide) ?_
                exact ih8_ x21 i20 g7 _ _ _ (rg_w hx21 (by decide) : rg 0 20 x21) hR20 hF20 hT hS (lv_sub hl [1, 0] rfl) (m_up ax21 hx21 (by decide) hm8_)
        exact L65_6 _ (0) i3 g3 _ _ _ (rg_w (rg_k (by decide) : rg 0 0 0) (by decide) : rg 0 20 0) hR3 hF3 hT hS (lv_sub hl [1, 0] rfl) (Nat.lt_succ_self _)
      ·
        have q5 : x10_2.toInt < (i3 15 15).toInt := i_nle c5
        have h22 : rg 0 7 x10_2 := t_ltx 0 7 hhx10_2 (Rg_at hR3 15 15 0 8 (by decide) rfl) (i_nle c5) (by decide)
        have h23 : rg 1 8 (i3 15 15) := t_lty 1 8 hhx10_2 (Rg_at hR3 15 15 0 8 (by decide) rfl) (i_nle c5) (by decide)
        refine lv_iload_n hx hb dX0_unfoldWith_21 rfl (lv_at hl 1 rfl) ?_
        refine lv_iload_n hx hb dX0_unfoldWith_22 rfl (lv_at hl 2 rfl) ?_
        refine e_Ni (As := [.int a_a, .int x10_2]) (rest := []) X Y hT hS (m_X8_hasBit a_a x10_2) sk_X8_hasBit Y.n1 hd_X8_hasBit ⟨rfl, rfl⟩ ⟨Nat.le_of_ble_eq_true rfl, Nat.le_of_ble_eq_true rfl⟩ hl.1 rfl (Nat.le_of_ble_eq_true rfl) dX0_unfoldWith_23 ⟨Nat.zero_le _, Nat.zero_le _⟩ (fun r24 i24 g24 H locs hq hT hS => ?_)
        obtain ⟨eh24, hr24⟩ := hq
        rw [(Prod.mk.inj eh24).1, (Prod.mk.inj eh24).2] at hT
        refine lv_if_eq (tgt := 57) hx hb dX0_unfoldWith_26 (by decide) (fun c25 => ?_) (fun c25 => ?_)
        ·
          have q25 : r24.toInt = 0 := i_eq c25
          have h26 : rg 0 0 r24 := t_eqx 0 0 hr24 (rg_k (by decide) : rg 0 0 0) (i_eq c25) (by decide)
          obtain ⟨x27, ex27⟩ : ∃ y : Int32, y = x10_2 + 1 := ⟨_, rfl⟩
          refine lv_iinc (v := x27) (lv' := [(2, .int x27), (0, .ref (h 72)), (1, .int a_a)]) hx hb dX0_unfoldWith_57 hl (k := 2) rfl (by rw [ex27]; rfl) (by decide) rfl (fun ls hl => ?_)
          obtain ⟨hx27, ax27⟩ := rg_add 1 8 ex27 h22 (rg_k (by decide) : rg 1 1 1) (by decide)
          replace ax27 : x27.toInt = x10_2.toInt + 1 := ax27
          refine lv_goto (tgt := 10) hx hb dX0_unfoldWith_60 (by decide) ?_
          exact ih4_ x27 i3 g3 _ _ _ (rg_w hx27 (by decide) : rg 0 8 x27) hR3 hF3 hT hS (lv_sub hl [1, 2, 0] rfl) (m_up ax27 hx27 (by decide) hm4_)
        ·
          have q25 : ¬ r24.toInt = 0 := i_ne c25
          have h28 : rg 1 1 r24 := t_nelo 1 hr24 (rg_k (by decide) : rg 0 0 0) (i_ne c25) (by decide)
          refine lv_aload_n hx hb dX0_unfoldWith_29 rfl (lv_at hl 0 rfl) ?_
          refine r_getr X hT 72 3 75 fk_0_18 rfl rfl (by decide) dX0_unfoldWith_30 ?_
          refine lv_aload_n hx hb dX0_unfoldWith_33 rfl (lv_at hl 0 rfl) ?_
          refine r_getr X hT 72 0 15 fk_0_30 rfl rfl (by decide) dX0_unfoldWith_34 ?_
          refine r_getr X hT 15 6 22 fk_0_76 rfl rfl (by decide) dX0_unfoldWith_37 ?_
          refine lv_iload_n hx hb dX0_unfoldWith_40 rfl (lv_at hl 2 rfl) ?_
          refine r_iald X hT 22 rfl (by decide) (v_in h22 (by decide)) dX0_unfoldWith_41 ?_
          refine lv_dup2_11 hx hb dX0_unfoldWith_42 rfl rfl ?_
          refine r_iald X hT 75 rfl (by decide) (v_in (Rg_at hR3 22 x10_2.toNatClampNeg 0 11 (v_lt (v_in h22 (by decide))) rfl) (by decide)) dX0_unfoldWith_43 ?_
          refine lv_iconst (v := 1) hx hb dX0_unfoldWith_44 (by decide) ?_
          refine lv_aload_n hx hb dX0_unfoldWith_45 rfl (lv_at hl 0 rfl) ?_
          refine r_getr X hT 72 0 15 fk_0_30 rfl rfl (by decide) dX0_unfoldWith_46 ?_
          refine r_getr X hT 15 5 21 fk_0_79 rfl rfl (by decide) dX0_unfoldWith_49 ?_
          refine lv_iload_n hx hb dX0_unfoldWith_52 rfl (lv_at hl 2 rfl) ?_
          refine r_iald X hT 21 rfl (by decide) (v_in h22 (by decide)) dX0_unfoldWith_53 ?_
          refine q_ishl hx hb dX0_unfoldWith_54 (fun x29 ex29 => ?_)
          have h30 : rg 1 32 x29 := rg_shl1 ex29 (Rg_at hR3 21 x10_2.toNatClampNeg 0 5 (v_lt (v_in h22 (by decide))) rfl) (by decide)
          refine q_ior hx hb dX0_unfoldWith_55 (fun x31 ex31 => ?_)
          refine r_iast X hT hS 75 rfl (by decide) (v_in (Rg_at hR3 22 x10_2.toNatClampNeg 0 11 (v_lt (v_in h22 (by decide))) rfl) (by decide)) dX0_unfoldWith_56 (fun H locs i32 ei32 hT hS => ?_)
          have hR32 := Rg_put hR3 ei32 (-2147483648) 2147483647 rfl (rg_top x31) (by decide)
          have hF32 := Fr_puti hF3 ei32 (by decide)
          obtain ⟨x33, ex33⟩ : ∃ y : Int32, y = x10_2 + 1 := ⟨_, rfl⟩
          refine lv_iinc (v := x33) (lv' := [(2, .int x33), (0, .ref (h 72)), (1, .int a_a)]) hx hb dX0_unfoldWith_57 hl (k := 2) rfl (by rw [ex33]; rfl) (by decide) rfl (fun ls hl => ?_)
          obtain ⟨hx33, ax33⟩ := rg_add 1 8 ex33 h22 (rg_k (by decide) : rg 1 1 1) (by decide)
          replace ax33 : x33.toInt = x10_2.toInt + 1 := ax33
          refine lv_goto (tgt := 10) hx hb dX0_unfoldWith_60 (by decide) ?_
          exact ih4_ x33 i32 g3 _ _ _ (rg_w hx33 (by decide) : rg 0 8 x33) hR32 hF32 hT hS (lv_sub hl [1, 2, 0] rfl) (m_up ax33 hx33 (by decide) hm4_)
  exact L10_2 _ (0) i1 g1 _ _ _ (rg_w (rg_k (by decide) : rg 0 0 0) (by decide) : rg 0 8 0) hR1 hF1 hT hS (lv_sub hl [1, 2, 0] rfl) (Nat.lt_succ_self _)
set_option maxRecDepth 100000 in
set_option maxHeartbeats 4000000 in
theorem m_X8_asNow {l : Launch} {D : va_G} {h : Nat → Nat} {cz : Nat → ClassId} {z : EZ} {i : Nat → Nat → Int32} {g : Nat → Nat → Int64} (hR : Rg rA i) (a_a : Int32) : DtV l yX8_asNow cX8_asNow 2 none ({ frames := 4, cells := 0, slots := 0, locals := 90 } : Room) D h cz z i g [.ref (h 0), .int a_a] (fun u => Rg rA u.1 ∧ Fr [72, 73, 74, 75, 76, 77] [] i g u) := by
  refine e_V pn_X8_asNow (Nat.le_of_ble_eq_true rfl) ?_
  intro p e s m args below meth c ls Q X Y hret hT hl hS
  have hx := X.1
  have hb := X.2.1
  have hl : lv_has ls 2 [(0, .ref (h 0)), (1, .int a_a)] := hl
  have hF : Fr [72, 73, 74, 75, 76, 77] [] i g (i, g) := Fr_rf _ _ _ _
  refine lv_aload_n hx hb dX8_asNow_0 rfl (lv_at hl 0 rfl) ?_
  refine r_getr X hT 0 8 72 fk_8_59 rfl rfl (by decide) dX8_asNow_1 ?_
  refine lv_iconst (v := (-1)) hx hb dX8_asNow_4 (by decide) ?_
  refine e_Vv (As := [.int (-1)]) (rest := []) X Y hT hS (m_X0_begin_72 hR ((-1))) mk_X0_begin gm_740 rfl rfl (by decide) hd_X0_begin ⟨rfl, rfl⟩ ⟨Nat.le_of_ble_eq_true rfl, Nat.le_of_ble_eq_true rfl⟩ hl.1 rfl (Nat.le_of_ble_eq_true rfl) dX8_asNow_5 ⟨Nat.zero_le _, Nat.zero_le _⟩ (fun i1 g1 H locs hq hT hS => ?_)
  obtain ⟨hR1, hf1⟩ := hq
  have hF1 := Fr_tr hF hf1 (by decide)
  refine lv_aload_n hx hb dX8_asNow_8 rfl (lv_at hl 0 rfl) ?_
  refine r_getr X hT 0 8 72 fk_8_59 rfl rfl (by decide) dX8_asNow_9 ?_
  refine lv_iload_n hx hb dX8_asNow_12 rfl (lv_at hl 1 rfl) ?_
  refine e_Vv (As := [.int a_a]) (rest := []) X Y hT hS (m_X0_unfoldWith_72 hR1 a_a) mk_X0_unfoldWith gm_752 rfl rfl (by decide) hd_X0_unfoldWith ⟨rfl, rfl⟩ ⟨Nat.le_of_ble_eq_true rfl, Nat.le_of_ble_eq_true rfl⟩ hl.1 rfl (Nat.le_of_ble_eq_true rfl) dX8_asNow_13 ⟨Nat.zero_le _, Nat.zero_le _⟩ (fun i2 g2 H locs hq hT hS => ?_)
  obtain ⟨hR2, hf2⟩ := hq
  have hF2 := Fr_tr hF1 hf2 (by decide)
  exact hret _ _ _ _ _ _ dX8_asNow_16 hT hS ⟨hR2, hF2⟩
set_option maxRecDepth 100000 in
set_option maxHeartbeats 4000000 in
theorem m_X0_stiffness_72 {l : Launch} {D : va_G} {h : Nat → Nat} {cz : Nat → ClassId} {z : EZ} {i : Nat → Nat → Int32} {g : Nat → Nat → Int64} (hR : Rg rA i) (a_a : Int32) (a_b : Int32) (ha_a : rg 0 5 a_a) : DtI l yX0_stiffness cX0_stiffness 3 (some .int) ({ frames := 3, cells := 0, slots := 0, locals := 89 } : Room) D h cz z i g [.ref (h 72), .int a_a, .int a_b] (fun r u => Rg rA u.1 ∧ Fr [78] [] i g u ∧ rg 0 99 r) := by
  refine e_I pn_X0_stiffness (Nat.le_of_ble_eq_true rfl) ?_
  intro p e s m args below meth c ls Q X Y hret hT hl hS
  have hx := X.1
  have hb := X.2.1
  have hl : lv_has ls 3 [(0, .ref (h 72)), (1, .int a_a), (2, .int a_b)] := hl
  have hF : Fr [78] [] i g (i, g) := Fr_rf _ _ _ _
  refine lv_aload_n hx hb dX0_stiffness_0 rfl (lv_at hl 0 rfl) ?_
  refine lv_iload_n hx hb dX0_stiffness_1 rfl (lv_at hl 1 rfl) ?_
  refine lv_aload_n hx hb dX0_stiffness_2 rfl (lv_at hl 0 rfl) ?_
  refine r_getr X hT 72 0 15 fk_0_30 rfl rfl (by decide) dX0_stiffness_3 ?_
  refine r_getr X hT 15 2 18 fk_0_99 rfl rfl (by decide) dX0_stiffness_6 ?_
  refine lv_iload_n hx hb dX0_stiffness_9 rfl (lv_at hl 1 rfl) ?_
  refine r_iald X hT 18 rfl (by decide) (v_in ha_a (by decide)) dX0_stiffness_10 ?_
  refine lv_iload_n hx hb dX0_stiffness_11 rfl (lv_at hl 2 rfl) ?_
  refine e_Vi (As := [.int a_a, .int (i 18 a_a.toNatClampNeg), .int a_b]) (rest := []) X Y hT hS (m_X0_follow_72 hR a_a (i 18 a_a.toNatClampNeg) a_b ha_a (Rg_at hR 18 a_a.toNatClampNeg 0 60 (v_lt (v_in ha_a (by decide))) rfl)) mk_X0_follow gm_773 rfl rfl (by decide) hd_X0_follow ⟨rfl, rfl⟩ ⟨Nat.le_of_ble_eq_true rfl, Nat.le_of_ble_eq_true rfl⟩ hl.1 rfl (Nat.le_of_ble_eq_true rfl) dX0_stiffness_12 ⟨Nat.zero_le _, Nat.zero_le _⟩ (fun r1 i1 g1 H locs hq hT hS => ?_)
  obtain ⟨hR1, hf1, hr1⟩ := hq
  have hF1 := Fr_tr hF hf1 (by decide)
  exact hret r1 _ _ _ _ _ _ dX0_stiffness_15 hT hS ⟨hR1, hF1, hr1⟩
set_option maxRecDepth 100000 in
set_option maxHeartbeats 4000000 in
theorem m_X1_isAsSeen_72 {l : Launch} {D : va_G} {h : Nat → Nat} {cz : Nat → ClassId} {z : EZ} {i : Nat → Nat → Int32} {g : Nat → Nat → Int64} (hR : Rg rA i) (a_a : Int32) (a_b : Int32) (ha_a : rg 0 3 a_a) (hp0 : seenC i g a_a) : DtI l yX1_isAsSeen cX1_isAsSeen 7 (some .boolean) ({ frames := 4, cells := 0, slots := 0, locals := 111 } : Room) D h cz z i g [.ref (h 93), .int a_a, .int a_b, .ref (h 72)] (fun r u => Rg rA u.1 ∧ Fr [78] [] i g u ∧ rg 0 1 r) := by
  refine e_Z (fun v u hq => (z01 hq.2.2)) pn_X1_isAsSeen (Nat.le_of_ble_eq_true rfl) ?_
  intro p e s m args below meth c ls Q X Y hret hT hl hS
  have hx := X.1
  have hb := X.2.1
  have hl : lv_has ls 7 [(0, .ref (h 93)), (1, .int a_a), (2, .int a_b), (3, .ref (h 72))] := hl
  have hF : Fr [78] [] i g (i, g) := Fr_rf _ _ _ _
  refine lv_iconst (v := 0) hx hb dX1_isAsSeen_0 (by decide) ?_
  refine lv_istore (lv' := [(4, .int 0), (0, .ref (h 93)), (1, .int a_a), (2, .int a_b), (3, .ref (h 72))]) hx hb dX1_isAsSeen_1 hl (by decide) rfl (fun ls hl => ?_)
  have L3_1 : ∀ (n3_ : Nat) (x3_4 : Int32) (i2 : Nat → Nat → Int32) (g2 : Nat → Nat → Int64) (H : Heap) (locs : List Loc) (ls : Array Slot), rg 0 60 x3_4 → Rg rA i2 → Fr [78] [] i g (i2, g2) → (seenC i2 g2 a_a) → (x3_4.toInt % 3 = 0) → TH D h cz i2 g2 H → va_S (hA h) s.heap H locs → lv_has ls 7 [(0, .ref (h 93)), (1, .int a_a), (2, .int a_b), (3, .ref (h 72)), (4, .int x3_4)] → (60 - x3_4.toInt).toNat < n3_ → W p l e ({ frames := 4, cells := 0, slots := 0, locals := 111 } : Room) s m args below meth c H locs 0 0 Q (F0 m 3 ls []) := by
    intro n3_
    induction n3_ with
    | zero => intro x3_4 i2 g2 H locs ls hhx3_4 hR2 hF2 hP2_0 hm3 hT hS hl hm3_; exact absurd hm3_ (Nat.not_lt_zero _)
    | succ n3_ ih3_ =>
      intro x3_4 i2 g2 H locs ls hhx3_4 hR2 hF2 hP2_0 hm3 hT hS hl hm3_
      refine lv_iload hx hb dX1_isAsSeen_3 (lv_at hl 4 rfl) ?_
      refine lv_iconst (v := 2) hx hb dX1_isAsSeen_5 (by decide) ?_
      refine q_iadd hx hb dX1_isAsSeen_6 (fun x4 ex4 => ?_)
      obtain ⟨hx4, ax4⟩ := rg_add 2 62 ex4 hhx3_4 (rg_k (by decide) : rg 2 2 2) (by decide)
      replace ax4 : x4.toInt = x3_4.toInt + 2 := ax4
      refine lv_aload_n hx hb dX1_isAsSeen_7 rfl (lv_at hl 0 rfl) ?_
      refine r_getr X hT 93 1 61 fk_1_23 rfl rfl (by decide) dX1_isAsSeen_8 ?_
      refine lv_iload_n hx hb dX1_isAsSeen_11 rfl (lv_at hl 1 rfl) ?_
      refine e_Vi (As := [.int a_a]) (rest := [.int x4]) X Y hT hS (m_X5_size hR2 a_a ha_a) mk_X5_size gm_1065 rfl rfl (by decide) hd_X5_size ⟨rfl, rfl⟩ ⟨Nat.le_of_ble_eq_true rfl, Nat.le_of_ble_eq_true rfl⟩ hl.1 rfl (Nat.le_of_ble_eq_true rfl) dX1_isAsSeen_12 ⟨Nat.zero_le _, Nat.zero_le _⟩ (fun r5 i5 g5 H locs hq hT hS => ?_)
      obtain ⟨eh5, hr5, hf5_0⟩ := hq
      rw [(Prod.mk.inj eh5).1, (Prod.mk.inj eh5).2] at hT
      replace hf5_0 : r5 = i2 63 a_a.toNatClampNeg := hf5_0
      refine lv_icmp_ge (tgt := 85) hx hb dX1_isAsSeen_15 (by decide) (fun c6 => ?_) (fun c6 => ?_)
      ·
        have q6 : r5.toInt ≤ x4.toInt := i_le c6
        refine lv_iconst (v := 1) hx hb dX1_isAsSeen_85 (by decide) ?_
        exact hret 1 _ _ _ _ _ _ dX1_isAsSeen_86 hT hS ⟨hR2, hF2, (rg_w (rg_k (by decide) : rg 1 1 1) (by decide) : rg 0 1 1)⟩
      ·
        have q6 : x4.toInt < r5.toInt := i_nle c6
        have h7 : rg 2 59 x4 := t_ltx 2 59 hx4 hr5 (i_nle c6) (by decide)
        have h8 : rg 0 57 x3_4 := ⟨by have := h7.1; have := hhx3_4.1; have := ax4; omega, by have := h7.2; have := hhx3_4.2; have := ax4; omega⟩
        have h9 : rg 3 60 r5 := t_lty 3 60 hx4 hr5 (i_nle c6) (by decide)
        refine lv_aload_n hx hb dX1_isAsSeen_18 rfl (lv_at hl 0 rfl) ?_
        refine r_getr X hT 93 1 61 fk_1_23 rfl rfl (by decide) dX1_isAsSeen_19 ?_
        refine lv_iload_n hx hb dX1_isAsSeen_22 rfl (lv_at hl 1 rfl) ?_
        refine lv_iload hx hb dX1_isAsSeen_23 (lv_at hl 4 rfl) ?_
        refine e_Vl (As := [.int a_a, .int x3_4]) (rest := []) X Y hT hS (m_X5_number hR2 a_a x3_4 ha_a (rg_w h8 (by decide) : rg 0 59 x3_4)) mk_X5_number gm_1069 rfl rfl (by decide) hd_X5_number ⟨rfl, rfl⟩ ⟨Nat.le_of_ble_eq_true rfl, Nat.le_of_ble_eq_true rfl⟩ hl.1 rfl (Nat.le_of_ble_eq_true rfl) dX1_isAsSeen_25 ⟨Nat.zero_le _, Nat.zero_le _⟩ (fun r10 i10 g10 H locs hq hT hS => ?_)
        obtain ⟨eh10, hf10_0⟩ := hq
        rw [(Prod.mk.inj eh10).1, (Prod.mk.inj eh10).2] at hT
        replace hf10_0 : r10 = g2 64 (60 * a_a.toNatClampNeg + x3_4.toNatClampNeg) := hf10_0
        have h11 : rgL 0 5 r10 := seenC_0 hP2_0 hm3 h8 ax4 q6 hf5_0 hf10_0
        refine q_l2i hx hb dX1_isAsSeen_28 (fun x12 ex12 => ?_)
        have h13 : rg 0 5 x12 := rg_l2i ex12 h11 (by decide)
        refine lv_istore (lv' := [(5, .int x12), (0, .ref (h 93)), (1, .int a_a), (2, .int a_b), (3, .ref (h 72)), (4, .int x3_4)]) hx hb dX1_isAsSeen_29 hl (by decide) rfl (fun ls hl => ?_)
        refine lv_aload_n hx hb dX1_isAsSeen_31 rfl (lv_at hl 1 rfl) ?_
        refine r_getr X hT 93 1 61 fk_1_23 rfl rfl (by decide) dX1_isAsSeen_32 ?_
        refine lv_iload_n hx hb dX1_isAsSeen_35 rfl (lv_at hl 2 rfl) ?_
        refine lv_iload hx hb dX1_isAsSeen_36 (lv_at hl 5 rfl) ?_
        refine lv_iconst (v := 1) hx hb dX1_isAsSeen_38 (by decide) ?_
        refine q_iadd hx hb dX1_isAsSeen_39 (fun x14 ex14 => ?_)
        obtain ⟨hx14, ax14⟩ := rg_add 1 58 ex14 h8 (rg_k (by decide) : rg 1 1 1) (by decide)
        replace ax14 : x14.toInt = x3_4.toInt + 1 := ax14
        refine e_Vl (As := [.int a_a, .int x14]) (rest := []) X Y hT hS (m_X5_number hR2 a_a x14 ha_a (rg_w hx14 (by decide) : rg 0 59 x14)) mk_X5_number gm_1069 rfl rfl (by decide) hd_X5_number ⟨rfl, rfl⟩ ⟨Nat.le_of_ble_eq_true rfl, Nat.le_of_ble_eq_true rfl⟩ hl.1 rfl (Nat.le_of_ble_eq_true rfl) dX1_isAsSeen_40 ⟨Nat.zero_le _, Nat.zero_le _⟩ (fun r15 i15 g15 H locs hq hT hS => ?_)
        obtain ⟨eh15, hf15_0⟩ := hq
        rw [(Prod.mk.inj eh15).1, (Prod.mk.inj eh15).2] at hT
        replace hf15_0 : r15 = g2 64 (60 * a_a.toNatClampNeg + x14.toNatClampNeg) := hf15_0
        have h16 : rgL 0 12 r15 := seenC_1 hP2_0 hm3 h8 ax4 q6 hf5_0 ax14 hf15_0
        refine q_l2i hx hb dX1_isAsSeen_43 (fun x17 ex17 => ?_)
        have h18 : rg 0 12 x17 := rg_l2i ex17 h16 (by decide)
        refine lv_istore (lv' := [(6, .int x17), (5, .int x12), (0, .ref (h 93)), (1, .int a_a), (2, .int a_b), (3, .ref (h 72)), (4, .int x3_4)]) hx hb dX1_isAsSeen_44 hl (by decide) rfl (fun ls hl => ?_)
        refine lv_iload hx hb dX1_isAsSeen_46 (lv_at hl 1 rfl) ?_
        refine lv_iload_n hx hb dX1_isAsSeen_48 rfl (lv_at hl 4 rfl) ?_
        refine lv_icmp_eq (tgt := 79) hx hb dX1_isAsSeen_49 (by decide) (fun c19 => ?_) (fun c19 => ?_)
        ·
          have q19 : x12.toInt = a_b.toInt := i_eq c19
          have h20 : rg 0 5 a_b := t_eqy 0 5 h13 (rg_top a_b) (i_eq c19) (by decide)
          obtain ⟨x21, ex21⟩ : ∃ y : Int32, y = x3_4 + 3 := ⟨_, rfl⟩
          refine lv_iinc (v := x21) (lv' := [(4, .int x21), (6, .int x17), (5, .int x12), (0, .ref (h 93)), (1, .int a_a), (2, .int a_b), (3, .ref (h 72))]) hx hb dX1_isAsSeen_79 hl (k := 6) rfl (by rw [ex21]; rfl) (by decide) rfl (fun ls hl => ?_)
          obtain ⟨hx21, ax21⟩ := rg_add 3 60 ex21 h8 (rg_k (by decide) : rg 3 3 3) (by decide)
          replace ax21 : x21.toInt = x3_4.toInt + 3 := ax21
          refine lv_goto (tgt := 3) hx hb dX1_isAsSeen_82 (by decide) ?_
          exact ih3_ x21 i2 g2 _ _ _ (rg_w hx21 (by decide) : rg 0 60 x21) hR2 hF2 hP2_0 (by have := ax21; omega) hT hS (lv_sub hl [3, 4, 5, 6, 0] rfl) (m_up ax21 hx21 (by decide) hm3_)
        ·
          have q19 : ¬ x12.toInt = a_b.toInt := i_ne c19
          refine lv_aload_n hx hb dX1_isAsSeen_52 rfl (lv_at hl 5 rfl) ?_
          refine lv_iload hx hb dX1_isAsSeen_53 (lv_at hl 1 rfl) ?_
          refine lv_iload hx hb dX1_isAsSeen_55 (lv_at hl 0 rfl) ?_
          refine e_Vi (As := [.int x12, .int x17]) (rest := []) X Y hT hS (m_X0_stiffness_72 hR2 x12 x17 h13) mk_X0_stiffness gm_1082 rfl rfl (by decide) hd_X0_stiffness ⟨rfl, rfl⟩ ⟨Nat.le_of_ble_eq_true rfl, Nat.le_of_ble_eq_true rfl⟩ hl.1 rfl (Nat.le_of_ble_eq_true rfl) dX1_isAsSeen_57 ⟨Nat.zero_le _, Nat.zero_le _⟩ (fun r22 i22 g22 H locs hq hT hS => ?_)
          obtain ⟨hR22, hf22, hr22⟩ := hq
          have hF22 := Fr_tr hF2 hf22 (by decide)
          have hN22 : seenC i22 g22 a_a := seenC_f hP2_0 hf22 (by decide) (by decide)
          refine q_i2l hx hb dX1_isAsSeen_60 (fun y23 ey23 => ?_)
          obtain ⟨hy23, ay23⟩ := rg_i2l ey23 hr22
          refine lv_aload_n hx hb dX1_isAsSeen_61 rfl (lv_at hl 2 rfl) ?_
          refine r_getr X hT 93 1 61 fk_1_23 rfl rfl (by decide) dX1_isAsSeen_62 ?_
          refine lv_iload_n hx hb dX1_isAsSeen_65 rfl (lv_at hl 3 rfl) ?_
          refine lv_iload hx hb dX1_isAsSeen_66 (lv_at hl 6 rfl) ?_
          refine lv_iconst (v := 2) hx hb dX1_isAsSeen_68 (by decide) ?_
          refine q_iadd hx hb dX1_isAsSeen_69 (fun x24 ex24 => ?_)
          obtain ⟨hx24, ax24⟩ := rg_add 2 59 ex24 h8 (rg_k (by decide) : rg 2 2 2) (by decide)
          replace ax24 : x24.toInt = x3_4.toInt + 2 := ax24
          refine e_Vl (As := [.int a_a, .int x24]) (rest := [.long y23]) X Y hT hS (m_X5_number hR22 a_a x24 ha_a (rg_w hx24 (by decide) : rg 0 59 x24)) mk_X5_number gm_1069 rfl rfl (by decide) hd_X5_number ⟨rfl, rfl⟩ ⟨Nat.le_of_ble_eq_true rfl, Nat.le_of_ble_eq_true rfl⟩ hl.1 rfl (Nat.le_of_ble_eq_true rfl) dX1_isAsSeen_70 ⟨Nat.zero_le _, Nat.zero_le _⟩ (fun r25 i25 g25 H locs hq hT hS => ?_)
          obtain ⟨eh25, hf25_0⟩ := hq
          rw [(Prod.mk.inj eh25).1, (Prod.mk.inj eh25).2] at hT
          replace hf25_0 : r25 = g22 64 (60 * a_a.toNatClampNeg + x24.toNatClampNeg) := hf25_0
          refine W.lcmp hx hb dX1_isAsSeen_73 ?_
          refine lv_if_eq (tgt := 79) hx hb dX1_isAsSeen_74 (by decide) (fun c26 => ?_) (fun c26 => ?_)
          ·
            have q26 : y23.toInt = r25.toInt := c_eq c26
            have h27 : rgL 0 99 r25 := tL_eqy 0 99 hy23 (rgL_top r25) (c_eq c26) (by decide)
            obtain ⟨x28, ex28⟩ : ∃ y : Int32, y = x3_4 + 3 := ⟨_, rfl⟩
            refine lv_iinc (v := x28) (lv' := [(4, .int x28), (6, .int x17), (5, .int x12), (0, .ref (h 93)), (1, .int a_a), (2, .int a_b), (3, .ref (h 72))]) hx hb dX1_isAsSeen_79 hl (k := 6) rfl (by rw [ex28]; rfl) (by decide) rfl (fun ls hl => ?_)
            obtain ⟨hx28, ax28⟩ := rg_add 3 60 ex28 h8 (rg_k (by decide) : rg 3 3 3) (by decide)
            replace ax28 : x28.toInt = x3_4.toInt + 3 := ax28
            refine lv_goto (tgt := 3) hx hb dX1_isAsSeen_82 (by decide) ?_
            exact ih3_ x28 i22 g22 _ _ _ (rg_w hx28 (by decide) : rg 0 60 x28) hR22 hF22 hN22 (by have := ax28; omega) hT hS (lv_sub hl [3, 4, 5, 6, 0] rfl) (m_up ax28 hx28 (by decide) hm3_)
          ·
            have q26 : ¬ y23.toInt = r25.toInt := c_ne c26
            refine lv_iconst (v := 0) hx hb dX1_isAsSeen_77 (by decide) ?_
            exact hret 0 _ _ _ _ _ _ dX1_isAsSeen_78 hT hS ⟨hR22, hF22, (rg_w (rg_k (by decide) : rg 0 0 0) (by decide) : rg 0 1 0)⟩
  exact L3_1 _ (0) i g _ _ _ (rg_w (rg_k (by decide) : rg 0 0 0) (by decide) : rg 0 60 0) hR hF hp0 (by decide) hT hS (lv_sub hl [1, 2, 3, 4, 0] rfl) (Nat.lt_succ_self _)
set_option maxRecDepth 100000 in
set_option maxHeartbeats 4000000 in
theorem m_X8_laws {l : Launch} {D : va_G} {h : Nat → Nat} {cz : Nat → ClassId} {z : EZ} {i : Nat → Nat → Int32} {g : Nat → Nat → Int64} (hR : Rg rA i) (a_a : Int32) : DtI l yX8_laws cX8_laws 5 (some .int) ({ frames := 5, cells := 0, slots := 0, locals := 137 } : Room) D h cz z i g [.ref (h 0), .int a_a] (fun r u => Rg rA u.1 ∧ Fr [72, 73, 74, 75, 76, 77, 78] [] i g u ∧ rg (-6) 255 r) := by
  refine e_I pn_X8_laws (Nat.le_of_ble_eq_true rfl) ?_
  intro p e s m args below meth c ls Q X Y hret hT hl hS
  have hx := X.1
  have hb := X.2.1
  have hl : lv_has ls 5 [(0, .ref (h 0)), (1, .int a_a)] := hl
  have hF : Fr [72, 73, 74, 75, 76, 77, 78] [] i g (i, g) := Fr_rf _ _ _ _
  refine lv_aload_n hx hb dX8_laws_0 rfl (lv_at hl 0 rfl) ?_
  refine r_getr X hT 0 3 15 fk_8_32 rfl rfl (by decide) dX8_laws_1 ?_
  refine e_Vi (As := []) (rest := []) X Y hT hS (m_X6_isTold_15 hR) mk_X6_isTold gm_698 rfl rfl (by decide) hd_X6_isTold ⟨rfl, rfl⟩ ⟨Nat.le_of_ble_eq_true rfl, Nat.le_of_ble_eq_true rfl⟩ hl.1 rfl (Nat.le_of_ble_eq_true rfl) dX8_laws_4 ⟨Nat.zero_le _, Nat.zero_le _⟩ (fun r1 i1 g1 H locs hq hT hS => ?_)
  obtain ⟨eh1, hr1⟩ := hq
  rw [(Prod.mk.inj eh1).1, (Prod.mk.inj eh1).2] at hT
  refine lv_if_eq (tgt := 18) hx hb dX8_laws_7 (by decide) (fun c2 => ?_) (fun c2 => ?_)
  ·
    have q2 : r1.toInt = 0 := i_eq c2
    have h3 : rg 0 0 r1 := t_eqx 0 0 hr1 (rg_k (by decide) : rg 0 0 0) (i_eq c2) (by decide)
    refine lv_bipush (v := (-2)) hx hb dX8_laws_18 (by decide) ?_
    refine lv_istore_n (lv' := [(2, .int (-2)), (0, .ref (h 0)), (1, .int a_a)]) hx hb dX8_laws_20 rfl hl (by decide) rfl (fun ls hl => ?_)
    refine lv_iload_n hx hb dX8_laws_21 rfl (lv_at hl 0 rfl) ?_
    refine lv_if_eq (tgt := 27) hx hb dX8_laws_22 (by decide) (fun c4 => (x_eq (rg_k (by decide) : rg (-2) (-2) (-2)) (rg_k (by decide) : rg 0 0 0) (i_eq c4) (by decide)).elim) (fun c4 => ?_)
    refine lv_iload_n hx hb dX8_laws_25 rfl (lv_at hl 0 rfl) ?_
    exact hret (-2) _ _ _ _ _ _ dX8_laws_26 hT hS ⟨hR, hF, (rg_w (rg_k (by decide) : rg (-2) (-2) (-2)) (by decide) : rg (-6) 255 (-2))⟩
  ·
    have q2 : ¬ r1.toInt = 0 := i_ne c2
    have h5 : rg 1 1 r1 := t_nelo 1 hr1 (rg_k (by decide) : rg 0 0 0) (i_ne c2) (by decide)
    refine lv_aload_n hx hb dX8_laws_10 rfl (lv_at hl 0 rfl) ?_
    refine lv_iload_n hx hb dX8_laws_11 rfl (lv_at hl 1 rfl) ?_
    refine e_Vi (As := [.int a_a]) (rest := []) X Y hT hS (m_X8_refuseSeen hR a_a) mk_X8_refuseSeen gm_1052 rfl rfl (by decide) hd_X8_refuseSeen ⟨rfl, rfl⟩ ⟨Nat.le_of_ble_eq_true rfl, Nat.le_of_ble_eq_true rfl⟩ hl.1 rfl (Nat.le_of_ble_eq_true rfl) dX8_laws_12 ⟨Nat.zero_le _, Nat.zero_le _⟩ (fun r6 i6 g6 H locs hq hT hS => ?_)
    rcases hq with hq | hq
    ·
      obtain ⟨eh6, rfl, hp6_0, hf6_0⟩ := hq
      rw [(Prod.mk.inj eh6).1, (Prod.mk.inj eh6).2] at hT
      replace hp6_0 : seenC i g a_a := by rw [eh6] at hp6_0; exact hp6_0
      have h7 : rg 0 3 a_a := ⟨by have := (rg_top a_a).1; have := hf6_0.1; omega, by have := (rg_top a_a).2; have := hf6_0.2; omega⟩
      refine lv_goto (tgt := 20) hx hb dX8_laws_15 (by decide) ?_
      refine lv_istore_n (lv' := [(2, .int 0), (0, .ref (h 0)), (1, .int a_a)]) hx hb dX8_laws_20 rfl hl (by decide) rfl (fun ls hl => ?_)
      refine lv_iload_n hx hb dX8_laws_21 rfl (lv_at hl 0 rfl) ?_
      refine lv_if_eq (tgt := 27) hx hb dX8_laws_22 (by decide) (fun c8 => ?_) (fun c8 => (x_ne (rg_k (by decide) : rg 0 0 0) (rg_k (by decide) : rg 0 0 0) (i_ne c8) (by decide)).elim)
      refine lv_aload_n hx hb dX8_laws_27 rfl (lv_at hl 1 rfl) ?_
      refine lv_aload_n hx hb dX8_laws_28 rfl (lv_at hl 1 rfl) ?_
      refine r_getr X hT 0 3 15 fk_8_32 rfl rfl (by decide) dX8_laws_29 ?_
      refine e_Vi (As := []) (rest := [.ref (h 0)]) X Y hT hS (m_X6_everyKnife_15 hR) mk_X6_everyKnife gm_748 rfl rfl (by decide) hd_X6_everyKnife ⟨rfl, rfl⟩ ⟨Nat.le_of_ble_eq_true rfl, Nat.le_of_ble_eq_true rfl⟩ hl.1 rfl (Nat.le_of_ble_eq_true rfl) dX8_laws_32 ⟨Nat.zero_le _, Nat.zero_le _⟩ (fun r9 i9 g9 H locs hq hT hS => ?_)
      obtain ⟨eh9, hr9⟩ := hq
      rw [(Prod.mk.inj eh9).1, (Prod.mk.inj eh9).2] at hT
      refine e_Vv (As := [.int r9]) (rest := []) X Y hT hS (m_X8_asNow hR r9) mk_X8_asNow gm_1131 rfl rfl (by decide) hd_X8_asNow ⟨rfl, rfl⟩ ⟨Nat.le_of_ble_eq_true rfl, Nat.le_of_ble_eq_true rfl⟩ hl.1 rfl (Nat.le_of_ble_eq_true rfl) dX8_laws_35 ⟨Nat.zero_le _, Nat.zero_le _⟩ (fun i10 g10 H locs hq hT hS => ?_)
      obtain ⟨hR10, hf10⟩ := hq
      have hF10 := Fr_tr hF hf10 (by decide)
      have hN10 : seenC i10 g10 a_a := seenC_f hp6_0 hf10 (by decide) (by decide)
      refine lv_iconst (v := 0) hx hb dX8_laws_38 (by decide) ?_
      refine lv_istore_n (lv' := [(3, .int 0), (2, .int 0), (0, .ref (h 0)), (1, .int a_a)]) hx hb dX8_laws_39 rfl hl (by decide) rfl (fun ls hl => ?_)
      refine lv_iconst (v := 0) hx hb dX8_laws_40 (by decide) ?_
      refine lv_istore (lv' := [(4, .int 0), (3, .int 0), (2, .int 0), (0, .ref (h 0)), (1, .int a_a)]) hx hb dX8_laws_41 hl (by decide) rfl (fun ls hl => ?_)
      have L43_11 : ∀ (n13_ : Nat) (x43_3 : Int32) (x43_4 : Int32) (i12 : Nat → Nat → Int32) (g12 : Nat → Nat → Int64) (H : Heap) (locs : List Loc) (ls : Array Slot), rg 0 255 x43_3 → rg 0 4 x43_4 → Rg rA i12 → Fr [72, 73, 74, 75, 76, 77, 78] [] i g (i12, g12) → (seenC i12 g12 a_a) → TH D h cz i12 g12 H → va_S (hA h) s.heap H locs → lv_has ls 5 [(0, .ref (h 0)), (1, .int a_a), (3, .int x43_3), (4, .int x43_4)] → (4 - x43_4.toInt).toNat < n13_ → W p l e ({ frames := 5, cells := 0, slots := 0, locals := 137 } : Room) s m args below meth c H locs 0 0 Q (F0 m 43 ls []) := by
        intro n13_
        induction n13_ with
        | zero => intro x43_3 x43_4 i12 g12 H locs ls hhx43_3 hhx43_4 hR12 hF12 hP12_0 hT hS hl hm13_; exact absurd hm13_ (Nat.not_lt_zero _)
        | succ n13_ ih13_ =>
          intro x43_3 x43_4 i12 g12 H locs ls hhx43_3 hhx43_4 hR12 hF12 hP12_0 hT hS hl hm13_
          refine lv_iload hx hb dX8_laws_43 (lv_at hl 3 rfl) ?_
          refine lv_iconst (v := 4) hx hb dX8_laws_45 (by decide) ?_
          refine lv_icmp_ge (tgt := 87) hx hb dX8_laws_46 (by decide) (fun c14 => ?_) (fun c14 => ?_)
          ·
            have q14 : 4 ≤ x43_4.toInt := i_le c14
            have h15 : rg 4 4 x43_4 := t_ley 4 4 (rg_k (by decide) : rg 4 4 4) hhx43_4 (i_le c14) (by decide)
            refine lv_iload_n hx hb dX8_laws_87 rfl (lv_at hl 2 rfl) ?_
            exact hret x43_3 _ _ _ _ _ _ dX8_laws_88 hT hS ⟨hR12, hF12, (rg_w hhx43_3 (by decide) : rg (-6) 255 x43_3)⟩
          ·
            have q14 : x43_4.toInt < 4 := i_nle c14
            have h16 : rg 0 3 x43_4 := t_ltx 0 3 hhx43_4 (rg_k (by decide) : rg 4 4 4) (i_nle c14) (by decide)
            refine lv_aload_n hx hb dX8_laws_49 rfl (lv_at hl 0 rfl) ?_
            refine r_getr X hT 0 8 72 fk_8_59 rfl rfl (by decide) dX8_laws_50 ?_
            refine lv_iload hx hb dX8_laws_53 (lv_at hl 3 rfl) ?_
            refine r_puti X hT hS 72 7 pk_8_321 rfl rfl rfl rfl (by decide) dX8_laws_55 (fun H locs i17 ei17 hT hS => ?_)
            have hR17 := Rg_put hR12 ei17 (-2147483648) 2147483647 rfl h16 (by decide)
            have hF17 := Fr_puti hF12 ei17 (by decide)
            have hN17 : seenC i17 g12 a_a := seenC_j hP12_0 ei17 (by decide)
            refine lv_aload_n hx hb dX8_laws_58 rfl (lv_at hl 0 rfl) ?_
            refine r_getr X hT 0 11 93 fk_8_83 rfl rfl (by decide) dX8_laws_59 ?_
            refine lv_iload_n hx hb dX8_laws_62 rfl (lv_at hl 1 rfl) ?_
            refine lv_iconst (v := (-1)) hx hb dX8_laws_63 (by decide) ?_
            refine lv_aload_n hx hb dX8_laws_64 rfl (lv_at hl 0 rfl) ?_
            refine r_getr X hT 0 8 72 fk_8_59 rfl rfl (by decide) dX8_laws_65 ?_
            refine e_Vi (As := [.int a_a, .int (-1), .ref (h 72)]) (rest := []) X Y hT hS (m_X1_isAsSeen_72 hR17 a_a ((-1)) h7 hN17) mk_X1_isAsSeen gm_1135 rfl rfl (by decide) hd_X1_isAsSeen ⟨rfl, rfl⟩ ⟨Nat.le_of_ble_eq_true rfl, Nat.le_of_ble_eq_true rfl⟩ hl.1 rfl (Nat.le_of_ble_eq_true rfl) dX8_laws_68 ⟨Nat.zero_le _, Nat.zero_le _⟩ (fun r18 i18 g18 H locs hq hT hS => ?_)
            obtain ⟨hR18, hf18, hr18⟩ := hq
            have hF18 := Fr_tr hF17 hf18 (by decide)
            have hN18 : seenC i18 g18 a_a := seenC_f hN17 hf18 (by decide) (by decide)
            refine lv_if_eq (tgt := 81) hx hb dX8_laws_71 (by decide) (fun c19 => ?_) (fun c19 => ?_)
            ·
              have q19 : r18.toInt = 0 := i_eq c19
              have h20 : rg 0 0 r18 := t_eqx 0 0 hr18 (rg_k (by decide) : rg 0 0 0) (i_eq c19) (by decide)
              obtain ⟨x21, ex21⟩ : ∃ y : Int32, y = x43_4 + 1 := ⟨_, rfl⟩
              refine lv_iinc (v := x21) (lv' := [(4, .int x21), (0, .ref (h 0)), (1, .int a_a), (3, .int x43_3)]) hx hb dX8_laws_81 hl (k := 3) rfl (by rw [ex21]; rfl) (by decide) rfl (fun ls hl => ?_)
              obtain ⟨hx21, ax21⟩ := rg_add 1 4 ex21 h16 (rg_k (by decide) : rg 1 1 1) (by decide)
              replace ax21 : x21.toInt = x43_4.toInt + 1 := ax21
              refine lv_goto (tgt := 43) hx hb dX8_laws_84 (by decide) ?_
              exact ih13_ x43_3 x21 i18 g18 _ _ _ hhx43_3 (rg_w hx21 (by decide) : rg 0 4 x21) hR18 hF18 hN18 hT hS (lv_sub hl [1, 2, 3, 0] rfl) (m_up ax21 hx21 (by decide) hm13_)
            ·
              have q19 : ¬ r18.toInt = 0 := i_ne c19
              have h22 : rg 1 1 r18 := t_nelo 1 hr18 (rg_k (by decide) : rg 0 0 0) (i_ne c19) (by decide)
              refine lv_iload_n hx hb dX8_laws_74 rfl (lv_at hl 2 rfl) ?_
              refine lv_iconst (v := 1) hx hb dX8_laws_75 (by decide) ?_
              refine lv_iload hx hb dX8_laws_76 (lv_at hl 3 rfl) ?_
              refine q_ishl hx hb dX8_laws_78 (fun x23 ex23 => ?_)
              have h24 : rg 1 8 x23 := rg_shl1 ex23 h16 (by decide)
              refine q_ior hx hb dX8_laws_79 (fun x25 ex25 => ?_)
              have h26 : rg 0 255 x25 := rg_or8 ex25 hhx43_3 h24 (by decide)
              refine lv_istore_n (lv' := [(3, .int x25), (0, .ref (h 0)), (1, .int a_a), (4, .int x43_4)]) hx hb dX8_laws_80 rfl hl (by decide) rfl (fun ls hl => ?_)
              obtain ⟨x27, ex27⟩ : ∃ y : Int32, y = x43_4 + 1 := ⟨_, rfl⟩
              refine lv_iinc (v := x27) (lv' := [(4, .int x27), (3, .int x25), (0, .ref (h 0)), (1, .int a_a)]) hx hb dX8_laws_81 hl (k := 3) rfl (by rw [ex27]; rfl) (by decide) rfl (fun ls hl => ?_)
              obtain ⟨hx27, ax27⟩ := rg_add 1 4 ex27 h16 (rg_k (by decide) : rg 1 1 1) (by decide)
              replace ax27 : x27.toInt = x43_4.toInt + 1 := ax27
              refine lv_goto (tgt := 43) hx hb dX8_laws_84 (by decide) ?_
              exact ih13_ x25 x27 i18 g18 _ _ _ h26 (rg_w hx27 (by decide) : rg 0 4 x27) hR18 hF18 hN18 hT hS (lv_sub hl [2, 3, 1, 0] rfl) (m_up ax27 hx27 (by decide) hm13_)
      exact L43_11 _ (0) (0) i10 g10 _ _ _ (rg_w (rg_k (by decide) : rg 0 0 0) (by decide) : rg 0 255 0) (rg_w (rg_k (by decide) : rg 0 0 0) (by decide) : rg 0 4 0) hR10 hF10 hN10 hT hS (lv_sub hl [3, 4, 1, 0] rfl) (Nat.lt_succ_self _)
    ·
      obtain ⟨eh6, hr6⟩ := hq
      rw [(Prod.mk.inj eh6).1, (Prod.mk.inj eh6).2] at hT
      refine lv_goto (tgt := 20) hx hb dX8_laws_15 (by decide) ?_
      refine lv_istore_n (lv' := [(2, .int r6), (0, .ref (h 0)), (1, .int a_a)]) hx hb dX8_laws_20 rfl hl (by decide) rfl (fun ls hl => ?_)
      refine lv_iload_n hx hb dX8_laws_21 rfl (lv_at hl 0 rfl) ?_
      refine lv_if_eq (tgt := 27) hx hb dX8_laws_22 (by decide) (fun c28 => (x_eq hr6 (rg_k (by decide) : rg 0 0 0) (i_eq c28) (by decide)).elim) (fun c28 => ?_)
      have q28 : ¬ r6.toInt = 0 := i_ne c28
      refine lv_iload_n hx hb dX8_laws_25 rfl (lv_at hl 0 rfl) ?_
      exact hret r6 _ _ _ _ _ _ dX8_laws_26 hT hS ⟨hR, hF, (rg_w hr6 (by decide) : rg (-6) 255 r6)⟩
set_option maxRecDepth 100000 in
set_option maxHeartbeats 4000000 in
theorem m_X8_readByLaw {l : Launch} {D : va_G} {h : Nat → Nat} {cz : Nat → ClassId} {z : EZ} {i : Nat → Nat → Int32} {g : Nat → Nat → Int64} (hR : Rg rA i) (a_a : Int32) : DtI l yX8_readByLaw cX8_readByLaw 2 (some .int) ({ frames := 5, cells := 0, slots := 0, locals := 133 } : Room) D h cz z i g [.ref (h 0), .int a_a] (fun r u => Rg rA u.1 ∧ Fr [72, 73, 74, 75, 76, 77, 78] [] i g u) := by
  refine e_I pn_X8_readByLaw (Nat.le_of_ble_eq_true rfl) ?_
  intro p e s m args below meth c ls Q X Y hret hT hl hS
  have hx := X.1
  have hb := X.2.1
  have hl : lv_has ls 2 [(0, .ref (h 0)), (1, .int a_a)] := hl
  have hF : Fr [72, 73, 74, 75, 76, 77, 78] [] i g (i, g) := Fr_rf _ _ _ _
  refine lv_aload_n hx hb dX8_readByLaw_0 rfl (lv_at hl 0 rfl) ?_
  refine lv_aload_n hx hb dX8_readByLaw_1 rfl (lv_at hl 0 rfl) ?_
  refine r_getr X hT 0 3 15 fk_8_32 rfl rfl (by decide) dX8_readByLaw_2 ?_
  refine e_Vi (As := []) (rest := [.ref (h 0)]) X Y hT hS (m_X6_everyKnife_15 hR) mk_X6_everyKnife gm_748 rfl rfl (by decide) hd_X6_everyKnife ⟨rfl, rfl⟩ ⟨Nat.le_of_ble_eq_true rfl, Nat.le_of_ble_eq_true rfl⟩ hl.1 rfl (Nat.le_of_ble_eq_true rfl) dX8_readByLaw_5 ⟨Nat.zero_le _, Nat.zero_le _⟩ (fun r1 i1 g1 H locs hq hT hS => ?_)
  obtain ⟨eh1, hr1⟩ := hq
  rw [(Prod.mk.inj eh1).1, (Prod.mk.inj eh1).2] at hT
  refine e_Vv (As := [.int r1]) (rest := []) X Y hT hS (m_X8_asNow hR r1) mk_X8_asNow gm_1131 rfl rfl (by decide) hd_X8_asNow ⟨rfl, rfl⟩ ⟨Nat.le_of_ble_eq_true rfl, Nat.le_of_ble_eq_true rfl⟩ hl.1 rfl (Nat.le_of_ble_eq_true rfl) dX8_readByLaw_8 ⟨Nat.zero_le _, Nat.zero_le _⟩ (fun i2 g2 H locs hq hT hS => ?_)
  obtain ⟨hR2, hf2⟩ := hq
  have hF2 := Fr_tr hF hf2 (by decide)
  refine lv_aload_n hx hb dX8_readByLaw_11 rfl (lv_at hl 0 rfl) ?_
  refine r_getr X hT 0 8 72 fk_8_59 rfl rfl (by decide) dX8_readByLaw_12 ?_
  refine lv_iload_n hx hb dX8_readByLaw_15 rfl (lv_at hl 1 rfl) ?_
  refine r_puti X hT hS 72 7 pk_8_321 rfl rfl rfl rfl (by decide) dX8_readByLaw_16 (fun H locs i3 ei3 hT hS => ?_)
  have hR3 := Rg_put hR2 ei3 (-2147483648) 2147483647 rfl (rg_top a_a) (by decide)
  have hF3 := Fr_puti hF2 ei3 (by decide)
  refine lv_aload_n hx hb dX8_readByLaw_19 rfl (lv_at hl 0 rfl) ?_
  refine r_getr X hT 0 8 72 fk_8_59 rfl rfl (by decide) dX8_readByLaw_20 ?_
  refine e_Vi (As := []) (rest := []) X Y hT hS (m_X0_readInAll_72 hR3) mk_X0_readInAll gm_840 rfl rfl (by decide) hd_X0_readInAll ⟨rfl, rfl⟩ ⟨Nat.le_of_ble_eq_true rfl, Nat.le_of_ble_eq_true rfl⟩ hl.1 rfl (Nat.le_of_ble_eq_true rfl) dX8_readByLaw_23 ⟨Nat.zero_le _, Nat.zero_le _⟩ (fun r4 i4 g4 H locs hq hT hS => ?_)
  obtain ⟨hR4, hf4⟩ := hq
  have hF4 := Fr_tr hF3 hf4 (by decide)
  exact hret r4 _ _ _ _ _ _ dX8_readByLaw_26 hT hS ⟨hR4, hF4⟩
set_option maxRecDepth 100000 in
set_option maxHeartbeats 4000000 in
theorem m_X8_by {l : Launch} {D : va_G} {h : Nat → Nat} {cz : Nat → ClassId} {z : EZ} {i : Nat → Nat → Int32} {g : Nat → Nat → Int64} (hR : Rg rA i) (a_a : Int32) : DtI l yX8_by cX8_by 2 (some .int) ({ frames := 6, cells := 0, slots := 0, locals := 154 } : Room) D h cz z i g [.ref (h 0), .int a_a] (fun r u => Rg rA u.1 ∧ Fr [72, 73, 74, 75, 76, 77, 78] [] i g u) := by
  refine e_I pn_X8_by (Nat.le_of_ble_eq_true rfl) ?_
  intro p e s m args below meth c ls Q X Y hret hT hl hS
  have hx := X.1
  have hb := X.2.1
  have hl : lv_has ls 2 [(0, .ref (h 0)), (1, .int a_a)] := hl
  have hF : Fr [72, 73, 74, 75, 76, 77, 78] [] i g (i, g) := Fr_rf _ _ _ _
  refine lv_aload_n hx hb dX8_by_0 rfl (lv_at hl 0 rfl) ?_
  refine r_getr X hT 0 3 15 fk_8_32 rfl rfl (by decide) dX8_by_1 ?_
  refine e_Vi (As := []) (rest := []) X Y hT hS (m_X6_isTold_15 hR) mk_X6_isTold gm_698 rfl rfl (by decide) hd_X6_isTold ⟨rfl, rfl⟩ ⟨Nat.le_of_ble_eq_true rfl, Nat.le_of_ble_eq_true rfl⟩ hl.1 rfl (Nat.le_of_ble_eq_true rfl) dX8_by_4 ⟨Nat.zero_le _, Nat.zero_le _⟩ (fun r1 i1 g1 H locs hq hT hS => ?_)
  obtain ⟨eh1, hr1⟩ := hq
  rw [(Prod.mk.inj eh1).1, (Prod.mk.inj eh1).2] at hT
  refine lv_if_eq (tgt := 27) hx hb dX8_by_7 (by decide) (fun c2 => ?_) (fun c2 => ?_)
  ·
    have q2 : r1.toInt = 0 := i_eq c2
    have h3 : rg 0 0 r1 := t_eqx 0 0 hr1 (rg_k (by decide) : rg 0 0 0) (i_eq c2) (by decide)
    refine lv_bipush (v := (-2)) hx hb dX8_by_27 (by decide) ?_
    exact hret (-2) _ _ _ _ _ _ dX8_by_29 hT hS ⟨hR, hF⟩
  ·
    have q2 : ¬ r1.toInt = 0 := i_ne c2
    have h4 : rg 1 1 r1 := t_nelo 1 hr1 (rg_k (by decide) : rg 0 0 0) (i_ne c2) (by decide)
    refine lv_iload_n hx hb dX8_by_10 rfl (lv_at hl 1 rfl) ?_
    refine lv_if_lt (tgt := 27) hx hb dX8_by_11 (by decide) (fun c5 => ?_) (fun c5 => ?_)
    ·
      have q5 : a_a.toInt < 0 := i_lt c5
      have h6 : rg (-2147483648) (-1) a_a := t_ltx (-2147483648) (-1) (rg_top a_a) (rg_k (by decide) : rg 0 0 0) (i_lt c5) (by decide)
      refine lv_bipush (v := (-2)) hx hb dX8_by_27 (by decide) ?_
      exact hret (-2) _ _ _ _ _ _ dX8_by_29 hT hS ⟨hR, hF⟩
    ·
      have q5 : 0 ≤ a_a.toInt := i_nlt c5
      have h7 : rg 0 2147483647 a_a := t_ley 0 2147483647 (rg_k (by decide) : rg 0 0 0) (rg_top a_a) (i_nlt c5) (by decide)
      refine lv_iload_n hx hb dX8_by_14 rfl (lv_at hl 1 rfl) ?_
      refine lv_iconst (v := 4) hx hb dX8_by_15 (by decide) ?_
      refine lv_icmp_ge (tgt := 27) hx hb dX8_by_16 (by decide) (fun c8 => ?_) (fun c8 => ?_)
      ·
        have q8 : 4 ≤ a_a.toInt := i_le c8
        have h9 : rg 4 2147483647 a_a := t_ley 4 2147483647 (rg_k (by decide) : rg 4 4 4) h7 (i_le c8) (by decide)
        refine lv_bipush (v := (-2)) hx hb dX8_by_27 (by decide) ?_
        exact hret (-2) _ _ _ _ _ _ dX8_by_29 hT hS ⟨hR, hF⟩
      ·
        have q8 : a_a.toInt < 4 := i_nle c8
        have h10 : rg 0 3 a_a := t_ltx 0 3 h7 (rg_k (by decide) : rg 4 4 4) (i_nle c8) (by decide)
        refine lv_aload_n hx hb dX8_by_19 rfl (lv_at hl 0 rfl) ?_
        refine lv_iload_n hx hb dX8_by_20 rfl (lv_at hl 1 rfl) ?_
        refine e_Vi (As := [.int a_a]) (rest := []) X Y hT hS (m_X8_readByLaw hR a_a) mk_X8_readByLaw gm_1140 rfl rfl (by decide) hd_X8_readByLaw ⟨rfl, rfl⟩ ⟨Nat.le_of_ble_eq_true rfl, Nat.le_of_ble_eq_true rfl⟩ hl.1 rfl (Nat.le_of_ble_eq_true rfl) dX8_by_21 ⟨Nat.zero_le _, Nat.zero_le _⟩ (fun r11 i11 g11 H locs hq hT hS => ?_)
        obtain ⟨hR11, hf11⟩ := hq
        have hF11 := Fr_tr hF hf11 (by decide)
        refine lv_goto (tgt := 29) hx hb dX8_by_24 (by decide) ?_
        exact hret r11 _ _ _ _ _ _ dX8_by_29 hT hS ⟨hR11, hF11⟩
set_option maxRecDepth 100000 in
set_option maxHeartbeats 4000000 in
theorem m_X8_law {l : Launch} {D : va_G} {h : Nat → Nat} {cz : Nat → ClassId} {z : EZ} {i : Nat → Nat → Int32} {g : Nat → Nat → Int64} (hR : Rg rA i) : DtI l yX8_law cX8_law 5 (some .int) ({ frames := 6, cells := 0, slots := 0, locals := 154 } : Room) D h cz z i g [.ref (h 0)] (fun r u => Rg rA u.1 ∧ Fr [72, 73, 74, 75, 76, 77, 78] [] i g u ∧ rg (-2) 3 r) := by
  refine e_I pn_X8_law (Nat.le_of_ble_eq_true rfl) ?_
  intro p e s m args below meth c ls Q X Y hret hT hl hS
  have hx := X.1
  have hb := X.2.1
  have hl : lv_has ls 5 [(0, .ref (h 0))] := hl
  have hF : Fr [72, 73, 74, 75, 76, 77, 78] [] i g (i, g) := Fr_rf _ _ _ _
  refine lv_aload_n hx hb dX8_law_0 rfl (lv_at hl 0 rfl) ?_
  refine r_getr X hT 0 3 15 fk_8_32 rfl rfl (by decide) dX8_law_1 ?_
  refine e_Vi (As := []) (rest := []) X Y hT hS (m_X6_isTold_15 hR) mk_X6_isTold gm_698 rfl rfl (by decide) hd_X6_isTold ⟨rfl, rfl⟩ ⟨Nat.le_of_ble_eq_true rfl, Nat.le_of_ble_eq_true rfl⟩ hl.1 rfl (Nat.le_of_ble_eq_true rfl) dX8_law_4 ⟨Nat.zero_le _, Nat.zero_le _⟩ (fun r1 i1 g1 H locs hq hT hS => ?_)
  obtain ⟨eh1, hr1⟩ := hq
  rw [(Prod.mk.inj eh1).1, (Prod.mk.inj eh1).2] at hT
  refine lv_if_ne (tgt := 13) hx hb dX8_law_7 (by decide) (fun c2 => ?_) (fun c2 => ?_)
  ·
    have q2 : ¬ r1.toInt = 0 := i_ne c2
    have h3 : rg 1 1 r1 := t_nelo 1 hr1 (rg_k (by decide) : rg 0 0 0) (i_ne c2) (by decide)
    refine lv_iconst (v := 0) hx hb dX8_law_13 (by decide) ?_
    refine lv_istore_n (lv' := [(1, .int 0), (0, .ref (h 0))]) hx hb dX8_law_14 rfl hl (by decide) rfl (fun ls hl => ?_)
    refine lv_iconst (v := (-1)) hx hb dX8_law_15 (by decide) ?_
    refine lv_istore_n (lv' := [(2, .int (-1)), (1, .int 0), (0, .ref (h 0))]) hx hb dX8_law_16 rfl hl (by decide) rfl (fun ls hl => ?_)
    refine lv_iconst (v := 0) hx hb dX8_law_17 (by decide) ?_
    refine lv_istore_n (lv' := [(3, .int 0), (2, .int (-1)), (1, .int 0), (0, .ref (h 0))]) hx hb dX8_law_18 rfl hl (by decide) rfl (fun ls hl => ?_)
    have L19_4 : ∀ (n6_ : Nat) (x19_1 : Int32) (x19_2 : Int32) (x19_3 : Int32) (i5 : Nat → Nat → Int32) (g5 : Nat → Nat → Int64) (H : Heap) (locs : List Loc) (ls : Array Slot), rg 0 3 x19_1 → rg (-1) 2147483647 x19_2 → rg 0 4 x19_3 → Rg rA i5 → Fr [72, 73, 74, 75, 76, 77, 78] [] i g (i5, g5) → TH D h cz i5 g5 H → va_S (hA h) s.heap H locs → lv_has ls 5 [(0, .ref (h 0)), (1, .int x19_1), (2, .int x19_2), (3, .int x19_3)] → (4 - x19_3.toInt).toNat < n6_ → W p l e ({ frames := 6, cells := 0, slots := 0, locals := 154 } : Room) s m args below meth c H locs 0 0 Q (F0 m 19 ls []) := by
      intro n6_
      induction n6_ with
      | zero => intro x19_1 x19_2 x19_3 i5 g5 H locs ls hhx19_1 hhx19_2 hhx19_3 hR5 hF5 hT hS hl hm6_; exact absurd hm6_ (Nat.not_lt_zero _)
      | succ n6_ ih6_ =>
        intro x19_1 x19_2 x19_3 i5 g5 H locs ls hhx19_1 hhx19_2 hhx19_3 hR5 hF5 hT hS hl hm6_
        refine lv_iload_n hx hb dX8_law_19 rfl (lv_at hl 3 rfl) ?_
        refine lv_iconst (v := 4) hx hb dX8_law_20 (by decide) ?_
        refine lv_icmp_ge (tgt := 48) hx hb dX8_law_21 (by decide) (fun c7 => ?_) (fun c7 => ?_)
        ·
          have q7 : 4 ≤ x19_3.toInt := i_le c7
          have h8 : rg 4 4 x19_3 := t_ley 4 4 (rg_k (by decide) : rg 4 4 4) hhx19_3 (i_le c7) (by decide)
          refine lv_iload_n hx hb dX8_law_48 rfl (lv_at hl 1 rfl) ?_
          exact hret x19_1 _ _ _ _ _ _ dX8_law_49 hT hS ⟨hR5, hF5, (rg_w hhx19_1 (by decide) : rg (-2) 3 x19_1)⟩
        ·
          have q7 : x19_3.toInt < 4 := i_nle c7
          have h9 : rg 0 3 x19_3 := t_ltx 0 3 hhx19_3 (rg_k (by decide) : rg 4 4 4) (i_nle c7) (by decide)
          refine lv_aload_n hx hb dX8_law_24 rfl (lv_at hl 0 rfl) ?_
          refine lv_iload_n hx hb dX8_law_25 rfl (lv_at hl 3 rfl) ?_
          refine e_Vi (As := [.int x19_3]) (rest := []) X Y hT hS (m_X8_readByLaw hR5 x19_3) mk_X8_readByLaw gm_1140 rfl rfl (by decide) hd_X8_readByLaw ⟨rfl, rfl⟩ ⟨Nat.le_of_ble_eq_true rfl, Nat.le_of_ble_eq_true rfl⟩ hl.1 rfl (Nat.le_of_ble_eq_true rfl) dX8_law_26 ⟨Nat.zero_le _, Nat.zero_le _⟩ (fun r10 i10 g10 H locs hq hT hS => ?_)
          obtain ⟨hR10, hf10⟩ := hq
          have hF10 := Fr_tr hF5 hf10 (by decide)
          refine lv_istore (lv' := [(4, .int r10), (0, .ref (h 0)), (1, .int x19_1), (2, .int x19_2), (3, .int x19_3)]) hx hb dX8_law_29 hl (by decide) rfl (fun ls hl => ?_)
          refine lv_iload hx hb dX8_law_31 (lv_at hl 0 rfl) ?_
          refine lv_iload_n hx hb dX8_law_33 rfl (lv_at hl 3 rfl) ?_
          refine lv_icmp_le (tgt := 42) hx hb dX8_law_34 (by decide) (fun c11 => ?_) (fun c11 => ?_)
          ·
            have q11 : r10.toInt ≤ x19_2.toInt := i_le c11
            obtain ⟨x12, ex12⟩ : ∃ y : Int32, y = x19_3 + 1 := ⟨_, rfl⟩
            refine lv_iinc (v := x12) (lv' := [(3, .int x12), (4, .int r10), (0, .ref (h 0)), (1, .int x19_1), (2, .int x19_2)]) hx hb dX8_law_42 hl (k := 4) rfl (by rw [ex12]; rfl) (by decide) rfl (fun ls hl => ?_)
            obtain ⟨hx12, ax12⟩ := rg_add 1 4 ex12 h9 (rg_k (by decide) : rg 1 1 1) (by decide)
            replace ax12 : x12.toInt = x19_3.toInt + 1 := ax12
            refine lv_goto (tgt := 19) hx hb dX8_law_45 (by decide) ?_
            exact ih6_ x19_1 x19_2 x12 i10 g10 _ _ _ hhx19_1 hhx19_2 (rg_w hx12 (by decide) : rg 0 4 x12) hR10 hF10 hT hS (lv_sub hl [2, 3, 4, 0] rfl) (m_up ax12 hx12 (by decide) hm6_)
          ·
            have q11 : x19_2.toInt < r10.toInt := i_nle c11
            have h13 : rg (-1) 2147483646 x19_2 := t_ltx (-1) 2147483646 hhx19_2 (rg_top r10) (i_nle c11) (by decide)
            have h14 : rg 0 2147483647 r10 := t_lty 0 2147483647 hhx19_2 (rg_top r10) (i_nle c11) (by decide)
            refine lv_iload hx hb dX8_law_37 (lv_at hl 0 rfl) ?_
            refine lv_istore_n (lv' := [(2, .int r10), (4, .int r10), (0, .ref (h 0)), (1, .int x19_1), (3, .int x19_3)]) hx hb dX8_law_39 rfl hl (by decide) rfl (fun ls hl => ?_)
            refine lv_iload_n hx hb dX8_law_40 rfl (lv_at hl 4 rfl) ?_
            refine lv_istore_n (lv' := [(1, .int x19_3), (2, .int r10), (4, .int r10), (0, .ref (h 0)), (3, .int x19_3)]) hx hb dX8_law_41 rfl hl (by decide) rfl (fun ls hl => ?_)
            obtain ⟨x15, ex15⟩ : ∃ y : Int32, y = x19_3 + 1 := ⟨_, rfl⟩
            refine lv_iinc (v := x15) (lv' := [(3, .int x15), (1, .int x19_3), (2, .int r10), (4, .int r10), (0, .ref (h 0))]) hx hb dX8_law_42 hl (k := 4) rfl (by rw [ex15]; rfl) (by decide) rfl (fun ls hl => ?_)
            obtain ⟨hx15, ax15⟩ := rg_add 1 4 ex15 h9 (rg_k (by decide) : rg 1 1 1) (by decide)
            replace ax15 : x15.toInt = x19_3.toInt + 1 := ax15
            refine lv_goto (tgt := 19) hx hb dX8_law_45 (by decide) ?_
            exact ih6_ x19_3 r10 x15 i10 g10 _ _ _ h9 (rg_w h14 (by decide) : rg (-1) 2147483647 r10) (rg_w hx15 (by decide) : rg 0 4 x15) hR10 hF10 hT hS (lv_sub hl [4, 1, 2, 0] rfl) (m_up ax15 hx15 (by decide) hm6_)
    exact L19_4 _ (0) ((-1)) (0) i g _ _ _ (rg_w (rg_k (by decide) : rg 0 0 0) (by decide) : rg 0 3 0) (rg_w (rg_k (by decide) : rg (-1) (-1) (-1)) (by decide) : rg (-1) 2147483647 (-1)) (rg_w (rg_k (by decide) : rg 0 0 0) (by decide) : rg 0 4 0) hR hF hT hS (lv_sub hl [3, 2, 1, 0] rfl) (Nat.lt_succ_self _)
  ·
    have q2 : r1.toInt = 0 := i_eq c2
    have h16 : rg 0 0 r1 := t_eqx 0 0 hr1 (rg_k (by decide) : rg 0 0 0) (i_eq c2) (by decide)
    refine lv_bipush (v := (-2)) hx hb dX8_law_10 (by decide) ?_
    exact hret (-2) _ _ _ _ _ _ dX8_law_12 hT hS ⟨hR, hF, (rg_w (rg_k (by decide) : rg (-2) (-2) (-2)) (by decide) : rg (-2) 3 (-2))⟩
set_option maxRecDepth 100000 in
set_option maxHeartbeats 4000000 in
theorem m_X8_blunt {l : Launch} {D : va_G} {h : Nat → Nat} {cz : Nat → ClassId} {z : EZ} {i : Nat → Nat → Int32} {g : Nat → Nat → Int64} (hR : Rg rA i) : DtI l yX8_blunt cX8_blunt 5 (some .int) ({ frames := 5, cells := 0, slots := 0, locals := 133 } : Room) D h cz z i g [.ref (h 0)] (fun r u => Rg rA u.1 ∧ Fr [0, 65, 66, 67, 68, 69, 70, 71, 72, 73, 74, 75, 76, 77, 78] [] i g u ∧ rg (-2) 8 r) := by
  refine e_I pn_X8_blunt (Nat.le_of_ble_eq_true rfl) ?_
  intro p e s m args below meth c ls Q X Y hret hT hl hS
  have hx := X.1
  have hb := X.2.1
  have hl : lv_has ls 5 [(0, .ref (h 0))] := hl
  have hF : Fr [0, 65, 66, 67, 68, 69, 70, 71, 72, 73, 74, 75, 76, 77, 78] [] i g (i, g) := Fr_rf _ _ _ _
  refine lv_aload_n hx hb dX8_blunt_0 rfl (lv_at hl 0 rfl) ?_
  refine r_getr X hT 0 3 15 fk_8_32 rfl rfl (by decide) dX8_blunt_1 ?_
  refine e_Vi (As := []) (rest := []) X Y hT hS (m_X6_isTold_15 hR) mk_X6_isTold gm_698 rfl rfl (by decide) hd_X6_isTold ⟨rfl, rfl⟩ ⟨Nat.le_of_ble_eq_true rfl, Nat.le_of_ble_eq_true rfl⟩ hl.1 rfl (Nat.le_of_ble_eq_true rfl) dX8_blunt_4 ⟨Nat.zero_le _, Nat.zero_le _⟩ (fun r1 i1 g1 H locs hq hT hS => ?_)
  obtain ⟨eh1, hr1⟩ := hq
  rw [(Prod.mk.inj eh1).1, (Prod.mk.inj eh1).2] at hT
  refine lv_if_ne (tgt := 13) hx hb dX8_blunt_7 (by decide) (fun c2 => ?_) (fun c2 => ?_)
  ·
    have q2 : ¬ r1.toInt = 0 := i_ne c2
    have h3 : rg 1 1 r1 := t_nelo 1 hr1 (rg_k (by decide) : rg 0 0 0) (i_ne c2) (by decide)
    refine lv_iconst (v := (-1)) hx hb dX8_blunt_13 (by decide) ?_
    refine lv_istore_n (lv' := [(1, .int (-1)), (0, .ref (h 0))]) hx hb dX8_blunt_14 rfl hl (by decide) rfl (fun ls hl => ?_)
    refine lv_aload_n hx hb dX8_blunt_15 rfl (lv_at hl 1 rfl) ?_
    refine e_Vr (As := []) (rest := []) X Y hT hS (m_X8_current hR) mk_X8_current gm_736 rfl rfl (by decide) hd_X8_current ⟨rfl, rfl⟩ ⟨Nat.le_of_ble_eq_true rfl, Nat.le_of_ble_eq_true rfl⟩ hl.1 rfl (Nat.le_of_ble_eq_true rfl) dX8_blunt_16 ⟨Nat.zero_le _, Nat.zero_le _⟩ (fun i4 g4 H locs hq hT hS => ?_)
    obtain ⟨hR4, hf4⟩ := hq
    have hF4 := Fr_tr hF hf4 (by decide)
    refine e_Vi (As := []) (rest := []) X Y hT hS (m_X0_readInAll_65 hR4) mk_X0_readInAll gm_840 rfl rfl (by decide) hd_X0_readInAll ⟨rfl, rfl⟩ ⟨Nat.le_of_ble_eq_true rfl, Nat.le_of_ble_eq_true rfl⟩ hl.1 rfl (Nat.le_of_ble_eq_true rfl) dX8_blunt_19 ⟨Nat.zero_le _, Nat.zero_le _⟩ (fun r5 i5 g5 H locs hq hT hS => ?_)
    obtain ⟨hR5, hf5⟩ := hq
    have hF5 := Fr_tr hF4 hf5 (by decide)
    refine lv_istore_n (lv' := [(2, .int r5), (1, .int (-1)), (0, .ref (h 0))]) hx hb dX8_blunt_22 rfl hl (by decide) rfl (fun ls hl => ?_)
    refine lv_iconst (v := 0) hx hb dX8_blunt_23 (by decide) ?_
    refine lv_istore_n (lv' := [(3, .int 0), (2, .int r5), (1, .int (-1)), (0, .ref (h 0))]) hx hb dX8_blunt_24 rfl hl (by decide) rfl (fun ls hl => ?_)
    have L25_6 : ∀ (n8_ : Nat) (x25_1 : Int32) (x25_2 : Int32) (x25_3 : Int32) (i7 : Nat → Nat → Int32) (g7 : Nat → Nat → Int64) (H : Heap) (locs : List Loc) (ls : Array Slot), rg (-1) 8 x25_1 → rg 0 8 x25_3 → Rg rA i7 → Fr [0, 65, 66, 67, 68, 69, 70, 71, 72, 73, 74, 75, 76, 77, 78] [] i g (i7, g7) → TH D h cz i7 g7 H → va_S (hA h) s.heap H locs → lv_has ls 5 [(0, .ref (h 0)), (1, .int x25_1), (2, .int x25_2), (3, .int x25_3)] → (8 - x25_3.toInt).toNat < n8_ → W p l e ({ frames := 5, cells := 0, slots := 0, locals := 133 } : Room) s m args below meth c H locs 0 0 Q (F0 m 25 ls []) := by
      intro n8_
      induction n8_ with
      | zero => intro x25_1 x25_2 x25_3 i7 g7 H locs ls hhx25_1 hhx25_3 hR7 hF7 hT hS hl hm8_; exact absurd hm8_ (Nat.not_lt_zero _)
      | succ n8_ ih8_ =>
        intro x25_1 x25_2 x25_3 i7 g7 H locs ls hhx25_1 hhx25_3 hR7 hF7 hT hS hl hm8_
        refine lv_iload_n hx hb dX8_blunt_25 rfl (lv_at hl 3 rfl) ?_
        refine lv_aload_n hx hb dX8_blunt_26 rfl (lv_at hl 0 rfl) ?_
        refine r_getr X hT 0 3 15 fk_8_32 rfl rfl (by decide) dX8_blunt_27 ?_
        refine r_geti X hT 15 15 fk_8_162 rfl rfl (by decide) dX8_blunt_30 ?_
        refine lv_icmp_ge (tgt := 79) hx hb dX8_blunt_33 (by decide) (fun c9 => ?_) (fun c9 => ?_)
        ·
          have q9 : (i7 15 15).toInt ≤ x25_3.toInt := i_le c9
          refine lv_iload_n hx hb dX8_blunt_79 rfl (lv_at hl 1 rfl) ?_
          exact hret x25_1 _ _ _ _ _ _ dX8_blunt_80 hT hS ⟨hR7, hF7, (rg_w hhx25_1 (by decide) : rg (-2) 8 x25_1)⟩
        ·
          have q9 : x25_3.toInt < (i7 15 15).toInt := i_nle c9
          have h10 : rg 0 7 x25_3 := t_ltx 0 7 hhx25_3 (Rg_at hR7 15 15 0 8 (by decide) rfl) (i_nle c9) (by decide)
          have h11 : rg 1 8 (i7 15 15) := t_lty 1 8 hhx25_3 (Rg_at hR7 15 15 0 8 (by decide) rfl) (i_nle c9) (by decide)
          refine lv_aload_n hx hb dX8_blunt_36 rfl (lv_at hl 0 rfl) ?_
          refine lv_aload_n hx hb dX8_blunt_37 rfl (lv_at hl 0 rfl) ?_
          refine r_getr X hT 0 3 15 fk_8_32 rfl rfl (by decide) dX8_blunt_38 ?_
          refine e_Vi (As := []) (rest := [.ref (h 0)]) X Y hT hS (m_X6_everyKnife_15 hR7) mk_X6_everyKnife gm_748 rfl rfl (by decide) hd_X6_everyKnife ⟨rfl, rfl⟩ ⟨Nat.le_of_ble_eq_true rfl, Nat.le_of_ble_eq_true rfl⟩ hl.1 rfl (Nat.le_of_ble_eq_true rfl) dX8_blunt_41 ⟨Nat.zero_le _, Nat.zero_le _⟩ (fun r12 i12 g12 H locs hq hT hS => ?_)
          obtain ⟨eh12, hr12⟩ := hq
          rw [(Prod.mk.inj eh12).1, (Prod.mk.inj eh12).2] at hT
          refine lv_iconst (v := 1) hx hb dX8_blunt_44 (by decide) ?_
          refine lv_iload_n hx hb dX8_blunt_45 rfl (lv_at hl 3 rfl) ?_
          refine q_ishl hx hb dX8_blunt_46 (fun x13 ex13 => ?_)
          have h14 : rg 1 128 x13 := rg_shl1 ex13 h10 (by decide)
          refine lv_iconst (v := (-1)) hx hb dX8_blunt_47 (by decide) ?_
          refine q_ixor hx hb dX8_blunt_48 (fun x15 ex15 => ?_)
          refine q_iand hx hb dX8_blunt_49 (fun x16 ex16 => ?_)
          have h17 : rg 0 255 x16 := rg_andl ex16 hr12 (by decide)
          refine e_Vv (As := [.int x16]) (rest := []) X Y hT hS (m_X8_asNow hR7 x16) mk_X8_asNow gm_1131 rfl rfl (by decide) hd_X8_asNow ⟨rfl, rfl⟩ ⟨Nat.le_of_ble_eq_true rfl, Nat.le_of_ble_eq_true rfl⟩ hl.1 rfl (Nat.le_of_ble_eq_true rfl) dX8_blunt_50 ⟨Nat.zero_le _, Nat.zero_le _⟩ (fun i18 g18 H locs hq hT hS => ?_)
          obtain ⟨hR18, hf18⟩ := hq
          have hF18 := Fr_tr hF7 hf18 (by decide)
          refine lv_aload_n hx hb dX8_blunt_53 rfl (lv_at hl 0 rfl) ?_
          refine r_getr X hT 0 8 72 fk_8_59 rfl rfl (by decide) dX8_blunt_54 ?_
          refine e_Vi (As := []) (rest := []) X Y hT hS (m_X0_readInAll_72 hR18) mk_X0_readInAll gm_840 rfl rfl (by decide) hd_X0_readInAll ⟨rfl, rfl⟩ ⟨Nat.le_of_ble_eq_true rfl, Nat.le_of_ble_eq_true rfl⟩ hl.1 rfl (Nat.le_of_ble_eq_true rfl) dX8_blunt_57 ⟨Nat.zero_le _, Nat.zero_le _⟩ (fun r19 i19 g19 H locs hq hT hS => ?_)
          obtain ⟨hR19, hf19⟩ := hq
          have hF19 := Fr_tr hF18 hf19 (by decide)
          refine lv_istore (lv' := [(4, .int r19), (0, .ref (h 0)), (1, .int x25_1), (2, .int x25_2), (3, .int x25_3)]) hx hb dX8_blunt_60 hl (by decide) rfl (fun ls hl => ?_)
          refine lv_iload hx hb dX8_blunt_62 (lv_at hl 0 rfl) ?_
          refine lv_iload_n hx hb dX8_blunt_64 rfl (lv_at hl 3 rfl) ?_
          refine lv_icmp_le (tgt := 73) hx hb dX8_blunt_65 (by decide) (fun c20 => ?_) (fun c20 => ?_)
          ·
            have q20 : r19.toInt ≤ x25_2.toInt := i_le c20
            obtain ⟨x21, ex21⟩ : ∃ y : Int32, y = x25_3 + 1 := ⟨_, rfl⟩
            refine lv_iinc (v := x21) (lv' := [(3, .int x21), (4, .int r19), (0, .ref (h 0)), (1, .int x25_1), (2, .int x25_2)]) hx hb dX8_blunt_73 hl (k := 4) rfl (by rw [ex21]; rfl) (by decide) rfl (fun ls hl => ?_)
            obtain ⟨hx21, ax21⟩ := rg_add 1 8 ex21 h10 (rg_k (by decide) : rg 1 1 1) (by decide)
            replace ax21 : x21.toInt = x25_3.toInt + 1 := ax21
            refine lv_goto (tgt := 25) hx hb dX8_blunt_76 (by decide) ?_
            exact ih8_ x25_1 x25_2 x21 i19 g19 _ _ _ hhx25_1 (rg_w hx21 (by decide) : rg 0 8 x21) hR19 hF19 hT hS (lv_sub hl [2, 3, 4, 0] rfl) (m_up ax21 hx21 (by decide) hm8_)
          ·
            have q20 : x25_2.toInt < r19.toInt := i_nle c20
            have h22 : rg (-2147483648) 2147483646 x25_2 := t_ltx (-2147483648) 2147483646 (rg_top x25_2) (rg_top r19) (i_nle c20) (by decide)
            have h23 : rg (-2147483647) 2147483647 r19 := t_lty (-2147483647) 2147483647 (rg_top x25_2) (rg_top r19) (i_nle c20) (by decide)
            refine lv_iload hx hb dX8_blunt_68 (lv_at hl 0 rfl) ?_
            refine lv_istore_n (lv' := [(2, .int r19), (4, .int r19), (0, .ref (h 0)), (1, .int x25_1), (3, .int x25_3)]) hx hb dX8_blunt_70 rfl hl (by decide) rfl (fun ls hl => ?_)
            refine lv_iload_n hx hb dX8_blunt_71 rfl (lv_at hl 4 rfl) ?_
            refine lv_istore_n (lv' := [(1, .int x25_3), (2, .int r19), (4, .int r19), (0, .ref (h 0)), (3, .int x25_3)]) hx hb dX8_blunt_72 rfl hl (by decide) rfl (fun ls hl => ?_)
            obtain ⟨x24, ex24⟩ : ∃ y : Int32, y = x25_3 + 1 := ⟨_, rfl⟩
            refine lv_iinc (v := x24) (lv' := [(3, .int x24), (1, .int x25_3), (2, .int r19), (4, .int r19), (0, .ref (h 0))]) hx hb dX8_blunt_73 hl (k := 4) rfl (by rw [ex24]; rfl) (by decide) rfl (fun ls hl => ?_)
            obtain ⟨hx24, ax24⟩ := rg_add 1 8 ex24 h10 (rg_k (by decide) : rg 1 1 1) (by decide)
            replace ax24 : x24.toInt = x25_3.toInt + 1 := ax24
            refine lv_goto (tgt := 25) hx hb dX8_blunt_76 (by decide) ?_
            exact ih8_ x25_3 r19 x24 i19 g19 _ _ _ (rg_w h10 (by decide) : rg (-1) 8 x25_3) (rg_w hx24 (by decide) : rg 0 8 x24) hR19 hF19 hT hS (lv_sub hl [4, 1, 2, 0] rfl) (m_up ax24 hx24 (by decide) hm8_)
    exact L25_6 _ ((-1)) r5 (0) i5 g5 _ _ _ (rg_w (rg_k (by decide) : rg (-1) (-1) (-1)) (by decide) : rg (-1) 8 (-1)) (rg_w (rg_k (by decide) : rg 0 0 0) (by decide) : rg 0 8 0) hR5 hF5 hT hS (lv_sub hl [3, 2, 1, 0] rfl) (Nat.lt_succ_self _)
  ·
    have q2 : r1.toInt = 0 := i_eq c2
    have h25 : rg 0 0 r1 := t_eqx 0 0 hr1 (rg_k (by decide) : rg 0 0 0) (i_eq c2) (by decide)
    refine lv_bipush (v := (-2)) hx hb dX8_blunt_10 (by decide) ?_
    exact hret (-2) _ _ _ _ _ _ dX8_blunt_12 hT hS ⟨hR, hF, (rg_w (rg_k (by decide) : rg (-2) (-2) (-2)) (by decide) : rg (-2) 8 (-2))⟩
set_option maxRecDepth 100000 in
set_option maxHeartbeats 4000000 in
theorem m_X8_slit {l : Launch} {D : va_G} {h : Nat → Nat} {cz : Nat → ClassId} {z : EZ} {i : Nat → Nat → Int32} {g : Nat → Nat → Int64} (hR : Rg rA i) : DtI l yX8_slit cX8_slit 5 (some .int) ({ frames := 5, cells := 0, slots := 0, locals := 133 } : Room) D h cz z i g [.ref (h 0)] (fun r u => Rg rA u.1 ∧ Fr [0, 65, 66, 67, 68, 69, 70, 71, 72, 73, 74, 75, 76, 77, 78] [] i g u ∧ rg (-2) 10 r) := by
  refine e_I pn_X8_slit (Nat.le_of_ble_eq_true rfl) ?_
  intro p e s m args below meth c ls Q X Y hret hT hl hS
  have hx := X.1
  have hb := X.2.1
  have hl : lv_has ls 5 [(0, .ref (h 0))] := hl
  have hF : Fr [0, 65, 66, 67, 68, 69, 70, 71, 72, 73, 74, 75, 76, 77, 78] [] i g (i, g) := Fr_rf _ _ _ _
  refine lv_aload_n hx hb dX8_slit_0 rfl (lv_at hl 0 rfl) ?_
  refine r_getr X hT 0 3 15 fk_8_32 rfl rfl (by decide) dX8_slit_1 ?_
  refine e_Vi (As := []) (rest := []) X Y hT hS (m_X6_isTold_15 hR) mk_X6_isTold gm_698 rfl rfl (by decide) hd_X6_isTold ⟨rfl, rfl⟩ ⟨Nat.le_of_ble_eq_true rfl, Nat.le_of_ble_eq_true rfl⟩ hl.1 rfl (Nat.le_of_ble_eq_true rfl) dX8_slit_4 ⟨Nat.zero_le _, Nat.zero_le _⟩ (fun r1 i1 g1 H locs hq hT hS => ?_)
  obtain ⟨eh1, hr1⟩ := hq
  rw [(Prod.mk.inj eh1).1, (Prod.mk.inj eh1).2] at hT
  refine lv_if_ne (tgt := 13) hx hb dX8_slit_7 (by decide) (fun c2 => ?_) (fun c2 => ?_)
  ·
    have q2 : ¬ r1.toInt = 0 := i_ne c2
    have h3 : rg 1 1 r1 := t_nelo 1 hr1 (rg_k (by decide) : rg 0 0 0) (i_ne c2) (by decide)
    refine lv_iconst (v := (-1)) hx hb dX8_slit_13 (by decide) ?_
    refine lv_istore_n (lv' := [(1, .int (-1)), (0, .ref (h 0))]) hx hb dX8_slit_14 rfl hl (by decide) rfl (fun ls hl => ?_)
    refine lv_aload_n hx hb dX8_slit_15 rfl (lv_at hl 1 rfl) ?_
    refine e_Vr (As := []) (rest := []) X Y hT hS (m_X8_current hR) mk_X8_current gm_736 rfl rfl (by decide) hd_X8_current ⟨rfl, rfl⟩ ⟨Nat.le_of_ble_eq_true rfl, Nat.le_of_ble_eq_true rfl⟩ hl.1 rfl (Nat.le_of_ble_eq_true rfl) dX8_slit_16 ⟨Nat.zero_le _, Nat.zero_le _⟩ (fun i4 g4 H locs hq hT hS => ?_)
    obtain ⟨hR4, hf4⟩ := hq
    have hF4 := Fr_tr hF hf4 (by decide)
    refine e_Vi (As := []) (rest := []) X Y hT hS (m_X0_readInAll_65 hR4) mk_X0_readInAll gm_840 rfl rfl (by decide) hd_X0_readInAll ⟨rfl, rfl⟩ ⟨Nat.le_of_ble_eq_true rfl, Nat.le_of_ble_eq_true rfl⟩ hl.1 rfl (Nat.le_of_ble_eq_true rfl) dX8_slit_19 ⟨Nat.zero_le _, Nat.zero_le _⟩ (fun r5 i5 g5 H locs hq hT hS => ?_)
    obtain ⟨hR5, hf5⟩ := hq
    have hF5 := Fr_tr hF4 hf5 (by decide)
    refine lv_istore_n (lv' := [(2, .int r5), (1, .int (-1)), (0, .ref (h 0))]) hx hb dX8_slit_22 rfl hl (by decide) rfl (fun ls hl => ?_)
    refine lv_iconst (v := 0) hx hb dX8_slit_23 (by decide) ?_
    refine lv_istore_n (lv' := [(3, .int 0), (2, .int r5), (1, .int (-1)), (0, .ref (h 0))]) hx hb dX8_slit_24 rfl hl (by decide) rfl (fun ls hl => ?_)
    have L25_6 : ∀ (n8_ : Nat) (x25_1 : Int32) (x25_2 : Int32) (x25_3 : Int32) (i7 : Nat → Nat → Int32) (g7 : Nat → Nat → Int64) (H : Heap) (locs : List Loc) (ls : Array Slot), rg (-1) 10 x25_1 → rg 0 10 x25_3 → Rg rA i7 → Fr [0, 65, 66, 67, 68, 69, 70, 71, 72, 73, 74, 75, 76, 77, 78] [] i g (i7, g7) → TH D h cz i7 g7 H → va_S (hA h) s.heap H locs → lv_has ls 5 [(0, .ref (h 0)), (1, .int x25_1), (2, .int x25_2), (3, .int x25_3)] → (10 - x25_3.toInt).toNat < n8_ → W p l e ({ frames := 5, cells := 0, slots := 0, locals := 133 } : Room) s m args below meth c H locs 0 0 Q (F0 m 25 ls []) := by
      intro n8_
      induction n8_ with
      | zero => intro x25_1 x25_2 x25_3 i7 g7 H locs ls hhx25_1 hhx25_3 hR7 hF7 hT hS hl hm8_; exact absurd hm8_ (Nat.not_lt_zero _)
      | succ n8_ ih8_ =>
        intro x25_1 x25_2 x25_3 i7 g7 H locs ls hhx25_1 hhx25_3 hR7 hF7 hT hS hl hm8_
        refine lv_iload_n hx hb dX8_slit_25 rfl (lv_at hl 3 rfl) ?_
        refine lv_aload_n hx hb dX8_slit_26 rfl (lv_at hl 0 rfl) ?_
        refine r_getr X hT 0 3 15 fk_8_32 rfl rfl (by decide) dX8_slit_27 ?_
        refine r_geti X hT 15 14 fk_8_176 rfl rfl (by decide) dX8_slit_30 ?_
        refine lv_icmp_ge (tgt := 84) hx hb dX8_slit_33 (by decide) (fun c9 => ?_) (fun c9 => ?_)
        ·
          have q9 : (i7 15 14).toInt ≤ x25_3.toInt := i_le c9
          refine lv_iload_n hx hb dX8_slit_84 rfl (lv_at hl 1 rfl) ?_
          exact hret x25_1 _ _ _ _ _ _ dX8_slit_85 hT hS ⟨hR7, hF7, (rg_w hhx25_1 (by decide) : rg (-2) 10 x25_1)⟩
        ·
          have q9 : x25_3.toInt < (i7 15 14).toInt := i_nle c9
          have h10 : rg 0 9 x25_3 := t_ltx 0 9 hhx25_3 (Rg_at hR7 15 14 0 10 (by decide) rfl) (i_nle c9) (by decide)
          have h11 : rg 1 10 (i7 15 14) := t_lty 1 10 hhx25_3 (Rg_at hR7 15 14 0 10 (by decide) rfl) (i_nle c9) (by decide)
          refine lv_aload_n hx hb dX8_slit_36 rfl (lv_at hl 0 rfl) ?_
          refine r_getr X hT 0 8 72 fk_8_59 rfl rfl (by decide) dX8_slit_37 ?_
          refine lv_iload_n hx hb dX8_slit_40 rfl (lv_at hl 3 rfl) ?_
          refine e_Vv (As := [.int x25_3]) (rest := []) X Y hT hS (m_X0_begin_72 hR7 x25_3) mk_X0_begin gm_740 rfl rfl (by decide) hd_X0_begin ⟨rfl, rfl⟩ ⟨Nat.le_of_ble_eq_true rfl, Nat.le_of_ble_eq_true rfl⟩ hl.1 rfl (Nat.le_of_ble_eq_true rfl) dX8_slit_41 ⟨Nat.zero_le _, Nat.zero_le _⟩ (fun i12 g12 H locs hq hT hS => ?_)
          obtain ⟨hR12, hf12⟩ := hq
          have hF12 := Fr_tr hF7 hf12 (by decide)
          refine lv_aload_n hx hb dX8_slit_44 rfl (lv_at hl 0 rfl) ?_
          refine r_getr X hT 0 8 72 fk_8_59 rfl rfl (by decide) dX8_slit_45 ?_
          refine lv_aload_n hx hb dX8_slit_48 rfl (lv_at hl 0 rfl) ?_
          refine r_getr X hT 0 3 15 fk_8_32 rfl rfl (by decide) dX8_slit_49 ?_
          refine e_Vi (As := []) (rest := [.ref (h 72)]) X Y hT hS (m_X6_everyKnife_15 hR12) mk_X6_everyKnife gm_748 rfl rfl (by decide) hd_X6_everyKnife ⟨rfl, rfl⟩ ⟨Nat.le_of_ble_eq_true rfl, Nat.le_of_ble_eq_true rfl⟩ hl.1 rfl (Nat.le_of_ble_eq_true rfl) dX8_slit_52 ⟨Nat.zero_le _, Nat.zero_le _⟩ (fun r13 i13 g13 H locs hq hT hS => ?_)
          obtain ⟨eh13, hr13⟩ := hq
          rw [(Prod.mk.inj eh13).1, (Prod.mk.inj eh13).2] at hT
          refine e_Vv (As := [.int r13]) (rest := []) X Y hT hS (m_X0_unfoldWith_72 hR12 r13) mk_X0_unfoldWith gm_752 rfl rfl (by decide) hd_X0_unfoldWith ⟨rfl, rfl⟩ ⟨Nat.le_of_ble_eq_true rfl, Nat.le_of_ble_eq_true rfl⟩ hl.1 rfl (Nat.le_of_ble_eq_true rfl) dX8_slit_55 ⟨Nat.zero_le _, Nat.zero_le _⟩ (fun i14 g14 H locs hq hT hS => ?_)
          obtain ⟨hR14, hf14⟩ := hq
          have hF14 := Fr_tr hF12 hf14 (by decide)
          refine lv_aload_n hx hb dX8_slit_58 rfl (lv_at hl 0 rfl) ?_
          refine r_getr X hT 0 8 72 fk_8_59 rfl rfl (by decide) dX8_slit_59 ?_
          refine e_Vi (As := []) (rest := []) X Y hT hS (m_X0_readInAll_72 hR14) mk_X0_readInAll gm_840 rfl rfl (by decide) hd_X0_readInAll ⟨rfl, rfl⟩ ⟨Nat.le_of_ble_eq_true rfl, Nat.le_of_ble_eq_true rfl⟩ hl.1 rfl (Nat.le_of_ble_eq_true rfl) dX8_slit_62 ⟨Nat.zero_le _, Nat.zero_le _⟩ (fun r15 i15 g15 H locs hq hT hS => ?_)
          obtain ⟨hR15, hf15⟩ := hq
          have hF15 := Fr_tr hF14 hf15 (by decide)
          refine lv_istore (lv' := [(4, .int r15), (0, .ref (h 0)), (1, .int x25_1), (2, .int x25_2), (3, .int x25_3)]) hx hb dX8_slit_65 hl (by decide) rfl (fun ls hl => ?_)
          refine lv_iload hx hb dX8_slit_67 (lv_at hl 0 rfl) ?_
          refine lv_iload_n hx hb dX8_slit_69 rfl (lv_at hl 3 rfl) ?_
          refine lv_icmp_le (tgt := 78) hx hb dX8_slit_70 (by decide) (fun c16 => ?_) (fun c16 => ?_)
          ·
            have q16 : r15.toInt ≤ x25_2.toInt := i_le c16
            obtain ⟨x17, ex17⟩ : ∃ y : Int32, y = x25_3 + 1 := ⟨_, rfl⟩
            refine lv_iinc (v := x17) (lv' := [(3, .int x17), (4, .int r15), (0, .ref (h 0)), (1, .int x25_1), (2, .int x25_2)]) hx hb dX8_slit_78 hl (k := 4) rfl (by rw [ex17]; rfl) (by decide) rfl (fun ls hl => ?_)
            obtain ⟨hx17, ax17⟩ := rg_add 1 10 ex17 h10 (rg_k (by decide) : rg 1 1 1) (by decide)
            replace ax17 : x17.toInt = x25_3.toInt + 1 := ax17
            refine lv_goto (tgt := 25) hx hb dX8_slit_81 (by decide) ?_
            exact ih8_ x25_1 x25_2 x17 i15 g15 _ _ _ hhx25_1 (rg_w hx17 (by decide) : rg 0 10 x17) hR15 hF15 hT hS (lv_sub hl [2, 3, 4, 0] rfl) (m_up ax17 hx17 (by decide) hm8_)
          ·
            have q16 : x25_2.toInt < r15.toInt := i_nle c16
            have h18 : rg (-2147483648) 2147483646 x25_2 := t_ltx (-2147483648) 2147483646 (rg_top x25_2) (rg_top r15) (i_nle c16) (by decide)
            have h19 : rg (-2147483647) 2147483647 r15 := t_lty (-2147483647) 2147483647 (rg_top x25_2) (rg_top r15) (i_nle c16) (by decide)
            refine lv_iload hx hb dX8_slit_73 (lv_at hl 0 rfl) ?_
            refine lv_istore_n (lv' := [(2, .int r15), (4, .int r15), (0, .ref (h 0)), (1, .int x25_1), (3, .int x25_3)]) hx hb dX8_slit_75 rfl hl (by decide) rfl (fun ls hl => ?_)
            refine lv_iload_n hx hb dX8_slit_76 rfl (lv_at hl 4 rfl) ?_
            refine lv_istore_n (lv' := [(1, .int x25_3), (2, .int r15), (4, .int r15), (0, .ref (h 0)), (3, .int x25_3)]) hx hb dX8_slit_77 rfl hl (by decide) rfl (fun ls hl => ?_)
            obtain ⟨x20, ex20⟩ : ∃ y : Int32, y = x25_3 + 1 := ⟨_, rfl⟩
            refine lv_iinc (v := x20) (lv' := [(3, .int x20), (1, .int x25_3), (2, .int r15), (4, .int r15), (0, .ref (h 0))]) hx hb dX8_slit_78 hl (k := 4) rfl (by rw [ex20]; rfl) (by decide) rfl (fun ls hl => ?_)
            obtain ⟨hx20, ax20⟩ := rg_add 1 10 ex20 h10 (rg_k (by decide) : rg 1 1 1) (by decide)
            replace ax20 : x20.toInt = x25_3.toInt + 1 := ax20
            refine lv_goto (tgt := 25) hx hb dX8_slit_81 (by decide) ?_
            exact ih8_ x25_3 r15 x20 i15 g15 _ _ _ (rg_w h10 (by decide) : rg (-1) 10 x25_3) (rg_w hx20 (by decide) : rg 0 10 x20) hR15 hF15 hT hS (lv_sub hl [4, 1, 2, 0] rfl) (m_up ax20 hx20 (by decide) hm8_)
    exact L25_6 _ ((-1)) r5 (0) i5 g5 _ _ _ (rg_w (rg_k (by decide) : rg (-1) (-1) (-1)) (by decide) : rg (-1) 10 (-1)) (rg_w (rg_k (by decide) : rg 0 0 0) (by decide) : rg 0 10 0) hR5 hF5 hT hS (lv_sub hl [3, 2, 1, 0] rfl) (Nat.lt_succ_self _)
  ·
    have q2 : r1.toInt = 0 := i_eq c2
    have h21 : rg 0 0 r1 := t_eqx 0 0 hr1 (rg_k (by decide) : rg 0 0 0) (i_eq c2) (by decide)
    refine lv_bipush (v := (-2)) hx hb dX8_slit_10 (by decide) ?_
    exact hret (-2) _ _ _ _ _ _ dX8_slit_12 hT hS ⟨hR, hF, (rg_w (rg_k (by decide) : rg (-2) (-2) (-2)) (by decide) : rg (-2) 10 (-2))⟩
set_option maxRecDepth 100000 in
set_option maxHeartbeats 4000000 in
theorem m_X0_readIn_72 {l : Launch} {D : va_G} {h : Nat → Nat} {cz : Nat → ClassId} {z : EZ} {i : Nat → Nat → Int32} {g : Nat → Nat → Int64} (hR : Rg rA i) (a_a : Int32) : DtI l yX0_readIn cX0_readIn 4 (some .int) ({ frames := 4, cells := 0, slots := 0, locals := 111 } : Room) D h cz z i g [.ref (h 72), .int a_a] (fun r u => Rg rA u.1 ∧ Fr [78] [] i g u) := by
  refine e_I pn_X0_readIn (Nat.le_of_ble_eq_true rfl) ?_
  intro p e s m args below meth c ls Q X Y hret hT hl hS
  have hx := X.1
  have hb := X.2.1
  have hl : lv_has ls 4 [(0, .ref (h 72)), (1, .int a_a)] := hl
  have hF : Fr [78] [] i g (i, g) := Fr_rf _ _ _ _
  refine lv_iconst (v := 0) hx hb dX0_readIn_0 (by decide) ?_
  refine lv_istore_n (lv' := [(2, .int 0), (0, .ref (h 72)), (1, .int a_a)]) hx hb dX0_readIn_1 rfl hl (by decide) rfl (fun ls hl => ?_)
  refine lv_iconst (v := 0) hx hb dX0_readIn_2 (by decide) ?_
  refine lv_istore_n (lv' := [(3, .int 0), (2, .int 0), (0, .ref (h 72)), (1, .int a_a)]) hx hb dX0_readIn_3 rfl hl (by decide) rfl (fun ls hl => ?_)
  have L4_1 : ∀ (n3_ : Nat) (x4_2 : Int32) (x4_3 : Int32) (i2 : Nat → Nat → Int32) (g2 : Nat → Nat → Int64) (H : Heap) (locs : List Loc) (ls : Array Slot), rg 0 6 x4_3 → Rg rA i2 → Fr [78] [] i g (i2, g2) → TH D h cz i2 g2 H → va_S (hA h) s.heap H locs → lv_has ls 4 [(0, .ref (h 72)), (1, .int a_a), (2, .int x4_2), (3, .int x4_3)] → (6 - x4_3.toInt).toNat < n3_ → W p l e ({ frames := 4, cells := 0, slots := 0, locals := 111 } : Room) s m args below meth c H locs 0 0 Q (F0 m 4 ls []) := by
    intro n3_
    induction n3_ with
    | zero => intro x4_2 x4_3 i2 g2 H locs ls hhx4_3 hR2 hF2 hT hS hl hm3_; exact absurd hm3_ (Nat.not_lt_zero _)
    | succ n3_ ih3_ =>
      intro x4_2 x4_3 i2 g2 H locs ls hhx4_3 hR2 hF2 hT hS hl hm3_
      refine lv_iload_n hx hb dX0_readIn_4 rfl (lv_at hl 3 rfl) ?_
      refine lv_aload_n hx hb dX0_readIn_5 rfl (lv_at hl 0 rfl) ?_
      refine r_getr X hT 72 0 15 fk_0_30 rfl rfl (by decide) dX0_readIn_6 ?_
      refine r_geti X hT 15 13 fk_0_44 rfl rfl (by decide) dX0_readIn_9 ?_
      refine lv_icmp_ge (tgt := 43) hx hb dX0_readIn_12 (by decide) (fun c4 => ?_) (fun c4 => ?_)
      ·
        have q4 : (i2 15 13).toInt ≤ x4_3.toInt := i_le c4
        refine lv_iload_n hx hb dX0_readIn_43 rfl (lv_at hl 2 rfl) ?_
        exact hret x4_2 _ _ _ _ _ _ dX0_readIn_44 hT hS ⟨hR2, hF2⟩
      ·
        have q4 : x4_3.toInt < (i2 15 13).toInt := i_nle c4
        have h5 : rg 0 5 x4_3 := t_ltx 0 5 hhx4_3 (Rg_at hR2 15 13 0 6 (by decide) rfl) (i_nle c4) (by decide)
        have h6 : rg 1 6 (i2 15 13) := t_lty 1 6 hhx4_3 (Rg_at hR2 15 13 0 6 (by decide) rfl) (i_nle c4) (by decide)
        refine lv_iload_n hx hb dX0_readIn_15 rfl (lv_at hl 2 rfl) ?_
        refine lv_aload_n hx hb dX0_readIn_16 rfl (lv_at hl 0 rfl) ?_
        refine r_getr X hT 72 5 77 fk_0_24 rfl rfl (by decide) dX0_readIn_17 ?_
        refine lv_iload_n hx hb dX0_readIn_20 rfl (lv_at hl 3 rfl) ?_
        refine r_iald X hT 77 rfl (by decide) (v_in h5 (by decide)) dX0_readIn_21 ?_
        refine lv_iload_n hx hb dX0_readIn_22 rfl (lv_at hl 1 rfl) ?_
        refine lv_icmp_ne (tgt := 34) hx hb dX0_readIn_23 (by decide) (fun c7 => ?_) (fun c7 => ?_)
        ·
          have q7 : ¬ (i2 77 x4_3.toNatClampNeg).toInt = a_a.toInt := i_ne c7
          refine lv_iconst (v := 0) hx hb dX0_readIn_34 (by decide) ?_
          refine q_iadd hx hb dX0_readIn_35 (fun x8 ex8 => ?_)
          obtain ⟨hx8, ax8⟩ := rg_add (-2147483648) 2147483647 ex8 (rg_top x4_2) (rg_k (by decide) : rg 0 0 0) (by decide)
          replace ax8 : x8.toInt = x4_2.toInt + 0 := ax8
          refine lv_istore_n (lv' := [(2, .int x8), (0, .ref (h 72)), (1, .int a_a), (3, .int x4_3)]) hx hb dX0_readIn_36 rfl hl (by decide) rfl (fun ls hl => ?_)
          obtain ⟨x9, ex9⟩ : ∃ y : Int32, y = x4_3 + 1 := ⟨_, rfl⟩
          refine lv_iinc (v := x9) (lv' := [(3, .int x9), (2, .int x8), (0, .ref (h 72)), (1, .int a_a)]) hx hb dX0_readIn_37 hl (k := 3) rfl (by rw [ex9]; rfl) (by decide) rfl (fun ls hl => ?_)
          obtain ⟨hx9, ax9⟩ := rg_add 1 6 ex9 h5 (rg_k (by decide) : rg 1 1 1) (by decide)
          replace ax9 : x9.toInt = x4_3.toInt + 1 := ax9
          refine lv_goto (tgt := 4) hx hb dX0_readIn_40 (by decide) ?_
          exact ih3_ x8 x9 i2 g2 _ _ _ (rg_w hx9 (by decide) : rg 0 6 x9) hR2 hF2 hT hS (lv_sub hl [2, 3, 1, 0] rfl) (m_up ax9 hx9 (by decide) hm3_)
        ·
          have q7 : (i2 77 x4_3.toNatClampNeg).toInt = a_a.toInt := i_eq c7
          refine lv_aload_n hx hb dX0_readIn_26 rfl (lv_at hl 0 rfl) ?_
          refine lv_iload_n hx hb dX0_readIn_27 rfl (lv_at hl 3 rfl) ?_
          refine e_Vi (As := [.int x4_3]) (rest := [.int x4_2]) X Y hT hS (m_X0_readFor_72 hR2 x4_3 h5) mk_X0_readFor gm_835 rfl rfl (by decide) hd_X0_readFor ⟨rfl, rfl⟩ ⟨Nat.le_of_ble_eq_true rfl, Nat.le_of_ble_eq_true rfl⟩ hl.1 rfl (Nat.le_of_ble_eq_true rfl) dX0_readIn_28 ⟨Nat.zero_le _, Nat.zero_le _⟩ (fun r10 i10 g10 H locs hq hT hS => ?_)
          obtain ⟨hR10, hf10, hr10⟩ := hq
          have hF10 := Fr_tr hF2 hf10 (by decide)
          refine lv_goto (tgt := 35) hx hb dX0_readIn_31 (by decide) ?_
          refine q_iadd hx hb dX0_readIn_35 (fun x11 ex11 => ?_)
          refine lv_istore_n (lv' := [(2, .int x11), (0, .ref (h 72)), (1, .int a_a), (3, .int x4_3)]) hx hb dX0_readIn_36 rfl hl (by decide) rfl (fun ls hl => ?_)
          obtain ⟨x12, ex12⟩ : ∃ y : Int32, y = x4_3 + 1 := ⟨_, rfl⟩
          refine lv_iinc (v := x12) (lv' := [(3, .int x12), (2, .int x11), (0, .ref (h 72)), (1, .int a_a)]) hx hb dX0_readIn_37 hl (k := 3) rfl (by rw [ex12]; rfl) (by decide) rfl (fun ls hl => ?_)
          obtain ⟨hx12, ax12⟩ := rg_add 1 6 ex12 h5 (rg_k (by decide) : rg 1 1 1) (by decide)
          replace ax12 : x12.toInt = x4_3.toInt + 1 := ax12
          refine lv_goto (tgt := 4) hx hb dX0_readIn_40 (by decide) ?_
          exact ih3_ x11 x12 i10 g10 _ _ _ (rg_w hx12 (by decide) : rg 0 6 x12) hR10 hF10 hT hS (lv_sub hl [2, 3, 1, 0] rfl) (m_up ax12 hx12 (by decide) hm3_)
  exact L4_1 _ (0) (0) i g _ _ _ (rg_w (rg_k (by decide) : rg 0 0 0) (by decide) : rg 0 6 0) hR hF hT hS (lv_sub hl [2, 3, 1, 0] rfl) (Nat.lt_succ_self _)
set_option maxRecDepth 100000 in
set_option maxHeartbeats 4000000 in
theorem m_X8_earChoice {l : Launch} {D : va_G} {h : Nat → Nat} {cz : Nat → ClassId} {z : EZ} {i : Nat → Nat → Int32} {g : Nat → Nat → Int64} (hR : Rg rA i) (a_a : Int32) : DtI l yX8_earChoice cX8_earChoice 7 (some .int) ({ frames := 5, cells := 0, slots := 0, locals := 134 } : Room) D h cz z i g [.ref (h 0), .int a_a] (fun r u => Rg rA u.1 ∧ Fr [72, 75, 76, 77, 78] [] i g u ∧ rg (-1) 5 r) := by
  refine e_I pn_X8_earChoice (Nat.le_of_ble_eq_true rfl) ?_
  intro p e s m args below meth c ls Q X Y hret hT hl hS
  have hx := X.1
  have hb := X.2.1
  have hl : lv_has ls 7 [(0, .ref (h 0)), (1, .int a_a)] := hl
  have hF : Fr [72, 75, 76, 77, 78] [] i g (i, g) := Fr_rf _ _ _ _
  refine lv_aload_n hx hb dX8_earChoice_0 rfl (lv_at hl 0 rfl) ?_
  refine r_getr X hT 0 3 15 fk_8_32 rfl rfl (by decide) dX8_earChoice_1 ?_
  refine lv_iconst (v := 1) hx hb dX8_earChoice_4 (by decide) ?_
  refine e_Vi (As := [.int 1]) (rest := []) X Y hT hS (m_X6_hasWorkingYear_15 hR (1)) mk_X6_hasWorkingYear gm_827 rfl rfl (by decide) hd_X6_hasWorkingYear ⟨rfl, rfl⟩ ⟨Nat.le_of_ble_eq_true rfl, Nat.le_of_ble_eq_true rfl⟩ hl.1 rfl (Nat.le_of_ble_eq_true rfl) dX8_earChoice_5 ⟨Nat.zero_le _, Nat.zero_le _⟩ (fun r1 i1 g1 H locs hq hT hS => ?_)
  rcases hq with hq | hq
  ·
    obtain ⟨eh1, rfl, hf1_0⟩ := hq
    rw [(Prod.mk.inj eh1).1, (Prod.mk.inj eh1).2] at hT
    refine lv_if_ne (tgt := 13) hx hb dX8_earChoice_8 (by decide) (fun c2 => ?_) (fun c2 => (x_eq (rg_k (by decide) : rg 1 1 1) (rg_k (by decide) : rg 0 0 0) (i_eq c2) (by decide)).elim)
    refine lv_aload_n hx hb dX8_earChoice_13 rfl (lv_at hl 0 rfl) ?_
    refine r_getr X hT 0 8 72 fk_8_59 rfl rfl (by decide) dX8_earChoice_14 ?_
    refine lv_iconst (v := 1) hx hb dX8_earChoice_17 (by decide) ?_
    refine lv_iload_n hx hb dX8_earChoice_18 rfl (lv_at hl 1 rfl) ?_
    refine q_ishl hx hb dX8_earChoice_19 (fun x3 ex3 => ?_)
    refine e_Vi (As := [.int x3]) (rest := []) X Y hT hS (m_X0_settle_72 hR x3) mk_X0_settle gm_962 rfl rfl (by decide) hd_X0_settle ⟨rfl, rfl⟩ ⟨Nat.le_of_ble_eq_true rfl, Nat.le_of_ble_eq_true rfl⟩ hl.1 rfl (Nat.le_of_ble_eq_true rfl) dX8_earChoice_20 ⟨Nat.zero_le _, Nat.zero_le _⟩ (fun r4 i4 g4 H locs hq hT hS => ?_)
    have eh4 := hq
    rw [(Prod.mk.inj eh4).1, (Prod.mk.inj eh4).2] at hT
    refine lv_istore_n (lv' := [(2, .int r4), (0, .ref (h 0)), (1, .int a_a)]) hx hb dX8_earChoice_23 rfl hl (by decide) rfl (fun ls hl => ?_)
    refine lv_iconst (v := (-1)) hx hb dX8_earChoice_24 (by decide) ?_
    refine lv_istore_n (lv' := [(3, .int (-1)), (2, .int r4), (0, .ref (h 0)), (1, .int a_a)]) hx hb dX8_earChoice_25 rfl hl (by decide) rfl (fun ls hl => ?_)
    refine lv_iconst (v := (-1)) hx hb dX8_earChoice_26 (by decide) ?_
    refine lv_istore (lv' := [(4, .int (-1)), (3, .int (-1)), (2, .int r4), (0, .ref (h 0)), (1, .int a_a)]) hx hb dX8_earChoice_27 hl (by decide) rfl (fun ls hl => ?_)
    refine lv_iconst (v := 0) hx hb dX8_earChoice_29 (by decide) ?_
    refine lv_istore (lv' := [(5, .int 0), (4, .int (-1)), (3, .int (-1)), (2, .int r4), (0, .ref (h 0)), (1, .int a_a)]) hx hb dX8_earChoice_30 hl (by decide) rfl (fun ls hl => ?_)
    have L32_5 : ∀ (n7_ : Nat) (x32_3 : Int32) (x32_4 : Int32) (x32_5 : Int32) (i6 : Nat → Nat → Int32) (g6 : Nat → Nat → Int64) (H : Heap) (locs : List Loc) (ls : Array Slot), rg (-1) 5 x32_3 → rg (-1) 2147483647 x32_4 → rg 0 6 x32_5 → Rg rA i6 → Fr [72, 75, 76, 77, 78] [] i g (i6, g6) → TH D h cz i6 g6 H → va_S (hA h) s.heap H locs → lv_has ls 7 [(0, .ref (h 0)), (1, .int a_a), (2, .int r4), (3, .int x32_3), (4, .int x32_4), (5, .int x32_5)] → (6 - x32_5.toInt).toNat < n7_ → W p l e ({ frames := 5, cells := 0, slots := 0, locals := 134 } : Room) s m args below meth c H locs 0 0 Q (F0 m 32 ls []) := by
      intro n7_
      induction n7_ with
      | zero => intro x32_3 x32_4 x32_5 i6 g6 H locs ls hhx32_3 hhx32_4 hhx32_5 hR6 hF6 hT hS hl hm7_; exact absurd hm7_ (Nat.not_lt_zero _)
      | succ n7_ ih7_ =>
        intro x32_3 x32_4 x32_5 i6 g6 H locs ls hhx32_3 hhx32_4 hhx32_5 hR6 hF6 hT hS hl hm7_
        refine lv_iload hx hb dX8_earChoice_32 (lv_at hl 5 rfl) ?_
        refine lv_aload_n hx hb dX8_earChoice_34 rfl (lv_at hl 0 rfl) ?_
        refine r_getr X hT 0 3 15 fk_8_32 rfl rfl (by decide) dX8_earChoice_35 ?_
        refine r_geti X hT 15 13 fk_8_156 rfl rfl (by decide) dX8_earChoice_38 ?_
        refine lv_icmp_ge (tgt := 97) hx hb dX8_earChoice_41 (by decide) (fun c8 => ?_) (fun c8 => ?_)
        ·
          have q8 : (i6 15 13).toInt ≤ x32_5.toInt := i_le c8
          refine lv_iload_n hx hb dX8_earChoice_97 rfl (lv_at hl 3 rfl) ?_
          exact hret x32_3 _ _ _ _ _ _ dX8_earChoice_98 hT hS ⟨hR6, hF6, hhx32_3⟩
        ·
          have q8 : x32_5.toInt < (i6 15 13).toInt := i_nle c8
          have h9 : rg 0 5 x32_5 := t_ltx 0 5 hhx32_5 (Rg_at hR6 15 13 0 6 (by decide) rfl) (i_nle c8) (by decide)
          have h10 : rg 1 6 (i6 15 13) := t_lty 1 6 hhx32_5 (Rg_at hR6 15 13 0 6 (by decide) rfl) (i_nle c8) (by decide)
          refine lv_iload_n hx hb dX8_earChoice_44 rfl (lv_at hl 2 rfl) ?_
          refine lv_iload hx hb dX8_earChoice_45 (lv_at hl 5 rfl) ?_
          refine e_Si (As := [.int r4, .int x32_5]) (rest := []) X Y hT hS (m_X8_hasBit r4 x32_5) sk_X8_hasBit gm_685 hd_X8_hasBit ⟨rfl, rfl⟩ ⟨Nat.le_of_ble_eq_true rfl, Nat.le_of_ble_eq_true rfl⟩ hl.1 rfl (Nat.le_of_ble_eq_true rfl) dX8_earChoice_47 ⟨Nat.zero_le _, Nat.zero_le _⟩ (fun r11 i11 g11 H locs hq hT hS => ?_)
          obtain ⟨eh11, hr11⟩ := hq
          rw [(Prod.mk.inj eh11).1, (Prod.mk.inj eh11).2] at hT
          refine lv_if_ne (tgt := 91) hx hb dX8_earChoice_50 (by decide) (fun c12 => ?_) (fun c12 => ?_)
          ·
            have q12 : ¬ r11.toInt = 0 := i_ne c12
            have h13 : rg 1 1 r11 := t_nelo 1 hr11 (rg_k (by decide) : rg 0 0 0) (i_ne c12) (by decide)
            obtain ⟨x14, ex14⟩ : ∃ y : Int32, y = x32_5 + 1 := ⟨_, rfl⟩
            refine lv_iinc (v := x14) (lv' := [(5, .int x14), (0, .ref (h 0)), (1, .int a_a), (2, .int r4), (3, .int x32_3), (4, .int x32_4)]) hx hb dX8_earChoice_91 hl (k := 5) rfl (by rw [ex14]; rfl) (by decide) rfl (fun ls hl => ?_)
            obtain ⟨hx14, ax14⟩ := rg_add 1 6 ex14 h9 (rg_k (by decide) : rg 1 1 1) (by decide)
            replace ax14 : x14.toInt = x32_5.toInt + 1 := ax14
            refine lv_goto (tgt := 32) hx hb dX8_earChoice_94 (by decide) ?_
            exact ih7_ x32_3 x32_4 x14 i6 g6 _ _ _ hhx32_3 hhx32_4 (rg_w hx14 (by decide) : rg 0 6 x14) hR6 hF6 hT hS (lv_sub hl [1, 2, 3, 4, 5, 0] rfl) (m_up ax14 hx14 (by decide) hm7_)
          ·
            have q12 : r11.toInt = 0 := i_eq c12
            have h15 : rg 0 0 r11 := t_eqx 0 0 hr11 (rg_k (by decide) : rg 0 0 0) (i_eq c12) (by decide)
            refine lv_aload_n hx hb dX8_earChoice_53 rfl (lv_at hl 0 rfl) ?_
            refine r_getr X hT 0 8 72 fk_8_59 rfl rfl (by decide) dX8_earChoice_54 ?_
            refine lv_iconst (v := 1) hx hb dX8_earChoice_57 (by decide) ?_
            refine lv_iload_n hx hb dX8_earChoice_58 rfl (lv_at hl 1 rfl) ?_
            refine q_ishl hx hb dX8_earChoice_59 (fun x16 ex16 => ?_)
            refine lv_iconst (v := 1) hx hb dX8_earChoice_60 (by decide) ?_
            refine lv_iload hx hb dX8_earChoice_61 (lv_at hl 5 rfl) ?_
            refine q_ishl hx hb dX8_earChoice_63 (fun x17 ex17 => ?_)
            have h18 : rg 1 32 x17 := rg_shl1 ex17 h9 (by decide)
            refine e_Vv (As := [.int x16, .int x17]) (rest := []) X Y hT hS (m_X0_unfoldBy_72 hR6 x16 x17) mk_X0_unfoldBy gm_975 rfl rfl (by decide) hd_X0_unfoldBy ⟨rfl, rfl⟩ ⟨Nat.le_of_ble_eq_true rfl, Nat.le_of_ble_eq_true rfl⟩ hl.1 rfl (Nat.le_of_ble_eq_true rfl) dX8_earChoice_64 ⟨Nat.zero_le _, Nat.zero_le _⟩ (fun i19 g19 H locs hq hT hS => ?_)
            obtain ⟨hR19, hf19⟩ := hq
            have hF19 := Fr_tr hF6 hf19 (by decide)
            refine lv_aload_n hx hb dX8_earChoice_67 rfl (lv_at hl 0 rfl) ?_
            refine r_getr X hT 0 8 72 fk_8_59 rfl rfl (by decide) dX8_earChoice_68 ?_
            refine lv_iconst (v := 1) hx hb dX8_earChoice_71 (by decide) ?_
            refine e_Vi (As := [.int 1]) (rest := []) X Y hT hS (m_X0_readIn_72 hR19 (1)) mk_X0_readIn gm_831 rfl rfl (by decide) hd_X0_readIn ⟨rfl, rfl⟩ ⟨Nat.le_of_ble_eq_true rfl, Nat.le_of_ble_eq_true rfl⟩ hl.1 rfl (Nat.le_of_ble_eq_true rfl) dX8_earChoice_72 ⟨Nat.zero_le _, Nat.zero_le _⟩ (fun r20 i20 g20 H locs hq hT hS => ?_)
            obtain ⟨hR20, hf20⟩ := hq
            have hF20 := Fr_tr hF19 hf20 (by decide)
            refine lv_istore (lv' := [(6, .int r20), (0, .ref (h 0)), (1, .int a_a), (2, .int r4), (3, .int x32_3), (4, .int x32_4), (5, .int x32_5)]) hx hb dX8_earChoice_75 hl (by decide) rfl (fun ls hl => ?_)
            refine lv_iload hx hb dX8_earChoice_77 (lv_at hl 0 rfl) ?_
            refine lv_iload hx hb dX8_earChoice_79 (lv_at hl 5 rfl) ?_
            refine lv_icmp_le (tgt := 91) hx hb dX8_earChoice_81 (by decide) (fun c21 => ?_) (fun c21 => ?_)
            ·
              have q21 : r20.toInt ≤ x32_4.toInt := i_le c21
              obtain ⟨x22, ex22⟩ : ∃ y : Int32, y = x32_5 + 1 := ⟨_, rfl⟩
              refine lv_iinc (v := x22) (lv' := [(5, .int x22), (6, .int r20), (0, .ref (h 0)), (1, .int a_a), (2, .int r4), (3, .int x32_3), (4, .int x32_4)]) hx hb dX8_earChoice_91 hl (k := 6) rfl (by rw [ex22]; rfl) (by decide) rfl (fun ls hl => ?_)
              obtain ⟨hx22, ax22⟩ := rg_add 1 6 ex22 h9 (rg_k (by decide) : rg 1 1 1) (by decide)
              replace ax22 : x22.toInt = x32_5.toInt + 1 := ax22
              refine lv_goto (tgt := 32) hx hb dX8_earChoice_94 (by decide) ?_
              exact ih7_ x32_3 x32_4 x22 i20 g20 _ _ _ hhx32_3 hhx32_4 (rg_w hx22 (by decide) : rg 0 6 x22) hR20 hF20 hT hS (lv_sub hl [2, 3, 4, 5, 6, 0] rfl) (m_up ax22 hx22 (by decide) hm7_)
            ·
              have q21 : x32_4.toInt < r20.toInt := i_nle c21
              have h23 : rg (-1) 2147483646 x32_4 := t_ltx (-1) 2147483646 hhx32_4 (rg_top r20) (i_nle c21) (by decide)
              have h24 : rg 0 2147483647 r20 := t_lty 0 2147483647 hhx32_4 (rg_top r20) (i_nle c21) (by decide)
              refine lv_iload hx hb dX8_earChoice_84 (lv_at hl 0 rfl) ?_
              refine lv_istore (lv' := [(4, .int r20), (6, .int r20), (0, .ref (h 0)), (1, .int a_a), (2, .int r4), (3, .int x32_3), (5, .int x32_5)]) hx hb dX8_earChoice_86 hl (by decide) rfl (fun ls hl => ?_)
              refine lv_iload hx hb dX8_earChoice_88 (lv_at hl 6 rfl) ?_
              refine lv_istore_n (lv' := [(3, .int x32_5), (4, .int r20), (6, .int r20), (0, .ref (h 0)), (1, .int a_a), (2, .int r4), (5, .int x32_5)]) hx hb dX8_earChoice_90 rfl hl (by decide) rfl (fun ls hl => ?_)
              obtain ⟨x25, ex25⟩ : ∃ y : Int32, y = x32_5 + 1 := ⟨_, rfl⟩
              refine lv_iinc (v := x25) (lv' := [(5, .int x25), (3, .int x32_5), (4, .int r20), (6, .int r20), (0, .ref (h 0)), (1, .int a_a), (2, .int r4)]) hx hb dX8_earChoice_91 hl (k := 6) rfl (by rw [ex25]; rfl) (by decide) rfl (fun ls hl => ?_)
              obtain ⟨hx25, ax25⟩ := rg_add 1 6 ex25 h9 (rg_k (by decide) : rg 1 1 1) (by decide)
              replace ax25 : x25.toInt = x32_5.toInt + 1 := ax25
              refine lv_goto (tgt := 32) hx hb dX8_earChoice_94 (by decide) ?_
              exact ih7_ x32_5 r20 x25 i20 g20 _ _ _ (rg_w h9 (by decide) : rg (-1) 5 x32_5) (rg_w h24 (by decide) : rg (-1) 2147483647 r20) (rg_w hx25 (by decide) : rg 0 6 x25) hR20 hF20 hT hS (lv_sub hl [4, 5, 6, 1, 2, 0] rfl) (m_up ax25 hx25 (by decide) hm7_)
    exact L32_5 _ ((-1)) ((-1)) (0) i g _ _ _ (rg_w (rg_k (by decide) : rg (-1) (-1) (-1)) (by decide) : rg (-1) 5 (-1)) (rg_w (rg_k (by decide) : rg (-1) (-1) (-1)) (by decide) : rg (-1) 2147483647 (-1)) (rg_w (rg_k (by decide) : rg 0 0 0) (by decide) : rg 0 6 0) hR hF hT hS (lv_sub hl [4, 5, 3, 2, 1, 0] rfl) (Nat.lt_succ_self _)
  ·
    obtain ⟨eh1, rfl⟩ := hq
    rw [(Prod.mk.inj eh1).1, (Prod.mk.inj eh1).2] at hT
    refine lv_if_ne (tgt := 13) hx hb dX8_earChoice_8 (by decide) (fun c26 => (x_ne (rg_k (by decide) : rg 0 0 0) (rg_k (by decide) : rg 0 0 0) (i_ne c26) (by decide)).elim) (fun c26 => ?_)
    refine lv_iconst (v := (-1)) hx hb dX8_earChoice_11 (by decide) ?_
    exact hret (-1) _ _ _ _ _ _ dX8_earChoice_12 hT hS ⟨hR, hF, (rg_w (rg_k (by decide) : rg (-1) (-1) (-1)) (by decide) : rg (-1) 5 (-1))⟩
set_option maxRecDepth 100000 in
set_option maxHeartbeats 4000000 in
theorem m_X8_uncleWorth {l : Launch} {D : va_G} {h : Nat → Nat} {cz : Nat → ClassId} {z : EZ} {i : Nat → Nat → Int32} {g : Nat → Nat → Int64} (hR : Rg rA i) (a_a : Int32) : DtI l yX8_uncleWorth cX8_uncleWorth 3 (some .int) ({ frames := 6, cells := 0, slots := 0, locals := 160 } : Room) D h cz z i g [.ref (h 0), .int a_a] (fun r u => Rg rA u.1 ∧ Fr [72, 75, 76, 77, 78] [] i g u) := by
  refine e_I pn_X8_uncleWorth (Nat.le_of_ble_eq_true rfl) ?_
  intro p e s m args below meth c ls Q X Y hret hT hl hS
  have hx := X.1
  have hb := X.2.1
  have hl : lv_has ls 3 [(0, .ref (h 0)), (1, .int a_a)] := hl
  have hF : Fr [72, 75, 76, 77, 78] [] i g (i, g) := Fr_rf _ _ _ _
  refine lv_aload_n hx hb dX8_uncleWorth_0 rfl (lv_at hl 0 rfl) ?_
  refine lv_iload_n hx hb dX8_uncleWorth_1 rfl (lv_at hl 1 rfl) ?_
  refine e_Vi (As := [.int a_a]) (rest := []) X Y hT hS (m_X8_earChoice hR a_a) mk_X8_earChoice gm_1164 rfl rfl (by decide) hd_X8_earChoice ⟨rfl, rfl⟩ ⟨Nat.le_of_ble_eq_true rfl, Nat.le_of_ble_eq_true rfl⟩ hl.1 rfl (Nat.le_of_ble_eq_true rfl) dX8_uncleWorth_2 ⟨Nat.zero_le _, Nat.zero_le _⟩ (fun r1 i1 g1 H locs hq hT hS => ?_)
  obtain ⟨hR1, hf1, hr1⟩ := hq
  have hF1 := Fr_tr hF hf1 (by decide)
  refine lv_istore_n (lv' := [(2, .int r1), (0, .ref (h 0)), (1, .int a_a)]) hx hb dX8_uncleWorth_5 rfl hl (by decide) rfl (fun ls hl => ?_)
  refine lv_aload_n hx hb dX8_uncleWorth_6 rfl (lv_at hl 1 rfl) ?_
  refine r_getr X hT 0 8 72 fk_8_59 rfl rfl (by decide) dX8_uncleWorth_7 ?_
  refine lv_iconst (v := 1) hx hb dX8_uncleWorth_10 (by decide) ?_
  refine lv_iload_n hx hb dX8_uncleWorth_11 rfl (lv_at hl 2 rfl) ?_
  refine q_ishl hx hb dX8_uncleWorth_12 (fun x2 ex2 => ?_)
  refine lv_iload_n hx hb dX8_uncleWorth_13 rfl (lv_at hl 0 rfl) ?_
  refine lv_iconst (v := (-1)) hx hb dX8_uncleWorth_14 (by decide) ?_
  have J25_4 : ∀ (x25_4_s0 : Int32) (H : Heap) (locs : List Loc) (ls : Array Slot), rg 0 32 x25_4_s0 → TH D h cz i1 g1 H → va_S (hA h) s.heap H locs → lv_has ls 3 [(0, .ref (h 0))] → W p l e ({ frames := 6, cells := 0, slots := 0, locals := 160 } : Room) s m args below meth c H locs 0 0 Q (F0 m 25 ls [.int x25_4_s0, .int x2, .ref (h 72)]) := by
    intro x25_4_s0 H locs ls hhx25_4_s0 hT hS hl
    refine e_Vv (As := [.int x2, .int x25_4_s0]) (rest := []) X Y hT hS (m_X0_unfoldBy_72 hR1 x2 x25_4_s0) mk_X0_unfoldBy gm_975 rfl rfl (by decide) hd_X0_unfoldBy ⟨rfl, rfl⟩ ⟨Nat.le_of_ble_eq_true rfl, Nat.le_of_ble_eq_true rfl⟩ hl.1 rfl (Nat.le_of_ble_eq_true rfl) dX8_uncleWorth_25 ⟨Nat.zero_le _, Nat.zero_le _⟩ (fun i5 g5 H locs hq hT hS => ?_)
    obtain ⟨hR5, hf5⟩ := hq
    have hF5 := Fr_tr hF1 hf5 (by decide)
    refine lv_aload_n hx hb dX8_uncleWorth_28 rfl (lv_at hl 0 rfl) ?_
    refine r_getr X hT 0 8 72 fk_8_59 rfl rfl (by decide) dX8_uncleWorth_29 ?_
    refine lv_iconst (v := 0) hx hb dX8_uncleWorth_32 (by decide) ?_
    refine e_Vi (As := [.int 0]) (rest := []) X Y hT hS (m_X0_readIn_72 hR5 (0)) mk_X0_readIn gm_831 rfl rfl (by decide) hd_X0_readIn ⟨rfl, rfl⟩ ⟨Nat.le_of_ble_eq_true rfl, Nat.le_of_ble_eq_true rfl⟩ hl.1 rfl (Nat.le_of_ble_eq_true rfl) dX8_uncleWorth_33 ⟨Nat.zero_le _, Nat.zero_le _⟩ (fun r6 i6 g6 H locs hq hT hS => ?_)
    obtain ⟨hR6, hf6⟩ := hq
    have hF6 := Fr_tr hF5 hf6 (by decide)
    refine lv_aload_n hx hb dX8_uncleWorth_36 rfl (lv_at hl 0 rfl) ?_
    refine r_getr X hT 0 8 72 fk_8_59 rfl rfl (by decide) dX8_uncleWorth_37 ?_
    refine lv_iconst (v := 1) hx hb dX8_uncleWorth_40 (by decide) ?_
    refine e_Vi (As := [.int 1]) (rest := [.int r6]) X Y hT hS (m_X0_readIn_72 hR6 (1)) mk_X0_readIn gm_831 rfl rfl (by decide) hd_X0_readIn ⟨rfl, rfl⟩ ⟨Nat.le_of_ble_eq_true rfl, Nat.le_of_ble_eq_true rfl⟩ hl.1 rfl (Nat.le_of_ble_eq_true rfl) dX8_uncleWorth_41 ⟨Nat.zero_le _, Nat.zero_le _⟩ (fun r7 i7 g7 H locs hq hT hS => ?_)
    obtain ⟨hR7, hf7⟩ := hq
    have hF7 := Fr_tr hF6 hf7 (by decide)
    refine q_isub hx hb dX8_uncleWorth_44 (fun x8 ex8 => ?_)
    exact hret x8 _ _ _ _ _ _ dX8_uncleWorth_45 hT hS ⟨hR7, hF7⟩
  refine lv_icmp_ne (tgt := 22) hx hb dX8_uncleWorth_15 (by decide) (fun c3 => ?_) (fun c3 => ?_)
  ·
    have q3 : ¬ r1.toInt = (-1) := i_ne c3
    have h9 : rg 0 5 r1 := t_nelo 0 hr1 (rg_k (by decide) : rg (-1) (-1) (-1)) (i_ne c3) (by decide)
    refine lv_iconst (v := 1) hx hb dX8_uncleWorth_22 (by decide) ?_
    refine lv_iload_n hx hb dX8_uncleWorth_23 rfl (lv_at hl 0 rfl) ?_
    refine q_ishl hx hb dX8_uncleWorth_24 (fun x10 ex10 => ?_)
    have h11 : rg 1 32 x10 := rg_shl1 ex10 h9 (by decide)
    exact J25_4 x10 _ _ _ (rg_w h11 (by decide) : rg 0 32 x10) hT hS (lv_sub hl [1] rfl)
  ·
    have q3 : r1.toInt = (-1) := i_eq c3
    have h12 : rg (-1) (-1) r1 := t_eqx (-1) (-1) hr1 (rg_k (by decide) : rg (-1) (-1) (-1)) (i_eq c3) (by decide)
    refine lv_iconst (v := 0) hx hb dX8_uncleWorth_18 (by decide) ?_
    refine lv_goto (tgt := 25) hx hb dX8_uncleWorth_19 (by decide) ?_
    exact J25_4 (0) _ _ _ (rg_w (rg_k (by decide) : rg 0 0 0) (by decide) : rg 0 32 0) hT hS (lv_sub hl [1] rfl)
set_option maxRecDepth 100000 in
set_option maxHeartbeats 4000000 in
theorem m_X8_uncle {l : Launch} {D : va_G} {h : Nat → Nat} {cz : Nat → ClassId} {z : EZ} {i : Nat → Nat → Int32} {g : Nat → Nat → Int64} (hR : Rg rA i) : DtI l yX8_uncle cX8_uncle 3 (some .int) ({ frames := 7, cells := 0, slots := 0, locals := 182 } : Room) D h cz z i g [.ref (h 0)] (fun r u => Rg rA u.1 ∧ Fr [72, 73, 74, 75, 76, 77, 78] [] i g u) := by
  refine e_I pn_X8_uncle (Nat.le_of_ble_eq_true rfl) ?_
  intro p e s m args below meth c ls Q X Y hret hT hl hS
  have hx := X.1
  have hb := X.2.1
  have hl : lv_has ls 3 [(0, .ref (h 0))] := hl
  have hF : Fr [72, 73, 74, 75, 76, 77, 78] [] i g (i, g) := Fr_rf _ _ _ _
  refine lv_aload_n hx hb dX8_uncle_0 rfl (lv_at hl 0 rfl) ?_
  refine r_getr X hT 0 3 15 fk_8_32 rfl rfl (by decide) dX8_uncle_1 ?_
  refine r_geti X hT 15 13 fk_8_156 rfl rfl (by decide) dX8_uncle_4 ?_
  refine lv_if_ne (tgt := 14) hx hb dX8_uncle_7 (by decide) (fun c1 => ?_) (fun c1 => ?_)
  ·
    have q1 : ¬ (i 15 13).toInt = 0 := i_ne c1
    have h2 : rg 1 6 (i 15 13) := t_nelo 1 (Rg_at hR 15 13 0 6 (by decide) rfl) (rg_k (by decide) : rg 0 0 0) (i_ne c1) (by decide)
    refine lv_aload_n hx hb dX8_uncle_14 rfl (lv_at hl 0 rfl) ?_
    refine r_getr X hT 0 8 72 fk_8_59 rfl rfl (by decide) dX8_uncle_15 ?_
    refine lv_iconst (v := (-1)) hx hb dX8_uncle_18 (by decide) ?_
    refine e_Vv (As := [.int (-1)]) (rest := []) X Y hT hS (m_X0_begin_72 hR ((-1))) mk_X0_begin gm_740 rfl rfl (by decide) hd_X0_begin ⟨rfl, rfl⟩ ⟨Nat.le_of_ble_eq_true rfl, Nat.le_of_ble_eq_true rfl⟩ hl.1 rfl (Nat.le_of_ble_eq_true rfl) dX8_uncle_19 ⟨Nat.zero_le _, Nat.zero_le _⟩ (fun i3 g3 H locs hq hT hS => ?_)
    obtain ⟨hR3, hf3⟩ := hq
    have hF3 := Fr_tr hF hf3 (by decide)
    refine lv_aload_n hx hb dX8_uncle_22 rfl (lv_at hl 0 rfl) ?_
    refine lv_iconst (v := 0) hx hb dX8_uncle_23 (by decide) ?_
    refine e_Vi (As := [.int 0]) (rest := []) X Y hT hS (m_X8_uncleWorth hR3 (0)) mk_X8_uncleWorth gm_1160 rfl rfl (by decide) hd_X8_uncleWorth ⟨rfl, rfl⟩ ⟨Nat.le_of_ble_eq_true rfl, Nat.le_of_ble_eq_true rfl⟩ hl.1 rfl (Nat.le_of_ble_eq_true rfl) dX8_uncle_24 ⟨Nat.zero_le _, Nat.zero_le _⟩ (fun r4 i4 g4 H locs hq hT hS => ?_)
    obtain ⟨hR4, hf4⟩ := hq
    have hF4 := Fr_tr hF3 hf4 (by decide)
    refine lv_istore_n (lv' := [(1, .int r4), (0, .ref (h 0))]) hx hb dX8_uncle_27 rfl hl (by decide) rfl (fun ls hl => ?_)
    refine lv_iconst (v := 1) hx hb dX8_uncle_28 (by decide) ?_
    refine lv_istore_n (lv' := [(2, .int 1), (1, .int r4), (0, .ref (h 0))]) hx hb dX8_uncle_29 rfl hl (by decide) rfl (fun ls hl => ?_)
    have L30_5 : ∀ (n7_ : Nat) (x30_1 : Int32) (x30_2 : Int32) (i6 : Nat → Nat → Int32) (g6 : Nat → Nat → Int64) (H : Heap) (locs : List Loc) (ls : Array Slot), rg 1 6 x30_2 → Rg rA i6 → Fr [72, 73, 74, 75, 76, 77, 78] [] i g (i6, g6) → TH D h cz i6 g6 H → va_S (hA h) s.heap H locs → lv_has ls 3 [(0, .ref (h 0)), (1, .int x30_1), (2, .int x30_2)] → (6 - x30_2.toInt).toNat < n7_ → W p l e ({ frames := 7, cells := 0, slots := 0, locals := 182 } : Room) s m args below meth c H locs 0 0 Q (F0 m 30 ls []) := by
      intro n7_
      induction n7_ with
      | zero => intro x30_1 x30_2 i6 g6 H locs ls hhx30_2 hR6 hF6 hT hS hl hm7_; exact absurd hm7_ (Nat.not_lt_zero _)
      | succ n7_ ih7_ =>
        intro x30_1 x30_2 i6 g6 H locs ls hhx30_2 hR6 hF6 hT hS hl hm7_
        refine lv_iload_n hx hb dX8_uncle_30 rfl (lv_at hl 2 rfl) ?_
        refine lv_aload_n hx hb dX8_uncle_31 rfl (lv_at hl 0 rfl) ?_
        refine r_getr X hT 0 3 15 fk_8_32 rfl rfl (by decide) dX8_uncle_32 ?_
        refine r_geti X hT 15 13 fk_8_156 rfl rfl (by decide) dX8_uncle_35 ?_
        refine lv_icmp_ge (tgt := 57) hx hb dX8_uncle_38 (by decide) (fun c8 => ?_) (fun c8 => ?_)
        ·
          have q8 : (i6 15 13).toInt ≤ x30_2.toInt := i_le c8
          refine lv_iload_n hx hb dX8_uncle_57 rfl (lv_at hl 1 rfl) ?_
          exact hret x30_1 _ _ _ _ _ _ dX8_uncle_58 hT hS ⟨hR6, hF6⟩
        ·
          have q8 : x30_2.toInt < (i6 15 13).toInt := i_nle c8
          have h9 : rg 1 5 x30_2 := t_ltx 1 5 hhx30_2 (Rg_at hR6 15 13 0 6 (by decide) rfl) (i_nle c8) (by decide)
          have h10 : rg 2 6 (i6 15 13) := t_lty 2 6 hhx30_2 (Rg_at hR6 15 13 0 6 (by decide) rfl) (i_nle c8) (by decide)
          refine lv_iload_n hx hb dX8_uncle_41 rfl (lv_at hl 1 rfl) ?_
          refine lv_aload_n hx hb dX8_uncle_42 rfl (lv_at hl 0 rfl) ?_
          refine lv_iload_n hx hb dX8_uncle_43 rfl (lv_at hl 2 rfl) ?_
          refine e_Vi (As := [.int x30_2]) (rest := [.int x30_1]) X Y hT hS (m_X8_uncleWorth hR6 x30_2) mk_X8_uncleWorth gm_1160 rfl rfl (by decide) hd_X8_uncleWorth ⟨rfl, rfl⟩ ⟨Nat.le_of_ble_eq_true rfl, Nat.le_of_ble_eq_true rfl⟩ hl.1 rfl (Nat.le_of_ble_eq_true rfl) dX8_uncle_44 ⟨Nat.zero_le _, Nat.zero_le _⟩ (fun r11 i11 g11 H locs hq hT hS => ?_)
          obtain ⟨hR11, hf11⟩ := hq
          have hF11 := Fr_tr hF6 hf11 (by decide)
          refine e_mmax X hl.1 gm_856 gm_782 gm_118 mw_e_mmax (Nat.le_of_ble_eq_true rfl) (Nat.le_of_ble_eq_true rfl) ⟨Nat.zero_le _, Nat.zero_le _⟩ dX8_uncle_47 (fun x12 ex12 => ?_)
          refine lv_istore_n (lv' := [(1, .int x12), (0, .ref (h 0)), (2, .int x30_2)]) hx hb dX8_uncle_50 rfl hl (by decide) rfl (fun ls hl => ?_)
          obtain ⟨x13, ex13⟩ : ∃ y : Int32, y = x30_2 + 1 := ⟨_, rfl⟩
          refine lv_iinc (v := x13) (lv' := [(2, .int x13), (1, .int x12), (0, .ref (h 0))]) hx hb dX8_uncle_51 hl (k := 2) rfl (by rw [ex13]; rfl) (by decide) rfl (fun ls hl => ?_)
          obtain ⟨hx13, ax13⟩ := rg_add 2 6 ex13 h9 (rg_k (by decide) : rg 1 1 1) (by decide)
          replace ax13 : x13.toInt = x30_2.toInt + 1 := ax13
          refine lv_goto (tgt := 30) hx hb dX8_uncle_54 (by decide) ?_
          exact ih7_ x12 x13 i11 g11 _ _ _ (rg_w hx13 (by decide) : rg 1 6 x13) hR11 hF11 hT hS (lv_sub hl [2, 1, 0] rfl) (m_up ax13 hx13 (by decide) hm7_)
    exact L30_5 _ r4 (1) i4 g4 _ _ _ (rg_w (rg_k (by decide) : rg 1 1 1) (by decide) : rg 1 6 1) hR4 hF4 hT hS (lv_sub hl [2, 1, 0] rfl) (Nat.lt_succ_self _)
  ·
    have q1 : (i 15 13).toInt = 0 := i_eq c1
    have h14 : rg 0 0 (i 15 13) := t_eqx 0 0 (Rg_at hR 15 13 0 6 (by decide) rfl) (rg_k (by decide) : rg 0 0 0) (i_eq c1) (by decide)
    refine lv_sipush (v := (-1000)) hx hb dX8_uncle_10 (by decide) ?_
    exact hret (-1000) _ _ _ _ _ _ dX8_uncle_13 hT hS ⟨hR, hF⟩
set_option maxRecDepth 100000 in
set_option maxHeartbeats 4000000 in
theorem m_X8_opens {l : Launch} {D : va_G} {h : Nat → Nat} {cz : Nat → ClassId} {z : EZ} {i : Nat → Nat → Int32} {g : Nat → Nat → Int64} (hR : Rg rA i) : DtI l yX8_opens cX8_opens 5 (some .int) ({ frames := 7, cells := 0, slots := 0, locals := 182 } : Room) D h cz z i g [.ref (h 0)] (fun r u => Rg rA u.1 ∧ Fr [72, 73, 74, 75, 76, 77, 78] [] i g u ∧ rg (-2) 5 r) := by
  refine e_I pn_X8_opens (Nat.le_of_ble_eq_true rfl) ?_
  intro p e s m args below meth c ls Q X Y hret hT hl hS
  have hx := X.1
  have hb := X.2.1
  have hl : lv_has ls 5 [(0, .ref (h 0))] := hl
  have hF : Fr [72, 73, 74, 75, 76, 77, 78] [] i g (i, g) := Fr_rf _ _ _ _
  refine lv_aload_n hx hb dX8_opens_0 rfl (lv_at hl 0 rfl) ?_
  refine r_getr X hT 0 3 15 fk_8_32 rfl rfl (by decide) dX8_opens_1 ?_
  refine e_Vi (As := []) (rest := []) X Y hT hS (m_X6_isTold_15 hR) mk_X6_isTold gm_698 rfl rfl (by decide) hd_X6_isTold ⟨rfl, rfl⟩ ⟨Nat.le_of_ble_eq_true rfl, Nat.le_of_ble_eq_true rfl⟩ hl.1 rfl (Nat.le_of_ble_eq_true rfl) dX8_opens_4 ⟨Nat.zero_le _, Nat.zero_le _⟩ (fun r1 i1 g1 H locs hq hT hS => ?_)
  obtain ⟨eh1, hr1⟩ := hq
  rw [(Prod.mk.inj eh1).1, (Prod.mk.inj eh1).2] at hT
  refine lv_if_ne (tgt := 13) hx hb dX8_opens_7 (by decide) (fun c2 => ?_) (fun c2 => ?_)
  ·
    have q2 : ¬ r1.toInt = 0 := i_ne c2
    have h3 : rg 1 1 r1 := t_nelo 1 hr1 (rg_k (by decide) : rg 0 0 0) (i_ne c2) (by decide)
    refine lv_aload_n hx hb dX8_opens_13 rfl (lv_at hl 0 rfl) ?_
    refine r_getr X hT 0 8 72 fk_8_59 rfl rfl (by decide) dX8_opens_14 ?_
    refine lv_iconst (v := (-1)) hx hb dX8_opens_17 (by decide) ?_
    refine e_Vv (As := [.int (-1)]) (rest := []) X Y hT hS (m_X0_begin_72 hR ((-1))) mk_X0_begin gm_740 rfl rfl (by decide) hd_X0_begin ⟨rfl, rfl⟩ ⟨Nat.le_of_ble_eq_true rfl, Nat.le_of_ble_eq_true rfl⟩ hl.1 rfl (Nat.le_of_ble_eq_true rfl) dX8_opens_18 ⟨Nat.zero_le _, Nat.zero_le _⟩ (fun i4 g4 H locs hq hT hS => ?_)
    obtain ⟨hR4, hf4⟩ := hq
    have hF4 := Fr_tr hF hf4 (by decide)
    refine lv_iconst (v := (-1)) hx hb dX8_opens_21 (by decide) ?_
    refine lv_istore_n (lv' := [(1, .int (-1)), (0, .ref (h 0))]) hx hb dX8_opens_22 rfl hl (by decide) rfl (fun ls hl => ?_)
    refine lv_iconst (v := 0) hx hb dX8_opens_23 (by decide) ?_
    refine lv_istore_n (lv' := [(2, .int 0), (1, .int (-1)), (0, .ref (h 0))]) hx hb dX8_opens_24 rfl hl (by decide) rfl (fun ls hl => ?_)
    refine lv_iconst (v := 0) hx hb dX8_opens_25 (by decide) ?_
    refine lv_istore_n (lv' := [(3, .int 0), (2, .int 0), (1, .int (-1)), (0, .ref (h 0))]) hx hb dX8_opens_26 rfl hl (by decide) rfl (fun ls hl => ?_)
    have L27_5 : ∀ (n7_ : Nat) (x27_1 : Int32) (x27_2 : Int32) (x27_3 : Int32) (i6 : Nat → Nat → Int32) (g6 : Nat → Nat → Int64) (H : Heap) (locs : List Loc) (ls : Array Slot), rg (-1) 5 x27_1 → rg 0 6 x27_3 → Rg rA i6 → Fr [72, 73, 74, 75, 76, 77, 78] [] i g (i6, g6) → TH D h cz i6 g6 H → va_S (hA h) s.heap H locs → lv_has ls 5 [(0, .ref (h 0)), (1, .int x27_1), (2, .int x27_2), (3, .int x27_3)] → (6 - x27_3.toInt).toNat < n7_ → W p l e ({ frames := 7, cells := 0, slots := 0, locals := 182 } : Room) s m args below meth c H locs 0 0 Q (F0 m 27 ls []) := by
      intro n7_
      induction n7_ with
      | zero => intro x27_1 x27_2 x27_3 i6 g6 H locs ls hhx27_1 hhx27_3 hR6 hF6 hT hS hl hm7_; exact absurd hm7_ (Nat.not_lt_zero _)
      | succ n7_ ih7_ =>
        intro x27_1 x27_2 x27_3 i6 g6 H locs ls hhx27_1 hhx27_3 hR6 hF6 hT hS hl hm7_
        refine lv_iload_n hx hb dX8_opens_27 rfl (lv_at hl 3 rfl) ?_
        refine lv_aload_n hx hb dX8_opens_28 rfl (lv_at hl 0 rfl) ?_
        refine r_getr X hT 0 3 15 fk_8_32 rfl rfl (by decide) dX8_opens_29 ?_
        refine r_geti X hT 15 13 fk_8_156 rfl rfl (by decide) dX8_opens_32 ?_
        refine lv_icmp_ge (tgt := 67) hx hb dX8_opens_35 (by decide) (fun c8 => ?_) (fun c8 => ?_)
        ·
          have q8 : (i6 15 13).toInt ≤ x27_3.toInt := i_le c8
          refine lv_iload_n hx hb dX8_opens_67 rfl (lv_at hl 1 rfl) ?_
          exact hret x27_1 _ _ _ _ _ _ dX8_opens_68 hT hS ⟨hR6, hF6, (rg_w hhx27_1 (by decide) : rg (-2) 5 x27_1)⟩
        ·
          have q8 : x27_3.toInt < (i6 15 13).toInt := i_nle c8
          have h9 : rg 0 5 x27_3 := t_ltx 0 5 hhx27_3 (Rg_at hR6 15 13 0 6 (by decide) rfl) (i_nle c8) (by decide)
          have h10 : rg 1 6 (i6 15 13) := t_lty 1 6 hhx27_3 (Rg_at hR6 15 13 0 6 (by decide) rfl) (i_nle c8) (by decide)
          refine lv_aload_n hx hb dX8_opens_38 rfl (lv_at hl 0 rfl) ?_
          refine lv_iload_n hx hb dX8_opens_39 rfl (lv_at hl 3 rfl) ?_
          refine e_Vi (As := [.int x27_3]) (rest := []) X Y hT hS (m_X8_uncleWorth hR6 x27_3) mk_X8_uncleWorth gm_1160 rfl rfl (by decide) hd_X8_uncleWorth ⟨rfl, rfl⟩ ⟨Nat.le_of_ble_eq_true rfl, Nat.le_of_ble_eq_true rfl⟩ hl.1 rfl (Nat.le_of_ble_eq_true rfl) dX8_opens_40 ⟨Nat.zero_le _, Nat.zero_le _⟩ (fun r11 i11 g11 H locs hq hT hS => ?_)
          obtain ⟨hR11, hf11⟩ := hq
          have hF11 := Fr_tr hF6 hf11 (by decide)
          refine lv_istore (lv' := [(4, .int r11), (0, .ref (h 0)), (1, .int x27_1), (2, .int x27_2), (3, .int x27_3)]) hx hb dX8_opens_43 hl (by decide) rfl (fun ls hl => ?_)
          refine lv_iload_n hx hb dX8_opens_45 rfl (lv_at hl 2 rfl) ?_
          refine lv_iconst (v := (-1)) hx hb dX8_opens_46 (by decide) ?_
          refine lv_icmp_eq (tgt := 56) hx hb dX8_opens_47 (by decide) (fun c12 => ?_) (fun c12 => ?_)
          ·
            have q12 : x27_1.toInt = (-1) := i_eq c12
            have h13 : rg (-1) (-1) x27_1 := t_eqx (-1) (-1) hhx27_1 (rg_k (by decide) : rg (-1) (-1) (-1)) (i_eq c12) (by decide)
            refine lv_iload hx hb dX8_opens_56 (lv_at hl 0 rfl) ?_
            refine lv_istore_n (lv' := [(2, .int r11), (4, .int r11), (0, .ref (h 0)), (1, .int x27_1), (3, .int x27_3)]) hx hb dX8_opens_58 rfl hl (by decide) rfl (fun ls hl => ?_)
            refine lv_iload_n hx hb dX8_opens_59 rfl (lv_at hl 4 rfl) ?_
            refine lv_istore_n (lv' := [(1, .int x27_3), (2, .int r11), (4, .int r11), (0, .ref (h 0)), (3, .int x27_3)]) hx hb dX8_opens_60 rfl hl (by decide) rfl (fun ls hl => ?_)
            obtain ⟨x14, ex14⟩ : ∃ y : Int32, y = x27_3 + 1 := ⟨_, rfl⟩
            refine lv_iinc (v := x14) (lv' := [(3, .int x14), (1, .int x27_3), (2, .int r11), (4, .int r11), (0, .ref (h 0))]) hx hb dX8_opens_61 hl (k := 4) rfl (by rw [ex14]; rfl) (by decide) rfl (fun ls hl => ?_)
            obtain ⟨hx14, ax14⟩ := rg_add 1 6 ex14 h9 (rg_k (by decide) : rg 1 1 1) (by decide)
            replace ax14 : x14.toInt = x27_3.toInt + 1 := ax14
            refine lv_goto (tgt := 27) hx hb dX8_opens_64 (by decide) ?_
            exact ih7_ x27_3 r11 x14 i11 g11 _ _ _ (rg_w h9 (by decide) : rg (-1) 5 x27_3) (rg_w hx14 (by decide) : rg 0 6 x14) hR11 hF11 hT hS (lv_sub hl [4, 1, 2, 0] rfl) (m_up ax14 hx14 (by decide) hm7_)
          ·
            have q12 : ¬ x27_1.toInt = (-1) := i_ne c12
            have h15 : rg 0 5 x27_1 := t_nelo 0 hhx27_1 (rg_k (by decide) : rg (-1) (-1) (-1)) (i_ne c12) (by decide)
            refine lv_iload hx hb dX8_opens_50 (lv_at hl 0 rfl) ?_
            refine lv_iload_n hx hb dX8_opens_52 rfl (lv_at hl 3 rfl) ?_
            refine lv_icmp_le (tgt := 61) hx hb dX8_opens_53 (by decide) (fun c16 => ?_) (fun c16 => ?_)
            ·
              have q16 : r11.toInt ≤ x27_2.toInt := i_le c16
              obtain ⟨x17, ex17⟩ : ∃ y : Int32, y = x27_3 + 1 := ⟨_, rfl⟩
              refine lv_iinc (v := x17) (lv' := [(3, .int x17), (4, .int r11), (0, .ref (h 0)), (1, .int x27_1), (2, .int x27_2)]) hx hb dX8_opens_61 hl (k := 4) rfl (by rw [ex17]; rfl) (by decide) rfl (fun ls hl => ?_)
              obtain ⟨hx17, ax17⟩ := rg_add 1 6 ex17 h9 (rg_k (by decide) : rg 1 1 1) (by decide)
              replace ax17 : x17.toInt = x27_3.toInt + 1 := ax17
              refine lv_goto (tgt := 27) hx hb dX8_opens_64 (by decide) ?_
              exact ih7_ x27_1 x27_2 x17 i11 g11 _ _ _ (rg_w h15 (by decide) : rg (-1) 5 x27_1) (rg_w hx17 (by decide) : rg 0 6 x17) hR11 hF11 hT hS (lv_sub hl [2, 3, 4, 0] rfl) (m_up ax17 hx17 (by decide) hm7_)
            ·
              have q16 : x27_2.toInt < r11.toInt := i_nle c16
              have h18 : rg (-2147483648) 2147483646 x27_2 := t_ltx (-2147483648) 2147483646 (rg_top x27_2) (rg_top r11) (i_nle c16) (by decide)
              have h19 : rg (-2147483647) 2147483647 r11 := t_lty (-2147483647) 2147483647 (rg_top x27_2) (rg_top r11) (i_nle c16) (by decide)
              refine lv_iload hx hb dX8_opens_56 (lv_at hl 0 rfl) ?_
              refine lv_istore_n (lv' := [(2, .int r11), (4, .int r11), (0, .ref (h 0)), (1, .int x27_1), (3, .int x27_3)]) hx hb dX8_opens_58 rfl hl (by decide) rfl (fun ls hl => ?_)
              refine lv_iload_n hx hb dX8_opens_59 rfl (lv_at hl 4 rfl) ?_
              refine lv_istore_n (lv' := [(1, .int x27_3), (2, .int r11), (4, .int r11), (0, .ref (h 0)), (3, .int x27_3)]) hx hb dX8_opens_60 rfl hl (by decide) rfl (fun ls hl => ?_)
              obtain ⟨x20, ex20⟩ : ∃ y : Int32, y = x27_3 + 1 := ⟨_, rfl⟩
              refine lv_iinc (v := x20) (lv' := [(3, .int x20), (1, .int x27_3), (2, .int r11), (4, .int r11), (0, .ref (h 0))]) hx hb dX8_opens_61 hl (k := 4) rfl (by rw [ex20]; rfl) (by decide) rfl (fun ls hl => ?_)
              obtain ⟨hx20, ax20⟩ := rg_add 1 6 ex20 h9 (rg_k (by decide) : rg 1 1 1) (by decide)
              replace ax20 : x20.toInt = x27_3.toInt + 1 := ax20
              refine lv_goto (tgt := 27) hx hb dX8_opens_64 (by decide) ?_
              exact ih7_ x27_3 r11 x20 i11 g11 _ _ _ (rg_w h9 (by decide) : rg (-1) 5 x27_3) (rg_w hx20 (by decide) : rg 0 6 x20) hR11 hF11 hT hS (lv_sub hl [4, 1, 2, 0] rfl) (m_up ax20 hx20 (by decide) hm7_)
    exact L27_5 _ ((-1)) (0) (0) i4 g4 _ _ _ (rg_w (rg_k (by decide) : rg (-1) (-1) (-1)) (by decide) : rg (-1) 5 (-1)) (rg_w (rg_k (by decide) : rg 0 0 0) (by decide) : rg 0 6 0) hR4 hF4 hT hS (lv_sub hl [3, 2, 1, 0] rfl) (Nat.lt_succ_self _)
  ·
    have q2 : r1.toInt = 0 := i_eq c2
    have h21 : rg 0 0 r1 := t_eqx 0 0 hr1 (rg_k (by decide) : rg 0 0 0) (i_eq c2) (by decide)
    refine lv_bipush (v := (-2)) hx hb dX8_opens_10 (by decide) ?_
    exact hret (-2) _ _ _ _ _ _ dX8_opens_12 hT hS ⟨hR, hF, (rg_w (rg_k (by decide) : rg (-2) (-2) (-2)) (by decide) : rg (-2) 5 (-2))⟩
set_option maxRecDepth 100000 in
set_option maxHeartbeats 4000000 in
theorem m_X8_replies {l : Launch} {D : va_G} {h : Nat → Nat} {cz : Nat → ClassId} {z : EZ} {i : Nat → Nat → Int32} {g : Nat → Nat → Int64} (hR : Rg rA i) (a_a : Int32) : DtI l yX8_replies cX8_replies 2 (some .int) ({ frames := 6, cells := 0, slots := 0, locals := 160 } : Room) D h cz z i g [.ref (h 0), .int a_a] (fun r u => Rg rA u.1 ∧ Fr [72, 73, 74, 75, 76, 77, 78] [] i g u ∧ rg (-2) 5 r) := by
  refine e_I pn_X8_replies (Nat.le_of_ble_eq_true rfl) ?_
  intro p e s m args below meth c ls Q X Y hret hT hl hS
  have hx := X.1
  have hb := X.2.1
  have hl : lv_has ls 2 [(0, .ref (h 0)), (1, .int a_a)] := hl
  have hF : Fr [72, 73, 74, 75, 76, 77, 78] [] i g (i, g) := Fr_rf _ _ _ _
  refine lv_aload_n hx hb dX8_replies_0 rfl (lv_at hl 0 rfl) ?_
  refine r_getr X hT 0 3 15 fk_8_32 rfl rfl (by decide) dX8_replies_1 ?_
  refine lv_iload_n hx hb dX8_replies_4 rfl (lv_at hl 1 rfl) ?_
  refine e_Vi (As := [.int a_a]) (rest := []) X Y hT hS (m_X6_hasPart_15 hR a_a) mk_X6_hasPart gm_669 rfl rfl (by decide) hd_X6_hasPart ⟨rfl, rfl⟩ ⟨Nat.le_of_ble_eq_true rfl, Nat.le_of_ble_eq_true rfl⟩ hl.1 rfl (Nat.le_of_ble_eq_true rfl) dX8_replies_5 ⟨Nat.zero_le _, Nat.zero_le _⟩ (fun r1 i1 g1 H locs hq hT hS => ?_)
  rcases hq with hq | hq
  ·
    obtain ⟨eh1, rfl, hf1_0⟩ := hq
    rw [(Prod.mk.inj eh1).1, (Prod.mk.inj eh1).2] at hT
    have h2 : rg 0 5 a_a := ⟨by have := (rg_top a_a).1; have := hf1_0.1; omega, by have := (rg_top a_a).2; have := hf1_0.2; omega⟩
    refine lv_if_ne (tgt := 14) hx hb dX8_replies_8 (by decide) (fun c3 => ?_) (fun c3 => (x_eq (rg_k (by decide) : rg 1 1 1) (rg_k (by decide) : rg 0 0 0) (i_eq c3) (by decide)).elim)
    refine lv_aload_n hx hb dX8_replies_14 rfl (lv_at hl 0 rfl) ?_
    refine r_getr X hT 0 8 72 fk_8_59 rfl rfl (by decide) dX8_replies_15 ?_
    refine lv_iconst (v := (-1)) hx hb dX8_replies_18 (by decide) ?_
    refine e_Vv (As := [.int (-1)]) (rest := []) X Y hT hS (m_X0_begin_72 hR ((-1))) mk_X0_begin gm_740 rfl rfl (by decide) hd_X0_begin ⟨rfl, rfl⟩ ⟨Nat.le_of_ble_eq_true rfl, Nat.le_of_ble_eq_true rfl⟩ hl.1 rfl (Nat.le_of_ble_eq_true rfl) dX8_replies_19 ⟨Nat.zero_le _, Nat.zero_le _⟩ (fun i4 g4 H locs hq hT hS => ?_)
    obtain ⟨hR4, hf4⟩ := hq
    have hF4 := Fr_tr hF hf4 (by decide)
    refine lv_aload_n hx hb dX8_replies_22 rfl (lv_at hl 0 rfl) ?_
    refine lv_iload_n hx hb dX8_replies_23 rfl (lv_at hl 1 rfl) ?_
    refine e_Vi (As := [.int a_a]) (rest := []) X Y hT hS (m_X8_earChoice hR4 a_a) mk_X8_earChoice gm_1164 rfl rfl (by decide) hd_X8_earChoice ⟨rfl, rfl⟩ ⟨Nat.le_of_ble_eq_true rfl, Nat.le_of_ble_eq_true rfl⟩ hl.1 rfl (Nat.le_of_ble_eq_true rfl) dX8_replies_24 ⟨Nat.zero_le _, Nat.zero_le _⟩ (fun r5 i5 g5 H locs hq hT hS => ?_)
    obtain ⟨hR5, hf5, hr5⟩ := hq
    have hF5 := Fr_tr hF4 hf5 (by decide)
    exact hret r5 _ _ _ _ _ _ dX8_replies_27 hT hS ⟨hR5, hF5, (rg_w hr5 (by decide) : rg (-2) 5 r5)⟩
  ·
    obtain ⟨eh1, rfl⟩ := hq
    rw [(Prod.mk.inj eh1).1, (Prod.mk.inj eh1).2] at hT
    refine lv_if_ne (tgt := 14) hx hb dX8_replies_8 (by decide) (fun c6 => (x_ne (rg_k (by decide) : rg 0 0 0) (rg_k (by decide) : rg 0 0 0) (i_ne c6) (by decide)).elim) (fun c6 => ?_)
    refine lv_bipush (v := (-2)) hx hb dX8_replies_11 (by decide) ?_
    exact hret (-2) _ _ _ _ _ _ dX8_replies_13 hT hS ⟨hR, hF, (rg_w (rg_k (by decide) : rg (-2) (-2) (-2)) (by decide) : rg (-2) 5 (-2))⟩
set_option maxRecDepth 100000 in
set_option maxHeartbeats 4000000 in
theorem m_X8_isPair {l : Launch} {D : va_G} {h : Nat → Nat} {cz : Nat → ClassId} {z : EZ} {i : Nat → Nat → Int32} {g : Nat → Nat → Int64} (hR : Rg rA i) (a_a : Int32) (a_b : Int32) : DtI l yX8_isPair cX8_isPair 3 (some .boolean) ({ frames := 1, cells := 0, slots := 0, locals := 21 } : Room) D h cz z i g [.ref (h 0), .int a_a, .int a_b] (fun r u => (u = (i, g) ∧ r = 1 ∧ rg 0 5 a_a ∧ rg 0 5 a_b) ∨ (u = (i, g) ∧ r = 0)) := by
  refine e_Z (fun v u hq => (hq.elim (fun hq => (Or.inr hq.2.1)) (fun hq => (Or.inl hq.2)))) pn_X8_isPair (Nat.le_of_ble_eq_true rfl) ?_
  intro p e s m args below meth c ls Q X Y hret hT hl hS
  have hx := X.1
  have hb := X.2.1
  have hl : lv_has ls 3 [(0, .ref (h 0)), (1, .int a_a), (2, .int a_b)] := hl
  refine lv_aload_n hx hb dX8_isPair_0 rfl (lv_at hl 0 rfl) ?_
  refine r_getr X hT 0 3 15 fk_8_32 rfl rfl (by decide) dX8_isPair_1 ?_
  refine lv_iload_n hx hb dX8_isPair_4 rfl (lv_at hl 1 rfl) ?_
  refine e_Vi (As := [.int a_a]) (rest := []) X Y hT hS (m_X6_hasPart_15 hR a_a) mk_X6_hasPart gm_669 rfl rfl (by decide) hd_X6_hasPart ⟨rfl, rfl⟩ ⟨Nat.le_of_ble_eq_true rfl, Nat.le_of_ble_eq_true rfl⟩ hl.1 rfl (Nat.le_of_ble_eq_true rfl) dX8_isPair_5 ⟨Nat.zero_le _, Nat.zero_le _⟩ (fun r1 i1 g1 H locs hq hT hS => ?_)
  rcases hq with hq | hq
  ·
    obtain ⟨eh1, rfl, hf1_0⟩ := hq
    rw [(Prod.mk.inj eh1).1, (Prod.mk.inj eh1).2] at hT
    have h2 : rg 0 5 a_a := ⟨by have := (rg_top a_a).1; have := hf1_0.1; omega, by have := (rg_top a_a).2; have := hf1_0.2; omega⟩
    refine lv_if_eq (tgt := 31) hx hb dX8_isPair_8 (by decide) (fun c3 => (x_eq (rg_k (by decide) : rg 1 1 1) (rg_k (by decide) : rg 0 0 0) (i_eq c3) (by decide)).elim) (fun c3 => ?_)
    refine lv_aload_n hx hb dX8_isPair_11 rfl (lv_at hl 0 rfl) ?_
    refine r_getr X hT 0 3 15 fk_8_32 rfl rfl (by decide) dX8_isPair_12 ?_
    refine lv_iload_n hx hb dX8_isPair_15 rfl (lv_at hl 2 rfl) ?_
    refine e_Vi (As := [.int a_b]) (rest := []) X Y hT hS (m_X6_hasPart_15 hR a_b) mk_X6_hasPart gm_669 rfl rfl (by decide) hd_X6_hasPart ⟨rfl, rfl⟩ ⟨Nat.le_of_ble_eq_true rfl, Nat.le_of_ble_eq_true rfl⟩ hl.1 rfl (Nat.le_of_ble_eq_true rfl) dX8_isPair_16 ⟨Nat.zero_le _, Nat.zero_le _⟩ (fun r4 i4 g4 H locs hq hT hS => ?_)
    rcases hq with hq | hq
    ·
      obtain ⟨eh4, rfl, hf4_0⟩ := hq
      rw [(Prod.mk.inj eh4).1, (Prod.mk.inj eh4).2] at hT
      have h5 : rg 0 5 a_b := ⟨by have := (rg_top a_b).1; have := hf4_0.1; omega, by have := (rg_top a_b).2; have := hf4_0.2; omega⟩
      refine lv_if_eq (tgt := 31) hx hb dX8_isPair_19 (by decide) (fun c6 => (x_eq (rg_k (by decide) : rg 1 1 1) (rg_k (by decide) : rg 0 0 0) (i_eq c6) (by decide)).elim) (fun c6 => ?_)
      refine lv_iload_n hx hb dX8_isPair_22 rfl (lv_at hl 1 rfl) ?_
      refine lv_iload_n hx hb dX8_isPair_23 rfl (lv_at hl 2 rfl) ?_
      refine lv_icmp_eq (tgt := 31) hx hb dX8_isPair_24 (by decide) (fun c7 => ?_) (fun c7 => ?_)
      ·
        have q7 : a_a.toInt = a_b.toInt := i_eq c7
        refine lv_iconst (v := 0) hx hb dX8_isPair_31 (by decide) ?_
        exact hret 0 _ _ _ _ _ _ dX8_isPair_32 hT hS (Or.inr ⟨rfl, rfl⟩)
      ·
        have q7 : ¬ a_a.toInt = a_b.toInt := i_ne c7
        refine lv_iconst (v := 1) hx hb dX8_isPair_27 (by decide) ?_
        refine lv_goto (tgt := 32) hx hb dX8_isPair_28 (by decide) ?_
        exact hret 1 _ _ _ _ _ _ dX8_isPair_32 hT hS (Or.inl ⟨rfl, rfl, h2, h5⟩)
    ·
      obtain ⟨eh4, rfl⟩ := hq
      rw [(Prod.mk.inj eh4).1, (Prod.mk.inj eh4).2] at hT
      refine lv_if_eq (tgt := 31) hx hb dX8_isPair_19 (by decide) (fun c8 => ?_) (fun c8 => (x_ne (rg_k (by decide) : rg 0 0 0) (rg_k (by decide) : rg 0 0 0) (i_ne c8) (by decide)).elim)
      refine lv_iconst (v := 0) hx hb dX8_isPair_31 (by decide) ?_
      exact hret 0 _ _ _ _ _ _ dX8_isPair_32 hT hS (Or.inr ⟨rfl, rfl⟩)
  ·
    obtain ⟨eh1, rfl⟩ := hq
    rw [(Prod.mk.inj eh1).1, (Prod.mk.inj eh1).2] at hT
    refine lv_if_eq (tgt := 31) hx hb dX8_isPair_8 (by decide) (fun c9 => ?_) (fun c9 => (x_ne (rg_k (by decide) : rg 0 0 0) (rg_k (by decide) : rg 0 0 0) (i_ne c9) (by decide)).elim)
    refine lv_iconst (v := 0) hx hb dX8_isPair_31 (by decide) ?_
    exact hret 0 _ _ _ _ _ _ dX8_isPair_32 hT hS (Or.inr ⟨rfl, rfl⟩)
set_option maxRecDepth 100000 in
set_option maxHeartbeats 4000000 in
theorem m_X8_sewnGets {l : Launch} {D : va_G} {h : Nat → Nat} {cz : Nat → ClassId} {z : EZ} {i : Nat → Nat → Int32} {g : Nat → Nat → Int64} (hR : Rg rA i) (a_a : Int32) (a_b : Int32) (a_c : Int32) (a_d : Int32) (ha_a : rg 0 5 a_a) : DtI l yX8_sewnGets cX8_sewnGets 5 (some .int) ({ frames := 4, cells := 0, slots := 0, locals := 111 } : Room) D h cz z i g [.ref (h 0), .int a_a, .int a_b, .int a_c, .int a_d] (fun r u => Rg rA u.1 ∧ Fr [72, 73, 74, 75, 76, 77, 78] [] i g u) := by
  refine e_I pn_X8_sewnGets (Nat.le_of_ble_eq_true rfl) ?_
  intro p e s m args below meth c ls Q X Y hret hT hl hS
  have hx := X.1
  have hb := X.2.1
  have hl : lv_has ls 5 [(0, .ref (h 0)), (1, .int a_a), (2, .int a_b), (3, .int a_c), (4, .int a_d)] := hl
  have hF : Fr [72, 73, 74, 75, 76, 77, 78] [] i g (i, g) := Fr_rf _ _ _ _
  refine lv_aload_n hx hb dX8_sewnGets_0 rfl (lv_at hl 0 rfl) ?_
  refine r_getr X hT 0 8 72 fk_8_59 rfl rfl (by decide) dX8_sewnGets_1 ?_
  refine lv_iconst (v := (-1)) hx hb dX8_sewnGets_4 (by decide) ?_
  refine e_Vv (As := [.int (-1)]) (rest := []) X Y hT hS (m_X0_begin_72 hR ((-1))) mk_X0_begin gm_740 rfl rfl (by decide) hd_X0_begin ⟨rfl, rfl⟩ ⟨Nat.le_of_ble_eq_true rfl, Nat.le_of_ble_eq_true rfl⟩ hl.1 rfl (Nat.le_of_ble_eq_true rfl) dX8_sewnGets_5 ⟨Nat.zero_le _, Nat.zero_le _⟩ (fun i1 g1 H locs hq hT hS => ?_)
  obtain ⟨hR1, hf1⟩ := hq
  have hF1 := Fr_tr hF hf1 (by decide)
  refine lv_aload_n hx hb dX8_sewnGets_8 rfl (lv_at hl 0 rfl) ?_
  refine r_getr X hT 0 8 72 fk_8_59 rfl rfl (by decide) dX8_sewnGets_9 ?_
  refine lv_iload_n hx hb dX8_sewnGets_12 rfl (lv_at hl 3 rfl) ?_
  refine lv_iload_n hx hb dX8_sewnGets_13 rfl (lv_at hl 1 rfl) ?_
  refine q_ishl hx hb dX8_sewnGets_14 (fun x2 ex2 => ?_)
  refine lv_iload hx hb dX8_sewnGets_15 (lv_at hl 4 rfl) ?_
  refine lv_iload_n hx hb dX8_sewnGets_17 rfl (lv_at hl 2 rfl) ?_
  refine q_ishl hx hb dX8_sewnGets_18 (fun x3 ex3 => ?_)
  refine q_ior hx hb dX8_sewnGets_19 (fun x4 ex4 => ?_)
  refine r_puti X hT hS 72 8 pk_8_441 rfl rfl rfl rfl (by decide) dX8_sewnGets_20 (fun H locs i5 ei5 hT hS => ?_)
  have hR5 := Rg_put hR1 ei5 (-2147483648) 2147483647 rfl (rg_top x4) (by decide)
  have hF5 := Fr_puti hF1 ei5 (by decide)
  refine lv_aload_n hx hb dX8_sewnGets_23 rfl (lv_at hl 0 rfl) ?_
  refine r_getr X hT 0 8 72 fk_8_59 rfl rfl (by decide) dX8_sewnGets_24 ?_
  refine lv_aload_n hx hb dX8_sewnGets_27 rfl (lv_at hl 0 rfl) ?_
  refine r_getr X hT 0 3 15 fk_8_32 rfl rfl (by decide) dX8_sewnGets_28 ?_
  refine e_Vi (As := []) (rest := [.ref (h 72)]) X Y hT hS (m_X6_everyKnife_15 hR5) mk_X6_everyKnife gm_748 rfl rfl (by decide) hd_X6_everyKnife ⟨rfl, rfl⟩ ⟨Nat.le_of_ble_eq_true rfl, Nat.le_of_ble_eq_true rfl⟩ hl.1 rfl (Nat.le_of_ble_eq_true rfl) dX8_sewnGets_31 ⟨Nat.zero_le _, Nat.zero_le _⟩ (fun r6 i6 g6 H locs hq hT hS => ?_)
  obtain ⟨eh6, hr6⟩ := hq
  rw [(Prod.mk.inj eh6).1, (Prod.mk.inj eh6).2] at hT
  refine e_Vv (As := [.int r6]) (rest := []) X Y hT hS (m_X0_unfoldWith_72 hR5 r6) mk_X0_unfoldWith gm_752 rfl rfl (by decide) hd_X0_unfoldWith ⟨rfl, rfl⟩ ⟨Nat.le_of_ble_eq_true rfl, Nat.le_of_ble_eq_true rfl⟩ hl.1 rfl (Nat.le_of_ble_eq_true rfl) dX8_sewnGets_34 ⟨Nat.zero_le _, Nat.zero_le _⟩ (fun i7 g7 H locs hq hT hS => ?_)
  obtain ⟨hR7, hf7⟩ := hq
  have hF7 := Fr_tr hF5 hf7 (by decide)
  refine lv_iconst (v := 0) hx hb dX8_sewnGets_37 (by decide) ?_
  refine lv_aload_n hx hb dX8_sewnGets_38 rfl (lv_at hl 0 rfl) ?_
  refine r_getr X hT 0 8 72 fk_8_59 rfl rfl (by decide) dX8_sewnGets_39 ?_
  refine lv_iload_n hx hb dX8_sewnGets_42 rfl (lv_at hl 1 rfl) ?_
  refine e_Vi (As := [.int a_a]) (rest := [.int 0]) X Y hT hS (m_X0_readFor_72 hR7 a_a ha_a) mk_X0_readFor gm_819 rfl rfl (by decide) hd_X0_readFor ⟨rfl, rfl⟩ ⟨Nat.le_of_ble_eq_true rfl, Nat.le_of_ble_eq_true rfl⟩ hl.1 rfl (Nat.le_of_ble_eq_true rfl) dX8_sewnGets_43 ⟨Nat.zero_le _, Nat.zero_le _⟩ (fun r8 i8 g8 H locs hq hT hS => ?_)
  obtain ⟨hR8, hf8, hr8⟩ := hq
  have hF8 := Fr_tr hF7 hf8 (by decide)
  refine e_mmax X hl.1 gm_856 gm_782 gm_118 mw_e_mmax (Nat.le_of_ble_eq_true rfl) (Nat.le_of_ble_eq_true rfl) ⟨Nat.zero_le _, Nat.zero_le _⟩ dX8_sewnGets_46 (fun x9 ex9 => ?_)
  have h10 : rg 0 60 x9 := rg_mx ex9 (rg_k (by decide) : rg 0 0 0) hr8 (by decide)
  refine lv_iconst (v := 4) hx hb dX8_sewnGets_49 (by decide) ?_
  refine lv_iload_n hx hb dX8_sewnGets_50 rfl (lv_at hl 3 rfl) ?_
  refine q_imul hx hb dX8_sewnGets_51 (fun x11 ex11 => ?_)
  refine q_iadd hx hb dX8_sewnGets_52 (fun x12 ex12 => ?_)
  exact hret x12 _ _ _ _ _ _ dX8_sewnGets_53 hT hS ⟨hR8, hF8⟩
set_option maxRecDepth 100000 in
set_option maxHeartbeats 4000000 in
theorem m_X8_rests {l : Launch} {D : va_G} {h : Nat → Nat} {cz : Nat → ClassId} {z : EZ} {i : Nat → Nat → Int32} {g : Nat → Nat → Int64} (hR : Rg rA i) (a_a : Int32) (a_b : Int32) : DtI l yX8_rests cX8_rests 8 (some .int) ({ frames := 5, cells := 0, slots := 0, locals := 135 } : Room) D h cz z i g [.ref (h 0), .int a_a, .int a_b] (fun r u => Rg rA u.1 ∧ Fr [72, 73, 74, 75, 76, 77, 78] [] i g u ∧ rg (-2) 255 r) := by
  refine e_I pn_X8_rests (Nat.le_of_ble_eq_true rfl) ?_
  intro p e s m args below meth c ls Q X Y hret hT hl hS
  have hx := X.1
  have hb := X.2.1
  have hl : lv_has ls 8 [(0, .ref (h 0)), (1, .int a_a), (2, .int a_b)] := hl
  have hF : Fr [72, 73, 74, 75, 76, 77, 78] [] i g (i, g) := Fr_rf _ _ _ _
  refine lv_aload_n hx hb dX8_rests_0 rfl (lv_at hl 0 rfl) ?_
  refine lv_iload_n hx hb dX8_rests_1 rfl (lv_at hl 1 rfl) ?_
  refine lv_iload_n hx hb dX8_rests_2 rfl (lv_at hl 2 rfl) ?_
  refine e_Vi (As := [.int a_a, .int a_b]) (rest := []) X Y hT hS (m_X8_isPair hR a_a a_b) mk_X8_isPair gm_1180 rfl rfl (by decide) hd_X8_isPair ⟨rfl, rfl⟩ ⟨Nat.le_of_ble_eq_true rfl, Nat.le_of_ble_eq_true rfl⟩ hl.1 rfl (Nat.le_of_ble_eq_true rfl) dX8_rests_3 ⟨Nat.zero_le _, Nat.zero_le _⟩ (fun r1 i1 g1 H locs hq hT hS => ?_)
  rcases hq with hq | hq
  ·
    obtain ⟨eh1, rfl, hf1_0, hf1_1⟩ := hq
    rw [(Prod.mk.inj eh1).1, (Prod.mk.inj eh1).2] at hT
    have h2 : rg 0 5 a_a := ⟨by have := (rg_top a_a).1; have := hf1_0.1; omega, by have := (rg_top a_a).2; have := hf1_0.2; omega⟩
    have h3 : rg 0 5 a_b := ⟨by have := (rg_top a_b).1; have := hf1_1.1; omega, by have := (rg_top a_b).2; have := hf1_1.2; omega⟩
    refine lv_if_ne (tgt := 12) hx hb dX8_rests_6 (by decide) (fun c4 => ?_) (fun c4 => (x_eq (rg_k (by decide) : rg 1 1 1) (rg_k (by decide) : rg 0 0 0) (i_eq c4) (by decide)).elim)
    refine lv_iconst (v := 0) hx hb dX8_rests_12 (by decide) ?_
    refine lv_istore_n (lv' := [(3, .int 0), (0, .ref (h 0)), (1, .int a_a), (2, .int a_b)]) hx hb dX8_rests_13 rfl hl (by decide) rfl (fun ls hl => ?_)
    refine lv_iconst (v := 0) hx hb dX8_rests_14 (by decide) ?_
    refine lv_istore (lv' := [(4, .int 0), (3, .int 0), (0, .ref (h 0)), (1, .int a_a), (2, .int a_b)]) hx hb dX8_rests_15 hl (by decide) rfl (fun ls hl => ?_)
    have L17_5 : ∀ (n7_ : Nat) (x17_3 : Int32) (x17_4 : Int32) (i6 : Nat → Nat → Int32) (g6 : Nat → Nat → Int64) (H : Heap) (locs : List Loc) (ls : Array Slot), rg 0 255 x17_3 → rg 0 2 x17_4 → Rg rA i6 → Fr [72, 73, 74, 75, 76, 77, 78] [] i g (i6, g6) → TH D h cz i6 g6 H → va_S (hA h) s.heap H locs → lv_has ls 8 [(0, .ref (h 0)), (1, .int a_a), (2, .int a_b), (3, .int x17_3), (4, .int x17_4)] → (2 - x17_4.toInt).toNat < n7_ → W p l e ({ frames := 5, cells := 0, slots := 0, locals := 135 } : Room) s m args below meth c H locs 0 0 Q (F0 m 17 ls []) := by
      intro n7_
      induction n7_ with
      | zero => intro x17_3 x17_4 i6 g6 H locs ls hhx17_3 hhx17_4 hR6 hF6 hT hS hl hm7_; exact absurd hm7_ (Nat.not_lt_zero _)
      | succ n7_ ih7_ =>
        intro x17_3 x17_4 i6 g6 H locs ls hhx17_3 hhx17_4 hR6 hF6 hT hS hl hm7_
        refine lv_iload hx hb dX8_rests_17 (lv_at hl 4 rfl) ?_
        refine lv_iconst (v := 2) hx hb dX8_rests_19 (by decide) ?_
        refine lv_icmp_ge (tgt := 130) hx hb dX8_rests_20 (by decide) (fun c8 => ?_) (fun c8 => ?_)
        ·
          have q8 : 2 ≤ x17_4.toInt := i_le c8
          have h9 : rg 2 2 x17_4 := t_ley 2 2 (rg_k (by decide) : rg 2 2 2) hhx17_4 (i_le c8) (by decide)
          refine lv_iload_n hx hb dX8_rests_130 rfl (lv_at hl 3 rfl) ?_
          exact hret x17_3 _ _ _ _ _ _ dX8_rests_131 hT hS ⟨hR6, hF6, (rg_w hhx17_3 (by decide) : rg (-2) 255 x17_3)⟩
        ·
          have q8 : x17_4.toInt < 2 := i_nle c8
          have h10 : rg 0 1 x17_4 := t_ltx 0 1 hhx17_4 (rg_k (by decide) : rg 2 2 2) (i_nle c8) (by decide)
          refine lv_iconst (v := 0) hx hb dX8_rests_23 (by decide) ?_
          refine lv_istore (lv' := [(5, .int 0), (0, .ref (h 0)), (1, .int a_a), (2, .int a_b), (3, .int x17_3), (4, .int x17_4)]) hx hb dX8_rests_24 hl (by decide) rfl (fun ls hl => ?_)
          have L26_11 : ∀ (n13_ : Nat) (x26_1_3 : Int32) (x26_1_5 : Int32) (i12 : Nat → Nat → Int32) (g12 : Nat → Nat → Int64) (H : Heap) (locs : List Loc) (ls : Array Slot), rg 0 255 x26_1_3 → rg 0 2 x26_1_5 → Rg rA i12 → Fr [72, 73, 74, 75, 76, 77, 78] [] i g (i12, g12) → TH D h cz i12 g12 H → va_S (hA h) s.heap H locs → lv_has ls 8 [(0, .ref (h 0)), (1, .int a_a), (2, .int a_b), (3, .int x26_1_3), (4, .int x17_4), (5, .int x26_1_5)] → (2 - x26_1_5.toInt).toNat < n13_ → W p l e ({ frames := 5, cells := 0, slots := 0, locals := 135 } : Room) s m args below meth c H locs 0 0 Q (F0 m 26 ls []) := by
            intro n13_
            induction n13_ with
            | zero => intro x26_1_3 x26_1_5 i12 g12 H locs ls hhx26_1_3 hhx26_1_5 hR12 hF12 hT hS hl hm13_; exact absurd hm13_ (Nat.not_lt_zero _)
            | succ n13_ ih13_ =>
              intro x26_1_3 x26_1_5 i12 g12 H locs ls hhx26_1_3 hhx26_1_5 hR12 hF12 hT hS hl hm13_
              refine lv_iload hx hb dX8_rests_26 (lv_at hl 5 rfl) ?_
              refine lv_iconst (v := 2) hx hb dX8_rests_28 (by decide) ?_
              refine lv_icmp_ge (tgt := 124) hx hb dX8_rests_29 (by decide) (fun c14 => ?_) (fun c14 => ?_)
              ·
                have q14 : 2 ≤ x26_1_5.toInt := i_le c14
                have h15 : rg 2 2 x26_1_5 := t_ley 2 2 (rg_k (by decide) : rg 2 2 2) hhx26_1_5 (i_le c14) (by decide)
                obtain ⟨x16, ex16⟩ : ∃ y : Int32, y = x17_4 + 1 := ⟨_, rfl⟩
                refine lv_iinc (v := x16) (lv' := [(4, .int x16), (0, .ref (h 0)), (1, .int a_a), (2, .int a_b), (3, .int x26_1_3), (5, .int x26_1_5)]) hx hb dX8_rests_124 hl (k := 4) rfl (by rw [ex16]; rfl) (by decide) rfl (fun ls hl => ?_)
                obtain ⟨hx16, ax16⟩ := rg_add 1 2 ex16 h10 (rg_k (by decide) : rg 1 1 1) (by decide)
                replace ax16 : x16.toInt = x17_4.toInt + 1 := ax16
                refine lv_goto (tgt := 17) hx hb dX8_rests_127 (by decide) ?_
                exact ih7_ x26_1_3 x16 i12 g12 _ _ _ hhx26_1_3 (rg_w hx16 (by decide) : rg 0 2 x16) hR12 hF12 hT hS (lv_sub hl [1, 2, 3, 4, 0] rfl) (m_up ax16 hx16 (by decide) hm7_)
              ·
                have q14 : x26_1_5.toInt < 2 := i_nle c14
                have h17 : rg 0 1 x26_1_5 := t_ltx 0 1 hhx26_1_5 (rg_k (by decide) : rg 2 2 2) (i_nle c14) (by decide)
                refine lv_aload_n hx hb dX8_rests_32 rfl (lv_at hl 0 rfl) ?_
                refine lv_iload_n hx hb dX8_rests_33 rfl (lv_at hl 1 rfl) ?_
                refine lv_iload_n hx hb dX8_rests_34 rfl (lv_at hl 2 rfl) ?_
                refine lv_iload hx hb dX8_rests_35 (lv_at hl 4 rfl) ?_
                refine lv_iload hx hb dX8_rests_37 (lv_at hl 5 rfl) ?_
                refine e_Vi (As := [.int a_a, .int a_b, .int x17_4, .int x26_1_5]) (rest := []) X Y hT hS (m_X8_sewnGets hR12 a_a a_b x17_4 x26_1_5 h2) mk_X8_sewnGets gm_1184 rfl rfl (by decide) hd_X8_sewnGets ⟨rfl, rfl⟩ ⟨Nat.le_of_ble_eq_true rfl, Nat.le_of_ble_eq_true rfl⟩ hl.1 rfl (Nat.le_of_ble_eq_true rfl) dX8_rests_39 ⟨Nat.zero_le _, Nat.zero_le _⟩ (fun r18 i18 g18 H locs hq hT hS => ?_)
                obtain ⟨hR18, hf18⟩ := hq
                have hF18 := Fr_tr hF12 hf18 (by decide)
                refine lv_aload_n hx hb dX8_rests_42 rfl (lv_at hl 0 rfl) ?_
                refine lv_iload_n hx hb dX8_rests_43 rfl (lv_at hl 1 rfl) ?_
                refine lv_iload_n hx hb dX8_rests_44 rfl (lv_at hl 2 rfl) ?_
                refine lv_iconst (v := 1) hx hb dX8_rests_45 (by decide) ?_
                refine lv_iload hx hb dX8_rests_46 (lv_at hl 4 rfl) ?_
                refine q_isub hx hb dX8_rests_48 (fun x19 ex19 => ?_)
                obtain ⟨hx19, ax19⟩ := rg_sub 0 1 ex19 (rg_k (by decide) : rg 1 1 1) h10 (by decide)
                replace ax19 : x19.toInt = 1 - x17_4.toInt := ax19
                refine lv_iload hx hb dX8_rests_49 (lv_at hl 5 rfl) ?_
                refine e_Vi (As := [.int a_a, .int a_b, .int x19, .int x26_1_5]) (rest := [.int r18]) X Y hT hS (m_X8_sewnGets hR18 a_a a_b x19 x26_1_5 h2) mk_X8_sewnGets gm_1184 rfl rfl (by decide) hd_X8_sewnGets ⟨rfl, rfl⟩ ⟨Nat.le_of_ble_eq_true rfl, Nat.le_of_ble_eq_true rfl⟩ hl.1 rfl (Nat.le_of_ble_eq_true rfl) dX8_rests_51 ⟨Nat.zero_le _, Nat.zero_le _⟩ (fun r20 i20 g20 H locs hq hT hS => ?_)
                obtain ⟨hR20, hf20⟩ := hq
                have hF20 := Fr_tr hF18 hf20 (by decide)
                have J62_22 : ∀ (x62_22_s0 : Int32) (H : Heap) (locs : List Loc) (ls : Array Slot), rg 0 1 x62_22_s0 → TH D h cz i20 g20 H → va_S (hA h) s.heap H locs → lv_has ls 8 [(0, .ref (h 0)), (1, .int a_a), (2, .int a_b), (3, .int x26_1_3), (4, .int x17_4), (5, .int x26_1_5)] → W p l e ({ frames := 5, cells := 0, slots := 0, locals := 135 } : Room) s m args below meth c H locs 0 0 Q (F0 m 62 ls [.int x62_22_s0]) := by
                  intro x62_22_s0 H locs ls hhx62_22_s0 hT hS hl
                  refine lv_istore (lv' := [(6, .int x62_22_s0), (0, .ref (h 0)), (1, .int a_a), (2, .int a_b), (3, .int x26_1_3), (4, .int x17_4), (5, .int x26_1_5)]) hx hb dX8_rests_62 hl (by decide) rfl (fun ls hl => ?_)
                  refine lv_aload_n hx hb dX8_rests_64 rfl (lv_at hl 1 rfl) ?_
                  refine lv_iload_n hx hb dX8_rests_65 rfl (lv_at hl 3 rfl) ?_
                  refine lv_iload_n hx hb dX8_rests_66 rfl (lv_at hl 2 rfl) ?_
                  refine lv_iload hx hb dX8_rests_67 (lv_at hl 6 rfl) ?_
                  refine lv_iload hx hb dX8_rests_69 (lv_at hl 5 rfl) ?_
                  refine e_Vi (As := [.int a_b, .int a_a, .int x26_1_5, .int x17_4]) (rest := []) X Y hT hS (m_X8_sewnGets hR20 a_b a_a x26_1_5 x17_4 h3) mk_X8_sewnGets gm_1184 rfl rfl (by decide) hd_X8_sewnGets ⟨rfl, rfl⟩ ⟨Nat.le_of_ble_eq_true rfl, Nat.le_of_ble_eq_true rfl⟩ hl.1 rfl (Nat.le_of_ble_eq_true rfl) dX8_rests_71 ⟨Nat.zero_le _, Nat.zero_le _⟩ (fun r23 i23 g23 H locs hq hT hS => ?_)
                  obtain ⟨hR23, hf23⟩ := hq
                  have hF23 := Fr_tr hF20 hf23 (by decide)
                  refine lv_aload_n hx hb dX8_rests_74 rfl (lv_at hl 1 rfl) ?_
                  refine lv_iload_n hx hb dX8_rests_75 rfl (lv_at hl 3 rfl) ?_
                  refine lv_iload_n hx hb dX8_rests_76 rfl (lv_at hl 2 rfl) ?_
                  refine lv_iconst (v := 1) hx hb dX8_rests_77 (by decide) ?_
                  refine lv_iload hx hb dX8_rests_78 (lv_at hl 6 rfl) ?_
                  refine q_isub hx hb dX8_rests_80 (fun x24 ex24 => ?_)
                  obtain ⟨hx24, ax24⟩ := rg_sub 0 1 ex24 (rg_k (by decide) : rg 1 1 1) h17 (by decide)
                  replace ax24 : x24.toInt = 1 - x26_1_5.toInt := ax24
                  refine lv_iload hx hb dX8_rests_81 (lv_at hl 5 rfl) ?_
                  refine e_Vi (As := [.int a_b, .int a_a, .int x24, .int x17_4]) (rest := [.int r23]) X Y hT hS (m_X8_sewnGets hR23 a_b a_a x24 x17_4 h3) mk_X8_sewnGets gm_1184 rfl rfl (by decide) hd_X8_sewnGets ⟨rfl, rfl⟩ ⟨Nat.le_of_ble_eq_true rfl, Nat.le_of_ble_eq_true rfl⟩ hl.1 rfl (Nat.le_of_ble_eq_true rfl) dX8_rests_83 ⟨Nat.zero_le _, Nat.zero_le _⟩ (fun r25 i25 g25 H locs hq hT hS => ?_)
                  obtain ⟨hR25, hf25⟩ := hq
                  have hF25 := Fr_tr hF23 hf25 (by decide)
                  have J94_27 : ∀ (x94_27_s0 : Int32) (H : Heap) (locs : List Loc) (ls : Array Slot), rg 0 1 x94_27_s0 → TH D h cz i25 g25 H → va_S (hA h) s.heap H locs → lv_has ls 8 [(0, .ref (h 0)), (1, .int a_a), (2, .int a_b), (3, .int x26_1_3), (4, .int x17_4), (5, .int x26_1_5), (6, .int x62_22_s0)] → W p l e ({ frames := 5, cells := 0, slots := 0, locals := 135 } : Room) s m args below meth c H locs 0 0 Q (F0 m 94 ls [.int x94_27_s0]) := by
                    intro x94_27_s0 H locs ls hhx94_27_s0 hT hS hl
                    refine lv_istore (lv' := [(7, .int x94_27_s0), (0, .ref (h 0)), (1, .int a_a), (2, .int a_b), (3, .int x26_1_3), (4, .int x17_4), (5, .int x26_1_5), (6, .int x62_22_s0)]) hx hb dX8_rests_94 hl (by decide) rfl (fun ls hl => ?_)
                    refine lv_iload hx hb dX8_rests_96 (lv_at hl 7 rfl) ?_
                    refine lv_if_eq (tgt := 118) hx hb dX8_rests_98 (by decide) (fun c28 => ?_) (fun c28 => ?_)
                    ·
                      have q28 : x62_22_s0.toInt = 0 := i_eq c28
                      have h29 : rg 0 0 x62_22_s0 := t_eqx 0 0 hhx62_22_s0 (rg_k (by decide) : rg 0 0 0) (i_eq c28) (by decide)
                      obtain ⟨x30, ex30⟩ : ∃ y : Int32, y = x26_1_5 + 1 := ⟨_, rfl⟩
                      refine lv_iinc (v := x30) (lv' := [(5, .int x30), (7, .int x94_27_s0), (0, .ref (h 0)), (1, .int a_a), (2, .int a_b), (3, .int x26_1_3), (4, .int x17_4), (6, .int x62_22_s0)]) hx hb dX8_rests_118 hl (k := 6) rfl (by rw [ex30]; rfl) (by decide) rfl (fun ls hl => ?_)
                      obtain ⟨hx30, ax30⟩ := rg_add 1 2 ex30 h17 (rg_k (by decide) : rg 1 1 1) (by decide)
                      replace ax30 : x30.toInt = x26_1_5.toInt + 1 := ax30
                      refine lv_goto (tgt := 26) hx hb dX8_rests_121 (by decide) ?_
                      exact ih13_ x26_1_3 x30 i25 g25 _ _ _ hhx26_1_3 (rg_w hx30 (by decide) : rg 0 2 x30) hR25 hF25 hT hS (lv_sub hl [2, 3, 4, 5, 6, 0] rfl) (m_up ax30 hx30 (by decide) hm13_)
                    ·
                      have q28 : ¬ x62_22_s0.toInt = 0 := i_ne c28
                      have h31 : rg 1 1 x62_22_s0 := t_nelo 1 hhx62_22_s0 (rg_k (by decide) : rg 0 0 0) (i_ne c28) (by decide)
                      refine lv_iload hx hb dX8_rests_101 (lv_at hl 0 rfl) ?_
                      refine lv_if_eq (tgt := 118) hx hb dX8_rests_103 (by decide) (fun c32 => ?_) (fun c32 => ?_)
                      ·
                        have q32 : x94_27_s0.toInt = 0 := i_eq c32
                        have h33 : rg 0 0 x94_27_s0 := t_eqx 0 0 hhx94_27_s0 (rg_k (by decide) : rg 0 0 0) (i_eq c32) (by decide)
                        obtain ⟨x34, ex34⟩ : ∃ y : Int32, y = x26_1_5 + 1 := ⟨_, rfl⟩
                        refine lv_iinc (v := x34) (lv' := [(5, .int x34), (7, .int x94_27_s0), (0, .ref (h 0)), (1, .int a_a), (2, .int a_b), (3, .int x26_1_3), (4, .int x17_4), (6, .int x62_22_s0)]) hx hb dX8_rests_118 hl (k := 6) rfl (by rw [ex34]; rfl) (by decide) rfl (fun ls hl => ?_)
                        obtain ⟨hx34, ax34⟩ := rg_add 1 2 ex34 h17 (rg_k (by decide) : rg 1 1 1) (by decide)
                        replace ax34 : x34.toInt = x26_1_5.toInt + 1 := ax34
                        refine lv_goto (tgt := 26) hx hb dX8_rests_121 (by decide) ?_
                        exact ih13_ x26_1_3 x34 i25 g25 _ _ _ hhx26_1_3 (rg_w hx34 (by decide) : rg 0 2 x34) hR25 hF25 hT hS (lv_sub hl [2, 3, 4, 5, 6, 0] rfl) (m_up ax34 hx34 (by decide) hm13_)
                      ·
                        have q32 : ¬ x94_27_s0.toInt = 0 := i_ne c32
                        have h35 : rg 1 1 x94_27_s0 := t_nelo 1 hhx94_27_s0 (rg_k (by decide) : rg 0 0 0) (i_ne c32) (by decide)
                        refine lv_iload_n hx hb dX8_rests_106 rfl (lv_at hl 4 rfl) ?_
                        refine lv_iconst (v := 1) hx hb dX8_rests_107 (by decide) ?_
                        refine lv_iload hx hb dX8_rests_108 (lv_at hl 5 rfl) ?_
                        refine lv_iconst (v := 2) hx hb dX8_rests_110 (by decide) ?_
                        refine lv_iload hx hb dX8_rests_111 (lv_at hl 6 rfl) ?_
                        refine q_imul hx hb dX8_rests_113 (fun x36 ex36 => ?_)
                        obtain ⟨hx36, ax36⟩ := rg_mul 0 2 ex36 (rg_k (by decide) : rg 2 2 2) h17 (by decide)
                        replace ax36 : x36.toInt = 2 * x26_1_5.toInt := ax36
                        refine q_iadd hx hb dX8_rests_114 (fun x37 ex37 => ?_)
                        obtain ⟨hx37, ax37⟩ := rg_add 0 3 ex37 h10 hx36 (by decide)
                        replace ax37 : x37.toInt = x17_4.toInt + x36.toInt := ax37
                        refine q_ishl hx hb dX8_rests_115 (fun x38 ex38 => ?_)
                        have h39 : rg 1 8 x38 := rg_shl1 ex38 hx37 (by decide)
                        refine q_ior hx hb dX8_rests_116 (fun x40 ex40 => ?_)
                        have h41 : rg 0 255 x40 := rg_or8 ex40 hhx26_1_3 h39 (by decide)
                        refine lv_istore_n (lv' := [(3, .int x40), (7, .int x94_27_s0), (0, .ref (h 0)), (1, .int a_a), (2, .int a_b), (4, .int x17_4), (5, .int x26_1_5), (6, .int x62_22_s0)]) hx hb dX8_rests_117 rfl hl (by decide) rfl (fun ls hl => ?_)
                        obtain ⟨x42, ex42⟩ : ∃ y : Int32, y = x26_1_5 + 1 := ⟨_, rfl⟩
                        refine lv_iinc (v := x42) (lv' := [(5, .int x42), (3, .int x40), (7, .int x94_27_s0), (0, .ref (h 0)), (1, .int a_a), (2, .int a_b), (4, .int x17_4), (6, .int x62_22_s0)]) hx hb dX8_rests_118 hl (k := 6) rfl (by rw [ex42]; rfl) (by decide) rfl (fun ls hl => ?_)
                        obtain ⟨hx42, ax42⟩ := rg_add 1 2 ex42 h17 (rg_k (by decide) : rg 1 1 1) (by decide)
                        replace ax42 : x42.toInt = x26_1_5.toInt + 1 := ax42
                        refine lv_goto (tgt := 26) hx hb dX8_rests_121 (by decide) ?_
                        exact ih13_ x40 x42 i25 g25 _ _ _ h41 (rg_w hx42 (by decide) : rg 0 2 x42) hR25 hF25 hT hS (lv_sub hl [3, 4, 5, 1, 6, 0] rfl) (m_up ax42 hx42 (by decide) hm13_)
                  refine lv_icmp_lt (tgt := 93) hx hb dX8_rests_86 (by decide) (fun c26 => ?_) (fun c26 => ?_)
                  ·
                    have q26 : r23.toInt < r25.toInt := i_lt c26
                    have h43 : rg (-2147483648) 2147483646 r23 := t_ltx (-2147483648) 2147483646 (rg_top r23) (rg_top r25) (i_lt c26) (by decide)
                    have h44 : rg (-2147483647) 2147483647 r25 := t_lty (-2147483647) 2147483647 (rg_top r23) (rg_top r25) (i_lt c26) (by decide)
                    refine lv_iconst (v := 0) hx hb dX8_rests_93 (by decide) ?_
                    exact J94_27 (0) _ _ _ (rg_w (rg_k (by decide) : rg 0 0 0) (by decide) : rg 0 1 0) hT hS (lv_sub hl [1, 2, 3, 4, 5, 6, 0] rfl)
                  ·
                    have q26 : r25.toInt ≤ r23.toInt := i_nlt c26
                    refine lv_iconst (v := 1) hx hb dX8_rests_89 (by decide) ?_
                    refine lv_goto (tgt := 94) hx hb dX8_rests_90 (by decide) ?_
                    exact J94_27 (1) _ _ _ (rg_w (rg_k (by decide) : rg 1 1 1) (by decide) : rg 0 1 1) hT hS (lv_sub hl [1, 2, 3, 4, 5, 6, 0] rfl)
                refine lv_icmp_lt (tgt := 61) hx hb dX8_rests_54 (by decide) (fun c21 => ?_) (fun c21 => ?_)
                ·
                  have q21 : r18.toInt < r20.toInt := i_lt c21
                  have h45 : rg (-2147483648) 2147483646 r18 := t_ltx (-2147483648) 2147483646 (rg_top r18) (rg_top r20) (i_lt c21) (by decide)
                  have h46 : rg (-2147483647) 2147483647 r20 := t_lty (-2147483647) 2147483647 (rg_top r18) (rg_top r20) (i_lt c21) (by decide)
                  refine lv_iconst (v := 0) hx hb dX8_rests_61 (by decide) ?_
                  exact J62_22 (0) _ _ _ (rg_w (rg_k (by decide) : rg 0 0 0) (by decide) : rg 0 1 0) hT hS (lv_sub hl [0, 1, 2, 3, 4, 5] rfl)
                ·
                  have q21 : r20.toInt ≤ r18.toInt := i_nlt c21
                  refine lv_iconst (v := 1) hx hb dX8_rests_57 (by decide) ?_
                  refine lv_goto (tgt := 62) hx hb dX8_rests_58 (by decide) ?_
                  exact J62_22 (1) _ _ _ (rg_w (rg_k (by decide) : rg 1 1 1) (by decide) : rg 0 1 1) hT hS (lv_sub hl [0, 1, 2, 3, 4, 5] rfl)
          exact L26_11 _ x17_3 (0) i6 g6 _ _ _ hhx17_3 (rg_w (rg_k (by decide) : rg 0 0 0) (by decide) : rg 0 2 0) hR6 hF6 hT hS (lv_sub hl [1, 2, 3, 4, 5, 0] rfl) (Nat.lt_succ_self _)
    exact L17_5 _ (0) (0) i g _ _ _ (rg_w (rg_k (by decide) : rg 0 0 0) (by decide) : rg 0 255 0) (rg_w (rg_k (by decide) : rg 0 0 0) (by decide) : rg 0 2 0) hR hF hT hS (lv_sub hl [2, 3, 4, 1, 0] rfl) (Nat.lt_succ_self _)
  ·
    obtain ⟨eh1, rfl⟩ := hq
    rw [(Prod.mk.inj eh1).1, (Prod.mk.inj eh1).2] at hT
    refine lv_if_ne (tgt := 12) hx hb dX8_rests_6 (by decide) (fun c47 => (x_ne (rg_k (by decide) : rg 0 0 0) (rg_k (by decide) : rg 0 0 0) (i_ne c47) (by decide)).elim) (fun c47 => ?_)
    refine lv_bipush (v := (-2)) hx hb dX8_rests_9 (by decide) ?_
    exact hret (-2) _ _ _ _ _ _ dX8_rests_11 hT hS ⟨hR, hF, (rg_w (rg_k (by decide) : rg (-2) (-2) (-2)) (by decide) : rg (-2) 255 (-2))⟩
set_option maxRecDepth 100000 in
set_option maxHeartbeats 4000000 in
theorem m_X8_isChoice {l : Launch} {D : va_G} {h : Nat → Nat} {cz : Nat → ClassId} {z : EZ} {i : Nat → Nat → Int32} {g : Nat → Nat → Int64} (a_a : Int32) : DtI l yX8_isChoice cX8_isChoice 1 (some .boolean) ({ frames := 0, cells := 0, slots := 0, locals := 0 } : Room) D h cz z i g [.int a_a] (fun r u => (u = (i, g) ∧ r = 1 ∧ rg 0 1 a_a) ∨ (u = (i, g) ∧ r = 0)) := by
  refine e_Z (fun v u hq => (hq.elim (fun hq => (Or.inr hq.2.1)) (fun hq => (Or.inl hq.2)))) pn_X8_isChoice (Nat.le_of_ble_eq_true rfl) ?_
  intro p e s m args below meth c ls Q X Y hret hT hl hS
  have hx := X.1
  have hb := X.2.1
  have hl : lv_has ls 1 [(0, .int a_a)] := hl
  refine lv_iload_n hx hb dX8_isChoice_0 rfl (lv_at hl 0 rfl) ?_
  refine lv_if_eq (tgt := 9) hx hb dX8_isChoice_1 (by decide) (fun c1 => ?_) (fun c1 => ?_)
  ·
    have q1 : a_a.toInt = 0 := i_eq c1
    have h2 : rg 0 0 a_a := t_eqx 0 0 (rg_top a_a) (rg_k (by decide) : rg 0 0 0) (i_eq c1) (by decide)
    refine lv_iconst (v := 1) hx hb dX8_isChoice_9 (by decide) ?_
    refine lv_goto (tgt := 14) hx hb dX8_isChoice_10 (by decide) ?_
    exact hret 1 _ _ _ _ _ _ dX8_isChoice_14 hT hS (Or.inl ⟨rfl, rfl, (rg_w h2 (by decide) : rg 0 1 a_a)⟩)
  ·
    have q1 : ¬ a_a.toInt = 0 := i_ne c1
    refine lv_iload_n hx hb dX8_isChoice_4 rfl (lv_at hl 0 rfl) ?_
    refine lv_iconst (v := 1) hx hb dX8_isChoice_5 (by decide) ?_
    refine lv_icmp_ne (tgt := 13) hx hb dX8_isChoice_6 (by decide) (fun c3 => ?_) (fun c3 => ?_)
    ·
      have q3 : ¬ a_a.toInt = 1 := i_ne c3
      refine lv_iconst (v := 0) hx hb dX8_isChoice_13 (by decide) ?_
      exact hret 0 _ _ _ _ _ _ dX8_isChoice_14 hT hS (Or.inr ⟨rfl, rfl⟩)
    ·
      have q3 : a_a.toInt = 1 := i_eq c3
      have h4 : rg 1 1 a_a := t_eqx 1 1 (rg_top a_a) (rg_k (by decide) : rg 1 1 1) (i_eq c3) (by decide)
      refine lv_iconst (v := 1) hx hb dX8_isChoice_9 (by decide) ?_
      refine lv_goto (tgt := 14) hx hb dX8_isChoice_10 (by decide) ?_
      exact hret 1 _ _ _ _ _ _ dX8_isChoice_14 hT hS (Or.inl ⟨rfl, rfl, (rg_w h4 (by decide) : rg 0 1 a_a)⟩)
set_option maxRecDepth 100000 in
set_option maxHeartbeats 4000000 in
theorem m_X8_gets {l : Launch} {D : va_G} {h : Nat → Nat} {cz : Nat → ClassId} {z : EZ} {i : Nat → Nat → Int32} {g : Nat → Nat → Int64} (hR : Rg rA i) (a_a : Int32) (a_b : Int32) (a_c : Int32) (a_d : Int32) : DtI l yX8_gets cX8_gets 5 (some .int) ({ frames := 5, cells := 0, slots := 0, locals := 135 } : Room) D h cz z i g [.ref (h 0), .int a_a, .int a_b, .int a_c, .int a_d] (fun r u => Rg rA u.1 ∧ Fr [72, 73, 74, 75, 76, 77, 78] [] i g u) := by
  refine e_I pn_X8_gets (Nat.le_of_ble_eq_true rfl) ?_
  intro p e s m args below meth c ls Q X Y hret hT hl hS
  have hx := X.1
  have hb := X.2.1
  have hl : lv_has ls 5 [(0, .ref (h 0)), (1, .int a_a), (2, .int a_b), (3, .int a_c), (4, .int a_d)] := hl
  have hF : Fr [72, 73, 74, 75, 76, 77, 78] [] i g (i, g) := Fr_rf _ _ _ _
  refine lv_aload_n hx hb dX8_gets_0 rfl (lv_at hl 0 rfl) ?_
  refine lv_iload_n hx hb dX8_gets_1 rfl (lv_at hl 1 rfl) ?_
  refine lv_iload_n hx hb dX8_gets_2 rfl (lv_at hl 2 rfl) ?_
  refine e_Vi (As := [.int a_a, .int a_b]) (rest := []) X Y hT hS (m_X8_isPair hR a_a a_b) mk_X8_isPair gm_1180 rfl rfl (by decide) hd_X8_isPair ⟨rfl, rfl⟩ ⟨Nat.le_of_ble_eq_true rfl, Nat.le_of_ble_eq_true rfl⟩ hl.1 rfl (Nat.le_of_ble_eq_true rfl) dX8_gets_3 ⟨Nat.zero_le _, Nat.zero_le _⟩ (fun r1 i1 g1 H locs hq hT hS => ?_)
  rcases hq with hq | hq
  ·
    obtain ⟨eh1, rfl, hf1_0, hf1_1⟩ := hq
    rw [(Prod.mk.inj eh1).1, (Prod.mk.inj eh1).2] at hT
    have h2 : rg 0 5 a_a := ⟨by have := (rg_top a_a).1; have := hf1_0.1; omega, by have := (rg_top a_a).2; have := hf1_0.2; omega⟩
    have h3 : rg 0 5 a_b := ⟨by have := (rg_top a_b).1; have := hf1_1.1; omega, by have := (rg_top a_b).2; have := hf1_1.2; omega⟩
    refine lv_if_eq (tgt := 24) hx hb dX8_gets_6 (by decide) (fun c4 => (x_eq (rg_k (by decide) : rg 1 1 1) (rg_k (by decide) : rg 0 0 0) (i_eq c4) (by decide)).elim) (fun c4 => ?_)
    refine lv_iload_n hx hb dX8_gets_9 rfl (lv_at hl 3 rfl) ?_
    refine e_Si (As := [.int a_c]) (rest := []) X Y hT hS (m_X8_isChoice a_c) sk_X8_isChoice gm_1192 hd_X8_isChoice ⟨rfl, rfl⟩ ⟨Nat.le_of_ble_eq_true rfl, Nat.le_of_ble_eq_true rfl⟩ hl.1 rfl (Nat.le_of_ble_eq_true rfl) dX8_gets_10 ⟨Nat.zero_le _, Nat.zero_le _⟩ (fun r5 i5 g5 H locs hq hT hS => ?_)
    rcases hq with hq | hq
    ·
      obtain ⟨eh5, rfl, hf5_0⟩ := hq
      rw [(Prod.mk.inj eh5).1, (Prod.mk.inj eh5).2] at hT
      have h6 : rg 0 1 a_c := ⟨by have := (rg_top a_c).1; have := hf5_0.1; omega, by have := (rg_top a_c).2; have := hf5_0.2; omega⟩
      refine lv_if_eq (tgt := 24) hx hb dX8_gets_13 (by decide) (fun c7 => (x_eq (rg_k (by decide) : rg 1 1 1) (rg_k (by decide) : rg 0 0 0) (i_eq c7) (by decide)).elim) (fun c7 => ?_)
      refine lv_iload hx hb dX8_gets_16 (lv_at hl 4 rfl) ?_
      refine e_Si (As := [.int a_d]) (rest := []) X Y hT hS (m_X8_isChoice a_d) sk_X8_isChoice gm_1192 hd_X8_isChoice ⟨rfl, rfl⟩ ⟨Nat.le_of_ble_eq_true rfl, Nat.le_of_ble_eq_true rfl⟩ hl.1 rfl (Nat.le_of_ble_eq_true rfl) dX8_gets_18 ⟨Nat.zero_le _, Nat.zero_le _⟩ (fun r8 i8 g8 H locs hq hT hS => ?_)
      rcases hq with hq | hq
      ·
        obtain ⟨eh8, rfl, hf8_0⟩ := hq
        rw [(Prod.mk.inj eh8).1, (Prod.mk.inj eh8).2] at hT
        have h9 : rg 0 1 a_d := ⟨by have := (rg_top a_d).1; have := hf8_0.1; omega, by have := (rg_top a_d).2; have := hf8_0.2; omega⟩
        refine lv_if_ne (tgt := 28) hx hb dX8_gets_21 (by decide) (fun c10 => ?_) (fun c10 => (x_eq (rg_k (by decide) : rg 1 1 1) (rg_k (by decide) : rg 0 0 0) (i_eq c10) (by decide)).elim)
        refine lv_aload_n hx hb dX8_gets_28 rfl (lv_at hl 0 rfl) ?_
        refine lv_iload_n hx hb dX8_gets_29 rfl (lv_at hl 1 rfl) ?_
        refine lv_iload_n hx hb dX8_gets_30 rfl (lv_at hl 2 rfl) ?_
        refine lv_iload_n hx hb dX8_gets_31 rfl (lv_at hl 3 rfl) ?_
        refine lv_iload hx hb dX8_gets_32 (lv_at hl 4 rfl) ?_
        refine e_Vi (As := [.int a_a, .int a_b, .int a_c, .int a_d]) (rest := []) X Y hT hS (m_X8_sewnGets hR a_a a_b a_c a_d h2) mk_X8_sewnGets gm_1184 rfl rfl (by decide) hd_X8_sewnGets ⟨rfl, rfl⟩ ⟨Nat.le_of_ble_eq_true rfl, Nat.le_of_ble_eq_true rfl⟩ hl.1 rfl (Nat.le_of_ble_eq_true rfl) dX8_gets_34 ⟨Nat.zero_le _, Nat.zero_le _⟩ (fun r11 i11 g11 H locs hq hT hS => ?_)
        obtain ⟨hR11, hf11⟩ := hq
        have hF11 := Fr_tr hF hf11 (by decide)
        exact hret r11 _ _ _ _ _ _ dX8_gets_37 hT hS ⟨hR11, hF11⟩
      ·
        obtain ⟨eh8, rfl⟩ := hq
        rw [(Prod.mk.inj eh8).1, (Prod.mk.inj eh8).2] at hT
        refine lv_if_ne (tgt := 28) hx hb dX8_gets_21 (by decide) (fun c12 => (x_ne (rg_k (by decide) : rg 0 0 0) (rg_k (by decide) : rg 0 0 0) (i_ne c12) (by decide)).elim) (fun c12 => ?_)
        refine lv_sipush (v := (-1000)) hx hb dX8_gets_24 (by decide) ?_
        exact hret (-1000) _ _ _ _ _ _ dX8_gets_27 hT hS ⟨hR, hF⟩
    ·
      obtain ⟨eh5, rfl⟩ := hq
      rw [(Prod.mk.inj eh5).1, (Prod.mk.inj eh5).2] at hT
      refine lv_if_eq (tgt := 24) hx hb dX8_gets_13 (by decide) (fun c13 => ?_) (fun c13 => (x_ne (rg_k (by decide) : rg 0 0 0) (rg_k (by decide) : rg 0 0 0) (i_ne c13) (by decide)).elim)
      refine lv_sipush (v := (-1000)) hx hb dX8_gets_24 (by decide) ?_
      exact hret (-1000) _ _ _ _ _ _ dX8_gets_27 hT hS ⟨hR, hF⟩
  ·
    obtain ⟨eh1, rfl⟩ := hq
    rw [(Prod.mk.inj eh1).1, (Prod.mk.inj eh1).2] at hT
    refine lv_if_eq (tgt := 24) hx hb dX8_gets_6 (by decide) (fun c14 => ?_) (fun c14 => (x_ne (rg_k (by decide) : rg 0 0 0) (rg_k (by decide) : rg 0 0 0) (i_ne c14) (by decide)).elim)
    refine lv_sipush (v := (-1000)) hx hb dX8_gets_24 (by decide) ?_
    exact hret (-1000) _ _ _ _ _ _ dX8_gets_27 hT hS ⟨hR, hF⟩
