set_option maxRecDepth 100000 in
set_option maxHeartbeats 4000000 in
theorem m_X4_compare_79 {l : Launch} {D : va_G} {h : Nat → Nat} {cz : Nat → ClassId} {z : EZ} {i : Nat → Nat → Int32} {g : Nat → Nat → Int64} (hR : Rg rA i) (a_a : Int32) (ha_a : rg 1 5 a_a) : DtV l yX4_compare cX4_compare 2 none ({ frames := 1, cells := 0, slots := 0, locals := 40 } : Room) D h cz z i g [.ref (h 79), .int a_a] (fun u => Rg rA u.1 ∧ Fr [79, 90] [] i g u) := by
  refine e_V pn_X4_compare (Nat.le_of_ble_eq_true rfl) ?_
  intro p e s m args below meth c ls Q X Y hret hT hl hS
  have hx := X.1
  have hb := X.2.1
  have hl : lv_has ls 2 [(0, .ref (h 79)), (1, .int a_a)] := hl
  have hF : Fr [79, 90] [] i g (i, g) := Fr_rf _ _ _ _
  refine lv_aload_n hx hb dX4_compare_0 rfl (lv_at hl 0 rfl) ?_
  refine r_getr X hT 79 4 88 fk_4_20 rfl rfl (by decide) dX4_compare_1 ?_
  refine lv_iload_n hx hb dX4_compare_4 rfl (lv_at hl 1 rfl) ?_
  refine r_iald X hT 88 rfl (by decide) (v_in ha_a (by decide)) dX4_compare_5 ?_
  refine lv_aload_n hx hb dX4_compare_6 rfl (lv_at hl 0 rfl) ?_
  refine r_geti X hT 79 7 fk_4_43 rfl rfl (by decide) dX4_compare_7 ?_
  have J42_2 : ∀  (i3 : Nat → Nat → Int32) (H : Heap) (locs : List Loc) (ls : Array Slot), Rg rA i3 → Fr [79, 90] [] i g (i3, g) → TH D h cz i3 g H → va_S (hA h) s.heap H locs → lv_has ls 2 [(0, .ref (h 79)), (1, .int a_a)] → W p l e ({ frames := 1, cells := 0, slots := 0, locals := 40 } : Room) s m args below meth c H locs 0 0 Q (F0 m 42 ls []) := by
    intro  i3 H locs ls hR3 hF3 hT hS hl
    refine lv_aload_n hx hb dX4_compare_42 rfl (lv_at hl 0 rfl) ?_
    refine r_getr X hT 79 4 88 fk_4_20 rfl rfl (by decide) dX4_compare_43 ?_
    refine lv_iload_n hx hb dX4_compare_46 rfl (lv_at hl 1 rfl) ?_
    refine r_iald X hT 88 rfl (by decide) (v_in ha_a (by decide)) dX4_compare_47 ?_
    refine lv_aload_n hx hb dX4_compare_48 rfl (lv_at hl 0 rfl) ?_
    refine r_geti X hT 79 7 fk_4_43 rfl rfl (by decide) dX4_compare_49 ?_
    refine lv_icmp_ne (tgt := 65) hx hb dX4_compare_52 (by decide) (fun c4 => ?_) (fun c4 => ?_)
    ·
      have q4 : ¬ (i3 88 a_a.toNatClampNeg).toInt = (i3 79 7).toInt := i_ne c4
      exact hret _ _ _ _ _ _ dX4_compare_65 hT hS ⟨hR3, hF3⟩
    ·
      have q4 : (i3 88 a_a.toNatClampNeg).toInt = (i3 79 7).toInt := i_eq c4
      refine lv_aload_n hx hb dX4_compare_55 rfl (lv_at hl 0 rfl) ?_
      refine lv_dup hx hb dX4_compare_56 rfl ?_
      refine r_geti X hT 79 8 fk_4_47 rfl rfl (by decide) dX4_compare_57 ?_
      refine lv_iconst (v := 1) hx hb dX4_compare_60 (by decide) ?_
      refine q_iadd hx hb dX4_compare_61 (fun x5 ex5 => ?_)
      refine r_puti X hT hS 79 8 pk_4_47 rfl rfl rfl rfl (by decide) dX4_compare_62 (fun H locs i6 ei6 hT hS => ?_)
      have hR6 := Rg_put hR3 ei6 (-2147483648) 2147483647 rfl (rg_top x5) (by decide)
      have hF6 := Fr_puti hF3 ei6 (by decide)
      exact hret _ _ _ _ _ _ dX4_compare_65 hT hS ⟨hR6, hF6⟩
  refine lv_icmp_le (tgt := 42) hx hb dX4_compare_10 (by decide) (fun c1 => ?_) (fun c1 => ?_)
  ·
    have q1 : (i 88 a_a.toNatClampNeg).toInt ≤ (i 79 7).toInt := i_le c1
    exact J42_2 i _ _ _ hR hF hT hS (lv_sub hl [0, 1] rfl)
  ·
    have q1 : (i 79 7).toInt < (i 88 a_a.toNatClampNeg).toInt := i_nle c1
    have h7 : rg (-2147483648) 2147483646 (i 79 7) := t_ltx (-2147483648) 2147483646 (rg_top (i 79 7)) (rg_top (i 88 a_a.toNatClampNeg)) (i_nle c1) (by decide)
    have h8 : rg (-2147483647) 2147483647 (i 88 a_a.toNatClampNeg) := t_lty (-2147483647) 2147483647 (rg_top (i 79 7)) (rg_top (i 88 a_a.toNatClampNeg)) (i_nle c1) (by decide)
    refine lv_aload_n hx hb dX4_compare_13 rfl (lv_at hl 0 rfl) ?_
    refine lv_aload_n hx hb dX4_compare_14 rfl (lv_at hl 0 rfl) ?_
    refine r_getr X hT 79 4 88 fk_4_20 rfl rfl (by decide) dX4_compare_15 ?_
    refine lv_iload_n hx hb dX4_compare_18 rfl (lv_at hl 1 rfl) ?_
    refine r_iald X hT 88 rfl (by decide) (v_in ha_a (by decide)) dX4_compare_19 ?_
    refine r_puti X hT hS 79 7 pk_4_43 rfl rfl rfl rfl (by decide) dX4_compare_20 (fun H locs i9 ei9 hT hS => ?_)
    have hR9 := Rg_put hR ei9 (-2147483648) 2147483647 rfl h8 (by decide)
    have hF9 := Fr_puti hF ei9 (by decide)
    refine lv_aload_n hx hb dX4_compare_23 rfl (lv_at hl 0 rfl) ?_
    refine lv_iconst (v := 0) hx hb dX4_compare_24 (by decide) ?_
    refine r_puti X hT hS 79 8 pk_4_47 rfl rfl rfl rfl (by decide) dX4_compare_25 (fun H locs i10 ei10 hT hS => ?_)
    have hR10 := Rg_put hR9 ei10 (-2147483648) 2147483647 rfl (rg_k (by decide) : rg 0 0 0) (by decide)
    have hF10 := Fr_puti hF9 ei10 (by decide)
    refine lv_aload_n hx hb dX4_compare_28 rfl (lv_at hl 0 rfl) ?_
    refine r_getr X hT 79 5 89 fk_4_23 rfl rfl (by decide) dX4_compare_29 ?_
    refine lv_iconst (v := 0) hx hb dX4_compare_32 (by decide) ?_
    refine lv_aload_n hx hb dX4_compare_33 rfl (lv_at hl 0 rfl) ?_
    refine r_getr X hT 79 6 90 fk_4_26 rfl rfl (by decide) dX4_compare_34 ?_
    refine lv_iconst (v := 0) hx hb dX4_compare_37 (by decide) ?_
    refine lv_iload_n hx hb dX4_compare_38 rfl (lv_at hl 1 rfl) ?_
    refine r_copyi X hT hS hl.1 89 90 rfl rfl (by decide) (by decide) gm_1021 gm_656 gm_655 gm_123 (rg_k (by decide) : rg 0 0 0) (rg_k (by decide) : rg 0 0 0) ha_a (by decide) (Nat.le_of_ble_eq_true rfl) (by decide +kernel) dX4_compare_39 (fun H locs i11 ei11 hT hS => ?_)
    have hR11 := Rg_cpy hR10 ei11 (-2147483648) 2147483647 (-2147483648) 2147483647 (fun _ => rfl) (fun _ => rfl) (cp_le (rg_k (by decide) : rg 0 0 0) ha_a (by decide)) (by decide)
    have hF11 := Fr_cpy hF10 ei11 (by decide)
    exact J42_2 i11 _ _ _ hR11 hF11 hT hS (lv_sub hl [0, 1] rfl)
set_option maxRecDepth 100000 in
set_option maxHeartbeats 4000000 in
theorem m_X4_search_79 {l : Launch} {D : va_G} {h : Nat → Nat} {cz : Nat → ClassId} {z : EZ} {i : Nat → Nat → Int32} {g : Nat → Nat → Int64} (hR : Rg rA i) (a_a : Int32) (ha_a : rg 1 5 a_a) : DtV l yX4_search cX4_search 4 none ({ frames := 3, cells := 0, slots := 0, locals := 90 } : Room) D h cz z i g [.ref (h 79), .int a_a] (fun u => Rg rA u.1 ∧ Fr [72, 73, 74, 79, 81, 82, 83, 84, 85, 86, 87, 88, 89, 90] [] i g u) := by
  refine e_V pn_X4_search (Nat.le_of_ble_eq_true rfl) ?_
  intro p e s m args below meth c ls Q X Y hret hT hl hS
  have hx := X.1
  have hb := X.2.1
  have hl : lv_has ls 4 [(0, .ref (h 79)), (1, .int a_a)] := hl
  have hF : Fr [72, 73, 74, 79, 81, 82, 83, 84, 85, 86, 87, 88, 89, 90] [] i g (i, g) := Fr_rf _ _ _ _
  refine lv_aload_n hx hb dX4_search_0 rfl (lv_at hl 0 rfl) ?_
  refine r_getr X hT 79 1 72 fk_4_33 rfl rfl (by decide) dX4_search_1 ?_
  refine lv_iconst (v := (-1)) hx hb dX4_search_4 (by decide) ?_
  refine e_Vv (As := [.int (-1)]) (rest := []) X Y hT hS (m_X0_begin_72 hR ((-1))) mk_X0_begin gm_1020 rfl rfl (by decide) hd_X0_begin ⟨rfl, rfl⟩ ⟨Nat.le_of_ble_eq_true rfl, Nat.le_of_ble_eq_true rfl⟩ hl.1 rfl (Nat.le_of_ble_eq_true rfl) dX4_search_5 ⟨Nat.zero_le _, Nat.zero_le _⟩ (fun i1 g1 H locs hq hT hS => ?_)
  obtain ⟨hR1, hf1⟩ := hq
  have hF1 := Fr_tr hF hf1 (by decide)
  refine lv_aload_n hx hb dX4_search_8 rfl (lv_at hl 0 rfl) ?_
  refine lv_iconst (v := (-1)) hx hb dX4_search_9 (by decide) ?_
  refine r_puti X hT hS 79 7 pk_4_43 rfl rfl rfl rfl (by decide) dX4_search_10 (fun H locs i2 ei2 hT hS => ?_)
  have hR2 := Rg_put hR1 ei2 (-2147483648) 2147483647 rfl (rg_k (by decide) : rg (-1) (-1) (-1)) (by decide)
  have hF2 := Fr_puti hF1 ei2 (by decide)
  refine lv_aload_n hx hb dX4_search_13 rfl (lv_at hl 0 rfl) ?_
  refine lv_iconst (v := 0) hx hb dX4_search_14 (by decide) ?_
  refine r_puti X hT hS 79 8 pk_4_47 rfl rfl rfl rfl (by decide) dX4_search_15 (fun H locs i3 ei3 hT hS => ?_)
  have hR3 := Rg_put hR2 ei3 (-2147483648) 2147483647 rfl (rg_k (by decide) : rg 0 0 0) (by decide)
  have hF3 := Fr_puti hF2 ei3 (by decide)
  refine lv_aload_n hx hb dX4_search_18 rfl (lv_at hl 0 rfl) ?_
  refine r_getr X hT 79 0 15 fk_4_29 rfl rfl (by decide) dX4_search_19 ?_
  refine r_getr X hT 15 2 18 fk_4_50 rfl rfl (by decide) dX4_search_22 ?_
  refine lv_iconst (v := 0) hx hb dX4_search_25 (by decide) ?_
  refine lv_aload_n hx hb dX4_search_26 rfl (lv_at hl 0 rfl) ?_
  refine r_getr X hT 79 2 80 fk_4_11 rfl rfl (by decide) dX4_search_27 ?_
  refine lv_iconst (v := 0) hx hb dX4_search_30 (by decide) ?_
  refine r_aald5 X hT 80 81 rfl (by decide) (v_in (rg_k (by decide) : rg 0 0 0) (by decide)) rfl dX4_search_31 ?_
  refine lv_iconst (v := 0) hx hb dX4_search_32 (by decide) ?_
  refine lv_bipush (v := 6) hx hb dX4_search_33 (by decide) ?_
  refine r_copyi X hT hS hl.1 18 81 rfl rfl (by decide) (by decide) gm_1021 gm_656 gm_655 gm_123 (rg_k (by decide) : rg 0 0 0) (rg_k (by decide) : rg 0 0 0) (rg_k (by decide) : rg 6 6 6) (by decide) (Nat.le_of_ble_eq_true rfl) (by decide +kernel) dX4_search_35 (fun H locs i4 ei4 hT hS => ?_)
  have hR4 := Rg_cpy hR3 ei4 0 60 0 99 (fun _ => rfl) (fun _ => rfl) (by decide) (by decide)
  have hF4 := Fr_cpy hF3 ei4 (by decide)
  refine lv_iconst (v := 0) hx hb dX4_search_38 (by decide) ?_
  refine lv_istore_n (lv' := [(2, .int 0), (0, .ref (h 79)), (1, .int a_a)]) hx hb dX4_search_39 rfl hl (by decide) rfl (fun ls hl => ?_)
  refine lv_aload_n hx hb dX4_search_40 rfl (lv_at hl 1 rfl) ?_
  refine r_getr X hT 79 5 89 fk_4_23 rfl rfl (by decide) dX4_search_41 ?_
  refine lv_iconst (v := 0) hx hb dX4_search_44 (by decide) ?_
  refine lv_bipush (v := (-2)) hx hb dX4_search_45 (by decide) ?_
  refine r_iastc X hT hS 89 0 rfl (by decide) (v_in (rg_k (by decide) : rg 0 0 0) (by decide)) (by decide) dX4_search_47 (fun H locs i5 ei5 hT hS => ?_)
  have hR5 := Rg_put hR4 ei5 (-2147483648) 2147483647 rfl (rg_k (by decide) : rg (-2) (-2) (-2)) (by decide)
  have hF5 := Fr_puti hF4 ei5 (by decide)
  refine lv_iconst (v := 0) hx hb dX4_search_48 (by decide) ?_
  refine lv_istore_n (lv' := [(3, .int 0), (2, .int 0), (0, .ref (h 79)), (1, .int a_a)]) hx hb dX4_search_49 rfl hl (by decide) rfl (fun ls hl => ?_)
  have L50_6 : ∀ (n8_ : Nat) (x50_2 : Int32) (x50_3 : Int32) (i7 : Nat → Nat → Int32) (g7 : Nat → Nat → Int64) (H : Heap) (locs : List Loc) (ls : Array Slot), rg (-1) 4 x50_2 → rg 0 1000000 x50_3 → Rg rA i7 → Fr [72, 73, 74, 79, 81, 82, 83, 84, 85, 86, 87, 88, 89, 90] [] i g (i7, g7) → TH D h cz i7 g7 H → va_S (hA h) s.heap H locs → lv_has ls 4 [(0, .ref (h 79)), (1, .int a_a), (2, .int x50_2), (3, .int x50_3)] → (1000000 - x50_3.toInt).toNat < n8_ → W p l e ({ frames := 3, cells := 0, slots := 0, locals := 90 } : Room) s m args below meth c H locs 0 0 Q (F0 m 50 ls []) := by
    intro n8_
    induction n8_ with
    | zero => intro x50_2 x50_3 i7 g7 H locs ls hhx50_2 hhx50_3 hR7 hF7 hT hS hl hm8_; exact absurd hm8_ (Nat.not_lt_zero _)
    | succ n8_ ih8_ =>
      intro x50_2 x50_3 i7 g7 H locs ls hhx50_2 hhx50_3 hR7 hF7 hT hS hl hm8_
      refine lv_iload_n hx hb dX4_search_50 rfl (lv_at hl 3 rfl) ?_
      refine lv_ldc (v := 1000000) hx hb X.2.2.2.1 (X.2.2.2.2.1 _ gm_1022) dX4_search_51 ?_
      refine lv_icmp_ge (tgt := 157) hx hb dX4_search_53 (by decide) (fun c9 => ?_) (fun c9 => ?_)
      ·
        have q9 : 1000000 ≤ x50_3.toInt := i_le c9
        have h10 : rg 1000000 1000000 x50_3 := t_ley 1000000 1000000 (rg_k (by decide) : rg 1000000 1000000 1000000) hhx50_3 (i_le c9) (by decide)
        exact hret _ _ _ _ _ _ dX4_search_157 hT hS ⟨hR7, hF7⟩
      ·
        have q9 : x50_3.toInt < 1000000 := i_nle c9
        have h11 : rg 0 999999 x50_3 := t_ltx 0 999999 hhx50_3 (rg_k (by decide) : rg 1000000 1000000 1000000) (i_nle c9) (by decide)
        refine lv_iload_n hx hb dX4_search_56 rfl (lv_at hl 2 rfl) ?_
        refine lv_if_lt (tgt := 157) hx hb dX4_search_57 (by decide) (fun c12 => ?_) (fun c12 => ?_)
        ·
          have q12 : x50_2.toInt < 0 := i_lt c12
          have h13 : rg (-1) (-1) x50_2 := t_ltx (-1) (-1) hhx50_2 (rg_k (by decide) : rg 0 0 0) (i_lt c12) (by decide)
          exact hret _ _ _ _ _ _ dX4_search_157 hT hS ⟨hR7, hF7⟩
        ·
          have q12 : 0 ≤ x50_2.toInt := i_nlt c12
          have h14 : rg 0 4 x50_2 := t_ley 0 4 (rg_k (by decide) : rg 0 0 0) hhx50_2 (i_nlt c12) (by decide)
          refine lv_aload_n hx hb dX4_search_60 rfl (lv_at hl 0 rfl) ?_
          refine r_getr X hT 79 5 89 fk_4_23 rfl rfl (by decide) dX4_search_61 ?_
          refine lv_iload_n hx hb dX4_search_64 rfl (lv_at hl 2 rfl) ?_
          refine lv_dup2_11 hx hb dX4_search_65 rfl rfl ?_
          refine r_iald X hT 89 rfl (by decide) (v_in h14 (by decide)) dX4_search_66 ?_
          refine lv_iconst (v := 1) hx hb dX4_search_67 (by decide) ?_
          refine q_iadd hx hb dX4_search_68 (fun x15 ex15 => ?_)
          refine r_iast X hT hS 89 rfl (by decide) (v_in h14 (by decide)) dX4_search_69 (fun H locs i16 ei16 hT hS => ?_)
          have hR16 := Rg_put hR7 ei16 (-2147483648) 2147483647 rfl (rg_top x15) (by decide)
          have hF16 := Fr_puti hF7 ei16 (by decide)
          refine lv_aload_n hx hb dX4_search_70 rfl (lv_at hl 0 rfl) ?_
          refine r_getr X hT 79 5 89 fk_4_23 rfl rfl (by decide) dX4_search_71 ?_
          refine lv_iload_n hx hb dX4_search_74 rfl (lv_at hl 2 rfl) ?_
          refine r_iald X hT 89 rfl (by decide) (v_in h14 (by decide)) dX4_search_75 ?_
          refine lv_aload_n hx hb dX4_search_76 rfl (lv_at hl 0 rfl) ?_
          refine r_getr X hT 79 0 15 fk_4_29 rfl rfl (by decide) dX4_search_77 ?_
          refine r_geti X hT 15 13 fk_4_62 rfl rfl (by decide) dX4_search_80 ?_
          refine lv_icmp_lt (tgt := 92) hx hb dX4_search_83 (by decide) (fun c17 => ?_) (fun c17 => ?_)
          ·
            have q17 : (i16 89 x50_2.toNatClampNeg).toInt < (i16 15 13).toInt := i_lt c17
            have h18 : rg (-2147483648) 5 (i16 89 x50_2.toNatClampNeg) := t_ltx (-2147483648) 5 (rg_top (i16 89 x50_2.toNatClampNeg)) (Rg_at hR16 15 13 0 6 (by decide) rfl) (i_lt c17) (by decide)
            refine lv_aload_n hx hb dX4_search_92 rfl (lv_at hl 0 rfl) ?_
            refine r_getr X hT 79 5 89 fk_4_23 rfl rfl (by decide) dX4_search_93 ?_
            refine lv_iload_n hx hb dX4_search_96 rfl (lv_at hl 2 rfl) ?_
            refine r_iald X hT 89 rfl (by decide) (v_in h14 (by decide)) dX4_search_97 ?_
            refine lv_iconst (v := (-1)) hx hb dX4_search_98 (by decide) ?_
            refine lv_icmp_eq (tgt := 120) hx hb dX4_search_99 (by decide) (fun c19 => ?_) (fun c19 => ?_)
            ·
              have q19 : (i16 89 x50_2.toNatClampNeg).toInt = (-1) := i_eq c19
              have h20 : rg (-1) (-1) (i16 89 x50_2.toNatClampNeg) := t_eqx (-1) (-1) h18 (rg_k (by decide) : rg (-1) (-1) (-1)) (i_eq c19) (by decide)
              refine lv_aload_n hx hb dX4_search_120 rfl (lv_at hl 0 rfl) ?_
              refine lv_iload_n hx hb dX4_search_121 rfl (lv_at hl 2 rfl) ?_
              refine e_Vv (As := [.int x50_2]) (rest := []) X Y hT hS (m_X4_spend hR16 x50_2 h14) mk_X4_spend gm_1024 rfl rfl (by decide) hd_X4_spend ⟨rfl, rfl⟩ ⟨Nat.le_of_ble_eq_true rfl, Nat.le_of_ble_eq_true rfl⟩ hl.1 rfl (Nat.le_of_ble_eq_true rfl) dX4_search_122 ⟨Nat.zero_le _, Nat.zero_le _⟩ (fun i21 g21 H locs hq hT hS => ?_)
              obtain ⟨hR21, hf21⟩ := hq
              have hF21 := Fr_tr hF16 hf21 (by decide)
              refine lv_iload_n hx hb dX4_search_125 rfl (lv_at hl 2 rfl) ?_
              refine lv_iconst (v := 1) hx hb dX4_search_126 (by decide) ?_
              refine q_iadd hx hb dX4_search_127 (fun x22 ex22 => ?_)
              obtain ⟨hx22, ax22⟩ := rg_add 1 5 ex22 h14 (rg_k (by decide) : rg 1 1 1) (by decide)
              replace ax22 : x22.toInt = x50_2.toInt + 1 := ax22
              refine lv_iload_n hx hb dX4_search_128 rfl (lv_at hl 1 rfl) ?_
              refine lv_icmp_ge (tgt := 146) hx hb dX4_search_129 (by decide) (fun c23 => ?_) (fun c23 => ?_)
              ·
                have q23 : a_a.toInt ≤ x22.toInt := i_le c23
                refine lv_aload_n hx hb dX4_search_146 rfl (lv_at hl 0 rfl) ?_
                refine lv_iload_n hx hb dX4_search_147 rfl (lv_at hl 1 rfl) ?_
                refine e_Vv (As := [.int a_a]) (rest := []) X Y hT hS (m_X4_compare_79 hR21 a_a ha_a) mk_X4_compare gm_1032 rfl rfl (by decide) hd_X4_compare ⟨rfl, rfl⟩ ⟨Nat.le_of_ble_eq_true rfl, Nat.le_of_ble_eq_true rfl⟩ hl.1 rfl (Nat.le_of_ble_eq_true rfl) dX4_search_148 ⟨Nat.zero_le _, Nat.zero_le _⟩ (fun i24 g24 H locs hq hT hS => ?_)
                obtain ⟨hR24, hf24⟩ := hq
                have hF24 := Fr_tr hF21 hf24 (by decide)
                obtain ⟨x25, ex25⟩ : ∃ y : Int32, y = x50_3 + 1 := ⟨_, rfl⟩
                refine lv_iinc (v := x25) (lv' := [(3, .int x25), (0, .ref (h 79)), (1, .int a_a), (2, .int x50_2)]) hx hb dX4_search_151 hl (k := 3) rfl (by rw [ex25]; rfl) (by decide) rfl (fun ls hl => ?_)
                obtain ⟨hx25, ax25⟩ := rg_add 1 1000000 ex25 h11 (rg_k (by decide) : rg 1 1 1) (by decide)
                replace ax25 : x25.toInt = x50_3.toInt + 1 := ax25
                refine lv_goto (tgt := 50) hx hb dX4_search_154 (by decide) ?_
                exact ih8_ x50_2 x25 i24 g24 _ _ _ (rg_w h14 (by decide) : rg (-1) 4 x50_2) (rg_w hx25 (by decide) : rg 0 1000000 x25) hR24 hF24 hT hS (lv_sub hl [1, 2, 3, 0] rfl) (m_up ax25 hx25 (by decide) hm8_)
              ·
                have q23 : x22.toInt < a_a.toInt := i_nle c23
                have h26 : rg 1 4 x22 := t_ltx 1 4 hx22 ha_a (i_nle c23) (by decide)
                have h27 : rg 0 3 x50_2 := ⟨by have := h26.1; have := h14.1; have := ax22; omega, by have := h26.2; have := h14.2; have := ax22; omega⟩
                have h28 : rg 2 5 a_a := t_lty 2 5 hx22 ha_a (i_nle c23) (by decide)
                obtain ⟨x29, ex29⟩ : ∃ y : Int32, y = x50_2 + 1 := ⟨_, rfl⟩
                refine lv_iinc (v := x29) (lv' := [(2, .int x29), (0, .ref (h 79)), (1, .int a_a), (3, .int x50_3)]) hx hb dX4_search_132 hl (k := 2) rfl (by rw [ex29]; rfl) (by decide) rfl (fun ls hl => ?_)
                obtain ⟨hx29, ax29⟩ := rg_add 1 4 ex29 h27 (rg_k (by decide) : rg 1 1 1) (by decide)
                replace ax29 : x29.toInt = x50_2.toInt + 1 := ax29
                refine lv_aload_n hx hb dX4_search_135 rfl (lv_at hl 1 rfl) ?_
                refine r_getr X hT 79 5 89 fk_4_23 rfl rfl (by decide) dX4_search_136 ?_
                refine lv_iload_n hx hb dX4_search_139 rfl (lv_at hl 0 rfl) ?_
                refine lv_bipush (v := (-2)) hx hb dX4_search_140 (by decide) ?_
                refine r_iast X hT hS 89 rfl (by decide) (v_in hx29 (by decide)) dX4_search_142 (fun H locs i30 ei30 hT hS => ?_)
                have hR30 := Rg_put hR21 ei30 (-2147483648) 2147483647 rfl (rg_k (by decide) : rg (-2) (-2) (-2)) (by decide)
                have hF30 := Fr_puti hF21 ei30 (by decide)
                refine lv_goto (tgt := 151) hx hb dX4_search_143 (by decide) ?_
                obtain ⟨x31, ex31⟩ : ∃ y : Int32, y = x50_3 + 1 := ⟨_, rfl⟩
                refine lv_iinc (v := x31) (lv' := [(3, .int x31), (2, .int x29), (0, .ref (h 79)), (1, .int a_a)]) hx hb dX4_search_151 hl (k := 3) rfl (by rw [ex31]; rfl) (by decide) rfl (fun ls hl => ?_)
                obtain ⟨hx31, ax31⟩ := rg_add 1 1000000 ex31 h11 (rg_k (by decide) : rg 1 1 1) (by decide)
                replace ax31 : x31.toInt = x50_3.toInt + 1 := ax31
                refine lv_goto (tgt := 50) hx hb dX4_search_154 (by decide) ?_
                exact ih8_ x29 x31 i30 g21 _ _ _ (rg_w hx29 (by decide) : rg (-1) 4 x29) (rg_w hx31 (by decide) : rg 0 1000000 x31) hR30 hF30 hT hS (lv_sub hl [2, 3, 1, 0] rfl) (m_up ax31 hx31 (by decide) hm8_)
            ·
              have q19 : ¬ (i16 89 x50_2.toNatClampNeg).toInt = (-1) := i_ne c19
              refine lv_aload_n hx hb dX4_search_102 rfl (lv_at hl 0 rfl) ?_
              refine r_getr X hT 79 3 87 fk_4_16 rfl rfl (by decide) dX4_search_103 ?_
              refine lv_iload_n hx hb dX4_search_106 rfl (lv_at hl 2 rfl) ?_
              refine r_iald X hT 87 rfl (by decide) (v_in h14 (by decide)) dX4_search_107 ?_
              refine lv_aload_n hx hb dX4_search_108 rfl (lv_at hl 0 rfl) ?_
              refine r_getr X hT 79 5 89 fk_4_23 rfl rfl (by decide) dX4_search_109 ?_
              refine lv_iload_n hx hb dX4_search_112 rfl (lv_at hl 2 rfl) ?_
              refine r_iald X hT 89 rfl (by decide) (v_in h14 (by decide)) dX4_search_113 ?_
              refine e_Ni (As := [.int (i16 87 x50_2.toNatClampNeg), .int (i16 89 x50_2.toNatClampNeg)]) (rest := []) X Y hT hS (m_X8_hasBit (i16 87 x50_2.toNatClampNeg) (i16 89 x50_2.toNatClampNeg)) sk_X8_hasBit Y.n2 hd_X8_hasBit ⟨rfl, rfl⟩ ⟨Nat.le_of_ble_eq_true rfl, Nat.le_of_ble_eq_true rfl⟩ hl.1 rfl (Nat.le_of_ble_eq_true rfl) dX4_search_114 ⟨Nat.zero_le _, Nat.zero_le _⟩ (fun r32 i32 g32 H locs hq hT hS => ?_)
              obtain ⟨eh32, hr32⟩ := hq
              rw [(Prod.mk.inj eh32).1, (Prod.mk.inj eh32).2] at hT
              refine lv_if_ne (tgt := 151) hx hb dX4_search_117 (by decide) (fun c33 => ?_) (fun c33 => ?_)
              ·
                have q33 : ¬ r32.toInt = 0 := i_ne c33
                have h34 : rg 1 1 r32 := t_nelo 1 hr32 (rg_k (by decide) : rg 0 0 0) (i_ne c33) (by decide)
                obtain ⟨x35, ex35⟩ : ∃ y : Int32, y = x50_3 + 1 := ⟨_, rfl⟩
                refine lv_iinc (v := x35) (lv' := [(3, .int x35), (0, .ref (h 79)), (1, .int a_a), (2, .int x50_2)]) hx hb dX4_search_151 hl (k := 3) rfl (by rw [ex35]; rfl) (by decide) rfl (fun ls hl => ?_)
                obtain ⟨hx35, ax35⟩ := rg_add 1 1000000 ex35 h11 (rg_k (by decide) : rg 1 1 1) (by decide)
                replace ax35 : x35.toInt = x50_3.toInt + 1 := ax35
                refine lv_goto (tgt := 50) hx hb dX4_search_154 (by decide) ?_
                exact ih8_ x50_2 x35 i16 g7 _ _ _ (rg_w h14 (by decide) : rg (-1) 4 x50_2) (rg_w hx35 (by decide) : rg 0 1000000 x35) hR16 hF16 hT hS (lv_sub hl [1, 2, 3, 0] rfl) (m_up ax35 hx35 (by decide) hm8_)
              ·
                have q33 : r32.toInt = 0 := i_eq c33
                have h36 : rg 0 0 r32 := t_eqx 0 0 hr32 (rg_k (by decide) : rg 0 0 0) (i_eq c33) (by decide)
                refine lv_aload_n hx hb dX4_search_120 rfl (lv_at hl 0 rfl) ?_
                refine lv_iload_n hx hb dX4_search_121 rfl (lv_at hl 2 rfl) ?_
                refine e_Vv (As := [.int x50_2]) (rest := []) X Y hT hS (m_X4_spend hR16 x50_2 h14) mk_X4_spend gm_1024 rfl rfl (by decide) hd_X4_spend ⟨rfl, rfl⟩ ⟨Nat.le_of_ble_eq_true rfl, Nat.le_of_ble_eq_true rfl⟩ hl.1 rfl (Nat.le_of_ble_eq_true rfl) dX4_search_122 ⟨Nat.zero_le _, Nat.zero_le _⟩ (fun i37 g37 H locs hq hT hS => ?_)
                obtain ⟨hR37, hf37⟩ := hq
                have hF37 := Fr_tr hF16 hf37 (by decide)
                refine lv_iload_n hx hb dX4_search_125 rfl (lv_at hl 2 rfl) ?_
                refine lv_iconst (v := 1) hx hb dX4_search_126 (by decide) ?_
                refine q_iadd hx hb dX4_search_127 (fun x38 ex38 => ?_)
                obtain ⟨hx38, ax38⟩ := rg_add 1 5 ex38 h14 (rg_k (by decide) : rg 1 1 1) (by decide)
                replace ax38 : x38.toInt = x50_2.toInt + 1 := ax38
                refine lv_iload_n hx hb dX4_search_128 rfl (lv_at hl 1 rfl) ?_
                refine lv_icmp_ge (tgt := 146) hx hb dX4_search_129 (by decide) (fun c39 => ?_) (fun c39 => ?_)
                ·
                  have q39 : a_a.toInt ≤ x38.toInt := i_le c39
                  refine lv_aload_n hx hb dX4_search_146 rfl (lv_at hl 0 rfl) ?_
                  refine lv_iload_n hx hb dX4_search_147 rfl (lv_at hl 1 rfl) ?_
                  refine e_Vv (As := [.int a_a]) (rest := []) X Y hT hS (m_X4_compare_79 hR37 a_a ha_a) mk_X4_compare gm_1032 rfl rfl (by decide) hd_X4_compare ⟨rfl, rfl⟩ ⟨Nat.le_of_ble_eq_true rfl, Nat.le_of_ble_eq_true rfl⟩ hl.1 rfl (Nat.le_of_ble_eq_true rfl) dX4_search_148 ⟨Nat.zero_le _, Nat.zero_le _⟩ (fun i40 g40 H locs hq hT hS => ?_)
                  obtain ⟨hR40, hf40⟩ := hq
                  have hF40 := Fr_tr hF37 hf40 (by decide)
                  obtain ⟨x41, ex41⟩ : ∃ y : Int32, y = x50_3 + 1 := ⟨_, rfl⟩
                  refine lv_iinc (v := x41) (lv' := [(3, .int x41), (0, .ref (h 79)), (1, .int a_a), (2, .int x50_2)]) hx hb dX4_search_151 hl (k := 3) rfl (by rw [ex41]; rfl) (by decide) rfl (fun ls hl => ?_)
                  obtain ⟨hx41, ax41⟩ := rg_add 1 1000000 ex41 h11 (rg_k (by decide) : rg 1 1 1) (by decide)
                  replace ax41 : x41.toInt = x50_3.toInt + 1 := ax41
                  refine lv_goto (tgt := 50) hx hb dX4_search_154 (by decide) ?_
                  exact ih8_ x50_2 x41 i40 g40 _ _ _ (rg_w h14 (by decide) : rg (-1) 4 x50_2) (rg_w hx41 (by decide) : rg 0 1000000 x41) hR40 hF40 hT hS (lv_sub hl [1, 2, 3, 0] rfl) (m_up ax41 hx41 (by decide) hm8_)
                ·
                  have q39 : x38.toInt < a_a.toInt := i_nle c39
                  have h42 : rg 1 4 x38 := t_ltx 1 4 hx38 ha_a (i_nle c39) (by decide)
                  have h43 : rg 0 3 x50_2 := ⟨by have := h42.1; have := h14.1; have := ax38; omega, by have := h42.2; have := h14.2; have := ax38; omega⟩
                  have h44 : rg 2 5 a_a := t_lty 2 5 hx38 ha_a (i_nle c39) (by decide)
                  obtain ⟨x45, ex45⟩ : ∃ y : Int32, y = x50_2 + 1 := ⟨_, rfl⟩
                  refine lv_iinc (v := x45) (lv' := [(2, .int x45), (0, .ref (h 79)), (1, .int a_a), (3, .int x50_3)]) hx hb dX4_search_132 hl (k := 2) rfl (by rw [ex45]; rfl) (by decide) rfl (fun ls hl => ?_)
                  obtain ⟨hx45, ax45⟩ := rg_add 1 4 ex45 h43 (rg_k (by decide) : rg 1 1 1) (by decide)
                  replace ax45 : x45.toInt = x50_2.toInt + 1 := ax45
                  refine lv_aload_n hx hb dX4_search_135 rfl (lv_at hl 1 rfl) ?_
                  refine r_getr X hT 79 5 89 fk_4_23 rfl rfl (by decide) dX4_search_136 ?_
                  refine lv_iload_n hx hb dX4_search_139 rfl (lv_at hl 0 rfl) ?_
                  refine lv_bipush (v := (-2)) hx hb dX4_search_140 (by decide) ?_
                  refine r_iast X hT hS 89 rfl (by decide) (v_in hx45 (by decide)) dX4_search_142 (fun H locs i46 ei46 hT hS => ?_)
                  have hR46 := Rg_put hR37 ei46 (-2147483648) 2147483647 rfl (rg_k (by decide) : rg (-2) (-2) (-2)) (by decide)
                  have hF46 := Fr_puti hF37 ei46 (by decide)
                  refine lv_goto (tgt := 151) hx hb dX4_search_143 (by decide) ?_
                  obtain ⟨x47, ex47⟩ : ∃ y : Int32, y = x50_3 + 1 := ⟨_, rfl⟩
                  refine lv_iinc (v := x47) (lv' := [(3, .int x47), (2, .int x45), (0, .ref (h 79)), (1, .int a_a)]) hx hb dX4_search_151 hl (k := 3) rfl (by rw [ex47]; rfl) (by decide) rfl (fun ls hl => ?_)
                  obtain ⟨hx47, ax47⟩ := rg_add 1 1000000 ex47 h11 (rg_k (by decide) : rg 1 1 1) (by decide)
                  replace ax47 : x47.toInt = x50_3.toInt + 1 := ax47
                  refine lv_goto (tgt := 50) hx hb dX4_search_154 (by decide) ?_
                  exact ih8_ x45 x47 i46 g37 _ _ _ (rg_w hx45 (by decide) : rg (-1) 4 x45) (rg_w hx47 (by decide) : rg 0 1000000 x47) hR46 hF46 hT hS (lv_sub hl [2, 3, 1, 0] rfl) (m_up ax47 hx47 (by decide) hm8_)
          ·
            have q17 : (i16 15 13).toInt ≤ (i16 89 x50_2.toNatClampNeg).toInt := i_nlt c17
            have h48 : rg 0 2147483647 (i16 89 x50_2.toNatClampNeg) := t_ley 0 2147483647 (Rg_at hR16 15 13 0 6 (by decide) rfl) (rg_top (i16 89 x50_2.toNatClampNeg)) (i_nlt c17) (by decide)
            obtain ⟨x49, ex49⟩ : ∃ y : Int32, y = x50_2 + (-1) := ⟨_, rfl⟩
            refine lv_iinc (v := x49) (lv' := [(2, .int x49), (0, .ref (h 79)), (1, .int a_a), (3, .int x50_3)]) hx hb dX4_search_86 hl (k := 2) rfl (by rw [ex49]; rfl) (by decide) rfl (fun ls hl => ?_)
            obtain ⟨hx49, ax49⟩ := rg_add (-1) 3 ex49 h14 (rg_k (by decide) : rg (-1) (-1) (-1)) (by decide)
            replace ax49 : x49.toInt = x50_2.toInt + (-1) := ax49
            refine lv_goto (tgt := 151) hx hb dX4_search_89 (by decide) ?_
            obtain ⟨x50, ex50⟩ : ∃ y : Int32, y = x50_3 + 1 := ⟨_, rfl⟩
            refine lv_iinc (v := x50) (lv' := [(3, .int x50), (2, .int x49), (0, .ref (h 79)), (1, .int a_a)]) hx hb dX4_search_151 hl (k := 3) rfl (by rw [ex50]; rfl) (by decide) rfl (fun ls hl => ?_)
            obtain ⟨hx50, ax50⟩ := rg_add 1 1000000 ex50 h11 (rg_k (by decide) : rg 1 1 1) (by decide)
            replace ax50 : x50.toInt = x50_3.toInt + 1 := ax50
            refine lv_goto (tgt := 50) hx hb dX4_search_154 (by decide) ?_
            exact ih8_ x49 x50 i16 g7 _ _ _ (rg_w hx49 (by decide) : rg (-1) 4 x49) (rg_w hx50 (by decide) : rg 0 1000000 x50) hR16 hF16 hT hS (lv_sub hl [2, 3, 1, 0] rfl) (m_up ax50 hx50 (by decide) hm8_)
  exact L50_6 _ (0) (0) i5 g1 _ _ _ (rg_w (rg_k (by decide) : rg 0 0 0) (by decide) : rg (-1) 4 0) (rg_w (rg_k (by decide) : rg 0 0 0) (by decide) : rg 0 1000000 0) hR5 hF5 hT hS (lv_sub hl [2, 3, 1, 0] rfl) (Nat.lt_succ_self _)
set_option maxRecDepth 100000 in
set_option maxHeartbeats 4000000 in
theorem m_X8_planFor {l : Launch} {D : va_G} {h : Nat → Nat} {cz : Nat → ClassId} {z : EZ} {i : Nat → Nat → Int32} {g : Nat → Nat → Int64} (hR : Rg rA i) (a_a : Int32) (ha_a : rg 1 5 a_a) : DtV l yX8_planFor cX8_planFor 2 none ({ frames := 4, cells := 0, slots := 0, locals := 113 } : Room) D h cz z i g [.ref (h 0), .int a_a] (fun u => Rg rA u.1 ∧ Fr [0, 72, 73, 74, 79, 81, 82, 83, 84, 85, 86, 87, 88, 89, 90] [] i g u) := by
  refine e_V pn_X8_planFor (Nat.le_of_ble_eq_true rfl) ?_
  intro p e s m args below meth c ls Q X Y hret hT hl hS
  have hx := X.1
  have hb := X.2.1
  have hl : lv_has ls 2 [(0, .ref (h 0)), (1, .int a_a)] := hl
  have hF : Fr [0, 72, 73, 74, 79, 81, 82, 83, 84, 85, 86, 87, 88, 89, 90] [] i g (i, g) := Fr_rf _ _ _ _
  refine lv_aload_n hx hb dX8_planFor_0 rfl (lv_at hl 0 rfl) ?_
  refine r_geti X hT 0 14 fk_8_94 rfl rfl (by decide) dX8_planFor_1 ?_
  refine lv_iload_n hx hb dX8_planFor_4 rfl (lv_at hl 1 rfl) ?_
  refine lv_icmp_eq (tgt := 21) hx hb dX8_planFor_5 (by decide) (fun c1 => ?_) (fun c1 => ?_)
  ·
    have q1 : (i 0 14).toInt = a_a.toInt := i_eq c1
    have h2 : rg 1 5 (i 0 14) := t_eqx 1 5 (rg_top (i 0 14)) ha_a (i_eq c1) (by decide)
    exact hret _ _ _ _ _ _ dX8_planFor_21 hT hS ⟨hR, hF⟩
  ·
    have q1 : ¬ (i 0 14).toInt = a_a.toInt := i_ne c1
    refine lv_aload_n hx hb dX8_planFor_8 rfl (lv_at hl 0 rfl) ?_
    refine r_getr X hT 0 9 79 fk_8_67 rfl rfl (by decide) dX8_planFor_9 ?_
    refine lv_iload_n hx hb dX8_planFor_12 rfl (lv_at hl 1 rfl) ?_
    refine e_Vv (As := [.int a_a]) (rest := []) X Y hT hS (m_X4_search_79 hR a_a ha_a) mk_X4_search gm_1016 rfl rfl (by decide) hd_X4_search ⟨rfl, rfl⟩ ⟨Nat.le_of_ble_eq_true rfl, Nat.le_of_ble_eq_true rfl⟩ hl.1 rfl (Nat.le_of_ble_eq_true rfl) dX8_planFor_13 ⟨Nat.zero_le _, Nat.zero_le _⟩ (fun i3 g3 H locs hq hT hS => ?_)
    obtain ⟨hR3, hf3⟩ := hq
    have hF3 := Fr_tr hF hf3 (by decide)
    refine lv_aload_n hx hb dX8_planFor_16 rfl (lv_at hl 0 rfl) ?_
    refine lv_iload_n hx hb dX8_planFor_17 rfl (lv_at hl 1 rfl) ?_
    refine r_puti X hT hS 0 14 pk_8_94 rfl rfl rfl rfl (by decide) dX8_planFor_18 (fun H locs i4 ei4 hT hS => ?_)
    have hR4 := Rg_put hR3 ei4 (-2147483648) 2147483647 rfl ha_a (by decide)
    have hF4 := Fr_puti hF3 ei4 (by decide)
    exact hret _ _ _ _ _ _ dX8_planFor_21 hT hS ⟨hR4, hF4⟩
set_option maxRecDepth 100000 in
set_option maxHeartbeats 4000000 in
theorem m_X8_plan {l : Launch} {D : va_G} {h : Nat → Nat} {cz : Nat → ClassId} {z : EZ} {i : Nat → Nat → Int32} {g : Nat → Nat → Int64} (hR : Rg rA i) (a_a : Int32) : DtI l yX8_plan cX8_plan 2 (some .int) ({ frames := 5, cells := 0, slots := 0, locals := 134 } : Room) D h cz z i g [.ref (h 0), .int a_a] (fun r u => Rg rA u.1 ∧ Fr [0, 72, 73, 74, 79, 81, 82, 83, 84, 85, 86, 87, 88, 89, 90] [] i g u) := by
  refine e_I pn_X8_plan (Nat.le_of_ble_eq_true rfl) ?_
  intro p e s m args below meth c ls Q X Y hret hT hl hS
  have hx := X.1
  have hb := X.2.1
  have hl : lv_has ls 2 [(0, .ref (h 0)), (1, .int a_a)] := hl
  have hF : Fr [0, 72, 73, 74, 79, 81, 82, 83, 84, 85, 86, 87, 88, 89, 90] [] i g (i, g) := Fr_rf _ _ _ _
  refine lv_aload_n hx hb dX8_plan_0 rfl (lv_at hl 0 rfl) ?_
  refine lv_iload_n hx hb dX8_plan_1 rfl (lv_at hl 1 rfl) ?_
  refine e_Vi (As := [.int a_a]) (rest := []) X Y hT hS (m_X8_hasPlan hR a_a) mk_X8_hasPlan gm_1008 rfl rfl (by decide) hd_X8_hasPlan ⟨rfl, rfl⟩ ⟨Nat.le_of_ble_eq_true rfl, Nat.le_of_ble_eq_true rfl⟩ hl.1 rfl (Nat.le_of_ble_eq_true rfl) dX8_plan_2 ⟨Nat.zero_le _, Nat.zero_le _⟩ (fun r1 i1 g1 H locs hq hT hS => ?_)
  rcases hq with hq | hq
  ·
    obtain ⟨eh1, rfl, hf1_0⟩ := hq
    rw [(Prod.mk.inj eh1).1, (Prod.mk.inj eh1).2] at hT
    have h2 : rg 1 5 a_a := ⟨by have := (rg_top a_a).1; have := hf1_0.1; omega, by have := (rg_top a_a).2; have := hf1_0.2; omega⟩
    refine lv_if_ne (tgt := 11) hx hb dX8_plan_5 (by decide) (fun c3 => ?_) (fun c3 => (x_eq (rg_k (by decide) : rg 1 1 1) (rg_k (by decide) : rg 0 0 0) (i_eq c3) (by decide)).elim)
    refine lv_aload_n hx hb dX8_plan_11 rfl (lv_at hl 0 rfl) ?_
    refine lv_iload_n hx hb dX8_plan_12 rfl (lv_at hl 1 rfl) ?_
    refine e_Vv (As := [.int a_a]) (rest := []) X Y hT hS (m_X8_planFor hR a_a h2) mk_X8_planFor gm_1012 rfl rfl (by decide) hd_X8_planFor ⟨rfl, rfl⟩ ⟨Nat.le_of_ble_eq_true rfl, Nat.le_of_ble_eq_true rfl⟩ hl.1 rfl (Nat.le_of_ble_eq_true rfl) dX8_plan_13 ⟨Nat.zero_le _, Nat.zero_le _⟩ (fun i4 g4 H locs hq hT hS => ?_)
    obtain ⟨hR4, hf4⟩ := hq
    have hF4 := Fr_tr hF hf4 (by decide)
    refine lv_aload_n hx hb dX8_plan_16 rfl (lv_at hl 0 rfl) ?_
    refine r_getr X hT 0 9 79 fk_8_67 rfl rfl (by decide) dX8_plan_17 ?_
    refine r_geti X hT 79 7 fk_8_280 rfl rfl (by decide) dX8_plan_20 ?_
    exact hret (i4 79 7) _ _ _ _ _ _ dX8_plan_23 hT hS ⟨hR4, hF4⟩
  ·
    obtain ⟨eh1, rfl⟩ := hq
    rw [(Prod.mk.inj eh1).1, (Prod.mk.inj eh1).2] at hT
    refine lv_if_ne (tgt := 11) hx hb dX8_plan_5 (by decide) (fun c5 => (x_ne (rg_k (by decide) : rg 0 0 0) (rg_k (by decide) : rg 0 0 0) (i_ne c5) (by decide)).elim) (fun c5 => ?_)
    refine lv_bipush (v := (-2)) hx hb dX8_plan_8 (by decide) ?_
    exact hret (-2) _ _ _ _ _ _ dX8_plan_10 hT hS ⟨hR, hF⟩
set_option maxRecDepth 100000 in
set_option maxHeartbeats 4000000 in
theorem m_X8_planned {l : Launch} {D : va_G} {h : Nat → Nat} {cz : Nat → ClassId} {z : EZ} {i : Nat → Nat → Int32} {g : Nat → Nat → Int64} (hR : Rg rA i) (a_a : Int32) (a_b : Int32) : DtI l yX8_planned cX8_planned 3 (some .int) ({ frames := 5, cells := 0, slots := 0, locals := 134 } : Room) D h cz z i g [.ref (h 0), .int a_a, .int a_b] (fun r u => Rg rA u.1 ∧ Fr [0, 72, 73, 74, 79, 81, 82, 83, 84, 85, 86, 87, 88, 89, 90] [] i g u) := by
  refine e_I pn_X8_planned (Nat.le_of_ble_eq_true rfl) ?_
  intro p e s m args below meth c ls Q X Y hret hT hl hS
  have hx := X.1
  have hb := X.2.1
  have hl : lv_has ls 3 [(0, .ref (h 0)), (1, .int a_a), (2, .int a_b)] := hl
  have hF : Fr [0, 72, 73, 74, 79, 81, 82, 83, 84, 85, 86, 87, 88, 89, 90] [] i g (i, g) := Fr_rf _ _ _ _
  refine lv_aload_n hx hb dX8_planned_0 rfl (lv_at hl 0 rfl) ?_
  refine lv_iload_n hx hb dX8_planned_1 rfl (lv_at hl 1 rfl) ?_
  refine e_Vi (As := [.int a_a]) (rest := []) X Y hT hS (m_X8_hasPlan hR a_a) mk_X8_hasPlan gm_1008 rfl rfl (by decide) hd_X8_hasPlan ⟨rfl, rfl⟩ ⟨Nat.le_of_ble_eq_true rfl, Nat.le_of_ble_eq_true rfl⟩ hl.1 rfl (Nat.le_of_ble_eq_true rfl) dX8_planned_2 ⟨Nat.zero_le _, Nat.zero_le _⟩ (fun r1 i1 g1 H locs hq hT hS => ?_)
  rcases hq with hq | hq
  ·
    obtain ⟨eh1, rfl, hf1_0⟩ := hq
    rw [(Prod.mk.inj eh1).1, (Prod.mk.inj eh1).2] at hT
    have h2 : rg 1 5 a_a := ⟨by have := (rg_top a_a).1; have := hf1_0.1; omega, by have := (rg_top a_a).2; have := hf1_0.2; omega⟩
    refine lv_if_eq (tgt := 17) hx hb dX8_planned_5 (by decide) (fun c3 => (x_eq (rg_k (by decide) : rg 1 1 1) (rg_k (by decide) : rg 0 0 0) (i_eq c3) (by decide)).elim) (fun c3 => ?_)
    refine lv_iload_n hx hb dX8_planned_8 rfl (lv_at hl 2 rfl) ?_
    refine lv_if_lt (tgt := 17) hx hb dX8_planned_9 (by decide) (fun c4 => ?_) (fun c4 => ?_)
    ·
      have q4 : a_b.toInt < 0 := i_lt c4
      have h5 : rg (-2147483648) (-1) a_b := t_ltx (-2147483648) (-1) (rg_top a_b) (rg_k (by decide) : rg 0 0 0) (i_lt c4) (by decide)
      refine lv_bipush (v := (-2)) hx hb dX8_planned_17 (by decide) ?_
      exact hret (-2) _ _ _ _ _ _ dX8_planned_19 hT hS ⟨hR, hF⟩
    ·
      have q4 : 0 ≤ a_b.toInt := i_nlt c4
      have h6 : rg 0 2147483647 a_b := t_ley 0 2147483647 (rg_k (by decide) : rg 0 0 0) (rg_top a_b) (i_nlt c4) (by decide)
      refine lv_iload_n hx hb dX8_planned_12 rfl (lv_at hl 2 rfl) ?_
      refine lv_iload_n hx hb dX8_planned_13 rfl (lv_at hl 1 rfl) ?_
      refine lv_icmp_lt (tgt := 20) hx hb dX8_planned_14 (by decide) (fun c7 => ?_) (fun c7 => ?_)
      ·
        have q7 : a_b.toInt < a_a.toInt := i_lt c7
        have h8 : rg 0 4 a_b := t_ltx 0 4 h6 h2 (i_lt c7) (by decide)
        refine lv_aload_n hx hb dX8_planned_20 rfl (lv_at hl 0 rfl) ?_
        refine lv_iload_n hx hb dX8_planned_21 rfl (lv_at hl 1 rfl) ?_
        refine e_Vv (As := [.int a_a]) (rest := []) X Y hT hS (m_X8_planFor hR a_a h2) mk_X8_planFor gm_1012 rfl rfl (by decide) hd_X8_planFor ⟨rfl, rfl⟩ ⟨Nat.le_of_ble_eq_true rfl, Nat.le_of_ble_eq_true rfl⟩ hl.1 rfl (Nat.le_of_ble_eq_true rfl) dX8_planned_22 ⟨Nat.zero_le _, Nat.zero_le _⟩ (fun i9 g9 H locs hq hT hS => ?_)
        obtain ⟨hR9, hf9⟩ := hq
        have hF9 := Fr_tr hF hf9 (by decide)
        refine lv_aload_n hx hb dX8_planned_25 rfl (lv_at hl 0 rfl) ?_
        refine r_getr X hT 0 9 79 fk_8_67 rfl rfl (by decide) dX8_planned_26 ?_
        refine r_getr X hT 79 6 90 fk_8_283 rfl rfl (by decide) dX8_planned_29 ?_
        refine lv_iload_n hx hb dX8_planned_32 rfl (lv_at hl 2 rfl) ?_
        refine r_iald X hT 90 rfl (by decide) (v_in h8 (by decide)) dX8_planned_33 ?_
        exact hret (i9 90 a_b.toNatClampNeg) _ _ _ _ _ _ dX8_planned_34 hT hS ⟨hR9, hF9⟩
      ·
        have q7 : a_a.toInt ≤ a_b.toInt := i_nlt c7
        have h10 : rg 1 2147483647 a_b := t_ley 1 2147483647 h2 h6 (i_nlt c7) (by decide)
        refine lv_bipush (v := (-2)) hx hb dX8_planned_17 (by decide) ?_
        exact hret (-2) _ _ _ _ _ _ dX8_planned_19 hT hS ⟨hR, hF⟩
  ·
    obtain ⟨eh1, rfl⟩ := hq
    rw [(Prod.mk.inj eh1).1, (Prod.mk.inj eh1).2] at hT
    refine lv_if_eq (tgt := 17) hx hb dX8_planned_5 (by decide) (fun c11 => ?_) (fun c11 => (x_ne (rg_k (by decide) : rg 0 0 0) (rg_k (by decide) : rg 0 0 0) (i_ne c11) (by decide)).elim)
    refine lv_bipush (v := (-2)) hx hb dX8_planned_17 (by decide) ?_
    exact hret (-2) _ _ _ _ _ _ dX8_planned_19 hT hS ⟨hR, hF⟩
set_option maxRecDepth 100000 in
set_option maxHeartbeats 4000000 in
theorem m_X8_plans {l : Launch} {D : va_G} {h : Nat → Nat} {cz : Nat → ClassId} {z : EZ} {i : Nat → Nat → Int32} {g : Nat → Nat → Int64} (hR : Rg rA i) (a_a : Int32) : DtI l yX8_plans cX8_plans 2 (some .int) ({ frames := 5, cells := 0, slots := 0, locals := 134 } : Room) D h cz z i g [.ref (h 0), .int a_a] (fun r u => Rg rA u.1 ∧ Fr [0, 72, 73, 74, 79, 81, 82, 83, 84, 85, 86, 87, 88, 89, 90] [] i g u) := by
  refine e_I pn_X8_plans (Nat.le_of_ble_eq_true rfl) ?_
  intro p e s m args below meth c ls Q X Y hret hT hl hS
  have hx := X.1
  have hb := X.2.1
  have hl : lv_has ls 2 [(0, .ref (h 0)), (1, .int a_a)] := hl
  have hF : Fr [0, 72, 73, 74, 79, 81, 82, 83, 84, 85, 86, 87, 88, 89, 90] [] i g (i, g) := Fr_rf _ _ _ _
  refine lv_aload_n hx hb dX8_plans_0 rfl (lv_at hl 0 rfl) ?_
  refine lv_iload_n hx hb dX8_plans_1 rfl (lv_at hl 1 rfl) ?_
  refine e_Vi (As := [.int a_a]) (rest := []) X Y hT hS (m_X8_hasPlan hR a_a) mk_X8_hasPlan gm_1008 rfl rfl (by decide) hd_X8_hasPlan ⟨rfl, rfl⟩ ⟨Nat.le_of_ble_eq_true rfl, Nat.le_of_ble_eq_true rfl⟩ hl.1 rfl (Nat.le_of_ble_eq_true rfl) dX8_plans_2 ⟨Nat.zero_le _, Nat.zero_le _⟩ (fun r1 i1 g1 H locs hq hT hS => ?_)
  rcases hq with hq | hq
  ·
    obtain ⟨eh1, rfl, hf1_0⟩ := hq
    rw [(Prod.mk.inj eh1).1, (Prod.mk.inj eh1).2] at hT
    have h2 : rg 1 5 a_a := ⟨by have := (rg_top a_a).1; have := hf1_0.1; omega, by have := (rg_top a_a).2; have := hf1_0.2; omega⟩
    refine lv_if_ne (tgt := 11) hx hb dX8_plans_5 (by decide) (fun c3 => ?_) (fun c3 => (x_eq (rg_k (by decide) : rg 1 1 1) (rg_k (by decide) : rg 0 0 0) (i_eq c3) (by decide)).elim)
    refine lv_aload_n hx hb dX8_plans_11 rfl (lv_at hl 0 rfl) ?_
    refine lv_iload_n hx hb dX8_plans_12 rfl (lv_at hl 1 rfl) ?_
    refine e_Vv (As := [.int a_a]) (rest := []) X Y hT hS (m_X8_planFor hR a_a h2) mk_X8_planFor gm_1012 rfl rfl (by decide) hd_X8_planFor ⟨rfl, rfl⟩ ⟨Nat.le_of_ble_eq_true rfl, Nat.le_of_ble_eq_true rfl⟩ hl.1 rfl (Nat.le_of_ble_eq_true rfl) dX8_plans_13 ⟨Nat.zero_le _, Nat.zero_le _⟩ (fun i4 g4 H locs hq hT hS => ?_)
    obtain ⟨hR4, hf4⟩ := hq
    have hF4 := Fr_tr hF hf4 (by decide)
    refine lv_aload_n hx hb dX8_plans_16 rfl (lv_at hl 0 rfl) ?_
    refine r_getr X hT 0 9 79 fk_8_67 rfl rfl (by decide) dX8_plans_17 ?_
    refine r_geti X hT 79 8 fk_8_286 rfl rfl (by decide) dX8_plans_20 ?_
    exact hret (i4 79 8) _ _ _ _ _ _ dX8_plans_23 hT hS ⟨hR4, hF4⟩
  ·
    obtain ⟨eh1, rfl⟩ := hq
    rw [(Prod.mk.inj eh1).1, (Prod.mk.inj eh1).2] at hT
    refine lv_if_ne (tgt := 11) hx hb dX8_plans_5 (by decide) (fun c5 => (x_ne (rg_k (by decide) : rg 0 0 0) (rg_k (by decide) : rg 0 0 0) (i_ne c5) (by decide)).elim) (fun c5 => ?_)
    refine lv_bipush (v := (-2)) hx hb dX8_plans_8 (by decide) ?_
    exact hret (-2) _ _ _ _ _ _ dX8_plans_10 hT hS ⟨hR, hF⟩
set_option maxRecDepth 100000 in
set_option maxHeartbeats 4000000 in
theorem m_X5_isSlot {l : Launch} {D : va_G} {h : Nat → Nat} {cz : Nat → ClassId} {z : EZ} {i : Nat → Nat → Int32} {g : Nat → Nat → Int64} (hR : Rg rA i) (a_a : Int32) : DtI l yX5_isSlot cX5_isSlot 2 (some .boolean) ({ frames := 0, cells := 0, slots := 0, locals := 0 } : Room) D h cz z i g [.ref (h 61), .int a_a] (fun r u => (u = (i, g) ∧ r = 1 ∧ rg 0 3 a_a) ∨ (u = (i, g) ∧ r = 0 ∧ (a_a.toInt < 0 ∨ 3 < a_a.toInt))) := by
  refine e_Z (fun v u hq => (hq.elim (fun hq => (Or.inr hq.2.1)) (fun hq => (Or.inl hq.2.1)))) pn_X5_isSlot (Nat.le_of_ble_eq_true rfl) ?_
  intro p e s m args below meth c ls Q X Y hret hT hl hS
  have hx := X.1
  have hb := X.2.1
  have hl : lv_has ls 2 [(0, .ref (h 61)), (1, .int a_a)] := hl
  refine lv_iload_n hx hb dX5_isSlot_0 rfl (lv_at hl 1 rfl) ?_
  refine lv_if_lt (tgt := 13) hx hb dX5_isSlot_1 (by decide) (fun c1 => ?_) (fun c1 => ?_)
  ·
    have q1 : a_a.toInt < 0 := i_lt c1
    have h2 : rg (-2147483648) (-1) a_a := t_ltx (-2147483648) (-1) (rg_top a_a) (rg_k (by decide) : rg 0 0 0) (i_lt c1) (by decide)
    refine lv_iconst (v := 0) hx hb dX5_isSlot_13 (by decide) ?_
    exact hret 0 _ _ _ _ _ _ dX5_isSlot_14 hT hS (Or.inr ⟨rfl, rfl, (by omega)⟩)
  ·
    have q1 : 0 ≤ a_a.toInt := i_nlt c1
    have h3 : rg 0 2147483647 a_a := t_ley 0 2147483647 (rg_k (by decide) : rg 0 0 0) (rg_top a_a) (i_nlt c1) (by decide)
    refine lv_iload_n hx hb dX5_isSlot_4 rfl (lv_at hl 1 rfl) ?_
    refine lv_iconst (v := 4) hx hb dX5_isSlot_5 (by decide) ?_
    refine lv_icmp_ge (tgt := 13) hx hb dX5_isSlot_6 (by decide) (fun c4 => ?_) (fun c4 => ?_)
    ·
      have q4 : 4 ≤ a_a.toInt := i_le c4
      have h5 : rg 4 2147483647 a_a := t_ley 4 2147483647 (rg_k (by decide) : rg 4 4 4) h3 (i_le c4) (by decide)
      refine lv_iconst (v := 0) hx hb dX5_isSlot_13 (by decide) ?_
      exact hret 0 _ _ _ _ _ _ dX5_isSlot_14 hT hS (Or.inr ⟨rfl, rfl, (by omega)⟩)
    ·
      have q4 : a_a.toInt < 4 := i_nle c4
      have h6 : rg 0 3 a_a := t_ltx 0 3 h3 (rg_k (by decide) : rg 4 4 4) (i_nle c4) (by decide)
      refine lv_iconst (v := 1) hx hb dX5_isSlot_9 (by decide) ?_
      refine lv_goto (tgt := 14) hx hb dX5_isSlot_10 (by decide) ?_
      exact hret 1 _ _ _ _ _ _ dX5_isSlot_14 hT hS (Or.inl ⟨rfl, rfl, h6⟩)
set_option maxRecDepth 100000 in
set_option maxHeartbeats 4000000 in
theorem m_X5_isBare {l : Launch} {D : va_G} {h : Nat → Nat} {cz : Nat → ClassId} {z : EZ} {i : Nat → Nat → Int32} {g : Nat → Nat → Int64} (hR : Rg rA i) (a_a : Int32) (ha_a : rg 0 3 a_a) : DtI l yX5_isBare cX5_isBare 2 (some .boolean) ({ frames := 0, cells := 0, slots := 0, locals := 0 } : Room) D h cz z i g [.ref (h 61), .int a_a] (fun r u => (u = (i, g) ∧ r = 1 ∧ ((i 62 a_a.toNatClampNeg).toInt = -1)) ∨ (u = (i, g) ∧ r = 0 ∧ (¬ (i 62 a_a.toNatClampNeg).toInt = -1))) := by
  refine e_Z (fun v u hq => (hq.elim (fun hq => (Or.inr hq.2.1)) (fun hq => (Or.inl hq.2.1)))) pn_X5_isBare (Nat.le_of_ble_eq_true rfl) ?_
  intro p e s m args below meth c ls Q X Y hret hT hl hS
  have hx := X.1
  have hb := X.2.1
  have hl : lv_has ls 2 [(0, .ref (h 61)), (1, .int a_a)] := hl
  refine lv_aload_n hx hb dX5_isBare_0 rfl (lv_at hl 0 rfl) ?_
  refine r_getr X hT 61 0 62 fk_5_9 rfl rfl (by decide) dX5_isBare_1 ?_
  refine lv_iload_n hx hb dX5_isBare_4 rfl (lv_at hl 1 rfl) ?_
  refine r_iald X hT 62 rfl (by decide) (v_in ha_a (by decide)) dX5_isBare_5 ?_
  refine lv_iconst (v := (-1)) hx hb dX5_isBare_6 (by decide) ?_
  refine lv_icmp_ne (tgt := 14) hx hb dX5_isBare_7 (by decide) (fun c1 => ?_) (fun c1 => ?_)
  ·
    have q1 : ¬ (i 62 a_a.toNatClampNeg).toInt = (-1) := i_ne c1
    have h2 : rg 0 3 (i 62 a_a.toNatClampNeg) := t_nelo 0 (Rg_at hR 62 a_a.toNatClampNeg (-1) 3 (v_lt (v_in ha_a (by decide))) rfl) (rg_k (by decide) : rg (-1) (-1) (-1)) (i_ne c1) (by decide)
    refine lv_iconst (v := 0) hx hb dX5_isBare_14 (by decide) ?_
    exact hret 0 _ _ _ _ _ _ dX5_isBare_15 hT hS (Or.inr ⟨rfl, rfl, (by omega)⟩)
  ·
    have q1 : (i 62 a_a.toNatClampNeg).toInt = (-1) := i_eq c1
    have h3 : rg (-1) (-1) (i 62 a_a.toNatClampNeg) := t_eqx (-1) (-1) (Rg_at hR 62 a_a.toNatClampNeg (-1) 3 (v_lt (v_in ha_a (by decide))) rfl) (rg_k (by decide) : rg (-1) (-1) (-1)) (i_eq c1) (by decide)
    refine lv_iconst (v := 1) hx hb dX5_isBare_10 (by decide) ?_
    refine lv_goto (tgt := 15) hx hb dX5_isBare_11 (by decide) ?_
    exact hret 1 _ _ _ _ _ _ dX5_isBare_15 hT hS (Or.inl ⟨rfl, rfl, (by omega)⟩)
set_option maxRecDepth 100000 in
set_option maxHeartbeats 4000000 in
theorem m_X5_size {l : Launch} {D : va_G} {h : Nat → Nat} {cz : Nat → ClassId} {z : EZ} {i : Nat → Nat → Int32} {g : Nat → Nat → Int64} (hR : Rg rA i) (a_a : Int32) (ha_a : rg 0 3 a_a) : DtI l yX5_size cX5_size 2 (some .int) ({ frames := 0, cells := 0, slots := 0, locals := 0 } : Room) D h cz z i g [.ref (h 61), .int a_a] (fun r u => u = (i, g) ∧ rg 0 60 r ∧ (r = i 63 a_a.toNatClampNeg)) := by
  refine e_I pn_X5_size (Nat.le_of_ble_eq_true rfl) ?_
  intro p e s m args below meth c ls Q X Y hret hT hl hS
  have hx := X.1
  have hb := X.2.1
  have hl : lv_has ls 2 [(0, .ref (h 61)), (1, .int a_a)] := hl
  refine lv_aload_n hx hb dX5_size_0 rfl (lv_at hl 0 rfl) ?_
  refine r_getr X hT 61 1 63 fk_5_15 rfl rfl (by decide) dX5_size_1 ?_
  refine lv_iload_n hx hb dX5_size_4 rfl (lv_at hl 1 rfl) ?_
  refine r_iald X hT 63 rfl (by decide) (v_in ha_a (by decide)) dX5_size_5 ?_
  exact hret (i 63 a_a.toNatClampNeg) _ _ _ _ _ _ dX5_size_6 hT hS ⟨rfl, (Rg_at hR 63 a_a.toNatClampNeg 0 60 (v_lt (v_in ha_a (by decide))) rfl), rfl⟩
set_option maxRecDepth 100000 in
set_option maxHeartbeats 4000000 in
theorem m_X5_number {l : Launch} {D : va_G} {h : Nat → Nat} {cz : Nat → ClassId} {z : EZ} {i : Nat → Nat → Int32} {g : Nat → Nat → Int64} (hR : Rg rA i) (a_a : Int32) (a_b : Int32) (ha_a : rg 0 3 a_a) (ha_b : rg 0 59 a_b) : DtL l yX5_number cX5_number 3 (some .long) ({ frames := 0, cells := 0, slots := 0, locals := 0 } : Room) D h cz z i g [.ref (h 61), .int a_a, .int a_b] (fun r u => u = (i, g) ∧ (r = g 64 (60 * a_a.toNatClampNeg + a_b.toNatClampNeg))) := by
  refine e_L pn_X5_number (Nat.le_of_ble_eq_true rfl) ?_
  intro p e s m args below meth c ls Q X Y hret hT hl hS
  have hx := X.1
  have hb := X.2.1
  have hl : lv_has ls 3 [(0, .ref (h 61)), (1, .int a_a), (2, .int a_b)] := hl
  refine lv_aload_n hx hb dX5_number_0 rfl (lv_at hl 0 rfl) ?_
  refine r_getr X hT 61 2 64 fk_5_18 rfl rfl (by decide) dX5_number_1 ?_
  refine lv_iload_n hx hb dX5_number_4 rfl (lv_at hl 1 rfl) ?_
  refine lv_bipush (v := 60) hx hb dX5_number_5 (by decide) ?_
  refine q_imul hx hb dX5_number_7 (fun x1 ex1 => ?_)
  obtain ⟨hx1, ax1⟩ := rg_mul 0 180 ex1 ha_a (rg_k (by decide) : rg 60 60 60) (by decide)
  replace ax1 : x1.toInt = a_a.toInt * 60 := ax1
  refine lv_iload_n hx hb dX5_number_8 rfl (lv_at hl 2 rfl) ?_
  refine q_iadd hx hb dX5_number_9 (fun x2 ex2 => ?_)
  obtain ⟨hx2, ax2⟩ := rg_add 0 239 ex2 hx1 ha_b (by decide)
  replace ax2 : x2.toInt = x1.toInt + a_b.toInt := ax2
  refine r_lald X hT 64 rfl (by decide) (v_in hx2 (by decide)) dX5_number_10 ?_
  exact hret (g 64 x2.toNatClampNeg) _ _ _ _ _ _ dX5_number_11 hT hS ⟨rfl, (congrArg (g 64) (cl_ix ha_a ha_b ax1 ax2 (by decide) (by decide)))⟩
set_option maxRecDepth 100000 in
set_option maxHeartbeats 4000000 in
theorem m_X1_isSeenRow {l : Launch} {D : va_G} {h : Nat → Nat} {cz : Nat → ClassId} {z : EZ} {i : Nat → Nat → Int32} {g : Nat → Nat → Int64} (hR : Rg rA i) (a_a : Int32) (ha_a : rg 0 3 a_a) : DtI l yX1_isSeenRow cX1_isSeenRow 10 (some .boolean) ({ frames := 1, cells := 0, slots := 0, locals := 22 } : Room) D h cz z i g [.ref (h 93), .int a_a] (fun r u => (u = (i, g) ∧ r = 1 ∧ (seenC u.1 u.2 a_a)) ∨ (u = (i, g) ∧ r = 0)) := by
  refine e_Z (fun v u hq => (hq.elim (fun hq => (Or.inr hq.2.1)) (fun hq => (Or.inl hq.2)))) pn_X1_isSeenRow (Nat.le_of_ble_eq_true rfl) ?_
  intro p e s m args below meth c ls Q X Y hret hT hl hS
  have hx := X.1
  have hb := X.2.1
  have hl : lv_has ls 10 [(0, .ref (h 93)), (1, .int a_a)] := hl
  refine lv_aload_n hx hb dX1_isSeenRow_0 rfl (lv_at hl 0 rfl) ?_
  refine r_getr X hT 93 1 61 fk_1_23 rfl rfl (by decide) dX1_isSeenRow_1 ?_
  refine lv_iload_n hx hb dX1_isSeenRow_4 rfl (lv_at hl 1 rfl) ?_
  refine e_Vi (As := [.int a_a]) (rest := []) X Y hT hS (m_X5_size hR a_a ha_a) mk_X5_size gm_1065 rfl rfl (by decide) hd_X5_size ⟨rfl, rfl⟩ ⟨Nat.le_of_ble_eq_true rfl, Nat.le_of_ble_eq_true rfl⟩ hl.1 rfl (Nat.le_of_ble_eq_true rfl) dX1_isSeenRow_5 ⟨Nat.zero_le _, Nat.zero_le _⟩ (fun r1 i1 g1 H locs hq hT hS => ?_)
  obtain ⟨eh1, hr1, hf1_0⟩ := hq
  rw [(Prod.mk.inj eh1).1, (Prod.mk.inj eh1).2] at hT
  replace hf1_0 : r1 = i 63 a_a.toNatClampNeg := hf1_0
  refine lv_istore_n (lv' := [(2, .int r1), (0, .ref (h 93)), (1, .int a_a)]) hx hb dX1_isSeenRow_8 rfl hl (by decide) rfl (fun ls hl => ?_)
  refine lv_iconst (v := 0) hx hb dX1_isSeenRow_9 (by decide) ?_
  refine lv_istore_n (lv' := [(3, .int 0), (2, .int r1), (0, .ref (h 93)), (1, .int a_a)]) hx hb dX1_isSeenRow_10 rfl hl (by decide) rfl (fun ls hl => ?_)
  have L11_2 : ∀ (n3_ : Nat) (x11_3 : Int32) (H : Heap) (locs : List Loc) (ls : Array Slot), rg 0 60 x11_3 → (x11_3.toInt % 3 = 0) → (∀ q : Nat, 3 * (q : Int) < x11_3.toInt → goodC g a_a q) → TH D h cz i g H → va_S (hA h) s.heap H locs → lv_has ls 10 [(0, .ref (h 93)), (1, .int a_a), (2, .int r1), (3, .int x11_3)] → (60 - x11_3.toInt).toNat < n3_ → W p l e ({ frames := 1, cells := 0, slots := 0, locals := 22 } : Room) s m args below meth c H locs 0 0 Q (F0 m 11 ls []) := by
    intro n3_
    induction n3_ with
    | zero => intro x11_3 H locs ls hhx11_3 hm3 hgd hT hS hl hm3_; exact absurd hm3_ (Nat.not_lt_zero _)
    | succ n3_ ih3_ =>
      intro x11_3 H locs ls hhx11_3 hm3 hgd hT hS hl hm3_
      refine lv_iload_n hx hb dX1_isSeenRow_11 rfl (lv_at hl 3 rfl) ?_
      refine lv_iconst (v := 2) hx hb dX1_isSeenRow_12 (by decide) ?_
      refine q_iadd hx hb dX1_isSeenRow_13 (fun x4 ex4 => ?_)
      obtain ⟨hx4, ax4⟩ := rg_add 2 62 ex4 hhx11_3 (rg_k (by decide) : rg 2 2 2) (by decide)
      replace ax4 : x4.toInt = x11_3.toInt + 2 := ax4
      refine lv_iload_n hx hb dX1_isSeenRow_14 rfl (lv_at hl 2 rfl) ?_
      refine lv_icmp_ge (tgt := 121) hx hb dX1_isSeenRow_15 (by decide) (fun c5 => ?_) (fun c5 => ?_)
      ·
        have q5 : r1.toInt ≤ x4.toInt := i_le c5
        refine lv_iload_n hx hb dX1_isSeenRow_121 rfl (lv_at hl 2 rfl) ?_
        refine lv_iconst (v := 3) hx hb dX1_isSeenRow_122 (by decide) ?_
        refine q_irem hx hb dX1_isSeenRow_123 (nz_I (rg_k (by decide) : rg 3 3 3) (by decide)) (fun x6 ex6 => ?_)
        obtain ⟨hx6, ax6⟩ := rg_rem (hi := 2) ex6 hr1 (rg_k (by decide) : rg 3 3 3) (by decide)
        replace ax6 : x6.toInt = r1.toInt % 3 := ax6
        refine lv_if_ne (tgt := 131) hx hb dX1_isSeenRow_124 (by decide) (fun c7 => ?_) (fun c7 => ?_)
        ·
          have q7 : ¬ x6.toInt = 0 := i_ne c7
          have h8 : rg 1 2 x6 := t_nelo 1 hx6 (rg_k (by decide) : rg 0 0 0) (i_ne c7) (by decide)
          refine lv_iconst (v := 0) hx hb dX1_isSeenRow_131 (by decide) ?_
          exact hret 0 _ _ _ _ _ _ dX1_isSeenRow_132 hT hS (Or.inr ⟨rfl, rfl⟩)
        ·
          have q7 : x6.toInt = 0 := i_eq c7
          have h9 : rg 0 0 x6 := t_eqx 0 0 hx6 (rg_k (by decide) : rg 0 0 0) (i_eq c7) (by decide)
          refine lv_iconst (v := 1) hx hb dX1_isSeenRow_127 (by decide) ?_
          refine lv_goto (tgt := 132) hx hb dX1_isSeenRow_128 (by decide) ?_
          exact hret 1 _ _ _ _ _ _ dX1_isSeenRow_132 hT hS (Or.inl ⟨rfl, rfl, (seenC_end hgd hm3 ax4 q5 hf1_0)⟩)
      ·
        have q5 : x4.toInt < r1.toInt := i_nle c5
        have h10 : rg 2 59 x4 := t_ltx 2 59 hx4 hr1 (i_nle c5) (by decide)
        have h11 : rg 0 57 x11_3 := ⟨by have := h10.1; have := hhx11_3.1; have := ax4; omega, by have := h10.2; have := hhx11_3.2; have := ax4; omega⟩
        have h12 : rg 3 60 r1 := t_lty 3 60 hx4 hr1 (i_nle c5) (by decide)
        refine lv_aload_n hx hb dX1_isSeenRow_18 rfl (lv_at hl 0 rfl) ?_
        refine r_getr X hT 93 1 61 fk_1_23 rfl rfl (by decide) dX1_isSeenRow_19 ?_
        refine lv_iload_n hx hb dX1_isSeenRow_22 rfl (lv_at hl 1 rfl) ?_
        refine lv_iload_n hx hb dX1_isSeenRow_23 rfl (lv_at hl 3 rfl) ?_
        refine e_Vl (As := [.int a_a, .int x11_3]) (rest := []) X Y hT hS (m_X5_number hR a_a x11_3 ha_a (rg_w h11 (by decide) : rg 0 59 x11_3)) mk_X5_number gm_1069 rfl rfl (by decide) hd_X5_number ⟨rfl, rfl⟩ ⟨Nat.le_of_ble_eq_true rfl, Nat.le_of_ble_eq_true rfl⟩ hl.1 rfl (Nat.le_of_ble_eq_true rfl) dX1_isSeenRow_24 ⟨Nat.zero_le _, Nat.zero_le _⟩ (fun r13 i13 g13 H locs hq hT hS => ?_)
        obtain ⟨eh13, hf13_0⟩ := hq
        rw [(Prod.mk.inj eh13).1, (Prod.mk.inj eh13).2] at hT
        replace hf13_0 : r13 = g 64 (60 * a_a.toNatClampNeg + x11_3.toNatClampNeg) := hf13_0
        refine lv_lstore (lv' := [(4, .long r13), (0, .ref (h 93)), (1, .int a_a), (2, .int r1), (3, .int x11_3)]) hx hb dX1_isSeenRow_27 hl (by decide) rfl (fun ls hl => ?_)
        refine lv_aload_n hx hb dX1_isSeenRow_29 rfl (lv_at hl 1 rfl) ?_
        refine r_getr X hT 93 1 61 fk_1_23 rfl rfl (by decide) dX1_isSeenRow_30 ?_
        refine lv_iload_n hx hb dX1_isSeenRow_33 rfl (lv_at hl 2 rfl) ?_
        refine lv_iload_n hx hb dX1_isSeenRow_34 rfl (lv_at hl 4 rfl) ?_
        refine lv_iconst (v := 1) hx hb dX1_isSeenRow_35 (by decide) ?_
        refine q_iadd hx hb dX1_isSeenRow_36 (fun x14 ex14 => ?_)
        obtain ⟨hx14, ax14⟩ := rg_add 1 58 ex14 h11 (rg_k (by decide) : rg 1 1 1) (by decide)
        replace ax14 : x14.toInt = x11_3.toInt + 1 := ax14
        refine e_Vl (As := [.int a_a, .int x14]) (rest := []) X Y hT hS (m_X5_number hR a_a x14 ha_a (rg_w hx14 (by decide) : rg 0 59 x14)) mk_X5_number gm_1069 rfl rfl (by decide) hd_X5_number ⟨rfl, rfl⟩ ⟨Nat.le_of_ble_eq_true rfl, Nat.le_of_ble_eq_true rfl⟩ hl.1 rfl (Nat.le_of_ble_eq_true rfl) dX1_isSeenRow_37 ⟨Nat.zero_le _, Nat.zero_le _⟩ (fun r15 i15 g15 H locs hq hT hS => ?_)
        obtain ⟨eh15, hf15_0⟩ := hq
        rw [(Prod.mk.inj eh15).1, (Prod.mk.inj eh15).2] at hT
        replace hf15_0 : r15 = g 64 (60 * a_a.toNatClampNeg + x14.toNatClampNeg) := hf15_0
        refine lv_lstore (lv' := [(6, .long r15), (4, .long r13), (0, .ref (h 93)), (1, .int a_a), (2, .int r1), (3, .int x11_3)]) hx hb dX1_isSeenRow_40 hl (by decide) rfl (fun ls hl => ?_)
        refine lv_aload_n hx hb dX1_isSeenRow_42 rfl (lv_at hl 2 rfl) ?_
        refine r_getr X hT 93 1 61 fk_1_23 rfl rfl (by decide) dX1_isSeenRow_43 ?_
        refine lv_iload_n hx hb dX1_isSeenRow_46 rfl (lv_at hl 3 rfl) ?_
        refine lv_iload_n hx hb dX1_isSeenRow_47 rfl (lv_at hl 5 rfl) ?_
        refine lv_iconst (v := 2) hx hb dX1_isSeenRow_48 (by decide) ?_
        refine q_iadd hx hb dX1_isSeenRow_49 (fun x16 ex16 => ?_)
        obtain ⟨hx16, ax16⟩ := rg_add 2 59 ex16 h11 (rg_k (by decide) : rg 2 2 2) (by decide)
        replace ax16 : x16.toInt = x11_3.toInt + 2 := ax16
        refine e_Vl (As := [.int a_a, .int x16]) (rest := []) X Y hT hS (m_X5_number hR a_a x16 ha_a (rg_w hx16 (by decide) : rg 0 59 x16)) mk_X5_number gm_1069 rfl rfl (by decide) hd_X5_number ⟨rfl, rfl⟩ ⟨Nat.le_of_ble_eq_true rfl, Nat.le_of_ble_eq_true rfl⟩ hl.1 rfl (Nat.le_of_ble_eq_true rfl) dX1_isSeenRow_50 ⟨Nat.zero_le _, Nat.zero_le _⟩ (fun r17 i17 g17 H locs hq hT hS => ?_)
        obtain ⟨eh17, hf17_0⟩ := hq
        rw [(Prod.mk.inj eh17).1, (Prod.mk.inj eh17).2] at hT
        replace hf17_0 : r17 = g 64 (60 * a_a.toNatClampNeg + x16.toNatClampNeg) := hf17_0
        refine lv_lstore (lv' := [(8, .long r17), (6, .long r15), (4, .long r13), (0, .ref (h 93)), (1, .int a_a), (2, .int r1), (3, .int x11_3)]) hx hb dX1_isSeenRow_53 hl (by decide) rfl (fun ls hl => ?_)
        refine lv_lload hx hb dX1_isSeenRow_55 (lv_at hl 2 rfl) ?_
        refine lv_lconst (v := 0) hx hb dX1_isSeenRow_57 (by decide) ?_
        refine W.lcmp hx hb dX1_isSeenRow_58 ?_
        refine lv_if_lt (tgt := 113) hx hb dX1_isSeenRow_59 (by decide) (fun c18 => ?_) (fun c18 => ?_)
        ·
          have q18 : r13.toInt < 0 := c_lt c18
          have h19 : rgL (-9223372036854775808) (-1) r13 := tL_ltx (-9223372036854775808) (-1) (rgL_top r13) (rgL_k (by decide) : rgL 0 0 0) (c_lt c18) (by decide)
          refine lv_iconst (v := 0) hx hb dX1_isSeenRow_113 (by decide) ?_
          exact hret 0 _ _ _ _ _ _ dX1_isSeenRow_114 hT hS (Or.inr ⟨rfl, rfl⟩)
        ·
          have q18 : 0 ≤ r13.toInt := c_nlt c18
          have h20 : rgL 0 9223372036854775807 r13 := tL_ley 0 9223372036854775807 (rgL_k (by decide) : rgL 0 0 0) (rgL_top r13) (c_nlt c18) (by decide)
          refine lv_lload hx hb dX1_isSeenRow_62 (lv_at hl 2 rfl) ?_
          refine lv_aload_n hx hb dX1_isSeenRow_64 rfl (lv_at hl 3 rfl) ?_
          refine r_getr X hT 93 0 15 fk_1_19 rfl rfl (by decide) dX1_isSeenRow_65 ?_
          refine r_geti X hT 15 13 fk_1_37 rfl rfl (by decide) dX1_isSeenRow_68 ?_
          refine q_i2l hx hb dX1_isSeenRow_71 (fun y21 ey21 => ?_)
          obtain ⟨hy21, ay21⟩ := rg_i2l ey21 (Rg_at hR 15 13 0 6 (by decide) rfl)
          refine W.lcmp hx hb dX1_isSeenRow_72 ?_
          refine lv_if_ge (tgt := 113) hx hb dX1_isSeenRow_73 (by decide) (fun c22 => ?_) (fun c22 => ?_)
          ·
            have q22 : y21.toInt ≤ r13.toInt := c_ge c22
            refine lv_iconst (v := 0) hx hb dX1_isSeenRow_113 (by decide) ?_
            exact hret 0 _ _ _ _ _ _ dX1_isSeenRow_114 hT hS (Or.inr ⟨rfl, rfl⟩)
          ·
            have q22 : r13.toInt < y21.toInt := c_nge c22
            have h23 : rgL 0 5 r13 := tL_ltx 0 5 h20 hy21 (c_nge c22) (by decide)
            have h24 : rgL 1 6 y21 := tL_lty 1 6 h20 hy21 (c_nge c22) (by decide)
            have h25 : rg 1 6 (i 15 13) := ⟨by have := h24.1; have := (Rg_at hR 15 13 0 6 (by decide) rfl).1; have := ay21; omega, by have := h24.2; have := (Rg_at hR 15 13 0 6 (by decide) rfl).2; have := ay21; omega⟩
            refine lv_lload hx hb dX1_isSeenRow_76 (lv_at hl 1 rfl) ?_
            refine lv_lconst (v := 0) hx hb dX1_isSeenRow_78 (by decide) ?_
            refine W.lcmp hx hb dX1_isSeenRow_79 ?_
            refine lv_if_lt (tgt := 113) hx hb dX1_isSeenRow_80 (by decide) (fun c26 => ?_) (fun c26 => ?_)
            ·
              have q26 : r15.toInt < 0 := c_lt c26
              have h27 : rgL (-9223372036854775808) (-1) r15 := tL_ltx (-9223372036854775808) (-1) (rgL_top r15) (rgL_k (by decide) : rgL 0 0 0) (c_lt c26) (by decide)
              refine lv_iconst (v := 0) hx hb dX1_isSeenRow_113 (by decide) ?_
              exact hret 0 _ _ _ _ _ _ dX1_isSeenRow_114 hT hS (Or.inr ⟨rfl, rfl⟩)
            ·
              have q26 : 0 ≤ r15.toInt := c_nlt c26
              have h28 : rgL 0 9223372036854775807 r15 := tL_ley 0 9223372036854775807 (rgL_k (by decide) : rgL 0 0 0) (rgL_top r15) (c_nlt c26) (by decide)
              refine lv_lload hx hb dX1_isSeenRow_83 (lv_at hl 1 rfl) ?_
              refine lv_aload_n hx hb dX1_isSeenRow_85 rfl (lv_at hl 3 rfl) ?_
              refine r_getr X hT 93 0 15 fk_1_19 rfl rfl (by decide) dX1_isSeenRow_86 ?_
              refine r_geti X hT 15 10 fk_1_43 rfl rfl (by decide) dX1_isSeenRow_89 ?_
              refine q_i2l hx hb dX1_isSeenRow_92 (fun y29 ey29 => ?_)
              obtain ⟨hy29, ay29⟩ := rg_i2l ey29 (Rg_at hR 15 10 (-1) 12 (by decide) rfl)
              refine W.lcmp hx hb dX1_isSeenRow_93 ?_
              refine lv_if_gt (tgt := 113) hx hb dX1_isSeenRow_94 (by decide) (fun c30 => ?_) (fun c30 => ?_)
              ·
                have q30 : y29.toInt < r15.toInt := c_gt c30
                refine lv_iconst (v := 0) hx hb dX1_isSeenRow_113 (by decide) ?_
                exact hret 0 _ _ _ _ _ _ dX1_isSeenRow_114 hT hS (Or.inr ⟨rfl, rfl⟩)
              ·
                have q30 : r15.toInt ≤ y29.toInt := c_ngt c30
                have h31 : rgL 0 12 r15 := tL_lex 0 12 h28 hy29 (c_ngt c30) (by decide)
                have h32 : rgL 0 12 y29 := tL_ley 0 12 h28 hy29 (c_ngt c30) (by decide)
                have h33 : rg 0 12 (i 15 10) := ⟨by have := h32.1; have := (Rg_at hR 15 10 (-1) 12 (by decide) rfl).1; have := ay29; omega, by have := h32.2; have := (Rg_at hR 15 10 (-1) 12 (by decide) rfl).2; have := ay29; omega⟩
                refine lv_lload hx hb dX1_isSeenRow_97 (lv_at hl 0 rfl) ?_
                refine lv_lconst (v := 0) hx hb dX1_isSeenRow_99 (by decide) ?_
                refine W.lcmp hx hb dX1_isSeenRow_100 ?_
                refine lv_if_lt (tgt := 113) hx hb dX1_isSeenRow_101 (by decide) (fun c34 => ?_) (fun c34 => ?_)
                ·
                  have q34 : r17.toInt < 0 := c_lt c34
                  have h35 : rgL (-9223372036854775808) (-1) r17 := tL_ltx (-9223372036854775808) (-1) (rgL_top r17) (rgL_k (by decide) : rgL 0 0 0) (c_lt c34) (by decide)
                  refine lv_iconst (v := 0) hx hb dX1_isSeenRow_113 (by decide) ?_
                  exact hret 0 _ _ _ _ _ _ dX1_isSeenRow_114 hT hS (Or.inr ⟨rfl, rfl⟩)
                ·
                  have q34 : 0 ≤ r17.toInt := c_nlt c34
                  have h36 : rgL 0 9223372036854775807 r17 := tL_ley 0 9223372036854775807 (rgL_k (by decide) : rgL 0 0 0) (rgL_top r17) (c_nlt c34) (by decide)
                  refine lv_lload hx hb dX1_isSeenRow_104 (lv_at hl 0 rfl) ?_
                  refine lv_ldc2 (v := 99) hx hb X.2.2.2.1 (X.2.2.2.2.1 _ gm_1073) dX1_isSeenRow_106 ?_
                  refine W.lcmp hx hb dX1_isSeenRow_109 ?_
                  refine lv_if_le (tgt := 115) hx hb dX1_isSeenRow_110 (by decide) (fun c37 => ?_) (fun c37 => ?_)
                  ·
                    have q37 : r17.toInt ≤ 99 := c_le c37
                    have h38 : rgL 0 99 r17 := tL_lex 0 99 h36 (rgL_k (by decide) : rgL 99 99 99) (c_le c37) (by decide)
                    obtain ⟨x39, ex39⟩ : ∃ y : Int32, y = x11_3 + 3 := ⟨_, rfl⟩
                    refine lv_iinc (v := x39) (lv' := [(3, .int x39), (8, .long r17), (6, .long r15), (4, .long r13), (0, .ref (h 93)), (1, .int a_a), (2, .int r1)]) hx hb dX1_isSeenRow_115 hl (k := 6) rfl (by rw [ex39]; rfl) (by decide) rfl (fun ls hl => ?_)
                    obtain ⟨hx39, ax39⟩ := rg_add 3 60 ex39 h11 (rg_k (by decide) : rg 3 3 3) (by decide)
                    replace ax39 : x39.toInt = x11_3.toInt + 3 := ax39
                    refine lv_goto (tgt := 11) hx hb dX1_isSeenRow_118 (by decide) ?_
                    exact ih3_ x39 _ _ _ (rg_w hx39 (by decide) : rg 0 60 x39) (by have := ax39; omega) (seenC_st hgd hm3 hhx11_3 ax39 hf13_0 h23 ax14 hf15_0 h31 ax16 hf17_0 h38) hT hS (lv_sub hl [4, 5, 6, 0] rfl) (m_up ax39 hx39 (by decide) hm3_)
                  ·
                    have q37 : 99 < r17.toInt := c_nle c37
                    have h40 : rgL 100 9223372036854775807 r17 := tL_lty 100 9223372036854775807 (rgL_k (by decide) : rgL 99 99 99) h36 (c_nle c37) (by decide)
                    refine lv_iconst (v := 0) hx hb dX1_isSeenRow_113 (by decide) ?_
                    exact hret 0 _ _ _ _ _ _ dX1_isSeenRow_114 hT hS (Or.inr ⟨rfl, rfl⟩)
  exact L11_2 _ (0) _ _ _ (rg_w (rg_k (by decide) : rg 0 0 0) (by decide) : rg 0 60 0) (by decide) (fun q hq => absurd hq (by have : (0 : Int32).toInt = 0 := rfl; omega)) hT hS (lv_sub hl [2, 3, 1, 0] rfl) (Nat.lt_succ_self _)
set_option maxRecDepth 100000 in
set_option maxHeartbeats 4000000 in
theorem m_X8_refuseSeen {l : Launch} {D : va_G} {h : Nat → Nat} {cz : Nat → ClassId} {z : EZ} {i : Nat → Nat → Int32} {g : Nat → Nat → Int64} (hR : Rg rA i) (a_a : Int32) : DtI l yX8_refuseSeen cX8_refuseSeen 2 (some .int) ({ frames := 2, cells := 0, slots := 0, locals := 51 } : Room) D h cz z i g [.ref (h 0), .int a_a] (fun r u => (u = (i, g) ∧ r = 0 ∧ (seenC u.1 u.2 a_a) ∧ rg 0 3 a_a) ∨ (u = (i, g) ∧ rg (-6) (-2) r)) := by
  refine e_I pn_X8_refuseSeen (Nat.le_of_ble_eq_true rfl) ?_
  intro p e s m args below meth c ls Q X Y hret hT hl hS
  have hx := X.1
  have hb := X.2.1
  have hl : lv_has ls 2 [(0, .ref (h 0)), (1, .int a_a)] := hl
  refine lv_aload_n hx hb dX8_refuseSeen_0 rfl (lv_at hl 0 rfl) ?_
  refine r_getr X hT 0 6 61 fk_8_46 rfl rfl (by decide) dX8_refuseSeen_1 ?_
  refine lv_iload_n hx hb dX8_refuseSeen_4 rfl (lv_at hl 1 rfl) ?_
  refine e_Vi (As := [.int a_a]) (rest := []) X Y hT hS (m_X5_isSlot hR a_a) mk_X5_isSlot gm_1056 rfl rfl (by decide) hd_X5_isSlot ⟨rfl, rfl⟩ ⟨Nat.le_of_ble_eq_true rfl, Nat.le_of_ble_eq_true rfl⟩ hl.1 rfl (Nat.le_of_ble_eq_true rfl) dX8_refuseSeen_5 ⟨Nat.zero_le _, Nat.zero_le _⟩ (fun r1 i1 g1 H locs hq hT hS => ?_)
  rcases hq with hq | hq
  ·
    obtain ⟨eh1, rfl, hf1_0⟩ := hq
    rw [(Prod.mk.inj eh1).1, (Prod.mk.inj eh1).2] at hT
    have h2 : rg 0 3 a_a := ⟨by have := (rg_top a_a).1; have := hf1_0.1; omega, by have := (rg_top a_a).2; have := hf1_0.2; omega⟩
    refine lv_if_ne (tgt := 14) hx hb dX8_refuseSeen_8 (by decide) (fun c3 => ?_) (fun c3 => (x_eq (rg_k (by decide) : rg 1 1 1) (rg_k (by decide) : rg 0 0 0) (i_eq c3) (by decide)).elim)
    refine lv_aload_n hx hb dX8_refuseSeen_14 rfl (lv_at hl 0 rfl) ?_
    refine r_getr X hT 0 6 61 fk_8_46 rfl rfl (by decide) dX8_refuseSeen_15 ?_
    refine lv_iload_n hx hb dX8_refuseSeen_18 rfl (lv_at hl 1 rfl) ?_
    refine e_Vi (As := [.int a_a]) (rest := []) X Y hT hS (m_X5_isBare hR a_a h2) mk_X5_isBare gm_1060 rfl rfl (by decide) hd_X5_isBare ⟨rfl, rfl⟩ ⟨Nat.le_of_ble_eq_true rfl, Nat.le_of_ble_eq_true rfl⟩ hl.1 rfl (Nat.le_of_ble_eq_true rfl) dX8_refuseSeen_19 ⟨Nat.zero_le _, Nat.zero_le _⟩ (fun r4 i4 g4 H locs hq hT hS => ?_)
    rcases hq with hq | hq
    ·
      obtain ⟨eh4, rfl, hf4_0⟩ := hq
      rw [(Prod.mk.inj eh4).1, (Prod.mk.inj eh4).2] at hT
      refine lv_if_eq (tgt := 28) hx hb dX8_refuseSeen_22 (by decide) (fun c5 => (x_eq (rg_k (by decide) : rg 1 1 1) (rg_k (by decide) : rg 0 0 0) (i_eq c5) (by decide)).elim) (fun c5 => ?_)
      refine lv_bipush (v := (-6)) hx hb dX8_refuseSeen_25 (by decide) ?_
      exact hret (-6) _ _ _ _ _ _ dX8_refuseSeen_27 hT hS (Or.inr ⟨rfl, (rg_w (rg_k (by decide) : rg (-6) (-6) (-6)) (by decide) : rg (-6) (-2) (-6))⟩)
    ·
      obtain ⟨eh4, rfl, hf4_0⟩ := hq
      rw [(Prod.mk.inj eh4).1, (Prod.mk.inj eh4).2] at hT
      refine lv_if_eq (tgt := 28) hx hb dX8_refuseSeen_22 (by decide) (fun c6 => ?_) (fun c6 => (x_ne (rg_k (by decide) : rg 0 0 0) (rg_k (by decide) : rg 0 0 0) (i_ne c6) (by decide)).elim)
      refine lv_aload_n hx hb dX8_refuseSeen_28 rfl (lv_at hl 0 rfl) ?_
      refine r_getr X hT 0 11 93 fk_8_83 rfl rfl (by decide) dX8_refuseSeen_29 ?_
      refine lv_iload_n hx hb dX8_refuseSeen_32 rfl (lv_at hl 1 rfl) ?_
      refine e_Vi (As := [.int a_a]) (rest := []) X Y hT hS (m_X1_isSeenRow hR a_a h2) mk_X1_isSeenRow gm_1061 rfl rfl (by decide) hd_X1_isSeenRow ⟨rfl, rfl⟩ ⟨Nat.le_of_ble_eq_true rfl, Nat.le_of_ble_eq_true rfl⟩ hl.1 rfl (Nat.le_of_ble_eq_true rfl) dX8_refuseSeen_33 ⟨Nat.zero_le _, Nat.zero_le _⟩ (fun r7 i7 g7 H locs hq hT hS => ?_)
      rcases hq with hq | hq
      ·
        obtain ⟨eh7, rfl, hp7_0⟩ := hq
        rw [(Prod.mk.inj eh7).1, (Prod.mk.inj eh7).2] at hT
        replace hp7_0 : seenC i g a_a := by rw [eh7] at hp7_0; exact hp7_0
        refine lv_if_eq (tgt := 43) hx hb dX8_refuseSeen_36 (by decide) (fun c8 => (x_eq (rg_k (by decide) : rg 1 1 1) (rg_k (by decide) : rg 0 0 0) (i_eq c8) (by decide)).elim) (fun c8 => ?_)
        refine lv_iconst (v := 0) hx hb dX8_refuseSeen_39 (by decide) ?_
        refine lv_goto (tgt := 45) hx hb dX8_refuseSeen_40 (by decide) ?_
        exact hret 0 _ _ _ _ _ _ dX8_refuseSeen_45 hT hS (Or.inl ⟨rfl, rfl, hp7_0, h2⟩)
      ·
        obtain ⟨eh7, rfl⟩ := hq
        rw [(Prod.mk.inj eh7).1, (Prod.mk.inj eh7).2] at hT
        refine lv_if_eq (tgt := 43) hx hb dX8_refuseSeen_36 (by decide) (fun c9 => ?_) (fun c9 => (x_ne (rg_k (by decide) : rg 0 0 0) (rg_k (by decide) : rg 0 0 0) (i_ne c9) (by decide)).elim)
        refine lv_bipush (v := (-2)) hx hb dX8_refuseSeen_43 (by decide) ?_
        exact hret (-2) _ _ _ _ _ _ dX8_refuseSeen_45 hT hS (Or.inr ⟨rfl, (rg_w (rg_k (by decide) : rg (-2) (-2) (-2)) (by decide) : rg (-6) (-2) (-2))⟩)
  ·
    obtain ⟨eh1, rfl, hf1_0⟩ := hq
    rw [(Prod.mk.inj eh1).1, (Prod.mk.inj eh1).2] at hT
    refine lv_if_ne (tgt := 14) hx hb dX8_refuseSeen_8 (by decide) (fun c10 => (x_ne (rg_k (by decide) : rg 0 0 0) (rg_k (by decide) : rg 0 0 0) (i_ne c10) (by decide)).elim) (fun c10 => ?_)
    refine lv_bipush (v := (-2)) hx hb dX8_refuseSeen_11 (by decide) ?_
    exact hret (-2) _ _ _ _ _ _ dX8_refuseSeen_13 hT hS (Or.inr ⟨rfl, (rg_w (rg_k (by decide) : rg (-2) (-2) (-2)) (by decide) : rg (-6) (-2) (-2))⟩)
set_option maxRecDepth 100000 in
set_option maxHeartbeats 4000000 in
theorem m_X8_refuseSeenOf {l : Launch} {D : va_G} {h : Nat → Nat} {cz : Nat → ClassId} {z : EZ} {i : Nat → Nat → Int32} {g : Nat → Nat → Int64} (hR : Rg rA i) (a_a : Int32) (a_b : Int32) : DtI l yX8_refuseSeenOf cX8_refuseSeenOf 3 (some .int) ({ frames := 3, cells := 0, slots := 0, locals := 72 } : Room) D h cz z i g [.ref (h 0), .int a_a, .int a_b] (fun r u => (u = (i, g) ∧ r = 0 ∧ (seenC u.1 u.2 a_a) ∧ rg 0 3 a_a ∧ rg 0 5 a_b) ∨ (u = (i, g) ∧ rg (-6) (-2) r)) := by
  refine e_I pn_X8_refuseSeenOf (Nat.le_of_ble_eq_true rfl) ?_
  intro p e s m args below meth c ls Q X Y hret hT hl hS
  have hx := X.1
  have hb := X.2.1
  have hl : lv_has ls 3 [(0, .ref (h 0)), (1, .int a_a), (2, .int a_b)] := hl
  refine lv_aload_n hx hb dX8_refuseSeenOf_0 rfl (lv_at hl 0 rfl) ?_
  refine r_getr X hT 0 3 15 fk_8_32 rfl rfl (by decide) dX8_refuseSeenOf_1 ?_
  refine lv_iload_n hx hb dX8_refuseSeenOf_4 rfl (lv_at hl 2 rfl) ?_
  refine e_Vi (As := [.int a_b]) (rest := []) X Y hT hS (m_X6_hasPart_15 hR a_b) mk_X6_hasPart gm_669 rfl rfl (by decide) hd_X6_hasPart ⟨rfl, rfl⟩ ⟨Nat.le_of_ble_eq_true rfl, Nat.le_of_ble_eq_true rfl⟩ hl.1 rfl (Nat.le_of_ble_eq_true rfl) dX8_refuseSeenOf_5 ⟨Nat.zero_le _, Nat.zero_le _⟩ (fun r1 i1 g1 H locs hq hT hS => ?_)
  rcases hq with hq | hq
  ·
    obtain ⟨eh1, rfl, hf1_0⟩ := hq
    rw [(Prod.mk.inj eh1).1, (Prod.mk.inj eh1).2] at hT
    have h2 : rg 0 5 a_b := ⟨by have := (rg_top a_b).1; have := hf1_0.1; omega, by have := (rg_top a_b).2; have := hf1_0.2; omega⟩
    refine lv_if_eq (tgt := 19) hx hb dX8_refuseSeenOf_8 (by decide) (fun c3 => (x_eq (rg_k (by decide) : rg 1 1 1) (rg_k (by decide) : rg 0 0 0) (i_eq c3) (by decide)).elim) (fun c3 => ?_)
    refine lv_aload_n hx hb dX8_refuseSeenOf_11 rfl (lv_at hl 0 rfl) ?_
    refine lv_iload_n hx hb dX8_refuseSeenOf_12 rfl (lv_at hl 1 rfl) ?_
    refine e_Vi (As := [.int a_a]) (rest := []) X Y hT hS (m_X8_refuseSeen hR a_a) mk_X8_refuseSeen gm_1052 rfl rfl (by decide) hd_X8_refuseSeen ⟨rfl, rfl⟩ ⟨Nat.le_of_ble_eq_true rfl, Nat.le_of_ble_eq_true rfl⟩ hl.1 rfl (Nat.le_of_ble_eq_true rfl) dX8_refuseSeenOf_13 ⟨Nat.zero_le _, Nat.zero_le _⟩ (fun r4 i4 g4 H locs hq hT hS => ?_)
    rcases hq with hq | hq
    ·
      obtain ⟨eh4, rfl, hp4_0, hf4_0⟩ := hq
      rw [(Prod.mk.inj eh4).1, (Prod.mk.inj eh4).2] at hT
      replace hp4_0 : seenC i g a_a := by rw [eh4] at hp4_0; exact hp4_0
      have h5 : rg 0 3 a_a := ⟨by have := (rg_top a_a).1; have := hf4_0.1; omega, by have := (rg_top a_a).2; have := hf4_0.2; omega⟩
      refine lv_goto (tgt := 21) hx hb dX8_refuseSeenOf_16 (by decide) ?_
      exact hret 0 _ _ _ _ _ _ dX8_refuseSeenOf_21 hT hS (Or.inl ⟨rfl, rfl, hp4_0, h5, h2⟩)
    ·
      obtain ⟨eh4, hr4⟩ := hq
      rw [(Prod.mk.inj eh4).1, (Prod.mk.inj eh4).2] at hT
      refine lv_goto (tgt := 21) hx hb dX8_refuseSeenOf_16 (by decide) ?_
      exact hret r4 _ _ _ _ _ _ dX8_refuseSeenOf_21 hT hS (Or.inr ⟨rfl, hr4⟩)
  ·
    obtain ⟨eh1, rfl⟩ := hq
    rw [(Prod.mk.inj eh1).1, (Prod.mk.inj eh1).2] at hT
    refine lv_if_eq (tgt := 19) hx hb dX8_refuseSeenOf_8 (by decide) (fun c6 => ?_) (fun c6 => (x_ne (rg_k (by decide) : rg 0 0 0) (rg_k (by decide) : rg 0 0 0) (i_ne c6) (by decide)).elim)
    refine lv_bipush (v := (-2)) hx hb dX8_refuseSeenOf_19 (by decide) ?_
    exact hret (-2) _ _ _ _ _ _ dX8_refuseSeenOf_21 hT hS (Or.inr ⟨rfl, (rg_w (rg_k (by decide) : rg (-2) (-2) (-2)) (by decide) : rg (-6) (-2) (-2))⟩)
set_option maxRecDepth 100000 in
set_option maxHeartbeats 4000000 in
theorem m_X1_isAsSeen_65 {l : Launch} {D : va_G} {h : Nat → Nat} {cz : Nat → ClassId} {z : EZ} {i : Nat → Nat → Int32} {g : Nat → Nat → Int64} (hR : Rg rA i) (a_a : Int32) (a_b : Int32) (ha_a : rg 0 3 a_a) (hp0 : seenC i g a_a) : DtI l yX1_isAsSeen cX1_isAsSeen 7 (some .boolean) ({ frames := 4, cells := 0, slots := 0, locals := 111 } : Room) D h cz z i g [.ref (h 93), .int a_a, .int a_b, .ref (h 65)] (fun r u => Rg rA u.1 ∧ Fr [71] [] i g u ∧ rg 0 1 r) := by
  refine e_Z (fun v u hq => (z01 hq.2.2)) pn_X1_isAsSeen (Nat.le_of_ble_eq_true rfl) ?_
  intro p e s m args below meth c ls Q X Y hret hT hl hS
  have hx := X.1
  have hb := X.2.1
  have hl : lv_has ls 7 [(0, .ref (h 93)), (1, .int a_a), (2, .int a_b), (3, .ref (h 65))] := hl
  have hF : Fr [71] [] i g (i, g) := Fr_rf _ _ _ _
  refine lv_iconst (v := 0) hx hb dX1_isAsSeen_0 (by decide) ?_
  refine lv_istore (lv' := [(4, .int 0), (0, .ref (h 93)), (1, .int a_a), (2, .int a_b), (3, .ref (h 65))]) hx hb dX1_isAsSeen_1 hl (by decide) rfl (fun ls hl => ?_)
  have L3_1 : ∀ (n3_ : Nat) (x3_4 : Int32) (i2 : Nat → Nat → Int32) (g2 : Nat → Nat → Int64) (H : Heap) (locs : List Loc) (ls : Array Slot), rg 0 60 x3_4 → Rg rA i2 → Fr [71] [] i g (i2, g2) → (seenC i2 g2 a_a) → (x3_4.toInt % 3 = 0) → TH D h cz i2 g2 H → va_S (hA h) s.heap H locs → lv_has ls 7 [(0, .ref (h 93)), (1, .int a_a), (2, .int a_b), (3, .ref (h 65)), (4, .int x3_4)] → (60 - x3_4.toInt).toNat < n3_ → W p l e ({ frames := 4, cells := 0, slots := 0, locals := 111 } : Room) s m args below meth c H locs 0 0 Q (F0 m 3 ls []) := by
    intro n3_
    induction n3_ with
    | zero => intro x3_4 i2 g2 H locs ls hhx3_4 hR2 hF2 hP2_0 hm3 hT hS hl hm3_; exact absurd hm3_ (Nat.not_lt_zero _)
    | succ n3_ ih3_ =>
      intro x3_4 i2 g2 H locs ls hhx3_4 hR2 hF2 hP2_0 hm3 hT hS hl hm3_
      refine lv_iload hx hb dX1_isAsSeen_3 (lv_at hl 4 rfl) ?_
      refine lv_iconst (v := 2) hx hb dX1_isAsSeen_5 (by decide) ?_
      refine q_iadd hx hb dX1_isAsSeen_6 (fun x4 ex4 => ?_)
      obtain ⟨hx4, ax4⟩ := rg_add 2 62 ex4 hhx3_4 (rg_k (by decide) : rg 2 2 2) (by decide)
      replace ax4 : x4.toInt = x3_4.toInt + 2 := ax4
      refine lv_aload_n hx hb dX1_isAsSeen_7 rfl (lv_at hl 0 rfl) ?_
      refine r_getr X hT 93 1 61 fk_1_23 rfl rfl (by decide) dX1_isAsSeen_8 ?_
      refine lv_iload_n hx hb dX1_isAsSeen_11 rfl (lv_at hl 1 rfl) ?_
      refine e_Vi (As := [.int a_a]) (rest := [.int x4]) X Y hT hS (m_X5_size hR2 a_a ha_a) mk_X5_size gm_1065 rfl rfl (by decide) hd_X5_size ⟨rfl, rfl⟩ ⟨Nat.le_of_ble_eq_true rfl, Nat.le_of_ble_eq_true rfl⟩ hl.1 rfl (Nat.le_of_ble_eq_true rfl) dX1_isAsSeen_12 ⟨Nat.zero_le _, Nat.zero_le _⟩ (fun r5 i5 g5 H locs hq hT hS => ?_)
      obtain ⟨eh5, hr5, hf5_0⟩ := hq
      rw [(Prod.mk.inj eh5).1, (Prod.mk.inj eh5).2] at hT
      replace hf5_0 : r5 = i2 63 a_a.toNatClampNeg := hf5_0
      refine lv_icmp_ge (tgt := 85) hx hb dX1_isAsSeen_15 (by decide) (fun c6 => ?_) (fun c6 => ?_)
      ·
        have q6 : r5.toInt ≤ x4.toInt := i_le c6
        refine lv_iconst (v := 1) hx hb dX1_isAsSeen_85 (by decide) ?_
        exact hret 1 _ _ _ _ _ _ dX1_isAsSeen_86 hT hS ⟨hR2, hF2, (rg_w (rg_k (by decide) : rg 1 1 1) (by decide) : rg 0 1 1)⟩
      ·
        have q6 : x4.toInt < r5.toInt := i_nle c6
        have h7 : rg 2 59 x4 := t_ltx 2 59 hx4 hr5 (i_nle c6) (by decide)
        have h8 : rg 0 57 x3_4 := ⟨by have := h7.1; have := hhx3_4.1; have := ax4; omega, by have := h7.2; have := hhx3_4.2; have := ax4; omega⟩
        have h9 : rg 3 60 r5 := t_lty 3 60 hx4 hr5 (i_nle c6) (by decide)
        refine lv_aload_n hx hb dX1_isAsSeen_18 rfl (lv_at hl 0 rfl) ?_
        refine r_getr X hT 93 1 61 fk_1_23 rfl rfl (by decide) dX1_isAsSeen_19 ?_
        refine lv_iload_n hx hb dX1_isAsSeen_22 rfl (lv_at hl 1 rfl) ?_
        refine lv_iload hx hb dX1_isAsSeen_23 (lv_at hl 4 rfl) ?_
        refine e_Vl (As := [.int a_a, .int x3_4]) (rest := []) X Y hT hS (m_X5_number hR2 a_a x3_4 ha_a (rg_w h8 (by decide) : rg 0 59 x3_4)) mk_X5_number gm_1069 rfl rfl (by decide) hd_X5_number ⟨rfl, rfl⟩ ⟨Nat.le_of_ble_eq_true rfl, Nat.le_of_ble_eq_true rfl⟩ hl.1 rfl (Nat.le_of_ble_eq_true rfl) dX1_isAsSeen_25 ⟨Nat.zero_le _, Nat.zero_le _⟩ (fun r10 i10 g10 H locs hq hT hS => ?_)
        obtain ⟨eh10, hf10_0⟩ := hq
        rw [(Prod.mk.inj eh10).1, (Prod.mk.inj eh10).2] at hT
        replace hf10_0 : r10 = g2 64 (60 * a_a.toNatClampNeg + x3_4.toNatClampNeg) := hf10_0
        have h11 : rgL 0 5 r10 := seenC_0 hP2_0 hm3 h8 ax4 q6 hf5_0 hf10_0
        refine q_l2i hx hb dX1_isAsSeen_28 (fun x12 ex12 => ?_)
        have h13 : rg 0 5 x12 := rg_l2i ex12 h11 (by decide)
        refine lv_istore (lv' := [(5, .int x12), (0, .ref (h 93)), (1, .int a_a), (2, .int a_b), (3, .ref (h 65)), (4, .int x3_4)]) hx hb dX1_isAsSeen_29 hl (by decide) rfl (fun ls hl => ?_)
        refine lv_aload_n hx hb dX1_isAsSeen_31 rfl (lv_at hl 1 rfl) ?_
        refine r_getr X hT 93 1 61 fk_1_23 rfl rfl (by decide) dX1_isAsSeen_32 ?_
        refine lv_iload_n hx hb dX1_isAsSeen_35 rfl (lv_at hl 2 rfl) ?_
        refine lv_iload hx hb dX1_isAsSeen_36 (lv_at hl 5 rfl) ?_
        refine lv_iconst (v := 1) hx hb dX1_isAsSeen_38 (by decide) ?_
        refine q_iadd hx hb dX1_isAsSeen_39 (fun x14 ex14 => ?_)
        obtain ⟨hx14, ax14⟩ := rg_add 1 58 ex14 h8 (rg_k (by decide) : rg 1 1 1) (by decide)
        replace ax14 : x14.toInt = x3_4.toInt + 1 := ax14
        refine e_Vl (As := [.int a_a, .int x14]) (rest := []) X Y hT hS (m_X5_number hR2 a_a x14 ha_a (rg_w hx14 (by decide) : rg 0 59 x14)) mk_X5_number gm_1069 rfl rfl (by decide) hd_X5_number ⟨rfl, rfl⟩ ⟨Nat.le_of_ble_eq_true rfl, Nat.le_of_ble_eq_true rfl⟩ hl.1 rfl (Nat.le_of_ble_eq_true rfl) dX1_isAsSeen_40 ⟨Nat.zero_le _, Nat.zero_le _⟩ (fun r15 i15 g15 H locs hq hT hS => ?_)
        obtain ⟨eh15, hf15_0⟩ := hq
        rw [(Prod.mk.inj eh15).1, (Prod.mk.inj eh15).2] at hT
        replace hf15_0 : r15 = g2 64 (60 * a_a.toNatClampNeg + x14.toNatClampNeg) := hf15_0
        have h16 : rgL 0 12 r15 := seenC_1 hP2_0 hm3 h8 ax4 q6 hf5_0 ax14 hf15_0
        refine q_l2i hx hb dX1_isAsSeen_43 (fun x17 ex17 => ?_)
        have h18 : rg 0 12 x17 := rg_l2i ex17 h16 (by decide)
        refine lv_istore (lv' := [(6, .int x17), (5, .int x12), (0, .ref (h 93)), (1, .int a_a), (2, .int a_b), (3, .ref (h 65)), (4, .int x3_4)]) hx hb dX1_isAsSeen_44 hl (by decide) rfl (fun ls hl => ?_)
        refine lv_iload hx hb dX1_isAsSeen_46 (lv_at hl 1 rfl) ?_
        refine lv_iload_n hx hb dX1_isAsSeen_48 rfl (lv_at hl 4 rfl) ?_
        refine lv_icmp_eq (tgt := 79) hx hb dX1_isAsSeen_49 (by decide) (fun c19 => ?_) (fun c19 => ?_)
        ·
          have q19 : x12.toInt = a_b.toInt := i_eq c19
          have h20 : rg 0 5 a_b := t_eqy 0 5 h13 (rg_top a_b) (i_eq c19) (by decide)
          obtain ⟨x21, ex21⟩ : ∃ y : Int32, y = x3_4 + 3 := ⟨_, rfl⟩
          refine lv_iinc (v := x21) (lv' := [(4, .int x21), (6, .int x17), (5, .int x12), (0, .ref (h 93)), (1, .int a_a), (2, .int a_b), (3, .ref (h 65))]) hx hb dX1_isAsSeen_79 hl (k := 6) rfl (by rw [ex21]; rfl) (by decide) rfl (fun ls hl => ?_)
          obtain ⟨hx21, ax21⟩ := rg_add 3 60 ex21 h8 (rg_k (by decide) : rg 3 3 3) (by decide)
          replace ax21 : x21.toInt = x3_4.toInt + 3 := ax21
          refine lv_goto (tgt := 3) hx hb dX1_isAsSeen_82 (by decide) ?_
          exact ih3_ x21 i2 g2 _ _ _ (rg_w hx21 (by decide) : rg 0 60 x21) hR2 hF2 hP2_0 (by have := ax21; omega) hT hS (lv_sub hl [3, 4, 5, 6, 0] rfl) (m_up ax21 hx21 (by decide) hm3_)
        ·
          have q19 : ¬ x12.toInt = a_b.toInt := i_ne c19
          refine lv_aload_n hx hb dX1_isAsSeen_52 rfl (lv_at hl 5 rfl) ?_
          refine lv_iload hx hb dX1_isAsSeen_53 (lv_at hl 1 rfl) ?_
          refine lv_iload hx hb dX1_isAsSeen_55 (lv_at hl 0 rfl) ?_
          refine e_Vi (As := [.int x12, .int x17]) (rest := []) X Y hT hS (m_X0_stiffness_65 hR2 x12 x17 h13) mk_X0_stiffness gm_1082 rfl rfl (by decide) hd_X0_stiffness ⟨rfl, rfl⟩ ⟨Nat.le_of_ble_eq_true rfl, Nat.le_of_ble_eq_true rfl⟩ hl.1 rfl (Nat.le_of_ble_eq_true rfl) dX1_isAsSeen_57 ⟨Nat.zero_le _, Nat.zero_le _⟩ (fun r22 i22 g22 H locs hq hT hS => ?_)
          obtain ⟨hR22, hf22, hr22⟩ := hq
          have hF22 := Fr_tr hF2 hf22 (by decide)
          have hN22 : seenC i22 g22 a_a := seenC_f hP2_0 hf22 (by decide) (by decide)
          refine q_i2l hx hb dX1_isAsSeen_60 (fun y23 ey23 => ?_)
          obtain ⟨hy23, ay23⟩ := rg_i2l ey23 hr22
          refine lv_aload_n hx hb dX1_isAsSeen_61 rfl (lv_at hl 2 rfl) ?_
          refine r_getr X hT 93 1 61 fk_1_23 rfl rfl (by decide) dX1_isAsSeen_62 ?_
          refine lv_iload_n hx hb dX1_isAsSeen_65 rfl (lv_at hl 3 rfl) ?_
          refine lv_iload hx hb dX1_isAsSeen_66 (lv_at hl 6 rfl) ?_
          refine lv_iconst (v := 2) hx hb dX1_isAsSeen_68 (by decide) ?_
          refine q_iadd hx hb dX1_isAsSeen_69 (fun x24 ex24 => ?_)
          obtain ⟨hx24, ax24⟩ := rg_add 2 59 ex24 h8 (rg_k (by decide) : rg 2 2 2) (by decide)
          replace ax24 : x24.toInt = x3_4.toInt + 2 := ax24
          refine e_Vl (As := [.int a_a, .int x24]) (rest := [.long y23]) X Y hT hS (m_X5_number hR22 a_a x24 ha_a (rg_w hx24 (by decide) : rg 0 59 x24)) mk_X5_number gm_1069 rfl rfl (by decide) hd_X5_number ⟨rfl, rfl⟩ ⟨Nat.le_of_ble_eq_true rfl, Nat.le_of_ble_eq_true rfl⟩ hl.1 rfl (Nat.le_of_ble_eq_true rfl) dX1_isAsSeen_70 ⟨Nat.zero_le _, Nat.zero_le _⟩ (fun r25 i25 g25 H locs hq hT hS => ?_)
          obtain ⟨eh25, hf25_0⟩ := hq
          rw [(Prod.mk.inj eh25).1, (Prod.mk.inj eh25).2] at hT
          replace hf25_0 : r25 = g22 64 (60 * a_a.toNatClampNeg + x24.toNatClampNeg) := hf25_0
          refine W.lcmp hx hb dX1_isAsSeen_73 ?_
          refine lv_if_eq (tgt := 79) hx hb dX1_isAsSeen_74 (by decide) (fun c26 => ?_) (fun c26 => ?_)
          ·
            have q26 : y23.toInt = r25.toInt := c_eq c26
            have h27 : rgL 0 99 r25 := tL_eqy 0 99 hy23 (rgL_top r25) (c_eq c26) (by decide)
            obtain ⟨x28, ex28⟩ : ∃ y : Int32, y = x3_4 + 3 := ⟨_, rfl⟩
            refine lv_iinc (v := x28) (lv' := [(4, .int x28), (6, .int x17), (5, .int x12), (0, .ref (h 93)), (1, .int a_a), (2, .int a_b), (3, .ref (h 65))]) hx hb dX1_isAsSeen_79 hl (k := 6) rfl (by rw [ex28]; rfl) (by decide) rfl (fun ls hl => ?_)
            obtain ⟨hx28, ax28⟩ := rg_add 3 60 ex28 h8 (rg_k (by decide) : rg 3 3 3) (by decide)
            replace ax28 : x28.toInt = x3_4.toInt + 3 := ax28
            refine lv_goto (tgt := 3) hx hb dX1_isAsSeen_82 (by decide) ?_
            exact ih3_ x28 i22 g22 _ _ _ (rg_w hx28 (by decide) : rg 0 60 x28) hR22 hF22 hN22 (by have := ax28; omega) hT hS (lv_sub hl [3, 4, 5, 6, 0] rfl) (m_up ax28 hx28 (by decide) hm3_)
          ·
            have q26 : ¬ y23.toInt = r25.toInt := c_ne c26
            refine lv_iconst (v := 0) hx hb dX1_isAsSeen_77 (by decide) ?_
            exact hret 0 _ _ _ _ _ _ dX1_isAsSeen_78 hT hS ⟨hR22, hF22, (rg_w (rg_k (by decide) : rg 0 0 0) (by decide) : rg 0 1 0)⟩
  exact L3_1 _ (0) i g _ _ _ (rg_w (rg_k (by decide) : rg 0 0 0) (by decide) : rg 0 60 0) hR hF hp0 (by decide) hT hS (lv_sub hl [1, 2, 3, 4, 0] rfl) (Nat.lt_succ_self _)
set_option maxRecDepth 100000 in
set_option maxHeartbeats 4000000 in
theorem m_X1_isTraceAsSeen_65 {l : Launch} {D : va_G} {h : Nat → Nat} {cz : Nat → ClassId} {z : EZ} {i : Nat → Nat → Int32} {g : Nat → Nat → Int64} (hR : Rg rA i) (a_a : Int32) (a_b : Int32) (ha_a : rg 0 3 a_a) (hp0 : seenC i g a_a) : DtI l yX1_isTraceAsSeen cX1_isTraceAsSeen 6 (some .boolean) ({ frames := 1, cells := 0, slots := 0, locals := 22 } : Room) D h cz z i g [.ref (h 93), .int a_a, .int a_b, .ref (h 65)] (fun r u => (u = (i, g) ∧ r = 1) ∨ (u = (i, g) ∧ r = 0 ∧ rg 0 5 a_b)) := by
  refine e_Z (fun v u hq => (hq.elim (fun hq => (Or.inr hq.2)) (fun hq => (Or.inl hq.2.1)))) pn_X1_isTraceAsSeen (Nat.le_of_ble_eq_true rfl) ?_
  intro p e s m args below meth c ls Q X Y hret hT hl hS
  have hx := X.1
  have hb := X.2.1
  have hl : lv_has ls 6 [(0, .ref (h 93)), (1, .int a_a), (2, .int a_b), (3, .ref (h 65))] := hl
  refine lv_iconst (v := 0) hx hb dX1_isTraceAsSeen_0 (by decide) ?_
  refine lv_istore (lv' := [(4, .int 0), (0, .ref (h 93)), (1, .int a_a), (2, .int a_b), (3, .ref (h 65))]) hx hb dX1_isTraceAsSeen_1 hl (by decide) rfl (fun ls hl => ?_)
  have L3_1 : ∀ (n2_ : Nat) (x3_4 : Int32) (H : Heap) (locs : List Loc) (ls : Array Slot), rg 0 60 x3_4 → (x3_4.toInt % 3 = 0) → TH D h cz i g H → va_S (hA h) s.heap H locs → lv_has ls 6 [(0, .ref (h 93)), (1, .int a_a), (2, .int a_b), (3, .ref (h 65)), (4, .int x3_4)] → (60 - x3_4.toInt).toNat < n2_ → W p l e ({ frames := 1, cells := 0, slots := 0, locals := 22 } : Room) s m args below meth c H locs 0 0 Q (F0 m 3 ls []) := by
    intro n2_
    induction n2_ with
    | zero => intro x3_4 H locs ls hhx3_4 hm3 hT hS hl hm2_; exact absurd hm2_ (Nat.not_lt_zero _)
    | succ n2_ ih2_ =>
      intro x3_4 H locs ls hhx3_4 hm3 hT hS hl hm2_
      refine lv_iload hx hb dX1_isTraceAsSeen_3 (lv_at hl 4 rfl) ?_
      refine lv_iconst (v := 2) hx hb dX1_isTraceAsSeen_5 (by decide) ?_
      refine q_iadd hx hb dX1_isTraceAsSeen_6 (fun x3 ex3 => ?_)
      obtain ⟨hx3, ax3⟩ := rg_add 2 62 ex3 hhx3_4 (rg_k (by decide) : rg 2 2 2) (by decide)
      replace ax3 : x3.toInt = x3_4.toInt + 2 := ax3
      refine lv_aload_n hx hb dX1_isTraceAsSeen_7 rfl (lv_at hl 0 rfl) ?_
      refine r_getr X hT 93 1 61 fk_1_23 rfl rfl (by decide) dX1_isTraceAsSeen_8 ?_
      refine lv_iload_n hx hb dX1_isTraceAsSeen_11 rfl (lv_at hl 1 rfl) ?_
      refine e_Vi (As := [.int a_a]) (rest := [.int x3]) X Y hT hS (m_X5_size hR a_a ha_a) mk_X5_size gm_1065 rfl rfl (by decide) hd_X5_size ⟨rfl, rfl⟩ ⟨Nat.le_of_ble_eq_true rfl, Nat.le_of_ble_eq_true rfl⟩ hl.1 rfl (Nat.le_of_ble_eq_true rfl) dX1_isTraceAsSeen_12 ⟨Nat.zero_le _, Nat.zero_le _⟩ (fun r4 i4 g4 H locs hq hT hS => ?_)
      obtain ⟨eh4, hr4, hf4_0⟩ := hq
      rw [(Prod.mk.inj eh4).1, (Prod.mk.inj eh4).2] at hT
      replace hf4_0 : r4 = i 63 a_a.toNatClampNeg := hf4_0
      refine lv_icmp_ge (tgt := 81) hx hb dX1_isTraceAsSeen_15 (by decide) (fun c5 => ?_) (fun c5 => ?_)
      ·
        have q5 : r4.toInt ≤ x3.toInt := i_le c5
        refine lv_iconst (v := 1) hx hb dX1_isTraceAsSeen_81 (by decide) ?_
        exact hret 1 _ _ _ _ _ _ dX1_isTraceAsSeen_82 hT hS (Or.inl ⟨rfl, rfl⟩)
      ·
        have q5 : x3.toInt < r4.toInt := i_nle c5
        have h6 : rg 2 59 x3 := t_ltx 2 59 hx3 hr4 (i_nle c5) (by decide)
        have h7 : rg 0 57 x3_4 := ⟨by have := h6.1; have := hhx3_4.1; have := ax3; omega, by have := h6.2; have := hhx3_4.2; have := ax3; omega⟩
        have h8 : rg 3 60 r4 := t_lty 3 60 hx3 hr4 (i_nle c5) (by decide)
        refine lv_aload_n hx hb dX1_isTraceAsSeen_18 rfl (lv_at hl 0 rfl) ?_
        refine r_getr X hT 93 1 61 fk_1_23 rfl rfl (by decide) dX1_isTraceAsSeen_19 ?_
        refine lv_iload_n hx hb dX1_isTraceAsSeen_22 rfl (lv_at hl 1 rfl) ?_
        refine lv_iload hx hb dX1_isTraceAsSeen_23 (lv_at hl 4 rfl) ?_
        refine lv_iconst (v := 1) hx hb dX1_isTraceAsSeen_25 (by decide) ?_
        refine q_iadd hx hb dX1_isTraceAsSeen_26 (fun x9 ex9 => ?_)
        obtain ⟨hx9, ax9⟩ := rg_add 1 58 ex9 h7 (rg_k (by decide) : rg 1 1 1) (by decide)
        replace ax9 : x9.toInt = x3_4.toInt + 1 := ax9
        refine e_Vl (As := [.int a_a, .int x9]) (rest := []) X Y hT hS (m_X5_number hR a_a x9 ha_a (rg_w hx9 (by decide) : rg 0 59 x9)) mk_X5_number gm_1069 rfl rfl (by decide) hd_X5_number ⟨rfl, rfl⟩ ⟨Nat.le_of_ble_eq_true rfl, Nat.le_of_ble_eq_true rfl⟩ hl.1 rfl (Nat.le_of_ble_eq_true rfl) dX1_isTraceAsSeen_27 ⟨Nat.zero_le _, Nat.zero_le _⟩ (fun r10 i10 g10 H locs hq hT hS => ?_)
        obtain ⟨eh10, hf10_0⟩ := hq
        rw [(Prod.mk.inj eh10).1, (Prod.mk.inj eh10).2] at hT
        replace hf10_0 : r10 = g 64 (60 * a_a.toNatClampNeg + x9.toNatClampNeg) := hf10_0
        have h11 : rgL 0 12 r10 := seenC_1 hp0 hm3 h7 ax3 q5 hf4_0 ax9 hf10_0
        refine q_l2i hx hb dX1_isTraceAsSeen_30 (fun x12 ex12 => ?_)
        have h13 : rg 0 12 x12 := rg_l2i ex12 h11 (by decide)
        refine lv_istore (lv' := [(5, .int x12), (0, .ref (h 93)), (1, .int a_a), (2, .int a_b), (3, .ref (h 65)), (4, .int x3_4)]) hx hb dX1_isTraceAsSeen_31 hl (by decide) rfl (fun ls hl => ?_)
        refine lv_aload_n hx hb dX1_isTraceAsSeen_33 rfl (lv_at hl 1 rfl) ?_
        refine r_getr X hT 93 1 61 fk_1_23 rfl rfl (by decide) dX1_isTraceAsSeen_34 ?_
        refine lv_iload_n hx hb dX1_isTraceAsSeen_37 rfl (lv_at hl 2 rfl) ?_
        refine lv_iload hx hb dX1_isTraceAsSeen_38 (lv_at hl 5 rfl) ?_
        refine e_Vl (As := [.int a_a, .int x3_4]) (rest := []) X Y hT hS (m_X5_number hR a_a x3_4 ha_a (rg_w h7 (by decide) : rg 0 59 x3_4)) mk_X5_number gm_1069 rfl rfl (by decide) hd_X5_number ⟨rfl, rfl⟩ ⟨Nat.le_of_ble_eq_true rfl, Nat.le_of_ble_eq_true rfl⟩ hl.1 rfl (Nat.le_of_ble_eq_true rfl) dX1_isTraceAsSeen_40 ⟨Nat.zero_le _, Nat.zero_le _⟩ (fun r14 i14 g14 H locs hq hT hS => ?_)
        obtain ⟨eh14, hf14_0⟩ := hq
        rw [(Prod.mk.inj eh14).1, (Prod.mk.inj eh14).2] at hT
        replace hf14_0 : r14 = g 64 (60 * a_a.toNatClampNeg + x3_4.toNatClampNeg) := hf14_0
        have h15 : rgL 0 5 r14 := seenC_0 hp0 hm3 h7 ax3 q5 hf4_0 hf14_0
        refine lv_iload_n hx hb dX1_isTraceAsSeen_43 rfl (lv_at hl 3 rfl) ?_
        refine q_i2l hx hb dX1_isTraceAsSeen_44 (fun y16 ey16 => ?_)
        obtain ⟨hy16, ay16⟩ := rg_i2l ey16 (rg_top a_b)
        refine W.lcmp hx hb dX1_isTraceAsSeen_45 ?_
        refine lv_if_ne (tgt := 75) hx hb dX1_isTraceAsSeen_46 (by decide) (fun c17 => ?_) (fun c17 => ?_)
        ·
          have q17 : ¬ r14.toInt = y16.toInt := c_ne c17
          obtain ⟨x18, ex18⟩ : ∃ y : Int32, y = x3_4 + 3 := ⟨_, rfl⟩
          refine lv_iinc (v := x18) (lv' := [(4, .int x18), (5, .int x12), (0, .ref (h 93)), (1, .int a_a), (2, .int a_b), (3, .ref (h 65))]) hx hb dX1_isTraceAsSeen_75 hl (k := 5) rfl (by rw [ex18]; rfl) (by decide) rfl (fun ls hl => ?_)
          obtain ⟨hx18, ax18⟩ := rg_add 3 60 ex18 h7 (rg_k (by decide) : rg 3 3 3) (by decide)
          replace ax18 : x18.toInt = x3_4.toInt + 3 := ax18
          refine lv_goto (tgt := 3) hx hb dX1_isTraceAsSeen_78 (by decide) ?_
          exact ih2_ x18 _ _ _ (rg_w hx18 (by decide) : rg 0 60 x18) (by have := ax18; omega) hT hS (lv_sub hl [2, 3, 4, 5, 0] rfl) (m_up ax18 hx18 (by decide) hm2_)
        ·
          have q17 : r14.toInt = y16.toInt := c_eq c17
          have h19 : rgL 0 5 y16 := tL_eqy 0 5 h15 hy16 (c_eq c17) (by decide)
          have h20 : rg 0 5 a_b := ⟨by have := h19.1; have := (rg_top a_b).1; have := ay16; omega, by have := h19.2; have := (rg_top a_b).2; have := ay16; omega⟩
          refine lv_aload_n hx hb dX1_isTraceAsSeen_49 rfl (lv_at hl 4 rfl) ?_
          refine r_getr X hT 65 6 71 fk_1_65 rfl rfl (by decide) dX1_isTraceAsSeen_50 ?_
          refine lv_iload hx hb dX1_isTraceAsSeen_53 (lv_at hl 0 rfl) ?_
          refine r_iald X hT 71 rfl (by decide) (v_in h13 (by decide)) dX1_isTraceAsSeen_55 ?_
          refine q_i2l hx hb dX1_isTraceAsSeen_56 (fun y21 ey21 => ?_)
          obtain ⟨hy21, ay21⟩ := rg_i2l ey21 (Rg_at hR 71 x12.toNatClampNeg 0 99 (v_lt (v_in h13 (by decide))) rfl)
          refine lv_aload_n hx hb dX1_isTraceAsSeen_57 rfl (lv_at hl 1 rfl) ?_
          refine r_getr X hT 93 1 61 fk_1_23 rfl rfl (by decide) dX1_isTraceAsSeen_58 ?_
          refine lv_iload_n hx hb dX1_isTraceAsSeen_61 rfl (lv_at hl 2 rfl) ?_
          refine lv_iload hx hb dX1_isTraceAsSeen_62 (lv_at hl 5 rfl) ?_
          refine lv_iconst (v := 2) hx hb dX1_isTraceAsSeen_64 (by decide) ?_
          refine q_iadd hx hb dX1_isTraceAsSeen_65 (fun x22 ex22 => ?_)
          obtain ⟨hx22, ax22⟩ := rg_add 2 59 ex22 h7 (rg_k (by decide) : rg 2 2 2) (by decide)
          replace ax22 : x22.toInt = x3_4.toInt + 2 := ax22
          refine e_Vl (As := [.int a_a, .int x22]) (rest := [.long y21]) X Y hT hS (m_X5_number hR a_a x22 ha_a (rg_w hx22 (by decide) : rg 0 59 x22)) mk_X5_number gm_1069 rfl rfl (by decide) hd_X5_number ⟨rfl, rfl⟩ ⟨Nat.le_of_ble_eq_true rfl, Nat.le_of_ble_eq_true rfl⟩ hl.1 rfl (Nat.le_of_ble_eq_true rfl) dX1_isTraceAsSeen_66 ⟨Nat.zero_le _, Nat.zero_le _⟩ (fun r23 i23 g23 H locs hq hT hS => ?_)
          obtain ⟨eh23, hf23_0⟩ := hq
          rw [(Prod.mk.inj eh23).1, (Prod.mk.inj eh23).2] at hT
          replace hf23_0 : r23 = g 64 (60 * a_a.toNatClampNeg + x22.toNatClampNeg) := hf23_0
          refine W.lcmp hx hb dX1_isTraceAsSeen_69 ?_
          refine lv_if_eq (tgt := 75) hx hb dX1_isTraceAsSeen_70 (by decide) (fun c24 => ?_) (fun c24 => ?_)
          ·
            have q24 : y21.toInt = r23.toInt := c_eq c24
            have h25 : rgL 0 99 r23 := tL_eqy 0 99 hy21 (rgL_top r23) (c_eq c24) (by decide)
            obtain ⟨x26, ex26⟩ : ∃ y : Int32, y = x3_4 + 3 := ⟨_, rfl⟩
            refine lv_iinc (v := x26) (lv' := [(4, .int x26), (5, .int x12), (0, .ref (h 93)), (1, .int a_a), (2, .int a_b), (3, .ref (h 65))]) hx hb dX1_isTraceAsSeen_75 hl (k := 5) rfl (by rw [ex26]; rfl) (by decide) rfl (fun ls hl => ?_)
            obtain ⟨hx26, ax26⟩ := rg_add 3 60 ex26 h7 (rg_k (by decide) : rg 3 3 3) (by decide)
            replace ax26 : x26.toInt = x3_4.toInt + 3 := ax26
            refine lv_goto (tgt := 3) hx hb dX1_isTraceAsSeen_78 (by decide) ?_
            exact ih2_ x26 _ _ _ (rg_w hx26 (by decide) : rg 0 60 x26) (by have := ax26; omega) hT hS (lv_sub hl [2, 3, 4, 5, 0] rfl) (m_up ax26 hx26 (by decide) hm2_)
          ·
            have q24 : ¬ y21.toInt = r23.toInt := c_ne c24
            refine lv_iconst (v := 0) hx hb dX1_isTraceAsSeen_73 (by decide) ?_
            exact hret 0 _ _ _ _ _ _ dX1_isTraceAsSeen_74 hT hS (Or.inr ⟨rfl, rfl, h20⟩)
  exact L3_1 _ (0) _ _ _ (rg_w (rg_k (by decide) : rg 0 0 0) (by decide) : rg 0 60 0) (by decide) hT hS (lv_sub hl [1, 2, 3, 4, 0] rfl) (Nat.lt_succ_self _)
set_option maxRecDepth 100000 in
set_option maxHeartbeats 4000000 in
theorem m_X1_howMany_65 {l : Launch} {D : va_G} {h : Nat → Nat} {cz : Nat → ClassId} {z : EZ} {i : Nat → Nat → Int32} {g : Nat → Nat → Int64} (hR : Rg rA i) (a_a : Int32) (a_b : Int32) (ha_a : rg 0 3 a_a) (ha_b : rg 0 5 a_b) (hp0 : seenC i g a_a) : DtI l yX1_howMany cX1_howMany 7 (some .int) ({ frames := 5, cells := 0, slots := 0, locals := 137 } : Room) D h cz z i g [.ref (h 93), .int a_a, .int a_b, .ref (h 65)] (fun r u => Rg rA u.1 ∧ Fr [71, 94] [] i g u) := by
  refine e_I pn_X1_howMany (Nat.le_of_ble_eq_true rfl) ?_
  intro p e s m args below meth c ls Q X Y hret hT hl hS
  have hx := X.1
  have hb := X.2.1
  have hl : lv_has ls 7 [(0, .ref (h 93)), (1, .int a_a), (2, .int a_b), (3, .ref (h 65))] := hl
  have hF : Fr [71, 94] [] i g (i, g) := Fr_rf _ _ _ _
  refine lv_aload_n hx hb dX1_howMany_0 rfl (lv_at hl 0 rfl) ?_
  refine lv_iload_n hx hb dX1_howMany_1 rfl (lv_at hl 1 rfl) ?_
  refine lv_iload_n hx hb dX1_howMany_2 rfl (lv_at hl 2 rfl) ?_
  refine lv_aload_n hx hb dX1_howMany_3 rfl (lv_at hl 3 rfl) ?_
  refine e_Vi (As := [.int a_a, .int a_b, .ref (h 65)]) (rest := []) X Y hT hS (m_X1_isAsSeen_65 hR a_a a_b ha_a hp0) mk_X1_isAsSeen gm_1078 rfl rfl (by decide) hd_X1_isAsSeen ⟨rfl, rfl⟩ ⟨Nat.le_of_ble_eq_true rfl, Nat.le_of_ble_eq_true rfl⟩ hl.1 rfl (Nat.le_of_ble_eq_true rfl) dX1_howMany_4 ⟨Nat.zero_le _, Nat.zero_le _⟩ (fun r1 i1 g1 H locs hq hT hS => ?_)
  obtain ⟨hR1, hf1, hr1⟩ := hq
  have hF1 := Fr_tr hF hf1 (by decide)
  have hN1 : seenC i1 g1 a_a := seenC_f hp0 hf1 (by decide) (by decide)
  refine lv_istore (lv' := [(4, .int r1), (0, .ref (h 93)), (1, .int a_a), (2, .int a_b), (3, .ref (h 65))]) hx hb dX1_howMany_7 hl (by decide) rfl (fun ls hl => ?_)
  refine lv_iconst (v := 0) hx hb dX1_howMany_9 (by decide) ?_
  refine lv_istore (lv' := [(5, .int 0), (4, .int r1), (0, .ref (h 93)), (1, .int a_a), (2, .int a_b), (3, .ref (h 65))]) hx hb dX1_howMany_10 hl (by decide) rfl (fun ls hl => ?_)
  refine lv_iconst (v := 0) hx hb dX1_howMany_12 (by decide) ?_
  refine lv_istore (lv' := [(6, .int 0), (5, .int 0), (4, .int r1), (0, .ref (h 93)), (1, .int a_a), (2, .int a_b), (3, .ref (h 65))]) hx hb dX1_howMany_13 hl (by decide) rfl (fun ls hl => ?_)
  have L15_2 : ∀ (n4_ : Nat) (x15_5 : Int32) (x15_6 : Int32) (i3 : Nat → Nat → Int32) (g3 : Nat → Nat → Int64) (H : Heap) (locs : List Loc) (ls : Array Slot), rg 0 61 x15_6 → Rg rA i3 → Fr [71, 94] [] i g (i3, g3) → (seenC i3 g3 a_a) → TH D h cz i3 g3 H → va_S (hA h) s.heap H locs → lv_has ls 7 [(0, .ref (h 93)), (1, .int a_a), (2, .int a_b), (3, .ref (h 65)), (4, .int r1), (5, .int x15_5), (6, .int x15_6)] → (61 - x15_6.toInt).toNat < n4_ → W p l e ({ frames := 5, cells := 0, slots := 0, locals := 137 } : Room) s m args below meth c H locs 0 0 Q (F0 m 15 ls []) := by
    intro n4_
    induction n4_ with
    | zero => intro x15_5 x15_6 i3 g3 H locs ls hhx15_6 hR3 hF3 hP3_0 hT hS hl hm4_; exact absurd hm4_ (Nat.not_lt_zero _)
    | succ n4_ ih4_ =>
      intro x15_5 x15_6 i3 g3 H locs ls hhx15_6 hR3 hF3 hP3_0 hT hS hl hm4_
      refine lv_iload hx hb dX1_howMany_15 (lv_at hl 6 rfl) ?_
      refine lv_bipush (v := 60) hx hb dX1_howMany_17 (by decide) ?_
      refine lv_icmp_gt (tgt := 90) hx hb dX1_howMany_19 (by decide) (fun c5 => ?_) (fun c5 => ?_)
      ·
        have q5 : 60 < x15_6.toInt := i_lt c5
        have h6 : rg 61 61 x15_6 := t_lty 61 61 (rg_k (by decide) : rg 60 60 60) hhx15_6 (i_lt c5) (by decide)
        refine lv_iload hx hb dX1_howMany_90 (lv_at hl 5 rfl) ?_
        exact hret x15_5 _ _ _ _ _ _ dX1_howMany_92 hT hS ⟨hR3, hF3⟩
      ·
        have q5 : x15_6.toInt ≤ 60 := i_nlt c5
        have h7 : rg 0 60 x15_6 := t_lex 0 60 hhx15_6 (rg_k (by decide) : rg 60 60 60) (i_nlt c5) (by decide)
        refine lv_aload_n hx hb dX1_howMany_22 rfl (lv_at hl 0 rfl) ?_
        refine r_getr X hT 93 2 94 fk_1_9 rfl rfl (by decide) dX1_howMany_23 ?_
        refine lv_iload hx hb dX1_howMany_26 (lv_at hl 6 rfl) ?_
        refine lv_iconst (v := 0) hx hb dX1_howMany_28 (by decide) ?_
        refine r_zast X hT hS 94 rfl (by decide) (v_in h7 (by decide)) dX1_howMany_29 (fun H locs i8 ei8 hT hS => ?_)
        have hR8 := Rg_put hR3 ei8 0 1 rfl (rg_k (by decide) : rg 0 0 0) (by decide)
        have hF8 := Fr_puti hF3 ei8 (by decide)
        have hN8 : seenC i8 g3 a_a := seenC_j hP3_0 ei8 (by decide)
        refine lv_iload hx hb dX1_howMany_30 (lv_at hl 4 rfl) ?_
        have J64_10 : ∀  (i11 : Nat → Nat → Int32) (g11 : Nat → Nat → Int64) (H : Heap) (locs : List Loc) (ls : Array Slot), Rg rA i11 → Fr [71, 94] [] i g (i11, g11) → (seenC i11 g11 a_a) → TH D h cz i11 g11 H → va_S (hA h) s.heap H locs → lv_has ls 7 [(0, .ref (h 93)), (1, .int a_a), (2, .int a_b), (3, .ref (h 65)), (4, .int r1), (5, .int x15_5), (6, .int x15_6)] → W p l e ({ frames := 5, cells := 0, slots := 0, locals := 137 } : Room) s m args below meth c H locs 0 0 Q (F0 m 64 ls []) := by
          intro  i11 g11 H locs ls hR11 hF11 hP11_0 hT hS hl
          refine lv_iload hx hb dX1_howMany_64 (lv_at hl 5 rfl) ?_
          refine lv_aload_n hx hb dX1_howMany_66 rfl (lv_at hl 0 rfl) ?_
          refine r_getr X hT 93 2 94 fk_1_9 rfl rfl (by decide) dX1_howMany_67 ?_
          refine lv_iload hx hb dX1_howMany_70 (lv_at hl 6 rfl) ?_
          refine r_zald X hT 94 rfl (by decide) (v_in h7 (by decide)) dX1_howMany_72 ?_
          refine lv_if_eq (tgt := 80) hx hb dX1_howMany_73 (by decide) (fun c12 => ?_) (fun c12 => ?_)
          ·
            have q12 : (i11 94 x15_6.toNatClampNeg).toInt = 0 := i_eq c12
            have h13 : rg 0 0 (i11 94 x15_6.toNatClampNeg) := t_eqx 0 0 (Rg_at hR11 94 x15_6.toNatClampNeg 0 1 (v_lt (v_in h7 (by decide))) rfl) (rg_k (by decide) : rg 0 0 0) (i_eq c12) (by decide)
            refine lv_iconst (v := 0) hx hb dX1_howMany_80 (by decide) ?_
            refine q_iadd hx hb dX1_howMany_81 (fun x14 ex14 => ?_)
            obtain ⟨hx14, ax14⟩ := rg_add (-2147483648) 2147483647 ex14 (rg_top x15_5) (rg_k (by decide) : rg 0 0 0) (by decide)
            replace ax14 : x14.toInt = x15_5.toInt + 0 := ax14
            refine lv_istore (lv' := [(5, .int x14), (0, .ref (h 93)), (1, .int a_a), (2, .int a_b), (3, .ref (h 65)), (4, .int r1), (6, .int x15_6)]) hx hb dX1_howMany_82 hl (by decide) rfl (fun ls hl => ?_)
            obtain ⟨x15, ex15⟩ : ∃ y : Int32, y = x15_6 + 1 := ⟨_, rfl⟩
            refine lv_iinc (v := x15) (lv' := [(6, .int x15), (5, .int x14), (0, .ref (h 93)), (1, .int a_a), (2, .int a_b), (3, .ref (h 65)), (4, .int r1)]) hx hb dX1_howMany_84 hl (k := 6) rfl (by rw [ex15]; rfl) (by decide) rfl (fun ls hl => ?_)
            obtain ⟨hx15, ax15⟩ := rg_add 1 61 ex15 h7 (rg_k (by decide) : rg 1 1 1) (by decide)
            replace ax15 : x15.toInt = x15_6.toInt + 1 := ax15
            refine lv_goto (tgt := 15) hx hb dX1_howMany_87 (by decide) ?_
            exact ih4_ x14 x15 i11 g11 _ _ _ (rg_w hx15 (by decide) : rg 0 61 x15) hR11 hF11 hP11_0 hT hS (lv_sub hl [2, 3, 4, 5, 6, 1, 0] rfl) (m_up ax15 hx15 (by decide) hm4_)
          ·
            have q12 : ¬ (i11 94 x15_6.toNatClampNeg).toInt = 0 := i_ne c12
            have h16 : rg 1 1 (i11 94 x15_6.toNatClampNeg) := t_nelo 1 (Rg_at hR11 94 x15_6.toNatClampNeg 0 1 (v_lt (v_in h7 (by decide))) rfl) (rg_k (by decide) : rg 0 0 0) (i_ne c12) (by decide)
            refine lv_iconst (v := 1) hx hb dX1_howMany_76 (by decide) ?_
            refine lv_goto (tgt := 81) hx hb dX1_howMany_77 (by decide) ?_
            refine q_iadd hx hb dX1_howMany_81 (fun x17 ex17 => ?_)
            refine lv_istore (lv' := [(5, .int x17), (0, .ref (h 93)), (1, .int a_a), (2, .int a_b), (3, .ref (h 65)), (4, .int r1), (6, .int x15_6)]) hx hb dX1_howMany_82 hl (by decide) rfl (fun ls hl => ?_)
            obtain ⟨x18, ex18⟩ : ∃ y : Int32, y = x15_6 + 1 := ⟨_, rfl⟩
            refine lv_iinc (v := x18) (lv' := [(6, .int x18), (5, .int x17), (0, .ref (h 93)), (1, .int a_a), (2, .int a_b), (3, .ref (h 65)), (4, .int r1)]) hx hb dX1_howMany_84 hl (k := 6) rfl (by rw [ex18]; rfl) (by decide) rfl (fun ls hl => ?_)
            obtain ⟨hx18, ax18⟩ := rg_add 1 61 ex18 h7 (rg_k (by decide) : rg 1 1 1) (by decide)
            replace ax18 : x18.toInt = x15_6.toInt + 1 := ax18
            refine lv_goto (tgt := 15) hx hb dX1_howMany_87 (by decide) ?_
            exact ih4_ x17 x18 i11 g11 _ _ _ (rg_w hx18 (by decide) : rg 0 61 x18) hR11 hF11 hP11_0 hT hS (lv_sub hl [2, 3, 4, 5, 6, 1, 0] rfl) (m_up ax18 hx18 (by decide) hm4_)
        refine lv_if_eq (tgt := 64) hx hb dX1_howMany_32 (by decide) (fun c9 => ?_) (fun c9 => ?_)
        ·
          have q9 : r1.toInt = 0 := i_eq c9
          have h19 : rg 0 0 r1 := t_eqx 0 0 hr1 (rg_k (by decide) : rg 0 0 0) (i_eq c9) (by decide)
          exact J64_10 i8 g3 _ _ _ hR8 hF8 hN8 hT hS (lv_sub hl [0, 1, 2, 3, 4, 5, 6] rfl)
        ·
          have q9 : ¬ r1.toInt = 0 := i_ne c9
          have h20 : rg 1 1 r1 := t_nelo 1 hr1 (rg_k (by decide) : rg 0 0 0) (i_ne c9) (by decide)
          refine lv_aload_n hx hb dX1_howMany_35 rfl (lv_at hl 3 rfl) ?_
          refine lv_iload_n hx hb dX1_howMany_36 rfl (lv_at hl 2 rfl) ?_
          refine lv_iload hx hb dX1_howMany_37 (lv_at hl 6 rfl) ?_
          refine lv_aload_n hx hb dX1_howMany_39 rfl (lv_at hl 0 rfl) ?_
          refine r_getr X hT 93 0 15 fk_1_19 rfl rfl (by decide) dX1_howMany_40 ?_
          refine r_geti X hT 15 10 fk_1_43 rfl rfl (by decide) dX1_howMany_43 ?_
          refine e_Vi (As := [.int a_b, .int x15_6, .int (i8 15 10)]) (rest := []) X Y hT hS (m_X0_follow_65 hR8 a_b x15_6 (i8 15 10) ha_b h7) mk_X0_follow gm_1083 rfl rfl (by decide) hd_X0_follow ⟨rfl, rfl⟩ ⟨Nat.le_of_ble_eq_true rfl, Nat.le_of_ble_eq_true rfl⟩ hl.1 rfl (Nat.le_of_ble_eq_true rfl) dX1_howMany_46 ⟨Nat.zero_le _, Nat.zero_le _⟩ (fun r21 i21 g21 H locs hq hT hS => ?_)
          obtain ⟨hR21, hf21, hr21⟩ := hq
          have hF21 := Fr_tr hF8 hf21 (by decide)
          have hN21 : seenC i21 g21 a_a := seenC_f hN8 hf21 (by decide) (by decide)
          refine lv_pop hx hb dX1_howMany_49 rfl ?_
          refine lv_aload_n hx hb dX1_howMany_50 rfl (lv_at hl 0 rfl) ?_
          refine r_getr X hT 93 2 94 fk_1_9 rfl rfl (by decide) dX1_howMany_51 ?_
          refine lv_iload hx hb dX1_howMany_54 (lv_at hl 6 rfl) ?_
          refine lv_aload_n hx hb dX1_howMany_56 rfl (lv_at hl 0 rfl) ?_
          refine lv_iload_n hx hb dX1_howMany_57 rfl (lv_at hl 1 rfl) ?_
          refine lv_iload_n hx hb dX1_howMany_58 rfl (lv_at hl 2 rfl) ?_
          refine lv_aload_n hx hb dX1_howMany_59 rfl (lv_at hl 3 rfl) ?_
          refine e_Vi (As := [.int a_a, .int a_b, .ref (h 65)]) (rest := [.int x15_6, .ref (h 94)]) X Y hT hS (m_X1_isTraceAsSeen_65 hR21 a_a a_b ha_a hN21) mk_X1_isTraceAsSeen gm_1084 rfl rfl (by decide) hd_X1_isTraceAsSeen ⟨rfl, rfl⟩ ⟨Nat.le_of_ble_eq_true rfl, Nat.le_of_ble_eq_true rfl⟩ hl.1 rfl (Nat.le_of_ble_eq_true rfl) dX1_howMany_60 ⟨Nat.zero_le _, Nat.zero_le _⟩ (fun r22 i22 g22 H locs hq hT hS => ?_)
          rcases hq with hq | hq
          ·
            obtain ⟨eh22, rfl⟩ := hq
            rw [(Prod.mk.inj eh22).1, (Prod.mk.inj eh22).2] at hT
            refine r_zast X hT hS 94 rfl (by decide) (v_in h7 (by decide)) dX1_howMany_63 (fun H locs i23 ei23 hT hS => ?_)
            have hR23 := Rg_put hR21 ei23 0 1 rfl (rg_k (by decide) : rg 1 1 1) (by decide)
            have hF23 := Fr_puti hF21 ei23 (by decide)
            have hN23 : seenC i23 g21 a_a := seenC_j hN21 ei23 (by decide)
            exact J64_10 i23 g21 _ _ _ hR23 hF23 hN23 hT hS (lv_sub hl [0, 1, 2, 3, 4, 5, 6] rfl)
          ·
            obtain ⟨eh22, rfl, hf22_0⟩ := hq
            rw [(Prod.mk.inj eh22).1, (Prod.mk.inj eh22).2] at hT
            refine r_zast X hT hS 94 rfl (by decide) (v_in h7 (by decide)) dX1_howMany_63 (fun H locs i24 ei24 hT hS => ?_)
            have hR24 := Rg_put hR21 ei24 0 1 rfl (rg_k (by decide) : rg 0 0 0) (by decide)
            have hF24 := Fr_puti hF21 ei24 (by decide)
            have hN24 : seenC i24 g21 a_a := seenC_j hN21 ei24 (by decide)
            exact J64_10 i24 g21 _ _ _ hR24 hF24 hN24 hT hS (lv_sub hl [0, 1, 2, 3, 4, 5, 6] rfl)
  exact L15_2 _ (0) (0) i1 g1 _ _ _ (rg_w (rg_k (by decide) : rg 0 0 0) (by decide) : rg 0 61 0) hR1 hF1 hN1 hT hS (lv_sub hl [3, 4, 5, 6, 2, 1, 0] rfl) (Nat.lt_succ_self _)
set_option maxRecDepth 100000 in
set_option maxHeartbeats 4000000 in
theorem m_X8_stiffs {l : Launch} {D : va_G} {h : Nat → Nat} {cz : Nat → ClassId} {z : EZ} {i : Nat → Nat → Int32} {g : Nat → Nat → Int64} (hR : Rg rA i) (a_a : Int32) (a_b : Int32) : DtI l yX8_stiffs cX8_stiffs 4 (some .int) ({ frames := 6, cells := 0, slots := 0, locals := 163 } : Room) D h cz z i g [.ref (h 0), .int a_a, .int a_b] (fun r u => Rg rA u.1 ∧ Fr [0, 65, 66, 67, 68, 69, 70, 71, 94] [] i g u) := by
  refine e_I pn_X8_stiffs (Nat.le_of_ble_eq_true rfl) ?_
  intro p e s m args below meth c ls Q X Y hret hT hl hS
  have hx := X.1
  have hb := X.2.1
  have hl : lv_has ls 4 [(0, .ref (h 0)), (1, .int a_a), (2, .int a_b)] := hl
  have hF : Fr [0, 65, 66, 67, 68, 69, 70, 71, 94] [] i g (i, g) := Fr_rf _ _ _ _
  refine lv_aload_n hx hb dX8_stiffs_0 rfl (lv_at hl 0 rfl) ?_
  refine lv_iload_n hx hb dX8_stiffs_1 rfl (lv_at hl 1 rfl) ?_
  refine lv_iload_n hx hb dX8_stiffs_2 rfl (lv_at hl 2 rfl) ?_
  refine e_Vi (As := [.int a_a, .int a_b]) (rest := []) X Y hT hS (m_X8_refuseSeenOf hR a_a a_b) mk_X8_refuseSeenOf gm_1048 rfl rfl (by decide) hd_X8_refuseSeenOf ⟨rfl, rfl⟩ ⟨Nat.le_of_ble_eq_true rfl, Nat.le_of_ble_eq_true rfl⟩ hl.1 rfl (Nat.le_of_ble_eq_true rfl) dX8_stiffs_3 ⟨Nat.zero_le _, Nat.zero_le _⟩ (fun r1 i1 g1 H locs hq hT hS => ?_)
  rcases hq with hq | hq
  ·
    obtain ⟨eh1, rfl, hp1_0, hf1_0, hf1_1⟩ := hq
    rw [(Prod.mk.inj eh1).1, (Prod.mk.inj eh1).2] at hT
    replace hp1_0 : seenC i g a_a := by rw [eh1] at hp1_0; exact hp1_0
    have h2 : rg 0 3 a_a := ⟨by have := (rg_top a_a).1; have := hf1_0.1; omega, by have := (rg_top a_a).2; have := hf1_0.2; omega⟩
    have h3 : rg 0 5 a_b := ⟨by have := (rg_top a_b).1; have := hf1_1.1; omega, by have := (rg_top a_b).2; have := hf1_1.2; omega⟩
    refine lv_istore_n (lv' := [(3, .int 0), (0, .ref (h 0)), (1, .int a_a), (2, .int a_b)]) hx hb dX8_stiffs_6 rfl hl (by decide) rfl (fun ls hl => ?_)
    refine lv_iload_n hx hb dX8_stiffs_7 rfl (lv_at hl 0 rfl) ?_
    refine lv_if_ne (tgt := 27) hx hb dX8_stiffs_8 (by decide) (fun c4 => (x_ne (rg_k (by decide) : rg 0 0 0) (rg_k (by decide) : rg 0 0 0) (i_ne c4) (by decide)).elim) (fun c4 => ?_)
    refine lv_aload_n hx hb dX8_stiffs_11 rfl (lv_at hl 1 rfl) ?_
    refine r_getr X hT 0 11 93 fk_8_83 rfl rfl (by decide) dX8_stiffs_12 ?_
    refine lv_iload_n hx hb dX8_stiffs_15 rfl (lv_at hl 2 rfl) ?_
    refine lv_iload_n hx hb dX8_stiffs_16 rfl (lv_at hl 3 rfl) ?_
    refine lv_aload_n hx hb dX8_stiffs_17 rfl (lv_at hl 1 rfl) ?_
    refine e_Vr (As := []) (rest := [.int a_b, .int a_a, .ref (h 93)]) X Y hT hS (m_X8_current hR) mk_X8_current gm_736 rfl rfl (by decide) hd_X8_current ⟨rfl, rfl⟩ ⟨Nat.le_of_ble_eq_true rfl, Nat.le_of_ble_eq_true rfl⟩ hl.1 rfl (Nat.le_of_ble_eq_true rfl) dX8_stiffs_18 ⟨Nat.zero_le _, Nat.zero_le _⟩ (fun i5 g5 H locs hq hT hS => ?_)
    obtain ⟨hR5, hf5⟩ := hq
    have hF5 := Fr_tr hF hf5 (by decide)
    have hN5 : seenC i5 g5 a_a := seenC_f hp1_0 hf5 (by decide) (by decide)
    refine e_Vi (As := [.int a_a, .int a_b, .ref (h 65)]) (rest := []) X Y hT hS (m_X1_howMany_65 hR5 a_a a_b h2 h3 hN5) mk_X1_howMany gm_1074 rfl rfl (by decide) hd_X1_howMany ⟨rfl, rfl⟩ ⟨Nat.le_of_ble_eq_true rfl, Nat.le_of_ble_eq_true rfl⟩ hl.1 rfl (Nat.le_of_ble_eq_true rfl) dX8_stiffs_21 ⟨Nat.zero_le _, Nat.zero_le _⟩ (fun r6 i6 g6 H locs hq hT hS => ?_)
    obtain ⟨hR6, hf6⟩ := hq
    have hF6 := Fr_tr hF5 hf6 (by decide)
    have hN6 : seenC i6 g6 a_a := seenC_f hN5 hf6 (by decide) (by decide)
    refine lv_goto (tgt := 28) hx hb dX8_stiffs_24 (by decide) ?_
    exact hret r6 _ _ _ _ _ _ dX8_stiffs_28 hT hS ⟨hR6, hF6⟩
  ·
    obtain ⟨eh1, hr1⟩ := hq
    rw [(Prod.mk.inj eh1).1, (Prod.mk.inj eh1).2] at hT
    refine lv_istore_n (lv' := [(3, .int r1), (0, .ref (h 0)), (1, .int a_a), (2, .int a_b)]) hx hb dX8_stiffs_6 rfl hl (by decide) rfl (fun ls hl => ?_)
    refine lv_iload_n hx hb dX8_stiffs_7 rfl (lv_at hl 0 rfl) ?_
    refine lv_if_ne (tgt := 27) hx hb dX8_stiffs_8 (by decide) (fun c7 => ?_) (fun c7 => (x_eq hr1 (rg_k (by decide) : rg 0 0 0) (i_eq c7) (by decide)).elim)
    have q7 : ¬ r1.toInt = 0 := i_ne c7
    refine lv_iload_n hx hb dX8_stiffs_27 rfl (lv_at hl 0 rfl) ?_
    exact hret r1 _ _ _ _ _ _ dX8_stiffs_28 hT hS ⟨hR, hF⟩
set_option maxRecDepth 100000 in
set_option maxHeartbeats 4000000 in
theorem m_X1_least_93 {l : Launch} {D : va_G} {h : Nat → Nat} {cz : Nat → ClassId} {z : EZ} {i : Nat → Nat → Int32} {g : Nat → Nat → Int64} (hR : Rg rA i) : DtI l yX1_least cX1_least 2 (some .int) ({ frames := 0, cells := 0, slots := 0, locals := 0 } : Room) D h cz z i g [.ref (h 93)] (fun r u => u = (i, g) ∧ rg (-1) 60 r) := by
  refine e_I pn_X1_least (Nat.le_of_ble_eq_true rfl) ?_
  intro p e s m args below meth c ls Q X Y hret hT hl hS
  have hx := X.1
  have hb := X.2.1
  have hl : lv_has ls 2 [(0, .ref (h 93))] := hl
  refine lv_iconst (v := 0) hx hb dX1_least_0 (by decide) ?_
  refine lv_istore_n (lv' := [(1, .int 0), (0, .ref (h 93))]) hx hb dX1_least_1 rfl hl (by decide) rfl (fun ls hl => ?_)
  have L2_1 : ∀ (n2_ : Nat) (x2_1 : Int32) (H : Heap) (locs : List Loc) (ls : Array Slot), rg 0 61 x2_1 → TH D h cz i g H → va_S (hA h) s.heap H locs → lv_has ls 2 [(0, .ref (h 93)), (1, .int x2_1)] → (61 - x2_1.toInt).toNat < n2_ → W p l e ({ frames := 0, cells := 0, slots := 0, locals := 0 } : Room) s m args below meth c H locs 0 0 Q (F0 m 2 ls []) := by
    intro n2_
    induction n2_ with
    | zero => intro x2_1 H locs ls hhx2_1 hT hS hl hm2_; exact absurd hm2_ (Nat.not_lt_zero _)
    | succ n2_ ih2_ =>
      intro x2_1 H locs ls hhx2_1 hT hS hl hm2_
      refine lv_iload_n hx hb dX1_least_2 rfl (lv_at hl 1 rfl) ?_
      refine lv_bipush (v := 60) hx hb dX1_least_3 (by decide) ?_
      refine lv_icmp_gt (tgt := 25) hx hb dX1_least_5 (by decide) (fun c3 => ?_) (fun c3 => ?_)
      ·
        have q3 : 60 < x2_1.toInt := i_lt c3
        have h4 : rg 61 61 x2_1 := t_lty 61 61 (rg_k (by decide) : rg 60 60 60) hhx2_1 (i_lt c3) (by decide)
        refine lv_iconst (v := (-1)) hx hb dX1_least_25 (by decide) ?_
        exact hret (-1) _ _ _ _ _ _ dX1_least_26 hT hS ⟨rfl, (rg_w (rg_k (by decide) : rg (-1) (-1) (-1)) (by decide) : rg (-1) 60 (-1))⟩
      ·
        have q3 : x2_1.toInt ≤ 60 := i_nlt c3
        have h5 : rg 0 60 x2_1 := t_lex 0 60 hhx2_1 (rg_k (by decide) : rg 60 60 60) (i_nlt c3) (by decide)
        refine lv_aload_n hx hb dX1_least_8 rfl (lv_at hl 0 rfl) ?_
        refine r_getr X hT 93 2 94 fk_1_9 rfl rfl (by decide) dX1_least_9 ?_
        refine lv_iload_n hx hb dX1_least_12 rfl (lv_at hl 1 rfl) ?_
        refine r_zald X hT 94 rfl (by decide) (v_in h5 (by decide)) dX1_least_13 ?_
        refine lv_if_eq (tgt := 19) hx hb dX1_least_14 (by decide) (fun c6 => ?_) (fun c6 => ?_)
        ·
          have q6 : (i 94 x2_1.toNatClampNeg).toInt = 0 := i_eq c6
          have h7 : rg 0 0 (i 94 x2_1.toNatClampNeg) := t_eqx 0 0 (Rg_at hR 94 x2_1.toNatClampNeg 0 1 (v_lt (v_in h5 (by decide))) rfl) (rg_k (by decide) : rg 0 0 0) (i_eq c6) (by decide)
          obtain ⟨x8, ex8⟩ : ∃ y : Int32, y = x2_1 + 1 := ⟨_, rfl⟩
          refine lv_iinc (v := x8) (lv' := [(1, .int x8), (0, .ref (h 93))]) hx hb dX1_least_19 hl (k := 1) rfl (by rw [ex8]; rfl) (by decide) rfl (fun ls hl => ?_)
          obtain ⟨hx8, ax8⟩ := rg_add 1 61 ex8 h5 (rg_k (by decide) : rg 1 1 1) (by decide)
          replace ax8 : x8.toInt = x2_1.toInt + 1 := ax8
          refine lv_goto (tgt := 2) hx hb dX1_least_22 (by decide) ?_
          exact ih2_ x8 _ _ _ (rg_w hx8 (by decide) : rg 0 61 x8) hT hS (lv_sub hl [1, 0] rfl) (m_up ax8 hx8 (by decide) hm2_)
        ·
          have q6 : ¬ (i 94 x2_1.toNatClampNeg).toInt = 0 := i_ne c6
          have h9 : rg 1 1 (i 94 x2_1.toNatClampNeg) := t_nelo 1 (Rg_at hR 94 x2_1.toNatClampNeg 0 1 (v_lt (v_in h5 (by decide))) rfl) (rg_k (by decide) : rg 0 0 0) (i_ne c6) (by decide)
          refine lv_iload_n hx hb dX1_least_17 rfl (lv_at hl 1 rfl) ?_
          exact hret x2_1 _ _ _ _ _ _ dX1_least_18 hT hS ⟨rfl, (rg_w h5 (by decide) : rg (-1) 60 x2_1)⟩
  exact L2_1 _ (0) _ _ _ (rg_w (rg_k (by decide) : rg 0 0 0) (by decide) : rg 0 61 0) hT hS (lv_sub hl [1, 0] rfl) (Nat.lt_succ_self _)
set_option maxRecDepth 100000 in
set_option maxHeartbeats 4000000 in
theorem m_X8_low {l : Launch} {D : va_G} {h : Nat → Nat} {cz : Nat → ClassId} {z : EZ} {i : Nat → Nat → Int32} {g : Nat → Nat → Int64} (hR : Rg rA i) (a_a : Int32) (a_b : Int32) : DtI l yX8_low cX8_low 4 (some .int) ({ frames := 6, cells := 0, slots := 0, locals := 163 } : Room) D h cz z i g [.ref (h 0), .int a_a, .int a_b] (fun r u => Rg rA u.1 ∧ Fr [0, 65, 66, 67, 68, 69, 70, 71, 94] [] i g u ∧ rg (-6) 60 r) := by
  refine e_I pn_X8_low (Nat.le_of_ble_eq_true rfl) ?_
  intro p e s m args below meth c ls Q X Y hret hT hl hS
  have hx := X.1
  have hb := X.2.1
  have hl : lv_has ls 4 [(0, .ref (h 0)), (1, .int a_a), (2, .int a_b)] := hl
  have hF : Fr [0, 65, 66, 67, 68, 69, 70, 71, 94] [] i g (i, g) := Fr_rf _ _ _ _
  refine lv_aload_n hx hb dX8_low_0 rfl (lv_at hl 0 rfl) ?_
  refine lv_iload_n hx hb dX8_low_1 rfl (lv_at hl 1 rfl) ?_
  refine lv_iload_n hx hb dX8_low_2 rfl (lv_at hl 2 rfl) ?_
  refine e_Vi (As := [.int a_a, .int a_b]) (rest := []) X Y hT hS (m_X8_refuseSeenOf hR a_a a_b) mk_X8_refuseSeenOf gm_1048 rfl rfl (by decide) hd_X8_refuseSeenOf ⟨rfl, rfl⟩ ⟨Nat.le_of_ble_eq_true rfl, Nat.le_of_ble_eq_true rfl⟩ hl.1 rfl (Nat.le_of_ble_eq_true rfl) dX8_low_3 ⟨Nat.zero_le _, Nat.zero_le _⟩ (fun r1 i1 g1 H locs hq hT hS => ?_)
  rcases hq with hq | hq
  ·
    obtain ⟨eh1, rfl, hp1_0, hf1_0, hf1_1⟩ := hq
    rw [(Prod.mk.inj eh1).1, (Prod.mk.inj eh1).2] at hT
    replace hp1_0 : seenC i g a_a := by rw [eh1] at hp1_0; exact hp1_0
    have h2 : rg 0 3 a_a := ⟨by have := (rg_top a_a).1; have := hf1_0.1; omega, by have := (rg_top a_a).2; have := hf1_0.2; omega⟩
    have h3 : rg 0 5 a_b := ⟨by have := (rg_top a_b).1; have := hf1_1.1; omega, by have := (rg_top a_b).2; have := hf1_1.2; omega⟩
    refine lv_istore_n (lv' := [(3, .int 0), (0, .ref (h 0)), (1, .int a_a), (2, .int a_b)]) hx hb dX8_low_6 rfl hl (by decide) rfl (fun ls hl => ?_)
    refine lv_iload_n hx hb dX8_low_7 rfl (lv_at hl 0 rfl) ?_
    refine lv_if_eq (tgt := 13) hx hb dX8_low_8 (by decide) (fun c4 => ?_) (fun c4 => (x_ne (rg_k (by decide) : rg 0 0 0) (rg_k (by decide) : rg 0 0 0) (i_ne c4) (by decide)).elim)
    refine lv_aload_n hx hb dX8_low_13 rfl (lv_at hl 1 rfl) ?_
    refine r_getr X hT 0 11 93 fk_8_83 rfl rfl (by decide) dX8_low_14 ?_
    refine lv_iload_n hx hb dX8_low_17 rfl (lv_at hl 2 rfl) ?_
    refine lv_iload_n hx hb dX8_low_18 rfl (lv_at hl 3 rfl) ?_
    refine lv_aload_n hx hb dX8_low_19 rfl (lv_at hl 1 rfl) ?_
    refine e_Vr (As := []) (rest := [.int a_b, .int a_a, .ref (h 93)]) X Y hT hS (m_X8_current hR) mk_X8_current gm_736 rfl rfl (by decide) hd_X8_current ⟨rfl, rfl⟩ ⟨Nat.le_of_ble_eq_true rfl, Nat.le_of_ble_eq_true rfl⟩ hl.1 rfl (Nat.le_of_ble_eq_true rfl) dX8_low_20 ⟨Nat.zero_le _, Nat.zero_le _⟩ (fun i5 g5 H locs hq hT hS => ?_)
    obtain ⟨hR5, hf5⟩ := hq
    have hF5 := Fr_tr hF hf5 (by decide)
    have hN5 : seenC i5 g5 a_a := seenC_f hp1_0 hf5 (by decide) (by decide)
    refine e_Vi (As := [.int a_a, .int a_b, .ref (h 65)]) (rest := []) X Y hT hS (m_X1_howMany_65 hR5 a_a a_b h2 h3 hN5) mk_X1_howMany gm_1074 rfl rfl (by decide) hd_X1_howMany ⟨rfl, rfl⟩ ⟨Nat.le_of_ble_eq_true rfl, Nat.le_of_ble_eq_true rfl⟩ hl.1 rfl (Nat.le_of_ble_eq_true rfl) dX8_low_23 ⟨Nat.zero_le _, Nat.zero_le _⟩ (fun r6 i6 g6 H locs hq hT hS => ?_)
    obtain ⟨hR6, hf6⟩ := hq
    have hF6 := Fr_tr hF5 hf6 (by decide)
    have hN6 : seenC i6 g6 a_a := seenC_f hN5 hf6 (by decide) (by decide)
    refine lv_pop hx hb dX8_low_26 rfl ?_
    refine lv_aload_n hx hb dX8_low_27 rfl (lv_at hl 1 rfl) ?_
    refine r_getr X hT 0 11 93 fk_8_83 rfl rfl (by decide) dX8_low_28 ?_
    refine e_Vi (As := []) (rest := []) X Y hT hS (m_X1_least_93 hR6) mk_X1_least gm_1092 rfl rfl (by decide) hd_X1_least ⟨rfl, rfl⟩ ⟨Nat.le_of_ble_eq_true rfl, Nat.le_of_ble_eq_true rfl⟩ hl.1 rfl (Nat.le_of_ble_eq_true rfl) dX8_low_31 ⟨Nat.zero_le _, Nat.zero_le _⟩ (fun r7 i7 g7 H locs hq hT hS => ?_)
    obtain ⟨eh7, hr7⟩ := hq
    rw [(Prod.mk.inj eh7).1, (Prod.mk.inj eh7).2] at hT
    exact hret r7 _ _ _ _ _ _ dX8_low_34 hT hS ⟨hR6, hF6, (rg_w hr7 (by decide) : rg (-6) 60 r7)⟩
  ·
    obtain ⟨eh1, hr1⟩ := hq
    rw [(Prod.mk.inj eh1).1, (Prod.mk.inj eh1).2] at hT
    refine lv_istore_n (lv' := [(3, .int r1), (0, .ref (h 0)), (1, .int a_a), (2, .int a_b)]) hx hb dX8_low_6 rfl hl (by decide) rfl (fun ls hl => ?_)
    refine lv_iload_n hx hb dX8_low_7 rfl (lv_at hl 0 rfl) ?_
    refine lv_if_eq (tgt := 13) hx hb dX8_low_8 (by decide) (fun c8 => (x_eq hr1 (rg_k (by decide) : rg 0 0 0) (i_eq c8) (by decide)).elim) (fun c8 => ?_)
    have q8 : ¬ r1.toInt = 0 := i_ne c8
    refine lv_iload_n hx hb dX8_low_11 rfl (lv_at hl 0 rfl) ?_
    exact hret r1 _ _ _ _ _ _ dX8_low_12 hT hS ⟨hR, hF, (rg_w hr1 (by decide) : rg (-6) 60 r1)⟩
set_option maxRecDepth 100000 in
set_option maxHeartbeats 4000000 in
theorem m_X1_greatest_93 {l : Launch} {D : va_G} {h : Nat → Nat} {cz : Nat → ClassId} {z : EZ} {i : Nat → Nat → Int32} {g : Nat → Nat → Int64} (hR : Rg rA i) : DtI l yX1_greatest cX1_greatest 2 (some .int) ({ frames := 0, cells := 0, slots := 0, locals := 0 } : Room) D h cz z i g [.ref (h 93)] (fun r u => u = (i, g) ∧ rg (-1) 60 r) := by
  refine e_I pn_X1_greatest (Nat.le_of_ble_eq_true rfl) ?_
  intro p e s m args below meth c ls Q X Y hret hT hl hS
  have hx := X.1
  have hb := X.2.1
  have hl : lv_has ls 2 [(0, .ref (h 93))] := hl
  refine lv_bipush (v := 60) hx hb dX1_greatest_0 (by decide) ?_
  refine lv_istore_n (lv' := [(1, .int 60), (0, .ref (h 93))]) hx hb dX1_greatest_2 rfl hl (by decide) rfl (fun ls hl => ?_)
  have L3_1 : ∀ (n2_ : Nat) (x3_1 : Int32) (H : Heap) (locs : List Loc) (ls : Array Slot), rg (-1) 60 x3_1 → TH D h cz i g H → va_S (hA h) s.heap H locs → lv_has ls 2 [(0, .ref (h 93)), (1, .int x3_1)] → (x3_1.toInt - (-1)).toNat < n2_ → W p l e ({ frames := 0, cells := 0, slots := 0, locals := 0 } : Room) s m args below meth c H locs 0 0 Q (F0 m 3 ls []) := by
    intro n2_
    induction n2_ with
    | zero => intro x3_1 H locs ls hhx3_1 hT hS hl hm2_; exact absurd hm2_ (Nat.not_lt_zero _)
    | succ n2_ ih2_ =>
      intro x3_1 H locs ls hhx3_1 hT hS hl hm2_
      refine lv_iload_n hx hb dX1_greatest_3 rfl (lv_at hl 1 rfl) ?_
      refine lv_if_lt (tgt := 24) hx hb dX1_greatest_4 (by decide) (fun c3 => ?_) (fun c3 => ?_)
      ·
        have q3 : x3_1.toInt < 0 := i_lt c3
        have h4 : rg (-1) (-1) x3_1 := t_ltx (-1) (-1) hhx3_1 (rg_k (by decide) : rg 0 0 0) (i_lt c3) (by decide)
        refine lv_iconst (v := (-1)) hx hb dX1_greatest_24 (by decide) ?_
        exact hret (-1) _ _ _ _ _ _ dX1_greatest_25 hT hS ⟨rfl, (rg_w (rg_k (by decide) : rg (-1) (-1) (-1)) (by decide) : rg (-1) 60 (-1))⟩
      ·
        have q3 : 0 ≤ x3_1.toInt := i_nlt c3
        have h5 : rg 0 60 x3_1 := t_ley 0 60 (rg_k (by decide) : rg 0 0 0) hhx3_1 (i_nlt c3) (by decide)
        refine lv_aload_n hx hb dX1_greatest_7 rfl (lv_at hl 0 rfl) ?_
        refine r_getr X hT 93 2 94 fk_1_9 rfl rfl (by decide) dX1_greatest_8 ?_
        refine lv_iload_n hx hb dX1_greatest_11 rfl (lv_at hl 1 rfl) ?_
        refine r_zald X hT 94 rfl (by decide) (v_in h5 (by decide)) dX1_greatest_12 ?_
        refine lv_if_eq (tgt := 18) hx hb dX1_greatest_13 (by decide) (fun c6 => ?_) (fun c6 => ?_)
        ·
          have q6 : (i 94 x3_1.toNatClampNeg).toInt = 0 := i_eq c6
          have h7 : rg 0 0 (i 94 x3_1.toNatClampNeg) := t_eqx 0 0 (Rg_at hR 94 x3_1.toNatClampNeg 0 1 (v_lt (v_in h5 (by decide))) rfl) (rg_k (by decide) : rg 0 0 0) (i_eq c6) (by decide)
          obtain ⟨x8, ex8⟩ : ∃ y : Int32, y = x3_1 + (-1) := ⟨_, rfl⟩
          refine lv_iinc (v := x8) (lv' := [(1, .int x8), (0, .ref (h 93))]) hx hb dX1_greatest_18 hl (k := 1) rfl (by rw [ex8]; rfl) (by decide) rfl (fun ls hl => ?_)
          obtain ⟨hx8, ax8⟩ := rg_add (-1) 59 ex8 h5 (rg_k (by decide) : rg (-1) (-1) (-1)) (by decide)
          replace ax8 : x8.toInt = x3_1.toInt + (-1) := ax8
          refine lv_goto (tgt := 3) hx hb dX1_greatest_21 (by decide) ?_
          exact ih2_ x8 _ _ _ (rg_w hx8 (by decide) : rg (-1) 60 x8) hT hS (lv_sub hl [1, 0] rfl) (m_dn ax8 hx8 (by decide) hm2_)
        ·
          have q6 : ¬ (i 94 x3_1.toNatClampNeg).toInt = 0 := i_ne c6
          have h9 : rg 1 1 (i 94 x3_1.toNatClampNeg) := t_nelo 1 (Rg_at hR 94 x3_1.toNatClampNeg 0 1 (v_lt (v_in h5 (by decide))) rfl) (rg_k (by decide) : rg 0 0 0) (i_ne c6) (by decide)
          refine lv_iload_n hx hb dX1_greatest_16 rfl (lv_at hl 1 rfl) ?_
          exact hret x3_1 _ _ _ _ _ _ dX1_greatest_17 hT hS ⟨rfl, (rg_w h5 (by decide) : rg (-1) 60 x3_1)⟩
  exact L3_1 _ (60) _ _ _ (rg_w (rg_k (by decide) : rg 60 60 60) (by decide) : rg (-1) 60 60) hT hS (lv_sub hl [1, 0] rfl) (Nat.lt_succ_self _)
set_option maxRecDepth 100000 in
set_option maxHeartbeats 4000000 in
theorem m_X8_high {l : Launch} {D : va_G} {h : Nat → Nat} {cz : Nat → ClassId} {z : EZ} {i : Nat → Nat → Int32} {g : Nat → Nat → Int64} (hR : Rg rA i) (a_a : Int32) (a_b : Int32) : DtI l yX8_high cX8_high 4 (some .int) ({ frames := 6, cells := 0, slots := 0, locals := 163 } : Room) D h cz z i g [.ref (h 0), .int a_a, .int a_b] (fun r u => Rg rA u.1 ∧ Fr [0, 65, 66, 67, 68, 69, 70, 71, 94] [] i g u ∧ rg (-6) 60 r) := by
  refine e_I pn_X8_high (Nat.le_of_ble_eq_true rfl) ?_
  intro p e s m args below meth c ls Q X Y hret hT hl hS
  have hx := X.1
  have hb := X.2.1
  have hl : lv_has ls 4 [(0, .ref (h 0)), (1, .int a_a), (2, .int a_b)] := hl
  have hF : Fr [0, 65, 66, 67, 68, 69, 70, 71, 94] [] i g (i, g) := Fr_rf _ _ _ _
  refine lv_aload_n hx hb dX8_high_0 rfl (lv_at hl 0 rfl) ?_
  refine lv_iload_n hx hb dX8_high_1 rfl (lv_at hl 1 rfl) ?_
  refine lv_iload_n hx hb dX8_high_2 rfl (lv_at hl 2 rfl) ?_
  refine e_Vi (As := [.int a_a, .int a_b]) (rest := []) X Y hT hS (m_X8_refuseSeenOf hR a_a a_b) mk_X8_refuseSeenOf gm_1048 rfl rfl (by decide) hd_X8_refuseSeenOf ⟨rfl, rfl⟩ ⟨Nat.le_of_ble_eq_true rfl, Nat.le_of_ble_eq_true rfl⟩ hl.1 rfl (Nat.le_of_ble_eq_true rfl) dX8_high_3 ⟨Nat.zero_le _, Nat.zero_le _⟩ (fun r1 i1 g1 H locs hq hT hS => ?_)
  rcases hq with hq | hq
  ·
    obtain ⟨eh1, rfl, hp1_0, hf1_0, hf1_1⟩ := hq
    rw [(Prod.mk.inj eh1).1, (Prod.mk.inj eh1).2] at hT
    replace hp1_0 : seenC i g a_a := by rw [eh1] at hp1_0; exact hp1_0
    have h2 : rg 0 3 a_a := ⟨by have := (rg_top a_a).1; have := hf1_0.1; omega, by have := (rg_top a_a).2; have := hf1_0.2; omega⟩
    have h3 : rg 0 5 a_b := ⟨by have := (rg_top a_b).1; have := hf1_1.1; omega, by have := (rg_top a_b).2; have := hf1_1.2; omega⟩
    refine lv_istore_n (lv' := [(3, .int 0), (0, .ref (h 0)), (1, .int a_a), (2, .int a_b)]) hx hb dX8_high_6 rfl hl (by decide) rfl (fun ls hl => ?_)
    refine lv_iload_n hx hb dX8_high_7 rfl (lv_at hl 0 rfl) ?_
    refine lv_if_eq (tgt := 13) hx hb dX8_high_8 (by decide) (fun c4 => ?_) (fun c4 => (x_ne (rg_k (by decide) : rg 0 0 0) (rg_k (by decide) : rg 0 0 0) (i_ne c4) (by decide)).elim)
    refine lv_aload_n hx hb dX8_high_13 rfl (lv_at hl 1 rfl) ?_
    refine r_getr X hT 0 11 93 fk_8_83 rfl rfl (by decide) dX8_high_14 ?_
    refine lv_iload_n hx hb dX8_high_17 rfl (lv_at hl 2 rfl) ?_
    refine lv_iload_n hx hb dX8_high_18 rfl (lv_at hl 3 rfl) ?_
    refine lv_aload_n hx hb dX8_high_19 rfl (lv_at hl 1 rfl) ?_
    refine e_Vr (As := []) (rest := [.int a_b, .int a_a, .ref (h 93)]) X Y hT hS (m_X8_current hR) mk_X8_current gm_736 rfl rfl (by decide) hd_X8_current ⟨rfl, rfl⟩ ⟨Nat.le_of_ble_eq_true rfl, Nat.le_of_ble_eq_true rfl⟩ hl.1 rfl (Nat.le_of_ble_eq_true rfl) dX8_high_20 ⟨Nat.zero_le _, Nat.zero_le _⟩ (fun i5 g5 H locs hq hT hS => ?_)
    obtain ⟨hR5, hf5⟩ := hq
    have hF5 := Fr_tr hF hf5 (by decide)
    have hN5 : seenC i5 g5 a_a := seenC_f hp1_0 hf5 (by decide) (by decide)
    refine e_Vi (As := [.int a_a, .int a_b, .ref (h 65)]) (rest := []) X Y hT hS (m_X1_howMany_65 hR5 a_a a_b h2 h3 hN5) mk_X1_howMany gm_1074 rfl rfl (by decide) hd_X1_howMany ⟨rfl, rfl⟩ ⟨Nat.le_of_ble_eq_true rfl, Nat.le_of_ble_eq_true rfl⟩ hl.1 rfl (Nat.le_of_ble_eq_true rfl) dX8_high_23 ⟨Nat.zero_le _, Nat.zero_le _⟩ (fun r6 i6 g6 H locs hq hT hS => ?_)
    obtain ⟨hR6, hf6⟩ := hq
    have hF6 := Fr_tr hF5 hf6 (by decide)
    have hN6 : seenC i6 g6 a_a := seenC_f hN5 hf6 (by decide) (by decide)
    refine lv_pop hx hb dX8_high_26 rfl ?_
    refine lv_aload_n hx hb dX8_high_27 rfl (lv_at hl 1 rfl) ?_
    refine r_getr X hT 0 11 93 fk_8_83 rfl rfl (by decide) dX8_high_28 ?_
    refine e_Vi (As := []) (rest := []) X Y hT hS (m_X1_greatest_93 hR6) mk_X1_greatest gm_1100 rfl rfl (by decide) hd_X1_greatest ⟨rfl, rfl⟩ ⟨Nat.le_of_ble_eq_true rfl, Nat.le_of_ble_eq_true rfl⟩ hl.1 rfl (Nat.le_of_ble_eq_true rfl) dX8_high_31 ⟨Nat.zero_le _, Nat.zero_le _⟩ (fun r7 i7 g7 H locs hq hT hS => ?_)
    obtain ⟨eh7, hr7⟩ := hq
    rw [(Prod.mk.inj eh7).1, (Prod.mk.inj eh7).2] at hT
    exact hret r7 _ _ _ _ _ _ dX8_high_34 hT hS ⟨hR6, hF6, (rg_w hr7 (by decide) : rg (-6) 60 r7)⟩
  ·
    obtain ⟨eh1, hr1⟩ := hq
    rw [(Prod.mk.inj eh1).1, (Prod.mk.inj eh1).2] at hT
    refine lv_istore_n (lv' := [(3, .int r1), (0, .ref (h 0)), (1, .int a_a), (2, .int a_b)]) hx hb dX8_high_6 rfl hl (by decide) rfl (fun ls hl => ?_)
    refine lv_iload_n hx hb dX8_high_7 rfl (lv_at hl 0 rfl) ?_
    refine lv_if_eq (tgt := 13) hx hb dX8_high_8 (by decide) (fun c8 => (x_eq hr1 (rg_k (by decide) : rg 0 0 0) (i_eq c8) (by decide)).elim) (fun c8 => ?_)
    have q8 : ¬ r1.toInt = 0 := i_ne c8
    refine lv_iload_n hx hb dX8_high_11 rfl (lv_at hl 0 rfl) ?_
    exact hret r1 _ _ _ _ _ _ dX8_high_12 hT hS ⟨hR, hF, (rg_w hr1 (by decide) : rg (-6) 60 r1)⟩
set_option maxRecDepth 100000 in
set_option maxHeartbeats 4000000 in
theorem m_J7_fill_53178_95_0 {l : Launch} {D : va_G} {h : Nat → Nat} {cz : Nat → ClassId} {z : EZ} {i : Nat → Nat → Int32} {g : Nat → Nat → Int64} (hR : Rg rA i) (a_b : Int32) (ha_b : rg 0 0 a_b) : DtV l yJ7_fill_53178 cJ7_fill_53178 4 none ({ frames := 0, cells := 0, slots := 0, locals := 0 } : Room) D h cz z i g [.ref (h 95), .int a_b] (fun u => Rg rA u.1 ∧ Fr [95] [] i g u ∧ (∀ k : Nat, k < 1300 → u.1 95 k = a_b)) := by
  refine e_V pn_J7_fill_53178 (Nat.le_of_ble_eq_true rfl) ?_
  intro p e s m args below meth c ls Q X Y hret hT hl hS
  have hx := X.1
  have hb := X.2.1
  have hl : lv_has ls 4 [(0, .ref (h 95)), (1, .int a_b)] := hl
  have hF : Fr [95] [] i g (i, g) := Fr_rf _ _ _ _
  refine lv_iconst (v := 0) hx hb dJ7_fill_53178_0 (by decide) ?_
  refine lv_istore_n (lv' := [(2, .int 0), (0, .ref (h 95)), (1, .int a_b)]) hx hb dJ7_fill_53178_1 rfl hl (by decide) rfl (fun ls hl => ?_)
  refine lv_aload_n hx hb dJ7_fill_53178_2 rfl (lv_at hl 1 rfl) ?_
  refine r_alen (v := 1300) X hT 95 rfl (by decide) (by decide) (by decide) dJ7_fill_53178_3 ?_
  refine lv_istore_n (lv' := [(3, .int 1300), (2, .int 0), (0, .ref (h 95)), (1, .int a_b)]) hx hb dJ7_fill_53178_4 rfl hl (by decide) rfl (fun ls hl => ?_)
  have L5_1 : ∀ (n3_ : Nat) (x5_2 : Int32) (i2 : Nat → Nat → Int32) (g2 : Nat → Nat → Int64) (H : Heap) (locs : List Loc) (ls : Array Slot), rg 0 1300 x5_2 → Rg rA i2 → Fr [95] [] i g (i2, g2) → (∀ k : Nat, (k : Int) < x5_2.toInt → i2 95 k = a_b) → TH D h cz i2 g2 H → va_S (hA h) s.heap H locs → lv_has ls 4 [(0, .ref (h 95)), (1, .int a_b), (2, .int x5_2), (3, .int 1300)] → (1300 - x5_2.toInt).toNat < n3_ → W p l e ({ frames := 0, cells := 0, slots := 0, locals := 0 } : Room) s m args below meth c H locs 0 0 Q (F0 m 5 ls []) := by
    intro n3_
    induction n3_ with
    | zero => intro x5_2 i2 g2 H locs ls hhx5_2 hR2 hF2 hfl hT hS hl hm3_; exact absurd hm3_ (Nat.not_lt_zero _)
    | succ n3_ ih3_ =>
      intro x5_2 i2 g2 H locs ls hhx5_2 hR2 hF2 hfl hT hS hl hm3_
      refine lv_iload_n hx hb dJ7_fill_53178_5 rfl (lv_at hl 2 rfl) ?_
      refine lv_iload_n hx hb dJ7_fill_53178_6 rfl (lv_at hl 3 rfl) ?_
      refine lv_icmp_ge (tgt := 20) hx hb dJ7_fill_53178_7 (by decide) (fun c4 => ?_) (fun c4 => ?_)
      ·
        have q4 : 1300 ≤ x5_2.toInt := i_le c4
        have h5 : rg 1300 1300 x5_2 := t_ley 1300 1300 (rg_k (by decide) : rg 1300 1300 1300) hhx5_2 (i_le c4) (by decide)
        exact hret _ _ _ _ _ _ dJ7_fill_53178_20 hT hS ⟨hR2, hF2, (fun k hk => hfl k (by have := q4; omega))⟩
      ·
        have q4 : x5_2.toInt < 1300 := i_nle c4
        have h6 : rg 0 1299 x5_2 := t_ltx 0 1299 hhx5_2 (rg_k (by decide) : rg 1300 1300 1300) (i_nle c4) (by decide)
        refine lv_aload_n hx hb dJ7_fill_53178_10 rfl (lv_at hl 0 rfl) ?_
        refine lv_iload_n hx hb dJ7_fill_53178_11 rfl (lv_at hl 2 rfl) ?_
        refine lv_iload_n hx hb dJ7_fill_53178_12 rfl (lv_at hl 1 rfl) ?_
        refine r_iast X hT hS 95 rfl (by decide) (v_in h6 (by decide)) dJ7_fill_53178_13 (fun H locs i7 ei7 hT hS => ?_)
        have hR7 := Rg_put hR2 ei7 (-2147483648) 2147483647 rfl ha_b (by decide)
        have hF7 := Fr_puti hF2 ei7 (by decide)
        obtain ⟨x8, ex8⟩ : ∃ y : Int32, y = x5_2 + 1 := ⟨_, rfl⟩
        refine lv_iinc (v := x8) (lv' := [(2, .int x8), (0, .ref (h 95)), (1, .int a_b), (3, .int 1300)]) hx hb dJ7_fill_53178_14 hl (k := 2) rfl (by rw [ex8]; rfl) (by decide) rfl (fun ls hl => ?_)
        obtain ⟨hx8, ax8⟩ := rg_add 1 1300 ex8 h6 (rg_k (by decide) : rg 1 1 1) (by decide)
        replace ax8 : x8.toInt = x5_2.toInt + 1 := ax8
        refine lv_goto (tgt := 5) hx hb dJ7_fill_53178_17 (by decide) ?_
        exact ih3_ x8 i7 g2 _ _ _ (rg_w hx8 (by decide) : rg 0 1300 x8) hR7 hF7 (fill_st hfl hhx5_2 ei7 ax8) hT hS (lv_sub hl [1, 2, 0, 3] rfl) (m_up ax8 hx8 (by decide) hm3_)
  exact L5_1 _ (0) i g _ _ _ (rg_w (rg_k (by decide) : rg 0 0 0) (by decide) : rg 0 1300 0) hR hF (fun k hk => absurd hk (by have : (0 : Int32).toInt = 0 := rfl; omega)) hT hS (lv_sub hl [2, 3, 1, 0] rfl) (Nat.lt_succ_self _)
set_option maxRecDepth 100000 in
set_option maxHeartbeats 4000000 in
theorem m_X1_tallyTraces_93_65 {l : Launch} {D : va_G} {h : Nat → Nat} {cz : Nat → ClassId} {z : EZ} {i : Nat → Nat → Int32} {g : Nat → Nat → Int64} (hR : Rg rA i) (a_a : Int32) (ha_a : rg 0 5 a_a) : DtV l yX1_tallyTraces cX1_tallyTraces 5 none ({ frames := 3, cells := 0, slots := 0, locals := 89 } : Room) D h cz z i g [.ref (h 93), .int a_a, .ref (h 65)] (fun u => Rg rA u.1 ∧ Fr [71, 95] [] i g u) := by
  refine e_V pn_X1_tallyTraces (Nat.le_of_ble_eq_true rfl) ?_
  intro p e s m args below meth c ls Q X Y hret hT hl hS
  have hx := X.1
  have hb := X.2.1
  have hl : lv_has ls 5 [(0, .ref (h 93)), (1, .int a_a), (2, .ref (h 65))] := hl
  have hF : Fr [71, 95] [] i g (i, g) := Fr_rf _ _ _ _
  refine lv_aload_n hx hb dX1_tallyTraces_0 rfl (lv_at hl 0 rfl) ?_
  refine r_getr X hT 93 3 95 fk_1_15 rfl rfl (by decide) dX1_tallyTraces_1 ?_
  refine lv_iconst (v := 0) hx hb dX1_tallyTraces_4 (by decide) ?_
  refine e_Sv (As := [.ref (h 95), .int 0]) (rest := []) X Y hT hS (m_J7_fill_53178_95_0 hR (0) (rg_k (by decide) : rg 0 0 0)) sk_J7_fill_53178 gm_1117 hd_J7_fill_53178 ⟨rfl, rfl⟩ ⟨Nat.le_of_ble_eq_true rfl, Nat.le_of_ble_eq_true rfl⟩ hl.1 rfl (Nat.le_of_ble_eq_true rfl) dX1_tallyTraces_5 ⟨Nat.zero_le _, Nat.zero_le _⟩ (fun i1 g1 H locs hq hT hS => ?_)
  obtain ⟨hR1, hf1, hf1_0⟩ := hq
  have hF1 := Fr_tr hF hf1 (by decide)
  refine lv_iconst (v := 0) hx hb dX1_tallyTraces_8 (by decide) ?_
  refine lv_istore_n (lv' := [(3, .int 0), (0, .ref (h 93)), (1, .int a_a), (2, .ref (h 65))]) hx hb dX1_tallyTraces_9 rfl hl (by decide) rfl (fun ls hl => ?_)
  have L10_2 : ∀ (n4_ : Nat) (x10_3 : Int32) (i3 : Nat → Nat → Int32) (g3 : Nat → Nat → Int64) (H : Heap) (locs : List Loc) (ls : Array Slot), rg 0 61 x10_3 → Rg rA i3 → Fr [71, 95] [] i g (i3, g3) → TH D h cz i3 g3 H → va_S (hA h) s.heap H locs → lv_has ls 5 [(0, .ref (h 93)), (1, .int a_a), (2, .ref (h 65)), (3, .int x10_3)] → (61 - x10_3.toInt).toNat < n4_ → W p l e ({ frames := 3, cells := 0, slots := 0, locals := 89 } : Room) s m args below meth c H locs 0 0 Q (F0 m 10 ls []) := by
    intro n4_
    induction n4_ with
    | zero => intro x10_3 i3 g3 H locs ls hhx10_3 hR3 hF3 hT hS hl hm4_; exact absurd hm4_ (Nat.not_lt_zero _)
    | succ n4_ ih4_ =>
      intro x10_3 i3 g3 H locs ls hhx10_3 hR3 hF3 hT hS hl hm4_
      refine lv_iload_n hx hb dX1_tallyTraces_10 rfl (lv_at hl 3 rfl) ?_
      refine lv_bipush (v := 60) hx hb dX1_tallyTraces_11 (by decide) ?_
      refine lv_icmp_gt (tgt := 88) hx hb dX1_tallyTraces_13 (by decide) (fun c5 => ?_) (fun c5 => ?_)
      ·
        have q5 : 60 < x10_3.toInt := i_lt c5
        have h6 : rg 61 61 x10_3 := t_lty 61 61 (rg_k (by decide) : rg 60 60 60) hhx10_3 (i_lt c5) (by decide)
        exact hret _ _ _ _ _ _ dX1_tallyTraces_88 hT hS ⟨hR3, hF3⟩
      ·
        have q5 : x10_3.toInt ≤ 60 := i_nlt c5
        have h7 : rg 0 60 x10_3 := t_lex 0 60 hhx10_3 (rg_k (by decide) : rg 60 60 60) (i_nlt c5) (by decide)
        refine lv_aload_n hx hb dX1_tallyTraces_16 rfl (lv_at hl 0 rfl) ?_
        refine r_getr X hT 93 2 94 fk_1_9 rfl rfl (by decide) dX1_tallyTraces_17 ?_
        refine lv_iload_n hx hb dX1_tallyTraces_20 rfl (lv_at hl 3 rfl) ?_
        refine r_zald X hT 94 rfl (by decide) (v_in h7 (by decide)) dX1_tallyTraces_21 ?_
        refine lv_if_eq (tgt := 82) hx hb dX1_tallyTraces_22 (by decide) (fun c8 => ?_) (fun c8 => ?_)
        ·
          have q8 : (i3 94 x10_3.toNatClampNeg).toInt = 0 := i_eq c8
          have h9 : rg 0 0 (i3 94 x10_3.toNatClampNeg) := t_eqx 0 0 (Rg_at hR3 94 x10_3.toNatClampNeg 0 1 (v_lt (v_in h7 (by decide))) rfl) (rg_k (by decide) : rg 0 0 0) (i_eq c8) (by decide)
          obtain ⟨x10, ex10⟩ : ∃ y : Int32, y = x10_3 + 1 := ⟨_, rfl⟩
          refine lv_iinc (v := x10) (lv' := [(3, .int x10), (0, .ref (h 93)), (1, .int a_a), (2, .ref (h 65))]) hx hb dX1_tallyTraces_82 hl (k := 3) rfl (by rw [ex10]; rfl) (by decide) rfl (fun ls hl => ?_)
          obtain ⟨hx10, ax10⟩ := rg_add 1 61 ex10 h7 (rg_k (by decide) : rg 1 1 1) (by decide)
          replace ax10 : x10.toInt = x10_3.toInt + 1 := ax10
          refine lv_goto (tgt := 10) hx hb dX1_tallyTraces_85 (by decide) ?_
          exact ih4_ x10 i3 g3 _ _ _ (rg_w hx10 (by decide) : rg 0 61 x10) hR3 hF3 hT hS (lv_sub hl [1, 2, 3, 0] rfl) (m_up ax10 hx10 (by decide) hm4_)
        ·
          have q8 : ¬ (i3 94 x10_3.toNatClampNeg).toInt = 0 := i_ne c8
          have h11 : rg 1 1 (i3 94 x10_3.toNatClampNeg) := t_nelo 1 (Rg_at hR3 94 x10_3.toNatClampNeg 0 1 (v_lt (v_in h7 (by decide))) rfl) (rg_k (by decide) : rg 0 0 0) (i_ne c8) (by decide)
          refine lv_aload_n hx hb dX1_tallyTraces_25 rfl (lv_at hl 2 rfl) ?_
          refine lv_iload_n hx hb dX1_tallyTraces_26 rfl (lv_at hl 1 rfl) ?_
          refine lv_iload_n hx hb dX1_tallyTraces_27 rfl (lv_at hl 3 rfl) ?_
          refine lv_aload_n hx hb dX1_tallyTraces_28 rfl (lv_at hl 0 rfl) ?_
          refine r_getr X hT 93 0 15 fk_1_19 rfl rfl (by decide) dX1_tallyTraces_29 ?_
          refine r_geti X hT 15 10 fk_1_43 rfl rfl (by decide) dX1_tallyTraces_32 ?_
          refine e_Vi (As := [.int a_a, .int x10_3, .int (i3 15 10)]) (rest := []) X Y hT hS (m_X0_follow_65 hR3 a_a x10_3 (i3 15 10) ha_a h7) mk_X0_follow gm_1083 rfl rfl (by decide) hd_X0_follow ⟨rfl, rfl⟩ ⟨Nat.le_of_ble_eq_true rfl, Nat.le_of_ble_eq_true rfl⟩ hl.1 rfl (Nat.le_of_ble_eq_true rfl) dX1_tallyTraces_35 ⟨Nat.zero_le _, Nat.zero_le _⟩ (fun r12 i12 g12 H locs hq hT hS => ?_)
          obtain ⟨hR12, hf12, hr12⟩ := hq
          have hF12 := Fr_tr hF3 hf12 (by decide)
          refine lv_pop hx hb dX1_tallyTraces_38 rfl ?_
          refine lv_iconst (v := 0) hx hb dX1_tallyTraces_39 (by decide) ?_
          refine lv_istore (lv' := [(4, .int 0), (0, .ref (h 93)), (1, .int a_a), (2, .ref (h 65)), (3, .int x10_3)]) hx hb dX1_tallyTraces_40 hl (by decide) rfl (fun ls hl => ?_)
          have L42_13 : ∀ (n15_ : Nat) (x42_1_4 : Int32) (i14 : Nat → Nat → Int32) (g14 : Nat → Nat → Int64) (H : Heap) (locs : List Loc) (ls : Array Slot), rg 0 13 x42_1_4 → Rg rA i14 → Fr [71, 95] [] i g (i14, g14) → TH D h cz i14 g14 H → va_S (hA h) s.heap H locs → lv_has ls 5 [(0, .ref (h 93)), (1, .int a_a), (2, .ref (h 65)), (3, .int x10_3), (4, .int x42_1_4)] → (13 - x42_1_4.toInt).toNat < n15_ → W p l e ({ frames := 3, cells := 0, slots := 0, locals := 89 } : Room) s m args below meth c H locs 0 0 Q (F0 m 42 ls []) := by
            intro n15_
            induction n15_ with
            | zero => intro x42_1_4 i14 g14 H locs ls hhx42_1_4 hR14 hF14 hT hS hl hm15_; exact absurd hm15_ (Nat.not_lt_zero _)
            | succ n15_ ih15_ =>
              intro x42_1_4 i14 g14 H locs ls hhx42_1_4 hR14 hF14 hT hS hl hm15_
              refine lv_iload hx hb dX1_tallyTraces_42 (lv_at hl 4 rfl) ?_
              refine lv_aload_n hx hb dX1_tallyTraces_44 rfl (lv_at hl 0 rfl) ?_
              refine r_getr X hT 93 0 15 fk_1_19 rfl rfl (by decide) dX1_tallyTraces_45 ?_
              refine r_geti X hT 15 10 fk_1_43 rfl rfl (by decide) dX1_tallyTraces_48 ?_
              refine lv_icmp_gt (tgt := 82) hx hb dX1_tallyTraces_51 (by decide) (fun c16 => ?_) (fun c16 => ?_)
              ·
                have q16 : (i14 15 10).toInt < x42_1_4.toInt := i_lt c16
                obtain ⟨x17, ex17⟩ : ∃ y : Int32, y = x10_3 + 1 := ⟨_, rfl⟩
                refine lv_iinc (v := x17) (lv' := [(3, .int x17), (0, .ref (h 93)), (1, .int a_a), (2, .ref (h 65)), (4, .int x42_1_4)]) hx hb dX1_tallyTraces_82 hl (k := 3) rfl (by rw [ex17]; rfl) (by decide) rfl (fun ls hl => ?_)
                obtain ⟨hx17, ax17⟩ := rg_add 1 61 ex17 h7 (rg_k (by decide) : rg 1 1 1) (by decide)
                replace ax17 : x17.toInt = x10_3.toInt + 1 := ax17
                refine lv_goto (tgt := 10) hx hb dX1_tallyTraces_85 (by decide) ?_
                exact ih4_ x17 i14 g14 _ _ _ (rg_w hx17 (by decide) : rg 0 61 x17) hR14 hF14 hT hS (lv_sub hl [1, 2, 3, 0] rfl) (m_up ax17 hx17 (by decide) hm4_)
              ·
                have q16 : x42_1_4.toInt ≤ (i14 15 10).toInt := i_nlt c16
                have h18 : rg 0 12 x42_1_4 := t_lex 0 12 hhx42_1_4 (Rg_at hR14 15 10 (-1) 12 (by decide) rfl) (i_nlt c16) (by decide)
                have h19 : rg 0 12 (i14 15 10) := t_ley 0 12 hhx42_1_4 (Rg_at hR14 15 10 (-1) 12 (by decide) rfl) (i_nlt c16) (by decide)
                refine lv_aload_n hx hb dX1_tallyTraces_54 rfl (lv_at hl 0 rfl) ?_
                refine r_getr X hT 93 3 95 fk_1_15 rfl rfl (by decide) dX1_tallyTraces_55 ?_
                refine lv_iload hx hb dX1_tallyTraces_58 (lv_at hl 4 rfl) ?_
                refine lv_bipush (v := 100) hx hb dX1_tallyTraces_60 (by decide) ?_
                refine q_imul hx hb dX1_tallyTraces_62 (fun x20 ex20 => ?_)
                obtain ⟨hx20, ax20⟩ := rg_mul 0 1200 ex20 h18 (rg_k (by decide) : rg 100 100 100) (by decide)
                replace ax20 : x20.toInt = x42_1_4.toInt * 100 := ax20
                refine lv_aload_n hx hb dX1_tallyTraces_63 rfl (lv_at hl 2 rfl) ?_
                refine r_getr X hT 65 6 71 fk_1_65 rfl rfl (by decide) dX1_tallyTraces_64 ?_
                refine lv_iload hx hb dX1_tallyTraces_67 (lv_at hl 4 rfl) ?_
                refine r_iald X hT 71 rfl (by decide) (v_in h18 (by decide)) dX1_tallyTraces_69 ?_
                refine q_iadd hx hb dX1_tallyTraces_70 (fun x21 ex21 => ?_)
                obtain ⟨hx21, ax21⟩ := rg_add 0 1299 ex21 hx20 (Rg_at hR14 71 x42_1_4.toNatClampNeg 0 99 (v_lt (v_in h18 (by decide))) rfl) (by decide)
                replace ax21 : x21.toInt = x20.toInt + (i14 71 x42_1_4.toNatClampNeg).toInt := ax21
                refine lv_dup2_11 hx hb dX1_tallyTraces_71 rfl rfl ?_
                refine r_iald X hT 95 rfl (by decide) (v_in hx21 (by decide)) dX1_tallyTraces_72 ?_
                refine lv_iconst (v := 1) hx hb dX1_tallyTraces_73 (by decide) ?_
                refine q_iadd hx hb dX1_tallyTraces_74 (fun x22 ex22 => ?_)
                refine r_iast X hT hS 95 rfl (by decide) (v_in hx21 (by decide)) dX1_tallyTraces_75 (fun H locs i23 ei23 hT hS => ?_)
                have hR23 := Rg_put hR14 ei23 (-2147483648) 2147483647 rfl (rg_top x22) (by decide)
                have hF23 := Fr_puti hF14 ei23 (by decide)
                obtain ⟨x24, ex24⟩ : ∃ y : Int32, y = x42_1_4 + 1 := ⟨_, rfl⟩
                refine lv_iinc (v := x24) (lv' := [(4, .int x24), (0, .ref (h 93)), (1, .int a_a), (2, .ref (h 65)), (3, .int x10_3)]) hx hb dX1_tallyTraces_76 hl (k := 4) rfl (by rw [ex24]; rfl) (by decide) rfl (fun ls hl => ?_)
                obtain ⟨hx24, ax24⟩ := rg_add 1 13 ex24 h18 (rg_k (by decide) : rg 1 1 1) (by decide)
                replace ax24 : x24.toInt = x42_1_4.toInt + 1 := ax24
                refine lv_goto (tgt := 42) hx hb dX1_tallyTraces_79 (by decide) ?_
                exact ih15_ x24 i23 g14 _ _ _ (rg_w hx24 (by decide) : rg 0 13 x24) hR23 hF23 hT hS (lv_sub hl [1, 2, 3, 4, 0] rfl) (m_up ax24 hx24 (by decide) hm15_)
          exact L42_13 _ (0) i12 g12 _ _ _ (rg_w (rg_k (by decide) : rg 0 0 0) (by decide) : rg 0 13 0) hR12 hF12 hT hS (lv_sub hl [1, 2, 3, 4, 0] rfl) (Nat.lt_succ_self _)
  exact L10_2 _ (0) i1 g1 _ _ _ (rg_w (rg_k (by decide) : rg 0 0 0) (by decide) : rg 0 61 0) hR1 hF1 hT hS (lv_sub hl [1, 2, 3, 0] rfl) (Nat.lt_succ_self _)
set_option maxRecDepth 100000 in
set_option maxHeartbeats 4000000 in
theorem m_X1_worstIn_93 {l : Launch} {D : va_G} {h : Nat → Nat} {cz : Nat → ClassId} {z : EZ} {i : Nat → Nat → Int32} {g : Nat → Nat → Int64} (hR : Rg rA i) (a_a : Int32) (ha_a : rg 0 12 a_a) : DtI l yX1_worstIn cX1_worstIn 4 (some .int) ({ frames := 1, cells := 0, slots := 0, locals := 40 } : Room) D h cz z i g [.ref (h 93), .int a_a] (fun r u => u = (i, g) ∧ rg 0 2147483647 r) := by
  refine e_I pn_X1_worstIn (Nat.le_of_ble_eq_true rfl) ?_
  intro p e s m args below meth c ls Q X Y hret hT hl hS
  have hx := X.1
  have hb := X.2.1
  have hl : lv_has ls 4 [(0, .ref (h 93)), (1, .int a_a)] := hl
  refine lv_iconst (v := 0) hx hb dX1_worstIn_0 (by decide) ?_
  refine lv_istore_n (lv' := [(2, .int 0), (0, .ref (h 93)), (1, .int a_a)]) hx hb dX1_worstIn_1 rfl hl (by decide) rfl (fun ls hl => ?_)
  refine lv_iconst (v := 0) hx hb dX1_worstIn_2 (by decide) ?_
  refine lv_istore_n (lv' := [(3, .int 0), (2, .int 0), (0, .ref (h 93)), (1, .int a_a)]) hx hb dX1_worstIn_3 rfl hl (by decide) rfl (fun ls hl => ?_)
  have L4_1 : ∀ (n2_ : Nat) (x4_2 : Int32) (x4_3 : Int32) (H : Heap) (locs : List Loc) (ls : Array Slot), rg 0 2147483647 x4_2 → rg 0 100 x4_3 → TH D h cz i g H → va_S (hA h) s.heap H locs → lv_has ls 4 [(0, .ref (h 93)), (1, .int a_a), (2, .int x4_2), (3, .int x4_3)] → (100 - x4_3.toInt).toNat < n2_ → W p l e ({ frames := 1, cells := 0, slots := 0, locals := 40 } : Room) s m args below meth c H locs 0 0 Q (F0 m 4 ls []) := by
    intro n2_
    induction n2_ with
    | zero => intro x4_2 x4_3 H locs ls hhx4_2 hhx4_3 hT hS hl hm2_; exact absurd hm2_ (Nat.not_lt_zero _)
    | succ n2_ ih2_ =>
      intro x4_2 x4_3 H locs ls hhx4_2 hhx4_3 hT hS hl hm2_
      refine lv_iload_n hx hb dX1_worstIn_4 rfl (lv_at hl 3 rfl) ?_
      refine lv_bipush (v := 100) hx hb dX1_worstIn_5 (by decide) ?_
      refine lv_icmp_ge (tgt := 32) hx hb dX1_worstIn_7 (by decide) (fun c3 => ?_) (fun c3 => ?_)
      ·
        have q3 : 100 ≤ x4_3.toInt := i_le c3
        have h4 : rg 100 100 x4_3 := t_ley 100 100 (rg_k (by decide) : rg 100 100 100) hhx4_3 (i_le c3) (by decide)
        refine lv_iload_n hx hb dX1_worstIn_32 rfl (lv_at hl 2 rfl) ?_
        exact hret x4_2 _ _ _ _ _ _ dX1_worstIn_33 hT hS ⟨rfl, hhx4_2⟩
      ·
        have q3 : x4_3.toInt < 100 := i_nle c3
        have h5 : rg 0 99 x4_3 := t_ltx 0 99 hhx4_3 (rg_k (by decide) : rg 100 100 100) (i_nle c3) (by decide)
        refine lv_iload_n hx hb dX1_worstIn_10 rfl (lv_at hl 2 rfl) ?_
        refine lv_aload_n hx hb dX1_worstIn_11 rfl (lv_at hl 0 rfl) ?_
        refine r_getr X hT 93 3 95 fk_1_15 rfl rfl (by decide) dX1_worstIn_12 ?_
        refine lv_iload_n hx hb dX1_worstIn_15 rfl (lv_at hl 1 rfl) ?_
        refine lv_bipush (v := 100) hx hb dX1_worstIn_16 (by decide) ?_
        refine q_imul hx hb dX1_worstIn_18 (fun x6 ex6 => ?_)
        obtain ⟨hx6, ax6⟩ := rg_mul 0 1200 ex6 ha_a (rg_k (by decide) : rg 100 100 100) (by decide)
        replace ax6 : x6.toInt = a_a.toInt * 100 := ax6
        refine lv_iload_n hx hb dX1_worstIn_19 rfl (lv_at hl 3 rfl) ?_
        refine q_iadd hx hb dX1_worstIn_20 (fun x7 ex7 => ?_)
        obtain ⟨hx7, ax7⟩ := rg_add 0 1299 ex7 hx6 h5 (by decide)
        replace ax7 : x7.toInt = x6.toInt + x4_3.toInt := ax7
        refine r_iald X hT 95 rfl (by decide) (v_in hx7 (by decide)) dX1_worstIn_21 ?_
        refine e_mmax X hl.1 gm_1122 gm_782 gm_118 mw_e_mmax (Nat.le_of_ble_eq_true rfl) (Nat.le_of_ble_eq_true rfl) ⟨Nat.zero_le _, Nat.zero_le _⟩ dX1_worstIn_22 (fun x8 ex8 => ?_)
        have h9 : rg 0 2147483647 x8 := rg_mx ex8 hhx4_2 (rg_top (i 95 x7.toNatClampNeg)) (by decide)
        refine lv_istore_n (lv' := [(2, .int x8), (0, .ref (h 93)), (1, .int a_a), (3, .int x4_3)]) hx hb dX1_worstIn_25 rfl hl (by decide) rfl (fun ls hl => ?_)
        obtain ⟨x10, ex10⟩ : ∃ y : Int32, y = x4_3 + 1 := ⟨_, rfl⟩
        refine lv_iinc (v := x10) (lv' := [(3, .int x10), (2, .int x8), (0, .ref (h 93)), (1, .int a_a)]) hx hb dX1_worstIn_26 hl (k := 3) rfl (by rw [ex10]; rfl) (by decide) rfl (fun ls hl => ?_)
        obtain ⟨hx10, ax10⟩ := rg_add 1 100 ex10 h5 (rg_k (by decide) : rg 1 1 1) (by decide)
        replace ax10 : x10.toInt = x4_3.toInt + 1 := ax10
        refine lv_goto (tgt := 4) hx hb dX1_worstIn_29 (by decide) ?_
        exact ih2_ x8 x10 _ _ _ h9 (rg_w hx10 (by decide) : rg 0 100 x10) hT hS (lv_sub hl [2, 3, 1, 0] rfl) (m_up ax10 hx10 (by decide) hm2_)
  exact L4_1 _ (0) (0) _ _ _ (rg_w (rg_k (by decide) : rg 0 0 0) (by decide) : rg 0 2147483647 0) (rg_w (rg_k (by decide) : rg 0 0 0) (by decide) : rg 0 100 0) hT hS (lv_sub hl [2, 3, 1, 0] rfl) (Nat.lt_succ_self _)
set_option maxRecDepth 100000 in
set_option maxHeartbeats 4000000 in
theorem m_X1_choose_65 {l : Launch} {D : va_G} {h : Nat → Nat} {cz : Nat → ClassId} {z : EZ} {i : Nat → Nat → Int32} {g : Nat → Nat → Int64} (hR : Rg rA i) (a_a : Int32) (a_b : Int32) (ha_a : rg 0 3 a_a) (ha_b : rg 0 5 a_b) (hp0 : seenC i g a_a) : DtV l yX1_choose cX1_choose 6 none ({ frames := 6, cells := 0, slots := 0, locals := 163 } : Room) D h cz z i g [.ref (h 93), .int a_a, .int a_b, .ref (h 65)] (fun u => Rg rA u.1 ∧ Fr [71, 93, 94, 95] [] i g u) := by
  refine e_V pn_X1_choose (Nat.le_of_ble_eq_true rfl) ?_
  intro p e s m args below meth c ls Q X Y hret hT hl hS
  have hx := X.1
  have hb := X.2.1
  have hl : lv_has ls 6 [(0, .ref (h 93)), (1, .int a_a), (2, .int a_b), (3, .ref (h 65))] := hl
  have hF : Fr [71, 93, 94, 95] [] i g (i, g) := Fr_rf _ _ _ _
  refine lv_aload_n hx hb dX1_choose_0 rfl (lv_at hl 0 rfl) ?_
  refine lv_aload_n hx hb dX1_choose_1 rfl (lv_at hl 0 rfl) ?_
  refine lv_iload_n hx hb dX1_choose_2 rfl (lv_at hl 1 rfl) ?_
  refine lv_iload_n hx hb dX1_choose_3 rfl (lv_at hl 2 rfl) ?_
  refine lv_aload_n hx hb dX1_choose_4 rfl (lv_at hl 3 rfl) ?_
  refine e_Vi (As := [.int a_a, .int a_b, .ref (h 65)]) (rest := [.ref (h 93)]) X Y hT hS (m_X1_howMany_65 hR a_a a_b ha_a ha_b hp0) mk_X1_howMany gm_1112 rfl rfl (by decide) hd_X1_howMany ⟨rfl, rfl⟩ ⟨Nat.le_of_ble_eq_true rfl, Nat.le_of_ble_eq_true rfl⟩ hl.1 rfl (Nat.le_of_ble_eq_true rfl) dX1_choose_5 ⟨Nat.zero_le _, Nat.zero_le _⟩ (fun r1 i1 g1 H locs hq hT hS => ?_)
  obtain ⟨hR1, hf1⟩ := hq
  have hF1 := Fr_tr hF hf1 (by decide)
  have hN1 : seenC i1 g1 a_a := seenC_f hp0 hf1 (by decide) (by decide)
  refine r_puti X hT hS 93 5 pk_1_72 rfl rfl rfl rfl (by decide) dX1_choose_8 (fun H locs i2 ei2 hT hS => ?_)
  have hR2 := Rg_put hR1 ei2 (-2147483648) 2147483647 rfl (rg_top r1) (by decide)
  have hF2 := Fr_puti hF1 ei2 (by decide)
  have hN2 : seenC i2 g1 a_a := seenC_j hN1 ei2 (by decide)
  refine lv_aload_n hx hb dX1_choose_11 rfl (lv_at hl 0 rfl) ?_
  refine lv_iconst (v := (-1)) hx hb dX1_choose_12 (by decide) ?_
  refine r_puti X hT hS 93 4 pk_1_75 rfl rfl rfl rfl (by decide) dX1_choose_13 (fun H locs i3 ei3 hT hS => ?_)
  have hR3 := Rg_put hR2 ei3 (-2147483648) 2147483647 rfl (rg_k (by decide) : rg (-1) (-1) (-1)) (by decide)
  have hF3 := Fr_puti hF2 ei3 (by decide)
  have hN3 : seenC i3 g1 a_a := seenC_j hN2 ei3 (by decide)
  refine lv_aload_n hx hb dX1_choose_16 rfl (lv_at hl 0 rfl) ?_
  refine lv_iload_n hx hb dX1_choose_17 rfl (lv_at hl 2 rfl) ?_
  refine lv_aload_n hx hb dX1_choose_18 rfl (lv_at hl 3 rfl) ?_
  refine e_Vv (As := [.int a_b, .ref (h 65)]) (rest := []) X Y hT hS (m_X1_tallyTraces_93_65 hR3 a_b ha_b) mk_X1_tallyTraces gm_1113 rfl rfl (by decide) hd_X1_tallyTraces ⟨rfl, rfl⟩ ⟨Nat.le_of_ble_eq_true rfl, Nat.le_of_ble_eq_true rfl⟩ hl.1 rfl (Nat.le_of_ble_eq_true rfl) dX1_choose_19 ⟨Nat.zero_le _, Nat.zero_le _⟩ (fun i4 g4 H locs hq hT hS => ?_)
  obtain ⟨hR4, hf4⟩ := hq
  have hF4 := Fr_tr hF3 hf4 (by decide)
  have hN4 : seenC i4 g4 a_a := seenC_f hN3 hf4 (by decide) (by decide)
  refine lv_iconst (v := 0) hx hb dX1_choose_22 (by decide) ?_
  refine lv_istore (lv' := [(4, .int 0), (0, .ref (h 93)), (1, .int a_a), (2, .int a_b), (3, .ref (h 65))]) hx hb dX1_choose_23 hl (by decide) rfl (fun ls hl => ?_)
  have L25_5 : ∀ (n7_ : Nat) (x25_4 : Int32) (i6 : Nat → Nat → Int32) (g6 : Nat → Nat → Int64) (H : Heap) (locs : List Loc) (ls : Array Slot), rg 0 13 x25_4 → Rg rA i6 → Fr [71, 93, 94, 95] [] i g (i6, g6) → (seenC i6 g6 a_a) → TH D h cz i6 g6 H → va_S (hA h) s.heap H locs → lv_has ls 6 [(0, .ref (h 93)), (4, .int x25_4)] → (13 - x25_4.toInt).toNat < n7_ → W p l e ({ frames := 6, cells := 0, slots := 0, locals := 163 } : Room) s m args below meth c H locs 0 0 Q (F0 m 25 ls []) := by
    intro n7_
    induction n7_ with
    | zero => intro x25_4 i6 g6 H locs ls hhx25_4 hR6 hF6 hP6_0 hT hS hl hm7_; exact absurd hm7_ (Nat.not_lt_zero _)
    | succ n7_ ih7_ =>
      intro x25_4 i6 g6 H locs ls hhx25_4 hR6 hF6 hP6_0 hT hS hl hm7_
      refine lv_iload hx hb dX1_choose_25 (lv_at hl 1 rfl) ?_
      refine lv_aload_n hx hb dX1_choose_27 rfl (lv_at hl 0 rfl) ?_
      refine r_getr X hT 93 0 15 fk_1_19 rfl rfl (by decide) dX1_choose_28 ?_
      refine r_geti X hT 15 10 fk_1_43 rfl rfl (by decide) dX1_choose_31 ?_
      refine lv_icmp_gt (tgt := 72) hx hb dX1_choose_34 (by decide) (fun c8 => ?_) (fun c8 => ?_)
      ·
        have q8 : (i6 15 10).toInt < x25_4.toInt := i_lt c8
        exact hret _ _ _ _ _ _ dX1_choose_72 hT hS ⟨hR6, hF6⟩
      ·
        have q8 : x25_4.toInt ≤ (i6 15 10).toInt := i_nlt c8
        have h9 : rg 0 12 x25_4 := t_lex 0 12 hhx25_4 (Rg_at hR6 15 10 (-1) 12 (by decide) rfl) (i_nlt c8) (by decide)
        have h10 : rg 0 12 (i6 15 10) := t_ley 0 12 hhx25_4 (Rg_at hR6 15 10 (-1) 12 (by decide) rfl) (i_nlt c8) (by decide)
        refine lv_aload_n hx hb dX1_choose_37 rfl (lv_at hl 0 rfl) ?_
        refine lv_iload hx hb dX1_choose_38 (lv_at hl 1 rfl) ?_
        refine e_Vi (As := [.int x25_4]) (rest := []) X Y hT hS (m_X1_worstIn_93 hR6 x25_4 h9) mk_X1_worstIn gm_1118 rfl rfl (by decide) hd_X1_worstIn ⟨rfl, rfl⟩ ⟨Nat.le_of_ble_eq_true rfl, Nat.le_of_ble_eq_true rfl⟩ hl.1 rfl (Nat.le_of_ble_eq_true rfl) dX1_choose_40 ⟨Nat.zero_le _, Nat.zero_le _⟩ (fun r11 i11 g11 H locs hq hT hS => ?_)
        obtain ⟨eh11, hr11⟩ := hq
        rw [(Prod.mk.inj eh11).1, (Prod.mk.inj eh11).2] at hT
        refine lv_istore (lv' := [(5, .int r11), (0, .ref (h 93)), (4, .int x25_4)]) hx hb dX1_choose_43 hl (by decide) rfl (fun ls hl => ?_)
        refine lv_iload hx hb dX1_choose_45 (lv_at hl 0 rfl) ?_
        refine lv_aload_n hx hb dX1_choose_47 rfl (lv_at hl 1 rfl) ?_
        refine r_geti X hT 93 5 fk_1_72 rfl rfl (by decide) dX1_choose_48 ?_
        refine lv_icmp_ge (tgt := 66) hx hb dX1_choose_51 (by decide) (fun c12 => ?_) (fun c12 => ?_)
        ·
          have q12 : (i6 93 5).toInt ≤ r11.toInt := i_le c12
          obtain ⟨x13, ex13⟩ : ∃ y : Int32, y = x25_4 + 1 := ⟨_, rfl⟩
          refine lv_iinc (v := x13) (lv' := [(4, .int x13), (5, .int r11), (0, .ref (h 93))]) hx hb dX1_choose_66 hl (k := 2) rfl (by rw [ex13]; rfl) (by decide) rfl (fun ls hl => ?_)
          obtain ⟨hx13, ax13⟩ := rg_add 1 13 ex13 h9 (rg_k (by decide) : rg 1 1 1) (by decide)
          replace ax13 : x13.toInt = x25_4.toInt + 1 := ax13
          refine lv_goto (tgt := 25) hx hb dX1_choose_69 (by decide) ?_
          exact ih7_ x13 i6 g6 _ _ _ (rg_w hx13 (by decide) : rg 0 13 x13) hR6 hF6 hP6_0 hT hS (lv_sub hl [2, 0] rfl) (m_up ax13 hx13 (by decide) hm7_)
        ·
          have q12 : r11.toInt < (i6 93 5).toInt := i_nle c12
          have h14 : rg 0 2147483646 r11 := t_ltx 0 2147483646 hr11 (rg_top (i6 93 5)) (i_nle c12) (by decide)
          have h15 : rg 1 2147483647 (i6 93 5) := t_lty 1 2147483647 hr11 (rg_top (i6 93 5)) (i_nle c12) (by decide)
          refine lv_aload_n hx hb dX1_choose_54 rfl (lv_at hl 1 rfl) ?_
          refine lv_iload hx hb dX1_choose_55 (lv_at hl 0 rfl) ?_
          refine r_puti X hT hS 93 5 pk_1_72 rfl rfl rfl rfl (by decide) dX1_choose_57 (fun H locs i16 ei16 hT hS => ?_)
          have hR16 := Rg_put hR6 ei16 (-2147483648) 2147483647 rfl h14 (by decide)
          have hF16 := Fr_puti hF6 ei16 (by decide)
          have hN16 : seenC i16 g6 a_a := seenC_j hP6_0 ei16 (by decide)
          refine lv_aload_n hx hb dX1_choose_60 rfl (lv_at hl 1 rfl) ?_
          refine lv_iload hx hb dX1_choose_61 (lv_at hl 2 rfl) ?_
          refine r_puti X hT hS 93 4 pk_1_75 rfl rfl rfl rfl (by decide) dX1_choose_63 (fun H locs i17 ei17 hT hS => ?_)
          have hR17 := Rg_put hR16 ei17 (-2147483648) 2147483647 rfl h9 (by decide)
          have hF17 := Fr_puti hF16 ei17 (by decide)
          have hN17 : seenC i17 g6 a_a := seenC_j hN16 ei17 (by decide)
          obtain ⟨x18, ex18⟩ : ∃ y : Int32, y = x25_4 + 1 := ⟨_, rfl⟩
          refine lv_iinc (v := x18) (lv' := [(4, .int x18), (5, .int r11), (0, .ref (h 93))]) hx hb dX1_choose_66 hl (k := 2) rfl (by rw [ex18]; rfl) (by decide) rfl (fun ls hl => ?_)
          obtain ⟨hx18, ax18⟩ := rg_add 1 13 ex18 h9 (rg_k (by decide) : rg 1 1 1) (by decide)
          replace ax18 : x18.toInt = x25_4.toInt + 1 := ax18
          refine lv_goto (tgt := 25) hx hb dX1_choose_69 (by decide) ?_
          exact ih7_ x18 i17 g6 _ _ _ (rg_w hx18 (by decide) : rg 0 13 x18) hR17 hF17 hN17 hT hS (lv_sub hl [2, 0] rfl) (m_up ax18 hx18 (by decide) hm7_)
  exact L25_5 _ (0) i4 g4 _ _ _ (rg_w (rg_k (by decide) : rg 0 0 0) (by decide) : rg 0 13 0) hR4 hF4 hN4 hT hS (lv_sub hl [1, 0] rfl) (Nat.lt_succ_self _)
set_option maxRecDepth 100000 in
set_option maxHeartbeats 4000000 in
theorem m_X8_ask {l : Launch} {D : va_G} {h : Nat → Nat} {cz : Nat → ClassId} {z : EZ} {i : Nat → Nat → Int32} {g : Nat → Nat → Int64} (hR : Rg rA i) (a_a : Int32) (a_b : Int32) : DtI l yX8_ask cX8_ask 4 (some .int) ({ frames := 7, cells := 0, slots := 0, locals := 188 } : Room) D h cz z i g [.ref (h 0), .int a_a, .int a_b] (fun r u => Rg rA u.1 ∧ Fr [0, 65, 66, 67, 68, 69, 70, 71, 93, 94, 95] [] i g u) := by
  refine e_I pn_X8_ask (Nat.le_of_ble_eq_true rfl) ?_
  intro p e s m args below meth c ls Q X Y hret hT hl hS
  have hx := X.1
  have hb := X.2.1
  have hl : lv_has ls 4 [(0, .ref (h 0)), (1, .int a_a), (2, .int a_b)] := hl
  have hF : Fr [0, 65, 66, 67, 68, 69, 70, 71, 93, 94, 95] [] i g (i, g) := Fr_rf _ _ _ _
  refine lv_aload_n hx hb dX8_ask_0 rfl (lv_at hl 0 rfl) ?_
  refine lv_iload_n hx hb dX8_ask_1 rfl (lv_at hl 1 rfl) ?_
  refine lv_iload_n hx hb dX8_ask_2 rfl (lv_at hl 2 rfl) ?_
  refine e_Vi (As := [.int a_a, .int a_b]) (rest := []) X Y hT hS (m_X8_refuseSeenOf hR a_a a_b) mk_X8_refuseSeenOf gm_1048 rfl rfl (by decide) hd_X8_refuseSeenOf ⟨rfl, rfl⟩ ⟨Nat.le_of_ble_eq_true rfl, Nat.le_of_ble_eq_true rfl⟩ hl.1 rfl (Nat.le_of_ble_eq_true rfl) dX8_ask_3 ⟨Nat.zero_le _, Nat.zero_le _⟩ (fun r1 i1 g1 H locs hq hT hS => ?_)
  rcases hq with hq | hq
  ·
    obtain ⟨eh1, rfl, hp1_0, hf1_0, hf1_1⟩ := hq
    rw [(Prod.mk.inj eh1).1, (Prod.mk.inj eh1).2] at hT
    replace hp1_0 : seenC i g a_a := by rw [eh1] at hp1_0; exact hp1_0
    have h2 : rg 0 3 a_a := ⟨by have := (rg_top a_a).1; have := hf1_0.1; omega, by have := (rg_top a_a).2; have := hf1_0.2; omega⟩
    have h3 : rg 0 5 a_b := ⟨by have := (rg_top a_b).1; have := hf1_1.1; omega, by have := (rg_top a_b).2; have := hf1_1.2; omega⟩
    refine lv_istore_n (lv' := [(3, .int 0), (0, .ref (h 0)), (1, .int a_a), (2, .int a_b)]) hx hb dX8_ask_6 rfl hl (by decide) rfl (fun ls hl => ?_)
    refine lv_iload_n hx hb dX8_ask_7 rfl (lv_at hl 0 rfl) ?_
    refine lv_if_eq (tgt := 13) hx hb dX8_ask_8 (by decide) (fun c4 => ?_) (fun c4 => (x_ne (rg_k (by decide) : rg 0 0 0) (rg_k (by decide) : rg 0 0 0) (i_ne c4) (by decide)).elim)
    refine lv_aload_n hx hb dX8_ask_13 rfl (lv_at hl 1 rfl) ?_
    refine r_getr X hT 0 11 93 fk_8_83 rfl rfl (by decide) dX8_ask_14 ?_
    refine lv_iload_n hx hb dX8_ask_17 rfl (lv_at hl 2 rfl) ?_
    refine lv_iload_n hx hb dX8_ask_18 rfl (lv_at hl 3 rfl) ?_
    refine lv_aload_n hx hb dX8_ask_19 rfl (lv_at hl 1 rfl) ?_
    refine e_Vr (As := []) (rest := [.int a_b, .int a_a, .ref (h 93)]) X Y hT hS (m_X8_current hR) mk_X8_current gm_736 rfl rfl (by decide) hd_X8_current ⟨rfl, rfl⟩ ⟨Nat.le_of_ble_eq_true rfl, Nat.le_of_ble_eq_true rfl⟩ hl.1 rfl (Nat.le_of_ble_eq_true rfl) dX8_ask_20 ⟨Nat.zero_le _, Nat.zero_le _⟩ (fun i5 g5 H locs hq hT hS => ?_)
    obtain ⟨hR5, hf5⟩ := hq
    have hF5 := Fr_tr hF hf5 (by decide)
    have hN5 : seenC i5 g5 a_a := seenC_f hp1_0 hf5 (by decide) (by decide)
    refine e_Vv (As := [.int a_a, .int a_b, .ref (h 65)]) (rest := []) X Y hT hS (m_X1_choose_65 hR5 a_a a_b h2 h3 hN5) mk_X1_choose gm_1108 rfl rfl (by decide) hd_X1_choose ⟨rfl, rfl⟩ ⟨Nat.le_of_ble_eq_true rfl, Nat.le_of_ble_eq_true rfl⟩ hl.1 rfl (Nat.le_of_ble_eq_true rfl) dX8_ask_23 ⟨Nat.zero_le _, Nat.zero_le _⟩ (fun i6 g6 H locs hq hT hS => ?_)
    obtain ⟨hR6, hf6⟩ := hq
    have hF6 := Fr_tr hF5 hf6 (by decide)
    have hN6 : seenC i6 g6 a_a := seenC_f hN5 hf6 (by decide) (by decide)
    refine lv_aload_n hx hb dX8_ask_26 rfl (lv_at hl 1 rfl) ?_
    refine r_getr X hT 0 11 93 fk_8_83 rfl rfl (by decide) dX8_ask_27 ?_
    refine r_geti X hT 93 4 fk_8_306 rfl rfl (by decide) dX8_ask_30 ?_
    exact hret (i6 93 4) _ _ _ _ _ _ dX8_ask_33 hT hS ⟨hR6, hF6⟩
  ·
    obtain ⟨eh1, hr1⟩ := hq
    rw [(Prod.mk.inj eh1).1, (Prod.mk.inj eh1).2] at hT
    refine lv_istore_n (lv' := [(3, .int r1), (0, .ref (h 0)), (1, .int a_a), (2, .int a_b)]) hx hb dX8_ask_6 rfl hl (by decide) rfl (fun ls hl => ?_)
    refine lv_iload_n hx hb dX8_ask_7 rfl (lv_at hl 0 rfl) ?_
    refine lv_if_eq (tgt := 13) hx hb dX8_ask_8 (by decide) (fun c7 => (x_eq hr1 (rg_k (by decide) : rg 0 0 0) (i_eq c7) (by decide)).elim) (fun c7 => ?_)
    have q7 : ¬ r1.toInt = 0 := i_ne c7
    refine lv_iload_n hx hb dX8_ask_11 rfl (lv_at hl 0 rfl) ?_
    exact hret r1 _ _ _ _ _ _ dX8_ask_12 hT hS ⟨hR, hF⟩
