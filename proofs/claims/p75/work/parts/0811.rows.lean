set_option maxRecDepth 100000 in
set_option maxHeartbeats 4000000 in
theorem m_X9_cuts {l : Launch} {D : va_G} {h : Nat → Nat} {cz : Nat → ClassId} {z : EZ} {i : Nat → Nat → Int32} {g : Nat → Nat → Int64} (hR : Rg rA i) (a_a : Int32) (a_b : Int32) (a_c : Int32) (ha_a : rg 0 5 a_a) (ha_b : rg 0 11 a_b) : DtV l yX9_cuts cX9_cuts 4 none ({ frames := 2, cells := 0, slots := 0, locals := 44 } : Room) D h cz z i g [.ref (h 96), .int a_a, .int a_b, .int a_c] (fun u => Rg rA u.1 ∧ Fr [96, 113, 114, 115] [] i g u) := by
  refine e_V pn_X9_cuts (Nat.le_of_ble_eq_true rfl) ?_
  intro p e s m args below meth c ls Q X Y hret hT hl hS
  have hx := X.1
  have hb := X.2.1
  have hl : lv_has ls 4 [(0, .ref (h 96)), (1, .int a_a), (2, .int a_b), (3, .int a_c)] := hl
  have hF : Fr [96, 113, 114, 115] [] i g (i, g) := Fr_rf _ _ _ _
  refine lv_aload_n hx hb dX9_cuts_0 rfl (lv_at hl 0 rfl) ?_
  refine r_geti X hT 96 36 fk_9_276 rfl rfl (by decide) dX9_cuts_1 ?_
  refine lv_iload_n hx hb dX9_cuts_4 rfl (lv_at hl 1 rfl) ?_
  refine e_Si (As := [.int (i 96 36), .int a_a]) (rest := []) X Y hT hS (m_X9_isBit (i 96 36) a_a) sk_X9_isBit gm_1670 hd_X9_isBit ⟨rfl, rfl⟩ ⟨Nat.le_of_ble_eq_true rfl, Nat.le_of_ble_eq_true rfl⟩ hl.1 rfl (Nat.le_of_ble_eq_true rfl) dX9_cuts_5 ⟨Nat.zero_le _, Nat.zero_le _⟩ (fun r1 i1 g1 H locs hq hT hS => ?_)
  rcases hq with hq | hq
  ·
    obtain ⟨eh1, rfl, hf1_0⟩ := hq
    rw [(Prod.mk.inj eh1).1, (Prod.mk.inj eh1).2] at hT
    replace hf1_0 : ((((i 96 36) : Int32) >>> ((a_a : Int32) &&& 31)) &&& 1 = 1) := hf1_0
    refine lv_if_eq (tgt := 12) hx hb dX9_cuts_8 (by decide) (fun c2 => (x_eq (rg_k (by decide) : rg 1 1 1) (rg_k (by decide) : rg 0 0 0) (i_eq c2) (by decide)).elim) (fun c2 => ?_)
    exact hret _ _ _ _ _ _ dX9_cuts_11 hT hS ⟨hR, hF⟩
  ·
    obtain ⟨eh1, rfl, hf1_0⟩ := hq
    rw [(Prod.mk.inj eh1).1, (Prod.mk.inj eh1).2] at hT
    replace hf1_0 : ¬ ((((i 96 36) : Int32) >>> ((a_a : Int32) &&& 31)) &&& 1 = 1) := hf1_0
    refine lv_if_eq (tgt := 12) hx hb dX9_cuts_8 (by decide) (fun c3 => ?_) (fun c3 => (x_ne (rg_k (by decide) : rg 0 0 0) (rg_k (by decide) : rg 0 0 0) (i_ne c3) (by decide)).elim)
    refine lv_iload_n hx hb dX9_cuts_12 rfl (lv_at hl 3 rfl) ?_
    refine lv_iconst (v := (-1)) hx hb dX9_cuts_13 (by decide) ?_
    have J29_5 : ∀  (i6 : Nat → Nat → Int32) (H : Heap) (locs : List Loc) (ls : Array Slot), Rg rA i6 → Fr [96, 113, 114, 115] [] i g (i6, g) → TH D h cz i6 g H → va_S (hA h) s.heap H locs → lv_has ls 4 [(0, .ref (h 96)), (1, .int a_a), (2, .int a_b)] → W p l e ({ frames := 2, cells := 0, slots := 0, locals := 44 } : Room) s m args below meth c H locs 0 0 Q (F0 m 29 ls []) := by
      intro  i6 H locs ls hR6 hF6 hT hS hl
      refine lv_aload_n hx hb dX9_cuts_29 rfl (lv_at hl 0 rfl) ?_
      refine lv_iload_n hx hb dX9_cuts_30 rfl (lv_at hl 1 rfl) ?_
      refine lv_iload_n hx hb dX9_cuts_31 rfl (lv_at hl 2 rfl) ?_
      refine lv_iconst (v := 1) hx hb dX9_cuts_32 (by decide) ?_
      refine e_Vv (As := [.int a_a, .int a_b, .int 1]) (rest := []) X Y hT hS (m_X9_opens0 hR6 a_a a_b (1) ha_a ha_b) mk_X9_opens0 gm_1720 rfl rfl (by decide) hd_X9_opens0 ⟨rfl, rfl⟩ ⟨Nat.le_of_ble_eq_true rfl, Nat.le_of_ble_eq_true rfl⟩ hl.1 rfl (Nat.le_of_ble_eq_true rfl) dX9_cuts_33 ⟨Nat.zero_le _, Nat.zero_le _⟩ (fun i7 g7 H locs hq hT hS => ?_)
      obtain ⟨hR7, hf7, hf7_0⟩ := hq
      have hF7 := Fr_tr hF6 hf7 (by decide)
      replace hf7_0 : i7 96 36 = i6 96 36 ||| (1 <<< (a_a &&& 31)) := hf7_0
      exact hret _ _ _ _ _ _ dX9_cuts_36 hT hS ⟨hR7, hF7⟩
    refine lv_icmp_eq (tgt := 29) hx hb dX9_cuts_14 (by decide) (fun c4 => ?_) (fun c4 => ?_)
    ·
      have q4 : a_c.toInt = (-1) := i_eq c4
      have h8 : rg (-1) (-1) a_c := t_eqx (-1) (-1) (rg_top a_c) (rg_k (by decide) : rg (-1) (-1) (-1)) (i_eq c4) (by decide)
      exact J29_5 i _ _ _ hR hF hT hS (lv_sub hl [0, 1, 2] rfl)
    ·
      have q4 : ¬ a_c.toInt = (-1) := i_ne c4
      refine lv_aload_n hx hb dX9_cuts_17 rfl (lv_at hl 0 rfl) ?_
      refine lv_dup hx hb dX9_cuts_18 rfl ?_
      refine r_geti X hT 96 35 fk_9_285 rfl rfl (by decide) dX9_cuts_19 ?_
      refine lv_iconst (v := 1) hx hb dX9_cuts_22 (by decide) ?_
      refine lv_iload_n hx hb dX9_cuts_23 rfl (lv_at hl 3 rfl) ?_
      refine q_ishl hx hb dX9_cuts_24 (fun x9 ex9 => ?_)
      refine q_ior hx hb dX9_cuts_25 (fun x10 ex10 => ?_)
      refine r_puti X hT hS 96 35 pk_9_285 rfl rfl rfl rfl (by decide) dX9_cuts_26 (fun H locs i11 ei11 hT hS => ?_)
      have hR11 := Rg_put hR ei11 (-2147483648) 2147483647 rfl (rg_top x10) (by decide)
      have hF11 := Fr_puti hF ei11 (by decide)
      exact J29_5 i11 _ _ _ hR11 hF11 hT hS (lv_sub hl [0, 1, 2] rfl)
set_option maxRecDepth 100000 in
set_option maxHeartbeats 4000000 in
theorem m_X9_knivesOf {l : Launch} {D : va_G} {h : Nat → Nat} {cz : Nat → ClassId} {z : EZ} {i : Nat → Nat → Int32} {g : Nat → Nat → Int64} (hR : Rg rA i) (a_a : Int32) (ha_a : rg 0 11 a_a) : DtV l yX9_knivesOf cX9_knivesOf 4 none ({ frames := 3, cells := 0, slots := 0, locals := 67 } : Room) D h cz z i g [.ref (h 96), .int a_a] (fun u => Rg rA u.1 ∧ Fr [96, 113, 114, 115] [] i g u) := by
  refine e_V pn_X9_knivesOf (Nat.le_of_ble_eq_true rfl) ?_
  intro p e s m args below meth c ls Q X Y hret hT hl hS
  have hx := X.1
  have hb := X.2.1
  have hl : lv_has ls 4 [(0, .ref (h 96)), (1, .int a_a)] := hl
  have hF : Fr [96, 113, 114, 115] [] i g (i, g) := Fr_rf _ _ _ _
  refine lv_aload_n hx hb dX9_knivesOf_0 rfl (lv_at hl 0 rfl) ?_
  refine r_geti X hT 96 27 fk_9_272 rfl rfl (by decide) dX9_knivesOf_1 ?_
  refine lv_if_eq (tgt := 44) hx hb dX9_knivesOf_4 (by decide) (fun c1 => ?_) (fun c1 => ?_)
  ·
    have q1 : (i 96 27).toInt = 0 := i_eq c1
    have h2 : rg 0 0 (i 96 27) := t_eqx 0 0 (Rg_at hR 96 27 0 1 (by decide) rfl) (rg_k (by decide) : rg 0 0 0) (i_eq c1) (by decide)
    refine lv_iconst (v := 0) hx hb dX9_knivesOf_44 (by decide) ?_
    refine lv_istore_n (lv' := [(2, .int 0), (0, .ref (h 96)), (1, .int a_a)]) hx hb dX9_knivesOf_45 rfl hl (by decide) rfl (fun ls hl => ?_)
    have L46_3 : ∀ (n5_ : Nat) (x46_2 : Int32) (i4 : Nat → Nat → Int32) (g4 : Nat → Nat → Int64) (H : Heap) (locs : List Loc) (ls : Array Slot), rg 0 8 x46_2 → Rg rA i4 → Fr [96, 113, 114, 115] [] i g (i4, g4) → TH D h cz i4 g4 H → va_S (hA h) s.heap H locs → lv_has ls 4 [(0, .ref (h 96)), (1, .int a_a), (2, .int x46_2)] → (8 - x46_2.toInt).toNat < n5_ → W p l e ({ frames := 3, cells := 0, slots := 0, locals := 67 } : Room) s m args below meth c H locs 0 0 Q (F0 m 46 ls []) := by
      intro n5_
      induction n5_ with
      | zero => intro x46_2 i4 g4 H locs ls hhx46_2 hR4 hF4 hT hS hl hm5_; exact absurd hm5_ (Nat.not_lt_zero _)
      | succ n5_ ih5_ =>
        intro x46_2 i4 g4 H locs ls hhx46_2 hR4 hF4 hT hS hl hm5_
        refine lv_iload_n hx hb dX9_knivesOf_46 rfl (lv_at hl 2 rfl) ?_
        refine lv_aload_n hx hb dX9_knivesOf_47 rfl (lv_at hl 0 rfl) ?_
        refine r_getr X hT 96 17 103 fk_9_34 rfl rfl (by decide) dX9_knivesOf_48 ?_
        refine lv_iconst (v := 5) hx hb dX9_knivesOf_51 (by decide) ?_
        refine r_ialdc X hT 103 5 rfl (by decide) (v_in (rg_k (by decide) : rg 5 5 5) (by decide)) (by decide) dX9_knivesOf_52 ?_
        refine lv_icmp_ge (tgt := 101) hx hb dX9_knivesOf_53 (by decide) (fun c6 => ?_) (fun c6 => ?_)
        ·
          have q6 : (i4 103 5).toInt ≤ x46_2.toInt := i_le c6
          refine lv_aload_n hx hb dX9_knivesOf_101 rfl (lv_at hl 0 rfl) ?_
          refine r_getr X hT 96 17 103 fk_9_34 rfl rfl (by decide) dX9_knivesOf_102 ?_
          refine lv_iconst (v := 5) hx hb dX9_knivesOf_105 (by decide) ?_
          refine r_ialdc X hT 103 5 rfl (by decide) (v_in (rg_k (by decide) : rg 5 5 5) (by decide)) (by decide) dX9_knivesOf_106 ?_
          refine lv_istore_n (lv' := [(2, .int (i4 103 5)), (0, .ref (h 96)), (1, .int a_a)]) hx hb dX9_knivesOf_107 rfl hl (by decide) rfl (fun ls hl => ?_)
          refine lv_iconst (v := 0) hx hb dX9_knivesOf_108 (by decide) ?_
          refine lv_istore_n (lv' := [(3, .int 0), (2, .int (i4 103 5)), (0, .ref (h 96)), (1, .int a_a)]) hx hb dX9_knivesOf_109 rfl hl (by decide) rfl (fun ls hl => ?_)
          have L110_7 : ∀ (n9_ : Nat) (x110_1_2 : Int32) (x110_1_3 : Int32) (i8 : Nat → Nat → Int32) (g8 : Nat → Nat → Int64) (H : Heap) (locs : List Loc) (ls : Array Slot), rg 0 20 x110_1_3 → Rg rA i8 → Fr [96, 113, 114, 115] [] i g (i8, g8) → TH D h cz i8 g8 H → va_S (hA h) s.heap H locs → lv_has ls 4 [(0, .ref (h 96)), (1, .int a_a), (2, .int x110_1_2), (3, .int x110_1_3)] → (20 - x110_1_3.toInt).toNat < n9_ → W p l e ({ frames := 3, cells := 0, slots := 0, locals := 67 } : Room) s m args below meth c H locs 0 0 Q (F0 m 110 ls []) := by
            intro n9_
            induction n9_ with
            | zero => intro x110_1_2 x110_1_3 i8 g8 H locs ls hhx110_1_3 hR8 hF8 hT hS hl hm9_; exact absurd hm9_ (Nat.not_lt_zero _)
            | succ n9_ ih9_ =>
              intro x110_1_2 x110_1_3 i8 g8 H locs ls hhx110_1_3 hR8 hF8 hT hS hl hm9_
              refine lv_iload_n hx hb dX9_knivesOf_110 rfl (lv_at hl 3 rfl) ?_
              refine lv_aload_n hx hb dX9_knivesOf_111 rfl (lv_at hl 0 rfl) ?_
              refine r_getr X hT 96 17 103 fk_9_34 rfl rfl (by decide) dX9_knivesOf_112 ?_
              refine lv_bipush (v := 6) hx hb dX9_knivesOf_115 (by decide) ?_
              refine r_ialdc X hT 103 6 rfl (by decide) (v_in (rg_k (by decide) : rg 6 6 6) (by decide)) (by decide) dX9_knivesOf_117 ?_
              refine lv_icmp_ge (tgt := 174) hx hb dX9_knivesOf_118 (by decide) (fun c10 => ?_) (fun c10 => ?_)
              ·
                have q10 : (i8 103 6).toInt ≤ x110_1_3.toInt := i_le c10
                exact hret _ _ _ _ _ _ dX9_knivesOf_174 hT hS ⟨hR8, hF8⟩
              ·
                have q10 : x110_1_3.toInt < (i8 103 6).toInt := i_nle c10
                have h11 : rg 0 19 x110_1_3 := t_ltx 0 19 hhx110_1_3 (Rg_at hR8 103 6 0 20 (by decide) rfl) (i_nle c10) (by decide)
                have h12 : rg 1 20 (i8 103 6) := t_lty 1 20 hhx110_1_3 (Rg_at hR8 103 6 0 20 (by decide) rfl) (i_nle c10) (by decide)
                refine lv_aload_n hx hb dX9_knivesOf_121 rfl (lv_at hl 0 rfl) ?_
                refine r_getr X hT 96 21 107 fk_9_46 rfl rfl (by decide) dX9_knivesOf_122 ?_
                refine lv_iconst (v := 3) hx hb dX9_knivesOf_125 (by decide) ?_
                refine lv_iload_n hx hb dX9_knivesOf_126 rfl (lv_at hl 3 rfl) ?_
                refine q_imul hx hb dX9_knivesOf_127 (fun x13 ex13 => ?_)
                obtain ⟨hx13, ax13⟩ := rg_mul 0 57 ex13 (rg_k (by decide) : rg 3 3 3) h11 (by decide)
                replace ax13 : x13.toInt = 3 * x110_1_3.toInt := ax13
                refine r_iald X hT 107 rfl (by decide) (v_in hx13 (by decide)) dX9_knivesOf_128 ?_
                have h14 : rg 0 1 (i8 107 x13.toNatClampNeg) := Rg_ata hR8 107 x13.toNatClampNeg 0 1 (v_lt (v_in hx13 (by decide))) (aff_at (m := 3) (a := 0) (n := 20) (c := 0) (by decide) (v := x110_1_3.toInt) ⟨by have := h11.1; omega, by have := h11.2; omega⟩ (by have := ax13; omega))
                refine lv_if_eq (tgt := 135) hx hb dX9_knivesOf_129 (by decide) (fun c15 => ?_) (fun c15 => ?_)
                ·
                  have q15 : (i8 107 x13.toNatClampNeg).toInt = 0 := i_eq c15
                  have h16 : rg 0 0 (i8 107 x13.toNatClampNeg) := t_eqx 0 0 h14 (rg_k (by decide) : rg 0 0 0) (i_eq c15) (by decide)
                  refine lv_aload_n hx hb dX9_knivesOf_135 rfl (lv_at hl 0 rfl) ?_
                  refine r_getr X hT 96 21 107 fk_9_46 rfl rfl (by decide) dX9_knivesOf_136 ?_
                  refine lv_iconst (v := 3) hx hb dX9_knivesOf_139 (by decide) ?_
                  refine lv_iload_n hx hb dX9_knivesOf_140 rfl (lv_at hl 3 rfl) ?_
                  refine q_imul hx hb dX9_knivesOf_141 (fun x17 ex17 => ?_)
                  obtain ⟨hx17, ax17⟩ := rg_mul 0 57 ex17 (rg_k (by decide) : rg 3 3 3) h11 (by decide)
                  replace ax17 : x17.toInt = 3 * x110_1_3.toInt := ax17
                  refine lv_iconst (v := 2) hx hb dX9_knivesOf_142 (by decide) ?_
                  refine q_iadd hx hb dX9_knivesOf_143 (fun x18 ex18 => ?_)
                  obtain ⟨hx18, ax18⟩ := rg_add 2 59 ex18 hx17 (rg_k (by decide) : rg 2 2 2) (by decide)
                  replace ax18 : x18.toInt = x17.toInt + 2 := ax18
                  refine r_iald X hT 107 rfl (by decide) (v_in hx18 (by decide)) dX9_knivesOf_144 ?_
                  have h19 : rg 0 11 (i8 107 x18.toNatClampNeg) := Rg_ata hR8 107 x18.toNatClampNeg 0 11 (v_lt (v_in hx18 (by decide))) (aff_at (m := 3) (a := 0) (n := 20) (c := 2) (by decide) (v := x110_1_3.toInt) ⟨by have := h11.1; omega, by have := h11.2; omega⟩ (by have := ax17; have := ax18; omega))
                  refine lv_iload_n hx hb dX9_knivesOf_145 rfl (lv_at hl 1 rfl) ?_
                  refine lv_icmp_ne (tgt := 165) hx hb dX9_knivesOf_146 (by decide) (fun c20 => ?_) (fun c20 => ?_)
                  ·
                    have q20 : ¬ (i8 107 x18.toNatClampNeg).toInt = a_a.toInt := i_ne c20
                    obtain ⟨x21, ex21⟩ : ∃ y : Int32, y = x110_1_2 + 1 := ⟨_, rfl⟩
                    refine lv_iinc (v := x21) (lv' := [(2, .int x21), (0, .ref (h 96)), (1, .int a_a), (3, .int x110_1_3)]) hx hb dX9_knivesOf_165 hl (k := 2) rfl (by rw [ex21]; rfl) (by decide) rfl (fun ls hl => ?_)
                    obtain ⟨x22, ex22⟩ : ∃ y : Int32, y = x110_1_3 + 1 := ⟨_, rfl⟩
                    refine lv_iinc (v := x22) (lv' := [(3, .int x22), (2, .int x21), (0, .ref (h 96)), (1, .int a_a)]) hx hb dX9_knivesOf_168 hl (k := 3) rfl (by rw [ex22]; rfl) (by decide) rfl (fun ls hl => ?_)
                    obtain ⟨hx22, ax22⟩ := rg_add 1 20 ex22 h11 (rg_k (by decide) : rg 1 1 1) (by decide)
                    replace ax22 : x22.toInt = x110_1_3.toInt + 1 := ax22
                    refine lv_goto (tgt := 110) hx hb dX9_knivesOf_171 (by decide) ?_
                    exact ih9_ x21 x22 i8 g8 _ _ _ (rg_w hx22 (by decide) : rg 0 20 x22) hR8 hF8 hT hS (lv_sub hl [2, 3, 1, 0] rfl) (m_up ax22 hx22 (by decide) hm9_)
                  ·
                    have q20 : (i8 107 x18.toNatClampNeg).toInt = a_a.toInt := i_eq c20
                    refine lv_aload_n hx hb dX9_knivesOf_149 rfl (lv_at hl 0 rfl) ?_
                    refine lv_aload_n hx hb dX9_knivesOf_150 rfl (lv_at hl 0 rfl) ?_
                    refine r_getr X hT 96 21 107 fk_9_46 rfl rfl (by decide) dX9_knivesOf_151 ?_
                    refine lv_iconst (v := 3) hx hb dX9_knivesOf_154 (by decide) ?_
                    refine lv_iload_n hx hb dX9_knivesOf_155 rfl (lv_at hl 3 rfl) ?_
                    refine q_imul hx hb dX9_knivesOf_156 (fun x23 ex23 => ?_)
                    obtain ⟨hx23, ax23⟩ := rg_mul 0 57 ex23 (rg_k (by decide) : rg 3 3 3) h11 (by decide)
                    replace ax23 : x23.toInt = 3 * x110_1_3.toInt := ax23
                    refine lv_iconst (v := 1) hx hb dX9_knivesOf_157 (by decide) ?_
                    refine q_iadd hx hb dX9_knivesOf_158 (fun x24 ex24 => ?_)
                    obtain ⟨hx24, ax24⟩ := rg_add 1 58 ex24 hx23 (rg_k (by decide) : rg 1 1 1) (by decide)
                    replace ax24 : x24.toInt = x23.toInt + 1 := ax24
                    refine r_iald X hT 107 rfl (by decide) (v_in hx24 (by decide)) dX9_knivesOf_159 ?_
                    have h25 : rg 0 5 (i8 107 x24.toNatClampNeg) := Rg_ata hR8 107 x24.toNatClampNeg 0 5 (v_lt (v_in hx24 (by decide))) (aff_at (m := 3) (a := 0) (n := 20) (c := 1) (by decide) (v := x110_1_3.toInt) ⟨by have := h11.1; omega, by have := h11.2; omega⟩ (by have := ax23; have := ax24; omega))
                    refine lv_iload_n hx hb dX9_knivesOf_160 rfl (lv_at hl 1 rfl) ?_
                    refine lv_iload_n hx hb dX9_knivesOf_161 rfl (lv_at hl 2 rfl) ?_
                    refine e_Vv (As := [.int (i8 107 x24.toNatClampNeg), .int a_a, .int x110_1_2]) (rest := []) X Y hT hS (m_X9_cuts hR8 (i8 107 x24.toNatClampNeg) a_a x110_1_2 h25 ha_a) mk_X9_cuts gm_1716 rfl rfl (by decide) hd_X9_cuts ⟨rfl, rfl⟩ ⟨Nat.le_of_ble_eq_true rfl, Nat.le_of_ble_eq_true rfl⟩ hl.1 rfl (Nat.le_of_ble_eq_true rfl) dX9_knivesOf_162 ⟨Nat.zero_le _, Nat.zero_le _⟩ (fun i26 g26 H locs hq hT hS => ?_)
                    obtain ⟨hR26, hf26⟩ := hq
                    have hF26 := Fr_tr hF8 hf26 (by decide)
                    obtain ⟨x27, ex27⟩ : ∃ y : Int32, y = x110_1_2 + 1 := ⟨_, rfl⟩
                    refine lv_iinc (v := x27) (lv' := [(2, .int x27), (0, .ref (h 96)), (1, .int a_a), (3, .int x110_1_3)]) hx hb dX9_knivesOf_165 hl (k := 2) rfl (by rw [ex27]; rfl) (by decide) rfl (fun ls hl => ?_)
                    obtain ⟨x28, ex28⟩ : ∃ y : Int32, y = x110_1_3 + 1 := ⟨_, rfl⟩
                    refine lv_iinc (v := x28) (lv' := [(3, .int x28), (2, .int x27), (0, .ref (h 96)), (1, .int a_a)]) hx hb dX9_knivesOf_168 hl (k := 3) rfl (by rw [ex28]; rfl) (by decide) rfl (fun ls hl => ?_)
                    obtain ⟨hx28, ax28⟩ := rg_add 1 20 ex28 h11 (rg_k (by decide) : rg 1 1 1) (by decide)
                    replace ax28 : x28.toInt = x110_1_3.toInt + 1 := ax28
                    refine lv_goto (tgt := 110) hx hb dX9_knivesOf_171 (by decide) ?_
                    exact ih9_ x27 x28 i26 g26 _ _ _ (rg_w hx28 (by decide) : rg 0 20 x28) hR26 hF26 hT hS (lv_sub hl [2, 3, 1, 0] rfl) (m_up ax28 hx28 (by decide) hm9_)
                ·
                  have q15 : ¬ (i8 107 x13.toNatClampNeg).toInt = 0 := i_ne c15
                  have h29 : rg 1 1 (i8 107 x13.toNatClampNeg) := t_nelo 1 h14 (rg_k (by decide) : rg 0 0 0) (i_ne c15) (by decide)
                  refine lv_goto (tgt := 168) hx hb dX9_knivesOf_132 (by decide) ?_
                  obtain ⟨x30, ex30⟩ : ∃ y : Int32, y = x110_1_3 + 1 := ⟨_, rfl⟩
                  refine lv_iinc (v := x30) (lv' := [(3, .int x30), (0, .ref (h 96)), (1, .int a_a), (2, .int x110_1_2)]) hx hb dX9_knivesOf_168 hl (k := 3) rfl (by rw [ex30]; rfl) (by decide) rfl (fun ls hl => ?_)
                  obtain ⟨hx30, ax30⟩ := rg_add 1 20 ex30 h11 (rg_k (by decide) : rg 1 1 1) (by decide)
                  replace ax30 : x30.toInt = x110_1_3.toInt + 1 := ax30
                  refine lv_goto (tgt := 110) hx hb dX9_knivesOf_171 (by decide) ?_
                  exact ih9_ x110_1_2 x30 i8 g8 _ _ _ (rg_w hx30 (by decide) : rg 0 20 x30) hR8 hF8 hT hS (lv_sub hl [1, 2, 3, 0] rfl) (m_up ax30 hx30 (by decide) hm9_)
          exact L110_7 _ (i4 103 5) (0) i4 g4 _ _ _ (rg_w (rg_k (by decide) : rg 0 0 0) (by decide) : rg 0 20 0) hR4 hF4 hT hS (lv_sub hl [2, 3, 1, 0] rfl) (Nat.lt_succ_self _)
        ·
          have q6 : x46_2.toInt < (i4 103 5).toInt := i_nle c6
          have h31 : rg 0 7 x46_2 := t_ltx 0 7 hhx46_2 (Rg_at hR4 103 5 0 8 (by decide) rfl) (i_nle c6) (by decide)
          have h32 : rg 1 8 (i4 103 5) := t_lty 1 8 hhx46_2 (Rg_at hR4 103 5 0 8 (by decide) rfl) (i_nle c6) (by decide)
          refine lv_aload_n hx hb dX9_knivesOf_56 rfl (lv_at hl 0 rfl) ?_
          refine r_geti X hT 96 26 fk_9_269 rfl rfl (by decide) dX9_knivesOf_57 ?_
          refine lv_iload_n hx hb dX9_knivesOf_60 rfl (lv_at hl 2 rfl) ?_
          refine e_Si (As := [.int (i4 96 26), .int x46_2]) (rest := []) X Y hT hS (m_X9_isBit (i4 96 26) x46_2) sk_X9_isBit gm_1670 hd_X9_isBit ⟨rfl, rfl⟩ ⟨Nat.le_of_ble_eq_true rfl, Nat.le_of_ble_eq_true rfl⟩ hl.1 rfl (Nat.le_of_ble_eq_true rfl) dX9_knivesOf_61 ⟨Nat.zero_le _, Nat.zero_le _⟩ (fun r33 i33 g33 H locs hq hT hS => ?_)
          rcases hq with hq | hq
          ·
            obtain ⟨eh33, rfl, hf33_0⟩ := hq
            rw [(Prod.mk.inj eh33).1, (Prod.mk.inj eh33).2] at hT
            replace hf33_0 : ((((i4 96 26) : Int32) >>> ((x46_2 : Int32) &&& 31)) &&& 1 = 1) := hf33_0
            refine lv_if_ne (tgt := 95) hx hb dX9_knivesOf_64 (by decide) (fun c34 => ?_) (fun c34 => (x_eq (rg_k (by decide) : rg 1 1 1) (rg_k (by decide) : rg 0 0 0) (i_eq c34) (by decide)).elim)
            obtain ⟨x35, ex35⟩ : ∃ y : Int32, y = x46_2 + 1 := ⟨_, rfl⟩
            refine lv_iinc (v := x35) (lv' := [(2, .int x35), (0, .ref (h 96)), (1, .int a_a)]) hx hb dX9_knivesOf_95 hl (k := 2) rfl (by rw [ex35]; rfl) (by decide) rfl (fun ls hl => ?_)
            obtain ⟨hx35, ax35⟩ := rg_add 1 8 ex35 h31 (rg_k (by decide) : rg 1 1 1) (by decide)
            replace ax35 : x35.toInt = x46_2.toInt + 1 := ax35
            refine lv_goto (tgt := 46) hx hb dX9_knivesOf_98 (by decide) ?_
            exact ih5_ x35 i4 g4 _ _ _ (rg_w hx35 (by decide) : rg 0 8 x35) hR4 hF4 hT hS (lv_sub hl [1, 2, 0] rfl) (m_up ax35 hx35 (by decide) hm5_)
          ·
            obtain ⟨eh33, rfl, hf33_0⟩ := hq
            rw [(Prod.mk.inj eh33).1, (Prod.mk.inj eh33).2] at hT
            replace hf33_0 : ¬ ((((i4 96 26) : Int32) >>> ((x46_2 : Int32) &&& 31)) &&& 1 = 1) := hf33_0
            refine lv_if_ne (tgt := 95) hx hb dX9_knivesOf_64 (by decide) (fun c36 => (x_ne (rg_k (by decide) : rg 0 0 0) (rg_k (by decide) : rg 0 0 0) (i_ne c36) (by decide)).elim) (fun c36 => ?_)
            refine lv_aload_n hx hb dX9_knivesOf_67 rfl (lv_at hl 0 rfl) ?_
            refine r_getr X hT 96 20 106 fk_9_43 rfl rfl (by decide) dX9_knivesOf_68 ?_
            refine lv_iconst (v := 2) hx hb dX9_knivesOf_71 (by decide) ?_
            refine lv_iload_n hx hb dX9_knivesOf_72 rfl (lv_at hl 2 rfl) ?_
            refine q_imul hx hb dX9_knivesOf_73 (fun x37 ex37 => ?_)
            obtain ⟨hx37, ax37⟩ := rg_mul 0 14 ex37 (rg_k (by decide) : rg 2 2 2) h31 (by decide)
            replace ax37 : x37.toInt = 2 * x46_2.toInt := ax37
            refine lv_iconst (v := 1) hx hb dX9_knivesOf_74 (by decide) ?_
            refine q_iadd hx hb dX9_knivesOf_75 (fun x38 ex38 => ?_)
            obtain ⟨hx38, ax38⟩ := rg_add 1 15 ex38 hx37 (rg_k (by decide) : rg 1 1 1) (by decide)
            replace ax38 : x38.toInt = x37.toInt + 1 := ax38
            refine r_iald X hT 106 rfl (by decide) (v_in hx38 (by decide)) dX9_knivesOf_76 ?_
            have h39 : rg 0 11 (i4 106 x38.toNatClampNeg) := Rg_ata hR4 106 x38.toNatClampNeg 0 11 (v_lt (v_in hx38 (by decide))) (aff_at (m := 2) (a := 0) (n := 8) (c := 1) (by decide) (v := x46_2.toInt) ⟨by have := h31.1; omega, by have := h31.2; omega⟩ (by have := ax37; have := ax38; omega))
            refine lv_iload_n hx hb dX9_knivesOf_77 rfl (lv_at hl 1 rfl) ?_
            refine lv_icmp_ne (tgt := 95) hx hb dX9_knivesOf_78 (by decide) (fun c40 => ?_) (fun c40 => ?_)
            ·
              have q40 : ¬ (i4 106 x38.toNatClampNeg).toInt = a_a.toInt := i_ne c40
              obtain ⟨x41, ex41⟩ : ∃ y : Int32, y = x46_2 + 1 := ⟨_, rfl⟩
              refine lv_iinc (v := x41) (lv' := [(2, .int x41), (0, .ref (h 96)), (1, .int a_a)]) hx hb dX9_knivesOf_95 hl (k := 2) rfl (by rw [ex41]; rfl) (by decide) rfl (fun ls hl => ?_)
              obtain ⟨hx41, ax41⟩ := rg_add 1 8 ex41 h31 (rg_k (by decide) : rg 1 1 1) (by decide)
              replace ax41 : x41.toInt = x46_2.toInt + 1 := ax41
              refine lv_goto (tgt := 46) hx hb dX9_knivesOf_98 (by decide) ?_
              exact ih5_ x41 i4 g4 _ _ _ (rg_w hx41 (by decide) : rg 0 8 x41) hR4 hF4 hT hS (lv_sub hl [1, 2, 0] rfl) (m_up ax41 hx41 (by decide) hm5_)
            ·
              have q40 : (i4 106 x38.toNatClampNeg).toInt = a_a.toInt := i_eq c40
              refine lv_aload_n hx hb dX9_knivesOf_81 rfl (lv_at hl 0 rfl) ?_
              refine lv_aload_n hx hb dX9_knivesOf_82 rfl (lv_at hl 0 rfl) ?_
              refine r_getr X hT 96 20 106 fk_9_43 rfl rfl (by decide) dX9_knivesOf_83 ?_
              refine lv_iconst (v := 2) hx hb dX9_knivesOf_86 (by decide) ?_
              refine lv_iload_n hx hb dX9_knivesOf_87 rfl (lv_at hl 2 rfl) ?_
              refine q_imul hx hb dX9_knivesOf_88 (fun x42 ex42 => ?_)
              obtain ⟨hx42, ax42⟩ := rg_mul 0 14 ex42 (rg_k (by decide) : rg 2 2 2) h31 (by decide)
              replace ax42 : x42.toInt = 2 * x46_2.toInt := ax42
              refine r_iald X hT 106 rfl (by decide) (v_in hx42 (by decide)) dX9_knivesOf_89 ?_
              have h43 : rg 0 5 (i4 106 x42.toNatClampNeg) := Rg_ata hR4 106 x42.toNatClampNeg 0 5 (v_lt (v_in hx42 (by decide))) (aff_at (m := 2) (a := 0) (n := 8) (c := 0) (by decide) (v := x46_2.toInt) ⟨by have := h31.1; omega, by have := h31.2; omega⟩ (by have := ax42; omega))
              refine lv_iload_n hx hb dX9_knivesOf_90 rfl (lv_at hl 1 rfl) ?_
              refine lv_iload_n hx hb dX9_knivesOf_91 rfl (lv_at hl 2 rfl) ?_
              refine e_Vv (As := [.int (i4 106 x42.toNatClampNeg), .int a_a, .int x46_2]) (rest := []) X Y hT hS (m_X9_cuts hR4 (i4 106 x42.toNatClampNeg) a_a x46_2 h43 ha_a) mk_X9_cuts gm_1716 rfl rfl (by decide) hd_X9_cuts ⟨rfl, rfl⟩ ⟨Nat.le_of_ble_eq_true rfl, Nat.le_of_ble_eq_true rfl⟩ hl.1 rfl (Nat.le_of_ble_eq_true rfl) dX9_knivesOf_92 ⟨Nat.zero_le _, Nat.zero_le _⟩ (fun i44 g44 H locs hq hT hS => ?_)
              obtain ⟨hR44, hf44⟩ := hq
              have hF44 := Fr_tr hF4 hf44 (by decide)
              obtain ⟨x45, ex45⟩ : ∃ y : Int32, y = x46_2 + 1 := ⟨_, rfl⟩
              refine lv_iinc (v := x45) (lv' := [(2, .int x45), (0, .ref (h 96)), (1, .int a_a)]) hx hb dX9_knivesOf_95 hl (k := 2) rfl (by rw [ex45]; rfl) (by decide) rfl (fun ls hl => ?_)
              obtain ⟨hx45, ax45⟩ := rg_add 1 8 ex45 h31 (rg_k (by decide) : rg 1 1 1) (by decide)
              replace ax45 : x45.toInt = x46_2.toInt + 1 := ax45
              refine lv_goto (tgt := 46) hx hb dX9_knivesOf_98 (by decide) ?_
              exact ih5_ x45 i44 g44 _ _ _ (rg_w hx45 (by decide) : rg 0 8 x45) hR44 hF44 hT hS (lv_sub hl [1, 2, 0] rfl) (m_up ax45 hx45 (by decide) hm5_)
    exact L46_3 _ (0) i g _ _ _ (rg_w (rg_k (by decide) : rg 0 0 0) (by decide) : rg 0 8 0) hR hF hT hS (lv_sub hl [1, 2, 0] rfl) (Nat.lt_succ_self _)
  ·
    have q1 : ¬ (i 96 27).toInt = 0 := i_ne c1
    have h46 : rg 1 1 (i 96 27) := t_nelo 1 (Rg_at hR 96 27 0 1 (by decide) rfl) (rg_k (by decide) : rg 0 0 0) (i_ne c1) (by decide)
    refine lv_iconst (v := 0) hx hb dX9_knivesOf_7 (by decide) ?_
    refine lv_istore_n (lv' := [(2, .int 0), (0, .ref (h 96)), (1, .int a_a)]) hx hb dX9_knivesOf_8 rfl hl (by decide) rfl (fun ls hl => ?_)
    have L9_47 : ∀ (n49_ : Nat) (x9_2 : Int32) (i48 : Nat → Nat → Int32) (g48 : Nat → Nat → Int64) (H : Heap) (locs : List Loc) (ls : Array Slot), rg 0 6 x9_2 → Rg rA i48 → Fr [96, 113, 114, 115] [] i g (i48, g48) → TH D h cz i48 g48 H → va_S (hA h) s.heap H locs → lv_has ls 4 [(0, .ref (h 96)), (1, .int a_a), (2, .int x9_2)] → (6 - x9_2.toInt).toNat < n49_ → W p l e ({ frames := 3, cells := 0, slots := 0, locals := 67 } : Room) s m args below meth c H locs 0 0 Q (F0 m 9 ls []) := by
      intro n49_
      induction n49_ with
      | zero => intro x9_2 i48 g48 H locs ls hhx9_2 hR48 hF48 hT hS hl hm49_; exact absurd hm49_ (Nat.not_lt_zero _)
      | succ n49_ ih49_ =>
        intro x9_2 i48 g48 H locs ls hhx9_2 hR48 hF48 hT hS hl hm49_
        refine lv_iload_n hx hb dX9_knivesOf_9 rfl (lv_at hl 2 rfl) ?_
        refine lv_aload_n hx hb dX9_knivesOf_10 rfl (lv_at hl 0 rfl) ?_
        refine e_Vi (As := []) (rest := [.int x9_2]) X Y hT hS (m_X9_parts hR48) mk_X9_parts gm_1649 rfl rfl (by decide) hd_X9_parts ⟨rfl, rfl⟩ ⟨Nat.le_of_ble_eq_true rfl, Nat.le_of_ble_eq_true rfl⟩ hl.1 rfl (Nat.le_of_ble_eq_true rfl) dX9_knivesOf_11 ⟨Nat.zero_le _, Nat.zero_le _⟩ (fun r50 i50 g50 H locs hq hT hS => ?_)
        obtain ⟨eh50, hr50⟩ := hq
        rw [(Prod.mk.inj eh50).1, (Prod.mk.inj eh50).2] at hT
        refine lv_icmp_ge (tgt := 43) hx hb dX9_knivesOf_14 (by decide) (fun c51 => ?_) (fun c51 => ?_)
        ·
          have q51 : r50.toInt ≤ x9_2.toInt := i_le c51
          exact hret _ _ _ _ _ _ dX9_knivesOf_43 hT hS ⟨hR48, hF48⟩
        ·
          have q51 : x9_2.toInt < r50.toInt := i_nle c51
          have h52 : rg 0 5 x9_2 := t_ltx 0 5 hhx9_2 hr50 (i_nle c51) (by decide)
          have h53 : rg 1 6 r50 := t_lty 1 6 hhx9_2 hr50 (i_nle c51) (by decide)
          refine lv_aload_n hx hb dX9_knivesOf_17 rfl (lv_at hl 0 rfl) ?_
          refine r_getr X hT 96 29 110 fk_9_56 rfl rfl (by decide) dX9_knivesOf_18 ?_
          refine lv_iload_n hx hb dX9_knivesOf_21 rfl (lv_at hl 1 rfl) ?_
          refine r_iald X hT 110 rfl (by decide) (v_in ha_a (by decide)) dX9_knivesOf_22 ?_
          refine lv_iload_n hx hb dX9_knivesOf_23 rfl (lv_at hl 2 rfl) ?_
          refine e_Si (As := [.int (i48 110 a_a.toNatClampNeg), .int x9_2]) (rest := []) X Y hT hS (m_X9_isBit (i48 110 a_a.toNatClampNeg) x9_2) sk_X9_isBit gm_1670 hd_X9_isBit ⟨rfl, rfl⟩ ⟨Nat.le_of_ble_eq_true rfl, Nat.le_of_ble_eq_true rfl⟩ hl.1 rfl (Nat.le_of_ble_eq_true rfl) dX9_knivesOf_24 ⟨Nat.zero_le _, Nat.zero_le _⟩ (fun r54 i54 g54 H locs hq hT hS => ?_)
          rcases hq with hq | hq
          ·
            obtain ⟨eh54, rfl, hf54_0⟩ := hq
            rw [(Prod.mk.inj eh54).1, (Prod.mk.inj eh54).2] at hT
            replace hf54_0 : ((((i48 110 a_a.toNatClampNeg) : Int32) >>> ((x9_2 : Int32) &&& 31)) &&& 1 = 1) := hf54_0
            refine lv_if_eq (tgt := 37) hx hb dX9_knivesOf_27 (by decide) (fun c55 => (x_eq (rg_k (by decide) : rg 1 1 1) (rg_k (by decide) : rg 0 0 0) (i_eq c55) (by decide)).elim) (fun c55 => ?_)
            refine lv_aload_n hx hb dX9_knivesOf_30 rfl (lv_at hl 0 rfl) ?_
            refine lv_iload_n hx hb dX9_knivesOf_31 rfl (lv_at hl 2 rfl) ?_
            refine lv_iload_n hx hb dX9_knivesOf_32 rfl (lv_at hl 1 rfl) ?_
            refine lv_iconst (v := (-1)) hx hb dX9_knivesOf_33 (by decide) ?_
            refine e_Vv (As := [.int x9_2, .int a_a, .int (-1)]) (rest := []) X Y hT hS (m_X9_cuts hR48 x9_2 a_a ((-1)) h52 ha_a) mk_X9_cuts gm_1716 rfl rfl (by decide) hd_X9_cuts ⟨rfl, rfl⟩ ⟨Nat.le_of_ble_eq_true rfl, Nat.le_of_ble_eq_true rfl⟩ hl.1 rfl (Nat.le_of_ble_eq_true rfl) dX9_knivesOf_34 ⟨Nat.zero_le _, Nat.zero_le _⟩ (fun i56 g56 H locs hq hT hS => ?_)
            obtain ⟨hR56, hf56⟩ := hq
            have hF56 := Fr_tr hF48 hf56 (by decide)
            obtain ⟨x57, ex57⟩ : ∃ y : Int32, y = x9_2 + 1 := ⟨_, rfl⟩
            refine lv_iinc (v := x57) (lv' := [(2, .int x57), (0, .ref (h 96)), (1, .int a_a)]) hx hb dX9_knivesOf_37 hl (k := 2) rfl (by rw [ex57]; rfl) (by decide) rfl (fun ls hl => ?_)
            obtain ⟨hx57, ax57⟩ := rg_add 1 6 ex57 h52 (rg_k (by decide) : rg 1 1 1) (by decide)
            replace ax57 : x57.toInt = x9_2.toInt + 1 := ax57
            refine lv_goto (tgt := 9) hx hb dX9_knivesOf_40 (by decide) ?_
            exact ih49_ x57 i56 g56 _ _ _ (rg_w hx57 (by decide) : rg 0 6 x57) hR56 hF56 hT hS (lv_sub hl [1, 2, 0] rfl) (m_up ax57 hx57 (by decide) hm49_)
          ·
            obtain ⟨eh54, rfl, hf54_0⟩ := hq
            rw [(Prod.mk.inj eh54).1, (Prod.mk.inj eh54).2] at hT
            replace hf54_0 : ¬ ((((i48 110 a_a.toNatClampNeg) : Int32) >>> ((x9_2 : Int32) &&& 31)) &&& 1 = 1) := hf54_0
            refine lv_if_eq (tgt := 37) hx hb dX9_knivesOf_27 (by decide) (fun c58 => ?_) (fun c58 => (x_ne (rg_k (by decide) : rg 0 0 0) (rg_k (by decide) : rg 0 0 0) (i_ne c58) (by decide)).elim)
            obtain ⟨x59, ex59⟩ : ∃ y : Int32, y = x9_2 + 1 := ⟨_, rfl⟩
            refine lv_iinc (v := x59) (lv' := [(2, .int x59), (0, .ref (h 96)), (1, .int a_a)]) hx hb dX9_knivesOf_37 hl (k := 2) rfl (by rw [ex59]; rfl) (by decide) rfl (fun ls hl => ?_)
            obtain ⟨hx59, ax59⟩ := rg_add 1 6 ex59 h52 (rg_k (by decide) : rg 1 1 1) (by decide)
            replace ax59 : x59.toInt = x9_2.toInt + 1 := ax59
            refine lv_goto (tgt := 9) hx hb dX9_knivesOf_40 (by decide) ?_
            exact ih49_ x59 i48 g48 _ _ _ (rg_w hx59 (by decide) : rg 0 6 x59) hR48 hF48 hT hS (lv_sub hl [1, 2, 0] rfl) (m_up ax59 hx59 (by decide) hm49_)
    exact L9_47 _ (0) i g _ _ _ (rg_w (rg_k (by decide) : rg 0 0 0) (by decide) : rg 0 6 0) hR hF hT hS (lv_sub hl [1, 2, 0] rfl) (Nat.lt_succ_self _)
set_option maxRecDepth 100000 in
set_option maxHeartbeats 4000000 in
theorem m_X9_opensOthers {l : Launch} {D : va_G} {h : Nat → Nat} {cz : Nat → ClassId} {z : EZ} {i : Nat → Nat → Int32} {g : Nat → Nat → Int64} (hR : Rg rA i) (a_a : Int32) (ha_a : rg 0 11 a_a) : DtV l yX9_opensOthers cX9_opensOthers 5 none ({ frames := 2, cells := 0, slots := 0, locals := 44 } : Room) D h cz z i g [.ref (h 96), .int a_a] (fun u => Rg rA u.1 ∧ Fr [96, 113, 114, 115] [] i g u) := by
  refine e_V pn_X9_opensOthers (Nat.le_of_ble_eq_true rfl) ?_
  intro p e s m args below meth c ls Q X Y hret hT hl hS
  have hx := X.1
  have hb := X.2.1
  have hl : lv_has ls 5 [(0, .ref (h 96)), (1, .int a_a)] := hl
  have hF : Fr [96, 113, 114, 115] [] i g (i, g) := Fr_rf _ _ _ _
  refine lv_iconst (v := 1) hx hb dX9_opensOthers_0 (by decide) ?_
  refine lv_istore_n (lv' := [(2, .int 1), (0, .ref (h 96)), (1, .int a_a)]) hx hb dX9_opensOthers_1 rfl hl (by decide) rfl (fun ls hl => ?_)
  have L2_1 : ∀ (n3_ : Nat) (x2_2 : Int32) (i2 : Nat → Nat → Int32) (g2 : Nat → Nat → Int64) (H : Heap) (locs : List Loc) (ls : Array Slot), rg 0 1 x2_2 → Rg rA i2 → Fr [96, 113, 114, 115] [] i g (i2, g2) → TH D h cz i2 g2 H → va_S (hA h) s.heap H locs → lv_has ls 5 [(0, .ref (h 96)), (1, .int a_a), (2, .int x2_2)] → mo x2_2 i2 < n3_ → W p l e ({ frames := 2, cells := 0, slots := 0, locals := 44 } : Room) s m args below meth c H locs 0 0 Q (F0 m 2 ls []) := by
    intro n3_
    induction n3_ with
    | zero => intro x2_2 i2 g2 H locs ls hhx2_2 hR2 hF2 hT hS hl hm3_; exact absurd hm3_ (Nat.not_lt_zero _)
    | succ n3_ ih3_ =>
      intro x2_2 i2 g2 H locs ls hhx2_2 hR2 hF2 hT hS hl hm3_
      refine lv_iload_n hx hb dX9_opensOthers_2 rfl (lv_at hl 2 rfl) ?_
      refine lv_if_eq (tgt := 89) hx hb dX9_opensOthers_3 (by decide) (fun c4 => ?_) (fun c4 => ?_)
      ·
        have q4 : x2_2.toInt = 0 := i_eq c4
        have h5 : rg 0 0 x2_2 := t_eqx 0 0 hhx2_2 (rg_k (by decide) : rg 0 0 0) (i_eq c4) (by decide)
        exact hret _ _ _ _ _ _ dX9_opensOthers_89 hT hS ⟨hR2, hF2⟩
      ·
        have q4 : ¬ x2_2.toInt = 0 := i_ne c4
        have h6 : rg 1 1 x2_2 := t_nelo 1 hhx2_2 (rg_k (by decide) : rg 0 0 0) (i_ne c4) (by decide)
        refine lv_iconst (v := 0) hx hb dX9_opensOthers_6 (by decide) ?_
        refine lv_istore_n (lv' := [(2, .int 0), (0, .ref (h 96)), (1, .int a_a)]) hx hb dX9_opensOthers_7 rfl hl (by decide) rfl (fun ls hl => ?_)
        refine lv_iconst (v := 0) hx hb dX9_opensOthers_8 (by decide) ?_
        refine lv_istore_n (lv' := [(3, .int 0), (2, .int 0), (0, .ref (h 96)), (1, .int a_a)]) hx hb dX9_opensOthers_9 rfl hl (by decide) rfl (fun ls hl => ?_)
        have L10_7 : ∀ (n9_ : Nat) (x10_1_2 : Int32) (x10_1_3 : Int32) (i8 : Nat → Nat → Int32) (g8 : Nat → Nat → Int64) (H : Heap) (locs : List Loc) (ls : Array Slot), rg 0 1 x10_1_2 → rg 0 6 x10_1_3 → Rg rA i8 → Fr [96, 113, 114, 115] [] i g (i8, g8) → (mi x10_1_2 i2 i8) → TH D h cz i8 g8 H → va_S (hA h) s.heap H locs → lv_has ls 5 [(0, .ref (h 96)), (1, .int a_a), (2, .int x10_1_2), (3, .int x10_1_3)] → (6 - x10_1_3.toInt).toNat < n9_ → W p l e ({ frames := 2, cells := 0, slots := 0, locals := 44 } : Room) s m args below meth c H locs 0 0 Q (F0 m 10 ls []) := by
          intro n9_
          induction n9_ with
          | zero => intro x10_1_2 x10_1_3 i8 g8 H locs ls hhx10_1_2 hhx10_1_3 hR8 hF8 hin hT hS hl hm9_; exact absurd hm9_ (Nat.not_lt_zero _)
          | succ n9_ ih9_ =>
            intro x10_1_2 x10_1_3 i8 g8 H locs ls hhx10_1_2 hhx10_1_3 hR8 hF8 hin hT hS hl hm9_
            refine lv_iload_n hx hb dX9_opensOthers_10 rfl (lv_at hl 3 rfl) ?_
            refine lv_aload_n hx hb dX9_opensOthers_11 rfl (lv_at hl 0 rfl) ?_
            refine e_Vi (As := []) (rest := [.int x10_1_3]) X Y hT hS (m_X9_parts hR8) mk_X9_parts gm_1649 rfl rfl (by decide) hd_X9_parts ⟨rfl, rfl⟩ ⟨Nat.le_of_ble_eq_true rfl, Nat.le_of_ble_eq_true rfl⟩ hl.1 rfl (Nat.le_of_ble_eq_true rfl) dX9_opensOthers_12 ⟨Nat.zero_le _, Nat.zero_le _⟩ (fun r10 i10 g10 H locs hq hT hS => ?_)
            obtain ⟨eh10, hr10⟩ := hq
            rw [(Prod.mk.inj eh10).1, (Prod.mk.inj eh10).2] at hT
            refine lv_icmp_ge (tgt := 86) hx hb dX9_opensOthers_15 (by decide) (fun c11 => ?_) (fun c11 => ?_)
            ·
              have q11 : r10.toInt ≤ x10_1_3.toInt := i_le c11
              refine lv_goto (tgt := 2) hx hb dX9_opensOthers_86 (by decide) ?_
              exact ih3_ x10_1_2 i8 g8 _ _ _ hhx10_1_2 hR8 hF8 hT hS (lv_sub hl [0, 1, 2] rfl) (mo_st hin q4 hm3_)
            ·
              have q11 : x10_1_3.toInt < r10.toInt := i_nle c11
              have h12 : rg 0 5 x10_1_3 := t_ltx 0 5 hhx10_1_3 hr10 (i_nle c11) (by decide)
              have h13 : rg 1 6 r10 := t_lty 1 6 hhx10_1_3 hr10 (i_nle c11) (by decide)
              refine lv_iload_n hx hb dX9_opensOthers_18 rfl (lv_at hl 2 rfl) ?_
              refine lv_if_ne (tgt := 86) hx hb dX9_opensOthers_19 (by decide) (fun c14 => ?_) (fun c14 => ?_)
              ·
                have q14 : ¬ x10_1_2.toInt = 0 := i_ne c14
                have h15 : rg 1 1 x10_1_2 := t_nelo 1 hhx10_1_2 (rg_k (by decide) : rg 0 0 0) (i_ne c14) (by decide)
                refine lv_goto (tgt := 2) hx hb dX9_opensOthers_86 (by decide) ?_
                exact ih3_ x10_1_2 i8 g8 _ _ _ (rg_w h15 (by decide) : rg 0 1 x10_1_2) hR8 hF8 hT hS (lv_sub hl [0, 1, 2] rfl) (mo_st hin q4 hm3_)
              ·
                have q14 : x10_1_2.toInt = 0 := i_eq c14
                have h16 : rg 0 0 x10_1_2 := t_eqx 0 0 hhx10_1_2 (rg_k (by decide) : rg 0 0 0) (i_eq c14) (by decide)
                refine lv_aload_n hx hb dX9_opensOthers_22 rfl (lv_at hl 0 rfl) ?_
                refine lv_iload_n hx hb dX9_opensOthers_23 rfl (lv_at hl 3 rfl) ?_
                refine e_Vi (As := [.int x10_1_3]) (rest := []) X Y hT hS (m_X9_nearOf hR8 x10_1_3) mk_X9_nearOf gm_1662 rfl rfl (by decide) hd_X9_nearOf ⟨rfl, rfl⟩ ⟨Nat.le_of_ble_eq_true rfl, Nat.le_of_ble_eq_true rfl⟩ hl.1 rfl (Nat.le_of_ble_eq_true rfl) dX9_opensOthers_24 ⟨Nat.zero_le _, Nat.zero_le _⟩ (fun r17 i17 g17 H locs hq hT hS => ?_)
                obtain ⟨eh17, hr17⟩ := hq
                rw [(Prod.mk.inj eh17).1, (Prod.mk.inj eh17).2] at hT
                refine lv_istore (lv' := [(4, .int r17), (0, .ref (h 96)), (1, .int a_a), (2, .int x10_1_2), (3, .int x10_1_3)]) hx hb dX9_opensOthers_27 hl (by decide) rfl (fun ls hl => ?_)
                refine lv_aload_n hx hb dX9_opensOthers_29 rfl (lv_at hl 1 rfl) ?_
                refine r_geti X hT 96 36 fk_9_276 rfl rfl (by decide) dX9_opensOthers_30 ?_
                refine lv_iload_n hx hb dX9_opensOthers_33 rfl (lv_at hl 4 rfl) ?_
                refine e_Si (As := [.int (i8 96 36), .int x10_1_3]) (rest := []) X Y hT hS (m_X9_isBit (i8 96 36) x10_1_3) sk_X9_isBit gm_1670 hd_X9_isBit ⟨rfl, rfl⟩ ⟨Nat.le_of_ble_eq_true rfl, Nat.le_of_ble_eq_true rfl⟩ hl.1 rfl (Nat.le_of_ble_eq_true rfl) dX9_opensOthers_34 ⟨Nat.zero_le _, Nat.zero_le _⟩ (fun r18 i18 g18 H locs hq hT hS => ?_)
                rcases hq with hq | hq
                ·
                  obtain ⟨eh18, rfl, hf18_0⟩ := hq
                  rw [(Prod.mk.inj eh18).1, (Prod.mk.inj eh18).2] at hT
                  replace hf18_0 : ((((i8 96 36) : Int32) >>> ((x10_1_3 : Int32) &&& 31)) &&& 1 = 1) := hf18_0
                  refine lv_if_ne (tgt := 80) hx hb dX9_opensOthers_37 (by decide) (fun c19 => ?_) (fun c19 => (x_eq (rg_k (by decide) : rg 1 1 1) (rg_k (by decide) : rg 0 0 0) (i_eq c19) (by decide)).elim)
                  obtain ⟨x20, ex20⟩ : ∃ y : Int32, y = x10_1_3 + 1 := ⟨_, rfl⟩
                  refine lv_iinc (v := x20) (lv' := [(3, .int x20), (4, .int r17), (0, .ref (h 96)), (1, .int a_a), (2, .int x10_1_2)]) hx hb dX9_opensOthers_80 hl (k := 4) rfl (by rw [ex20]; rfl) (by decide) rfl (fun ls hl => ?_)
                  obtain ⟨hx20, ax20⟩ := rg_add 1 6 ex20 h12 (rg_k (by decide) : rg 1 1 1) (by decide)
                  replace ax20 : x20.toInt = x10_1_3.toInt + 1 := ax20
                  refine lv_goto (tgt := 10) hx hb dX9_opensOthers_83 (by decide) ?_
                  exact ih9_ x10_1_2 x20 i8 g8 _ _ _ (rg_w h16 (by decide) : rg 0 1 x10_1_2) (rg_w hx20 (by decide) : rg 0 6 x20) hR8 hF8 hin hT hS (lv_sub hl [2, 3, 4, 0] rfl) (m_up ax20 hx20 (by decide) hm9_)
                ·
                  obtain ⟨eh18, rfl, hf18_0⟩ := hq
                  rw [(Prod.mk.inj eh18).1, (Prod.mk.inj eh18).2] at hT
                  replace hf18_0 : ¬ ((((i8 96 36) : Int32) >>> ((x10_1_3 : Int32) &&& 31)) &&& 1 = 1) := hf18_0
                  refine lv_if_ne (tgt := 80) hx hb dX9_opensOthers_37 (by decide) (fun c21 => (x_ne (rg_k (by decide) : rg 0 0 0) (rg_k (by decide) : rg 0 0 0) (i_ne c21) (by decide)).elim) (fun c21 => ?_)
                  refine lv_aload_n hx hb dX9_opensOthers_40 rfl (lv_at hl 1 rfl) ?_
                  refine r_geti X hT 96 24 fk_9_263 rfl rfl (by decide) dX9_opensOthers_41 ?_
                  refine lv_iload_n hx hb dX9_opensOthers_44 rfl (lv_at hl 4 rfl) ?_
                  refine e_Si (As := [.int (i8 96 24), .int x10_1_3]) (rest := []) X Y hT hS (m_X9_isBit (i8 96 24) x10_1_3) sk_X9_isBit gm_1670 hd_X9_isBit ⟨rfl, rfl⟩ ⟨Nat.le_of_ble_eq_true rfl, Nat.le_of_ble_eq_true rfl⟩ hl.1 rfl (Nat.le_of_ble_eq_true rfl) dX9_opensOthers_45 ⟨Nat.zero_le _, Nat.zero_le _⟩ (fun r22 i22 g22 H locs hq hT hS => ?_)
                  rcases hq with hq | hq
                  ·
                    obtain ⟨eh22, rfl, hf22_0⟩ := hq
                    rw [(Prod.mk.inj eh22).1, (Prod.mk.inj eh22).2] at hT
                    replace hf22_0 : ((((i8 96 24) : Int32) >>> ((x10_1_3 : Int32) &&& 31)) &&& 1 = 1) := hf22_0
                    refine lv_if_ne (tgt := 80) hx hb dX9_opensOthers_48 (by decide) (fun c23 => ?_) (fun c23 => (x_eq (rg_k (by decide) : rg 1 1 1) (rg_k (by decide) : rg 0 0 0) (i_eq c23) (by decide)).elim)
                    obtain ⟨x24, ex24⟩ : ∃ y : Int32, y = x10_1_3 + 1 := ⟨_, rfl⟩
                    refine lv_iinc (v := x24) (lv' := [(3, .int x24), (4, .int r17), (0, .ref (h 96)), (1, .int a_a), (2, .int x10_1_2)]) hx hb dX9_opensOthers_80 hl (k := 4) rfl (by rw [ex24]; rfl) (by decide) rfl (fun ls hl => ?_)
                    obtain ⟨hx24, ax24⟩ := rg_add 1 6 ex24 h12 (rg_k (by decide) : rg 1 1 1) (by decide)
                    replace ax24 : x24.toInt = x10_1_3.toInt + 1 := ax24
                    refine lv_goto (tgt := 10) hx hb dX9_opensOthers_83 (by decide) ?_
                    exact ih9_ x10_1_2 x24 i8 g8 _ _ _ (rg_w h16 (by decide) : rg 0 1 x10_1_2) (rg_w hx24 (by decide) : rg 0 6 x24) hR8 hF8 hin hT hS (lv_sub hl [2, 3, 4, 0] rfl) (m_up ax24 hx24 (by decide) hm9_)
                  ·
                    obtain ⟨eh22, rfl, hf22_0⟩ := hq
                    rw [(Prod.mk.inj eh22).1, (Prod.mk.inj eh22).2] at hT
                    replace hf22_0 : ¬ ((((i8 96 24) : Int32) >>> ((x10_1_3 : Int32) &&& 31)) &&& 1 = 1) := hf22_0
                    refine lv_if_ne (tgt := 80) hx hb dX9_opensOthers_48 (by decide) (fun c25 => (x_ne (rg_k (by decide) : rg 0 0 0) (rg_k (by decide) : rg 0 0 0) (i_ne c25) (by decide)).elim) (fun c25 => ?_)
                    refine lv_iload hx hb dX9_opensOthers_51 (lv_at hl 0 rfl) ?_
                    refine lv_if_eq (tgt := 80) hx hb dX9_opensOthers_53 (by decide) (fun c26 => ?_) (fun c26 => ?_)
                    ·
                      have q26 : r17.toInt = 0 := i_eq c26
                      have h27 : rg 0 0 r17 := t_eqx 0 0 hr17 (rg_k (by decide) : rg 0 0 0) (i_eq c26) (by decide)
                      obtain ⟨x28, ex28⟩ : ∃ y : Int32, y = x10_1_3 + 1 := ⟨_, rfl⟩
                      refine lv_iinc (v := x28) (lv' := [(3, .int x28), (4, .int r17), (0, .ref (h 96)), (1, .int a_a), (2, .int x10_1_2)]) hx hb dX9_opensOthers_80 hl (k := 4) rfl (by rw [ex28]; rfl) (by decide) rfl (fun ls hl => ?_)
                      obtain ⟨hx28, ax28⟩ := rg_add 1 6 ex28 h12 (rg_k (by decide) : rg 1 1 1) (by decide)
                      replace ax28 : x28.toInt = x10_1_3.toInt + 1 := ax28
                      refine lv_goto (tgt := 10) hx hb dX9_opensOthers_83 (by decide) ?_
                      exact ih9_ x10_1_2 x28 i8 g8 _ _ _ (rg_w h16 (by decide) : rg 0 1 x10_1_2) (rg_w hx28 (by decide) : rg 0 6 x28) hR8 hF8 hin hT hS (lv_sub hl [2, 3, 4, 0] rfl) (m_up ax28 hx28 (by decide) hm9_)
                    ·
                      have q26 : ¬ r17.toInt = 0 := i_ne c26
                      have h29 : rg 1 255 r17 := t_nelo 1 hr17 (rg_k (by decide) : rg 0 0 0) (i_ne c26) (by decide)
                      refine lv_iload hx hb dX9_opensOthers_56 (lv_at hl 0 rfl) ?_
                      refine lv_aload_n hx hb dX9_opensOthers_58 rfl (lv_at hl 1 rfl) ?_
                      refine r_geti X hT 96 36 fk_9_276 rfl rfl (by decide) dX9_opensOthers_59 ?_
                      refine lv_iconst (v := (-1)) hx hb dX9_opensOthers_62 (by decide) ?_
                      refine q_ixor hx hb dX9_opensOthers_63 (fun x30 ex30 => ?_)
                      refine q_iand hx hb dX9_opensOthers_64 (fun x31 ex31 => ?_)
                      have h32 : rg 0 255 x31 := rg_andl ex31 h29 (by decide)
                      refine lv_if_eq (tgt := 71) hx hb dX9_opensOthers_65 (by decide) (fun c33 => ?_) (fun c33 => ?_)
                      ·
                        have q33 : x31.toInt = 0 := i_eq c33
                        have h34 : rg 0 0 x31 := t_eqx 0 0 h32 (rg_k (by decide) : rg 0 0 0) (i_eq c33) (by decide)
                        refine lv_aload_n hx hb dX9_opensOthers_71 rfl (lv_at hl 1 rfl) ?_
                        refine lv_iload_n hx hb dX9_opensOthers_72 rfl (lv_at hl 4 rfl) ?_
                        refine lv_iload_n hx hb dX9_opensOthers_73 rfl (lv_at hl 2 rfl) ?_
                        refine lv_iconst (v := 2) hx hb dX9_opensOthers_74 (by decide) ?_
                        refine e_Vv (As := [.int x10_1_3, .int a_a, .int 2]) (rest := []) X Y hT hS (m_X9_opens0 hR8 x10_1_3 a_a (2) h12 ha_a) mk_X9_opens0 gm_1720 rfl rfl (by decide) hd_X9_opens0 ⟨rfl, rfl⟩ ⟨Nat.le_of_ble_eq_true rfl, Nat.le_of_ble_eq_true rfl⟩ hl.1 rfl (Nat.le_of_ble_eq_true rfl) dX9_opensOthers_75 ⟨Nat.zero_le _, Nat.zero_le _⟩ (fun i35 g35 H locs hq hT hS => ?_)
                        obtain ⟨hR35, hf35, hf35_0⟩ := hq
                        have hF35 := Fr_tr hF8 hf35 (by decide)
                        replace hf35_0 : i35 96 36 = i8 96 36 ||| (1 <<< (x10_1_3 &&& 31)) := hf35_0
                        refine lv_iconst (v := 1) hx hb dX9_opensOthers_78 (by decide) ?_
                        refine lv_istore_n (lv' := [(2, .int 1), (4, .int r17), (0, .ref (h 96)), (1, .int a_a), (3, .int x10_1_3)]) hx hb dX9_opensOthers_79 rfl hl (by decide) rfl (fun ls hl => ?_)
                        obtain ⟨x36, ex36⟩ : ∃ y : Int32, y = x10_1_3 + 1 := ⟨_, rfl⟩
                        refine lv_iinc (v := x36) (lv' := [(3, .int x36), (2, .int 1), (4, .int r17), (0, .ref (h 96)), (1, .int a_a)]) hx hb dX9_opensOthers_80 hl (k := 4) rfl (by rw [ex36]; rfl) (by decide) rfl (fun ls hl => ?_)
                        obtain ⟨hx36, ax36⟩ := rg_add 1 6 ex36 h12 (rg_k (by decide) : rg 1 1 1) (by decide)
                        replace ax36 : x36.toInt = x10_1_3.toInt + 1 := ax36
                        refine lv_goto (tgt := 10) hx hb dX9_opensOthers_83 (by decide) ?_
                        exact ih9_ (1) x36 i35 g35 _ _ _ (rg_w (rg_k (by decide) : rg 1 1 1) (by decide) : rg 0 1 1) (rg_w hx36 (by decide) : rg 0 6 x36) hR35 hF35 (mi_1 hin q14 hf35_0 hf18_0 h12) hT hS (lv_sub hl [3, 4, 1, 0] rfl) (m_up ax36 hx36 (by decide) hm9_)
                      ·
                        have q33 : ¬ x31.toInt = 0 := i_ne c33
                        have h37 : rg 1 255 x31 := t_nelo 1 h32 (rg_k (by decide) : rg 0 0 0) (i_ne c33) (by decide)
                        refine lv_goto (tgt := 80) hx hb dX9_opensOthers_68 (by decide) ?_
                        obtain ⟨x38, ex38⟩ : ∃ y : Int32, y = x10_1_3 + 1 := ⟨_, rfl⟩
                        refine lv_iinc (v := x38) (lv' := [(3, .int x38), (4, .int r17), (0, .ref (h 96)), (1, .int a_a), (2, .int x10_1_2)]) hx hb dX9_opensOthers_80 hl (k := 4) rfl (by rw [ex38]; rfl) (by decide) rfl (fun ls hl => ?_)
                        obtain ⟨hx38, ax38⟩ := rg_add 1 6 ex38 h12 (rg_k (by decide) : rg 1 1 1) (by decide)
                        replace ax38 : x38.toInt = x10_1_3.toInt + 1 := ax38
                        refine lv_goto (tgt := 10) hx hb dX9_opensOthers_83 (by decide) ?_
                        exact ih9_ x10_1_2 x38 i8 g8 _ _ _ (rg_w h16 (by decide) : rg 0 1 x10_1_2) (rg_w hx38 (by decide) : rg 0 6 x38) hR8 hF8 hin hT hS (lv_sub hl [2, 3, 4, 0] rfl) (m_up ax38 hx38 (by decide) hm9_)
        exact L10_7 _ (0) (0) i2 g2 _ _ _ (rg_w (rg_k (by decide) : rg 0 0 0) (by decide) : rg 0 1 0) (rg_w (rg_k (by decide) : rg 0 0 0) (by decide) : rg 0 6 0) hR2 hF2 (mi_0 _) hT hS (lv_sub hl [2, 3, 1, 0] rfl) (Nat.lt_succ_self _)
  exact L2_1 _ (1) i g _ _ _ (rg_w (rg_k (by decide) : rg 1 1 1) (by decide) : rg 0 1 1) hR hF hT hS (lv_sub hl [1, 2, 0] rfl) (Nat.lt_succ_self _)
set_option maxRecDepth 100000 in
set_option maxHeartbeats 4000000 in
theorem m_X9_sizeOf {l : Launch} {D : va_G} {h : Nat → Nat} {cz : Nat → ClassId} {z : EZ} {i : Nat → Nat → Int32} {g : Nat → Nat → Int64} (a_a : Int32) : DtI l yX9_sizeOf cX9_sizeOf 3 (some .int) ({ frames := 0, cells := 0, slots := 0, locals := 0 } : Room) D h cz z i g [.int a_a] (fun r u => u = (i, g) ∧ (r.toInt = (popF 32 a_a.toBitVec.toNat : Int))) := by
  refine e_I pn_X9_sizeOf (Nat.le_of_ble_eq_true rfl) ?_
  intro p e s m args below meth c ls Q X Y hret hT hl hS
  have hx := X.1
  have hb := X.2.1
  have hl : lv_has ls 3 [(0, .int a_a)] := hl
  refine lv_iconst (v := 0) hx hb dX9_sizeOf_0 (by decide) ?_
  refine lv_istore_n (lv' := [(1, .int 0), (0, .int a_a)]) hx hb dX9_sizeOf_1 rfl hl (by decide) rfl (fun ls hl => ?_)
  refine lv_iload_n hx hb dX9_sizeOf_2 rfl (lv_at hl 1 rfl) ?_
  refine lv_istore_n (lv' := [(2, .int a_a), (1, .int 0), (0, .int a_a)]) hx hb dX9_sizeOf_3 rfl hl (by decide) rfl (fun ls hl => ?_)
  have L4_1 : ∀ (n2_ : Nat) (x4_1 : Int32) (x4_2 : Int32) (H : Heap) (locs : List Loc) (ls : Array Slot), rg 0 32 x4_1 → (x4_1.toInt + (popF 32 x4_2.toBitVec.toNat : Int) = (popF 32 a_a.toBitVec.toNat : Int)) → TH D h cz i g H → va_S (hA h) s.heap H locs → lv_has ls 3 [(1, .int x4_1), (2, .int x4_2)] → popF 32 x4_2.toBitVec.toNat < n2_ → W p l e ({ frames := 0, cells := 0, slots := 0, locals := 0 } : Room) s m args below meth c H locs 0 0 Q (F0 m 4 ls []) := by
    intro n2_
    induction n2_ with
    | zero => intro x4_1 x4_2 H locs ls hhx4_1 hpc hT hS hl hm2_; exact absurd hm2_ (Nat.not_lt_zero _)
    | succ n2_ ih2_ =>
      intro x4_1 x4_2 H locs ls hhx4_1 hpc hT hS hl hm2_
      refine lv_iload_n hx hb dX9_sizeOf_4 rfl (lv_at hl 1 rfl) ?_
      refine lv_if_eq (tgt := 20) hx hb dX9_sizeOf_5 (by decide) (fun c3 => ?_) (fun c3 => ?_)
      ·
        have q3 : x4_2.toInt = 0 := i_eq c3
        have h4 : rg 0 0 x4_2 := t_eqx 0 0 (rg_top x4_2) (rg_k (by decide) : rg 0 0 0) (i_eq c3) (by decide)
        refine lv_iload_n hx hb dX9_sizeOf_20 rfl (lv_at hl 0 rfl) ?_
        exact hret x4_1 _ _ _ _ _ _ dX9_sizeOf_21 hT hS ⟨rfl, (pop_end hpc q3)⟩
      ·
        have q3 : ¬ x4_2.toInt = 0 := i_ne c3
        have h5 : rg 0 31 x4_1 := ⟨by have := hhx4_1.1; omega, pop_n hpc q3⟩
        obtain ⟨x6, ex6⟩ : ∃ y : Int32, y = x4_1 + 1 := ⟨_, rfl⟩
        refine lv_iinc (v := x6) (lv' := [(1, .int x6), (2, .int x4_2)]) hx hb dX9_sizeOf_8 hl (k := 0) rfl (by rw [ex6]; rfl) (by decide) rfl (fun ls hl => ?_)
        obtain ⟨hx6, ax6⟩ := rg_add 1 32 ex6 h5 (rg_k (by decide) : rg 1 1 1) (by decide)
        replace ax6 : x6.toInt = x4_1.toInt + 1 := ax6
        refine lv_iload_n hx hb dX9_sizeOf_11 rfl (lv_at hl 1 rfl) ?_
        refine lv_iload_n hx hb dX9_sizeOf_12 rfl (lv_at hl 1 rfl) ?_
        refine lv_iconst (v := 1) hx hb dX9_sizeOf_13 (by decide) ?_
        refine q_isub hx hb dX9_sizeOf_14 (fun x7 ex7 => ?_)
        refine q_iand hx hb dX9_sizeOf_15 (fun x8 ex8 => ?_)
        refine lv_istore_n (lv' := [(2, .int x8), (1, .int x6)]) hx hb dX9_sizeOf_16 rfl hl (by decide) rfl (fun ls hl => ?_)
        refine lv_goto (tgt := 4) hx hb dX9_sizeOf_17 (by decide) ?_
        exact ih2_ x6 x8 _ _ _ (rg_w hx6 (by decide) : rg 0 32 x6) (by have := (pop_st ex8 ex7 q3); have := ax6; omega) hT hS (lv_sub hl [1, 0] rfl) (by have := (pop_st ex8 ex7 q3); omega)
  exact L4_1 _ (0) a_a _ _ _ (rg_w (rg_k (by decide) : rg 0 0 0) (by decide) : rg 0 32 0) (by have : (0 : Int32).toInt = 0 := rfl; omega) hT hS (lv_sub hl [1, 0] rfl) (Nat.lt_succ_self _)
set_option maxRecDepth 100000 in
set_option maxHeartbeats 4000000 in
theorem m_X9_lessOf_99t99_0t266 {l : Launch} {D : va_G} {h : Nat → Nat} {cz : Nat → ClassId} {z : EZ} {i : Nat → Nat → Int32} {g : Nat → Nat → Int64} (a_a : Int32) (a_b : Int32) (ha_a : rg 99 99 a_a) (ha_b : rg 0 266 a_b) : DtI l yX9_lessOf cX9_lessOf 2 (some .int) ({ frames := 0, cells := 0, slots := 0, locals := 0 } : Room) D h cz z i g [.int a_a, .int a_b] (fun r u => u = (i, g) ∧ rg 0 99 r) := by
  refine e_I pn_X9_lessOf (Nat.le_of_ble_eq_true rfl) ?_
  intro p e s m args below meth c ls Q X Y hret hT hl hS
  have hx := X.1
  have hb := X.2.1
  have hl : lv_has ls 2 [(0, .int a_a), (1, .int a_b)] := hl
  refine lv_iload_n hx hb dX9_lessOf_0 rfl (lv_at hl 0 rfl) ?_
  refine lv_iload_n hx hb dX9_lessOf_1 rfl (lv_at hl 1 rfl) ?_
  refine lv_icmp_ge (tgt := 9) hx hb dX9_lessOf_2 (by decide) (fun c1 => ?_) (fun c1 => ?_)
  ·
    have q1 : a_b.toInt ≤ a_a.toInt := i_le c1
    have h2 : rg 0 99 a_b := t_lex 0 99 ha_b ha_a (i_le c1) (by decide)
    refine lv_iload_n hx hb dX9_lessOf_9 rfl (lv_at hl 1 rfl) ?_
    exact hret a_b _ _ _ _ _ _ dX9_lessOf_10 hT hS ⟨rfl, h2⟩
  ·
    have q1 : a_a.toInt < a_b.toInt := i_nle c1
    have h3 : rg 100 266 a_b := t_lty 100 266 ha_a ha_b (i_nle c1) (by decide)
    refine lv_iload_n hx hb dX9_lessOf_5 rfl (lv_at hl 0 rfl) ?_
    refine lv_goto (tgt := 10) hx hb dX9_lessOf_6 (by decide) ?_
    exact hret a_a _ _ _ _ _ _ dX9_lessOf_10 hT hS ⟨rfl, (rg_w ha_a (by decide) : rg 0 99 a_a)⟩
set_option maxRecDepth 100000 in
set_option maxHeartbeats 4000000 in
theorem m_X9_stiffer {l : Launch} {D : va_G} {h : Nat → Nat} {cz : Nat → ClassId} {z : EZ} {i : Nat → Nat → Int32} {g : Nat → Nat → Int64} (hR : Rg rA i) (a_a : Int32) (a_b : Int32) (ha_a : rg 0 5 a_a) (ha_b : rg 0 99 a_b) : DtI l yX9_stiffer cX9_stiffer 5 (some .int) ({ frames := 1, cells := 0, slots := 0, locals := 23 } : Room) D h cz z i g [.ref (h 96), .int a_a, .int a_b] (fun r u => u = (i, g) ∧ rg 0 99 r) := by
  refine e_I pn_X9_stiffer (Nat.le_of_ble_eq_true rfl) ?_
  intro p e s m args below meth c ls Q X Y hret hT hl hS
  have hx := X.1
  have hb := X.2.1
  have hl : lv_has ls 5 [(0, .ref (h 96)), (1, .int a_a), (2, .int a_b)] := hl
  refine lv_aload_n hx hb dX9_stiffer_0 rfl (lv_at hl 0 rfl) ?_
  refine lv_iload_n hx hb dX9_stiffer_1 rfl (lv_at hl 1 rfl) ?_
  refine e_Vi (As := [.int a_a]) (rest := []) X Y hT hS (m_X9_nearOf hR a_a) mk_X9_nearOf gm_1662 rfl rfl (by decide) hd_X9_nearOf ⟨rfl, rfl⟩ ⟨Nat.le_of_ble_eq_true rfl, Nat.le_of_ble_eq_true rfl⟩ hl.1 rfl (Nat.le_of_ble_eq_true rfl) dX9_stiffer_2 ⟨Nat.zero_le _, Nat.zero_le _⟩ (fun r1 i1 g1 H locs hq hT hS => ?_)
  obtain ⟨eh1, hr1⟩ := hq
  rw [(Prod.mk.inj eh1).1, (Prod.mk.inj eh1).2] at hT
  refine lv_istore_n (lv' := [(3, .int r1), (0, .ref (h 96)), (1, .int a_a), (2, .int a_b)]) hx hb dX9_stiffer_5 rfl hl (by decide) rfl (fun ls hl => ?_)
  refine lv_aload_n hx hb dX9_stiffer_6 rfl (lv_at hl 1 rfl) ?_
  refine r_getr X hT 96 18 104 fk_9_37 rfl rfl (by decide) dX9_stiffer_7 ?_
  refine lv_iconst (v := 3) hx hb dX9_stiffer_10 (by decide) ?_
  refine lv_iload_n hx hb dX9_stiffer_11 rfl (lv_at hl 2 rfl) ?_
  refine q_imul hx hb dX9_stiffer_12 (fun x2 ex2 => ?_)
  obtain ⟨hx2, ax2⟩ := rg_mul 0 15 ex2 (rg_k (by decide) : rg 3 3 3) ha_a (by decide)
  replace ax2 : x2.toInt = 3 * a_a.toInt := ax2
  refine lv_iconst (v := 1) hx hb dX9_stiffer_13 (by decide) ?_
  refine q_iadd hx hb dX9_stiffer_14 (fun x3 ex3 => ?_)
  obtain ⟨hx3, ax3⟩ := rg_add 1 16 ex3 hx2 (rg_k (by decide) : rg 1 1 1) (by decide)
  replace ax3 : x3.toInt = x2.toInt + 1 := ax3
  refine r_iald X hT 104 rfl (by decide) (v_in hx3 (by decide)) dX9_stiffer_15 ?_
  refine lv_istore (lv' := [(4, .int (i 104 x3.toNatClampNeg)), (3, .int r1), (0, .ref (h 96)), (1, .int a_a), (2, .int a_b)]) hx hb dX9_stiffer_16 hl (by decide) rfl (fun ls hl => ?_)
  refine lv_aload_n hx hb dX9_stiffer_18 rfl (lv_at hl 2 rfl) ?_
  refine r_geti X hT 96 23 fk_9_260 rfl rfl (by decide) dX9_stiffer_19 ?_
  refine lv_iconst (v := 1) hx hb dX9_stiffer_22 (by decide) ?_
  have J40_5 : ∀ (x40_5_4 : Int32) (H : Heap) (locs : List Loc) (ls : Array Slot), rg 0 68 x40_5_4 → TH D h cz i g H → va_S (hA h) s.heap H locs → lv_has ls 5 [(0, .ref (h 96)), (2, .int a_b), (3, .int r1), (4, .int x40_5_4)] → W p l e ({ frames := 1, cells := 0, slots := 0, locals := 23 } : Room) s m args below meth c H locs 0 0 Q (F0 m 40 ls []) := by
    intro x40_5_4 H locs ls hhx40_5_4 hT hS hl
    refine lv_aload_n hx hb dX9_stiffer_40 rfl (lv_at hl 0 rfl) ?_
    refine r_geti X hT 96 23 fk_9_260 rfl rfl (by decide) dX9_stiffer_41 ?_
    refine lv_iconst (v := 2) hx hb dX9_stiffer_44 (by decide) ?_
    have J54_7 : ∀ (x54_7_4 : Int32) (H : Heap) (locs : List Loc) (ls : Array Slot), rg 0 167 x54_7_4 → TH D h cz i g H → va_S (hA h) s.heap H locs → lv_has ls 5 [(0, .ref (h 96)), (2, .int a_b), (3, .int r1), (4, .int x54_7_4)] → W p l e ({ frames := 1, cells := 0, slots := 0, locals := 23 } : Room) s m args below meth c H locs 0 0 Q (F0 m 54 ls []) := by
      intro x54_7_4 H locs ls hhx54_7_4 hT hS hl
      refine lv_aload_n hx hb dX9_stiffer_54 rfl (lv_at hl 0 rfl) ?_
      refine r_geti X hT 96 23 fk_9_260 rfl rfl (by decide) dX9_stiffer_55 ?_
      refine lv_iconst (v := 3) hx hb dX9_stiffer_58 (by decide) ?_
      have J76_9 : ∀ (x76_9_4 : Int32) (H : Heap) (locs : List Loc) (ls : Array Slot), rg 0 167 x76_9_4 → TH D h cz i g H → va_S (hA h) s.heap H locs → lv_has ls 5 [(2, .int a_b), (4, .int x76_9_4)] → W p l e ({ frames := 1, cells := 0, slots := 0, locals := 23 } : Room) s m args below meth c H locs 0 0 Q (F0 m 76 ls []) := by
        intro x76_9_4 H locs ls hhx76_9_4 hT hS hl
        refine lv_bipush (v := 99) hx hb dX9_stiffer_76 (by decide) ?_
        refine lv_iload_n hx hb dX9_stiffer_78 rfl (lv_at hl 0 rfl) ?_
        refine lv_iload hx hb dX9_stiffer_79 (lv_at hl 1 rfl) ?_
        refine q_iadd hx hb dX9_stiffer_81 (fun x10 ex10 => ?_)
        obtain ⟨hx10, ax10⟩ := rg_add 0 266 ex10 ha_b hhx76_9_4 (by decide)
        replace ax10 : x10.toInt = a_b.toInt + x76_9_4.toInt := ax10
        refine e_Si (As := [.int 99, .int x10]) (rest := []) X Y hT hS (m_X9_lessOf_99t99_0t266 (99) x10 (rg_k (by decide) : rg 99 99 99) hx10) sk_X9_lessOf gm_1735 hd_X9_lessOf ⟨rfl, rfl⟩ ⟨Nat.le_of_ble_eq_true rfl, Nat.le_of_ble_eq_true rfl⟩ hl.1 rfl (Nat.le_of_ble_eq_true rfl) dX9_stiffer_82 ⟨Nat.zero_le _, Nat.zero_le _⟩ (fun r11 i11 g11 H locs hq hT hS => ?_)
        obtain ⟨eh11, hr11⟩ := hq
        rw [(Prod.mk.inj eh11).1, (Prod.mk.inj eh11).2] at hT
        exact hret r11 _ _ _ _ _ _ dX9_stiffer_85 hT hS ⟨rfl, hr11⟩
      refine lv_icmp_ne (tgt := 76) hx hb dX9_stiffer_59 (by decide) (fun c8 => ?_) (fun c8 => ?_)
      ·
        have q8 : ¬ (i 96 23).toInt = 3 := i_ne c8
        exact J76_9 x54_7_4 _ _ _ hhx54_7_4 hT hS (lv_sub hl [1, 3] rfl)
      ·
        have q8 : (i 96 23).toInt = 3 := i_eq c8
        have h12 : rg 3 3 (i 96 23) := t_eqx 3 3 (rg_top (i 96 23)) (rg_k (by decide) : rg 3 3 3) (i_eq c8) (by decide)
        refine lv_iload_n hx hb dX9_stiffer_62 rfl (lv_at hl 2 rfl) ?_
        refine lv_aload_n hx hb dX9_stiffer_63 rfl (lv_at hl 0 rfl) ?_
        refine r_geti X hT 96 36 fk_9_276 rfl rfl (by decide) dX9_stiffer_64 ?_
        refine lv_iconst (v := (-1)) hx hb dX9_stiffer_67 (by decide) ?_
        refine q_ixor hx hb dX9_stiffer_68 (fun x13 ex13 => ?_)
        refine q_iand hx hb dX9_stiffer_69 (fun x14 ex14 => ?_)
        have h15 : rg 0 255 x14 := rg_andl ex14 hr1 (by decide)
        refine lv_if_eq (tgt := 76) hx hb dX9_stiffer_70 (by decide) (fun c16 => ?_) (fun c16 => ?_)
        ·
          have q16 : x14.toInt = 0 := i_eq c16
          have h17 : rg 0 0 x14 := t_eqx 0 0 h15 (rg_k (by decide) : rg 0 0 0) (i_eq c16) (by decide)
          exact J76_9 x54_7_4 _ _ _ hhx54_7_4 hT hS (lv_sub hl [1, 3] rfl)
        ·
          have q16 : ¬ x14.toInt = 0 := i_ne c16
          have h18 : rg 1 255 x14 := t_nelo 1 h15 (rg_k (by decide) : rg 0 0 0) (i_ne c16) (by decide)
          refine lv_iconst (v := 0) hx hb dX9_stiffer_73 (by decide) ?_
          refine lv_istore (lv' := [(4, .int 0), (0, .ref (h 96)), (2, .int a_b), (3, .int r1)]) hx hb dX9_stiffer_74 hl (by decide) rfl (fun ls hl => ?_)
          exact J76_9 (0) _ _ _ (rg_w (rg_k (by decide) : rg 0 0 0) (by decide) : rg 0 167 0) hT hS (lv_sub hl [2, 0] rfl)
    refine lv_icmp_ne (tgt := 54) hx hb dX9_stiffer_45 (by decide) (fun c6 => ?_) (fun c6 => ?_)
    ·
      have q6 : ¬ (i 96 23).toInt = 2 := i_ne c6
      exact J54_7 x40_5_4 _ _ _ (rg_w hhx40_5_4 (by decide) : rg 0 167 x40_5_4) hT hS (lv_sub hl [0, 1, 2, 3] rfl)
    ·
      have q6 : (i 96 23).toInt = 2 := i_eq c6
      have h19 : rg 2 2 (i 96 23) := t_eqx 2 2 (rg_top (i 96 23)) (rg_k (by decide) : rg 2 2 2) (i_eq c6) (by decide)
      refine lv_iload hx hb dX9_stiffer_48 (lv_at hl 3 rfl) ?_
      refine lv_iload_n hx hb dX9_stiffer_50 rfl (lv_at hl 1 rfl) ?_
      refine q_iadd hx hb dX9_stiffer_51 (fun x20 ex20 => ?_)
      obtain ⟨hx20, ax20⟩ := rg_add 0 167 ex20 hhx40_5_4 ha_b (by decide)
      replace ax20 : x20.toInt = x40_5_4.toInt + a_b.toInt := ax20
      refine lv_istore (lv' := [(4, .int x20), (0, .ref (h 96)), (2, .int a_b), (3, .int r1)]) hx hb dX9_stiffer_52 hl (by decide) rfl (fun ls hl => ?_)
      exact J54_7 x20 _ _ _ hx20 hT hS (lv_sub hl [1, 2, 3, 0] rfl)
  refine lv_icmp_ne (tgt := 40) hx hb dX9_stiffer_23 (by decide) (fun c4 => ?_) (fun c4 => ?_)
  ·
    have q4 : ¬ (i 96 23).toInt = 1 := i_ne c4
    exact J40_5 (i 104 x3.toNatClampNeg) _ _ _ (rg_w (Rg_at hR 104 x3.toNatClampNeg 0 60 (v_lt (v_in hx3 (by decide))) rfl) (by decide) : rg 0 68 (i 104 x3.toNatClampNeg)) hT hS (lv_sub hl [2, 4, 1, 0] rfl)
  ·
    have q4 : (i 96 23).toInt = 1 := i_eq c4
    have h21 : rg 1 1 (i 96 23) := t_eqx 1 1 (rg_top (i 96 23)) (rg_k (by decide) : rg 1 1 1) (i_eq c4) (by decide)
    refine lv_iload hx hb dX9_stiffer_26 (lv_at hl 0 rfl) ?_
    refine lv_iload_n hx hb dX9_stiffer_28 rfl (lv_at hl 1 rfl) ?_
    refine lv_aload_n hx hb dX9_stiffer_29 rfl (lv_at hl 2 rfl) ?_
    refine r_geti X hT 96 36 fk_9_276 rfl rfl (by decide) dX9_stiffer_30 ?_
    refine q_iand hx hb dX9_stiffer_33 (fun x22 ex22 => ?_)
    have h23 : rg 0 255 x22 := rg_andl ex22 hr1 (by decide)
    refine e_Si (As := [.int x22]) (rest := [.int (i 104 x3.toNatClampNeg)]) X Y hT hS (m_X9_sizeOf x22) sk_X9_sizeOf gm_1732 hd_X9_sizeOf ⟨rfl, rfl⟩ ⟨Nat.le_of_ble_eq_true rfl, Nat.le_of_ble_eq_true rfl⟩ hl.1 rfl (Nat.le_of_ble_eq_true rfl) dX9_stiffer_34 ⟨Nat.zero_le _, Nat.zero_le _⟩ (fun r24 i24 g24 H locs hq hT hS => ?_)
    obtain ⟨eh24, hf24_0⟩ := hq
    rw [(Prod.mk.inj eh24).1, (Prod.mk.inj eh24).2] at hT
    replace hf24_0 : r24.toInt = (popF 32 (x22 : Int32).toBitVec.toNat : Int) := hf24_0
    have h25 : rg 0 8 r24 := pop_rg hf24_0 h23 (by decide) (by decide)
    refine q_iadd hx hb dX9_stiffer_37 (fun x26 ex26 => ?_)
    obtain ⟨hx26, ax26⟩ := rg_add 0 68 ex26 (Rg_at hR 104 x3.toNatClampNeg 0 60 (v_lt (v_in hx3 (by decide))) rfl) h25 (by decide)
    replace ax26 : x26.toInt = (i 104 x3.toNatClampNeg).toInt + r24.toInt := ax26
    refine lv_istore (lv' := [(4, .int x26), (3, .int r1), (0, .ref (h 96)), (1, .int a_a), (2, .int a_b)]) hx hb dX9_stiffer_38 hl (by decide) rfl (fun ls hl => ?_)
    exact J40_5 x26 _ _ _ hx26 hT hS (lv_sub hl [2, 4, 1, 0] rfl)
set_option maxRecDepth 100000 in
set_option maxHeartbeats 4000000 in
theorem m_X9_runs {l : Launch} {D : va_G} {h : Nat → Nat} {cz : Nat → ClassId} {z : EZ} {i : Nat → Nat → Int32} {g : Nat → Nat → Int64} (hR : Rg rA i) : DtV l yX9_runs cX9_runs 3 none ({ frames := 4, cells := 0, slots := 0, locals := 90 } : Room) D h cz z i g [.ref (h 96)] (fun u => Rg rA u.1 ∧ Fr [96, 111, 112, 113, 114, 115] [] i g u) := by
  refine e_V pn_X9_runs (Nat.le_of_ble_eq_true rfl) ?_
  intro p e s m args below meth c ls Q X Y hret hT hl hS
  have hx := X.1
  have hb := X.2.1
  have hl : lv_has ls 3 [(0, .ref (h 96))] := hl
  have hF : Fr [96, 111, 112, 113, 114, 115] [] i g (i, g) := Fr_rf _ _ _ _
  refine lv_aload_n hx hb dX9_runs_0 rfl (lv_at hl 0 rfl) ?_
  refine lv_iconst (v := 0) hx hb dX9_runs_1 (by decide) ?_
  refine r_puti X hT hS 96 36 pk_9_276 rfl rfl rfl rfl (by decide) dX9_runs_2 (fun H locs i1 ei1 hT hS => ?_)
  have hR1 := Rg_put hR ei1 (-2147483648) 2147483647 rfl (rg_k (by decide) : rg 0 0 0) (by decide)
  have hF1 := Fr_puti hF ei1 (by decide)
  refine lv_aload_n hx hb dX9_runs_5 rfl (lv_at hl 0 rfl) ?_
  refine lv_iconst (v := 0) hx hb dX9_runs_6 (by decide) ?_
  refine r_puti X hT hS 96 35 pk_9_285 rfl rfl rfl rfl (by decide) dX9_runs_7 (fun H locs i2 ei2 hT hS => ?_)
  have hR2 := Rg_put hR1 ei2 (-2147483648) 2147483647 rfl (rg_k (by decide) : rg 0 0 0) (by decide)
  have hF2 := Fr_puti hF1 ei2 (by decide)
  refine lv_aload_n hx hb dX9_runs_10 rfl (lv_at hl 0 rfl) ?_
  refine r_getr X hT 96 31 112 fk_9_62 rfl rfl (by decide) dX9_runs_11 ?_
  refine lv_iconst (v := 0) hx hb dX9_runs_14 (by decide) ?_
  refine lv_iconst (v := 0) hx hb dX9_runs_15 (by decide) ?_
  refine r_iastc X hT hS 112 0 rfl (by decide) (v_in (rg_k (by decide) : rg 0 0 0) (by decide)) (by decide) dX9_runs_16 (fun H locs i3 ei3 hT hS => ?_)
  have hR3 := Rg_put hR2 ei3 (-2147483648) 2147483647 rfl (rg_k (by decide) : rg 0 0 0) (by decide)
  have hF3 := Fr_puti hF2 ei3 (by decide)
  refine lv_iconst (v := 0) hx hb dX9_runs_17 (by decide) ?_
  refine lv_istore_n (lv' := [(1, .int 0), (0, .ref (h 96))]) hx hb dX9_runs_18 rfl hl (by decide) rfl (fun ls hl => ?_)
  have L19_4 : ∀ (n6_ : Nat) (x19_1 : Int32) (i5 : Nat → Nat → Int32) (g5 : Nat → Nat → Int64) (H : Heap) (locs : List Loc) (ls : Array Slot), rg 0 6 x19_1 → Rg rA i5 → Fr [96, 111, 112, 113, 114, 115] [] i g (i5, g5) → TH D h cz i5 g5 H → va_S (hA h) s.heap H locs → lv_has ls 3 [(0, .ref (h 96)), (1, .int x19_1)] → (6 - x19_1.toInt).toNat < n6_ → W p l e ({ frames := 4, cells := 0, slots := 0, locals := 90 } : Room) s m args below meth c H locs 0 0 Q (F0 m 19 ls []) := by
    intro n6_
    induction n6_ with
    | zero => intro x19_1 i5 g5 H locs ls hhx19_1 hR5 hF5 hT hS hl hm6_; exact absurd hm6_ (Nat.not_lt_zero _)
    | succ n6_ ih6_ =>
      intro x19_1 i5 g5 H locs ls hhx19_1 hR5 hF5 hT hS hl hm6_
      refine lv_iload_n hx hb dX9_runs_19 rfl (lv_at hl 1 rfl) ?_
      refine lv_aload_n hx hb dX9_runs_20 rfl (lv_at hl 0 rfl) ?_
      refine e_Vi (As := []) (rest := [.int x19_1]) X Y hT hS (m_X9_parts hR5) mk_X9_parts gm_1649 rfl rfl (by decide) hd_X9_parts ⟨rfl, rfl⟩ ⟨Nat.le_of_ble_eq_true rfl, Nat.le_of_ble_eq_true rfl⟩ hl.1 rfl (Nat.le_of_ble_eq_true rfl) dX9_runs_21 ⟨Nat.zero_le _, Nat.zero_le _⟩ (fun r7 i7 g7 H locs hq hT hS => ?_)
      obtain ⟨eh7, hr7⟩ := hq
      rw [(Prod.mk.inj eh7).1, (Prod.mk.inj eh7).2] at hT
      refine lv_icmp_ge (tgt := 66) hx hb dX9_runs_24 (by decide) (fun c8 => ?_) (fun c8 => ?_)
      ·
        have q8 : r7.toInt ≤ x19_1.toInt := i_le c8
        refine lv_iconst (v := 0) hx hb dX9_runs_66 (by decide) ?_
        refine lv_istore_n (lv' := [(1, .int 0), (0, .ref (h 96))]) hx hb dX9_runs_67 rfl hl (by decide) rfl (fun ls hl => ?_)
        have L68_9 : ∀ (n11_ : Nat) (x68_1_1 : Int32) (i10 : Nat → Nat → Int32) (g10 : Nat → Nat → Int64) (H : Heap) (locs : List Loc) (ls : Array Slot), rg 0 12 x68_1_1 → Rg rA i10 → Fr [96, 111, 112, 113, 114, 115] [] i g (i10, g10) → TH D h cz i10 g10 H → va_S (hA h) s.heap H locs → lv_has ls 3 [(0, .ref (h 96)), (1, .int x68_1_1)] → (12 - x68_1_1.toInt).toNat < n11_ → W p l e ({ frames := 4, cells := 0, slots := 0, locals := 90 } : Room) s m args below meth c H locs 0 0 Q (F0 m 68 ls []) := by
          intro n11_
          induction n11_ with
          | zero => intro x68_1_1 i10 g10 H locs ls hhx68_1_1 hR10 hF10 hT hS hl hm11_; exact absurd hm11_ (Nat.not_lt_zero _)
          | succ n11_ ih11_ =>
            intro x68_1_1 i10 g10 H locs ls hhx68_1_1 hR10 hF10 hT hS hl hm11_
            refine lv_iload_n hx hb dX9_runs_68 rfl (lv_at hl 1 rfl) ?_
            refine lv_aload_n hx hb dX9_runs_69 rfl (lv_at hl 0 rfl) ?_
            refine e_Vi (As := []) (rest := [.int x68_1_1]) X Y hT hS (m_X9_years hR10) mk_X9_years gm_1689 rfl rfl (by decide) hd_X9_years ⟨rfl, rfl⟩ ⟨Nat.le_of_ble_eq_true rfl, Nat.le_of_ble_eq_true rfl⟩ hl.1 rfl (Nat.le_of_ble_eq_true rfl) dX9_runs_70 ⟨Nat.zero_le _, Nat.zero_le _⟩ (fun r12 i12 g12 H locs hq hT hS => ?_)
            obtain ⟨eh12, hr12⟩ := hq
            rw [(Prod.mk.inj eh12).1, (Prod.mk.inj eh12).2] at hT
            refine lv_icmp_ge (tgt := 205) hx hb dX9_runs_73 (by decide) (fun c13 => ?_) (fun c13 => ?_)
            ·
              have q13 : r12.toInt ≤ x68_1_1.toInt := i_le c13
              exact hret _ _ _ _ _ _ dX9_runs_205 hT hS ⟨hR10, hF10⟩
            ·
              have q13 : x68_1_1.toInt < r12.toInt := i_nle c13
              have h14 : rg 0 11 x68_1_1 := t_ltx 0 11 hhx68_1_1 hr12 (i_nle c13) (by decide)
              have h15 : rg 1 12 r12 := t_lty 1 12 hhx68_1_1 hr12 (i_nle c13) (by decide)
              refine lv_iconst (v := 0) hx hb dX9_runs_76 (by decide) ?_
              refine lv_istore_n (lv' := [(2, .int 0), (0, .ref (h 96)), (1, .int x68_1_1)]) hx hb dX9_runs_77 rfl hl (by decide) rfl (fun ls hl => ?_)
              have L78_16 : ∀ (n18_ : Nat) (x78_2_2 : Int32) (i17 : Nat → Nat → Int32) (g17 : Nat → Nat → Int64) (H : Heap) (locs : List Loc) (ls : Array Slot), rg 0 6 x78_2_2 → Rg rA i17 → Fr [96, 111, 112, 113, 114, 115] [] i g (i17, g17) → TH D h cz i17 g17 H → va_S (hA h) s.heap H locs → lv_has ls 3 [(0, .ref (h 96)), (1, .int x68_1_1), (2, .int x78_2_2)] → (6 - x78_2_2.toInt).toNat < n18_ → W p l e ({ frames := 4, cells := 0, slots := 0, locals := 90 } : Room) s m args below meth c H locs 0 0 Q (F0 m 78 ls []) := by
                intro n18_
                induction n18_ with
                | zero => intro x78_2_2 i17 g17 H locs ls hhx78_2_2 hR17 hF17 hT hS hl hm18_; exact absurd hm18_ (Nat.not_lt_zero _)
                | succ n18_ ih18_ =>
                  intro x78_2_2 i17 g17 H locs ls hhx78_2_2 hR17 hF17 hT hS hl hm18_
                  refine lv_iload_n hx hb dX9_runs_78 rfl (lv_at hl 2 rfl) ?_
                  refine lv_aload_n hx hb dX9_runs_79 rfl (lv_at hl 0 rfl) ?_
                  refine e_Vi (As := []) (rest := [.int x78_2_2]) X Y hT hS (m_X9_parts hR17) mk_X9_parts gm_1649 rfl rfl (by decide) hd_X9_parts ⟨rfl, rfl⟩ ⟨Nat.le_of_ble_eq_true rfl, Nat.le_of_ble_eq_true rfl⟩ hl.1 rfl (Nat.le_of_ble_eq_true rfl) dX9_runs_80 ⟨Nat.zero_le _, Nat.zero_le _⟩ (fun r19 i19 g19 H locs hq hT hS => ?_)
                  obtain ⟨eh19, hr19⟩ := hq
                  rw [(Prod.mk.inj eh19).1, (Prod.mk.inj eh19).2] at hT
                  refine lv_icmp_ge (tgt := 112) hx hb dX9_runs_83 (by decide) (fun c20 => ?_) (fun c20 => ?_)
                  ·
                    have q20 : r19.toInt ≤ x78_2_2.toInt := i_le c20
                    refine lv_aload_n hx hb dX9_runs_112 rfl (lv_at hl 0 rfl) ?_
                    refine lv_iload_n hx hb dX9_runs_113 rfl (lv_at hl 1 rfl) ?_
                    refine e_Vv (As := [.int x68_1_1]) (rest := []) X Y hT hS (m_X9_airs hR17 x68_1_1 h14) mk_X9_airs gm_1705 rfl rfl (by decide) hd_X9_airs ⟨rfl, rfl⟩ ⟨Nat.le_of_ble_eq_true rfl, Nat.le_of_ble_eq_true rfl⟩ hl.1 rfl (Nat.le_of_ble_eq_true rfl) dX9_runs_114 ⟨Nat.zero_le _, Nat.zero_le _⟩ (fun i21 g21 H locs hq hT hS => ?_)
                    obtain ⟨hR21, hf21⟩ := hq
                    have hF21 := Fr_tr hF17 hf21 (by decide)
                    refine lv_aload_n hx hb dX9_runs_117 rfl (lv_at hl 0 rfl) ?_
                    refine lv_iload_n hx hb dX9_runs_118 rfl (lv_at hl 1 rfl) ?_
                    refine e_Vv (As := [.int x68_1_1]) (rest := []) X Y hT hS (m_X9_knivesOf hR21 x68_1_1 h14) mk_X9_knivesOf gm_1712 rfl rfl (by decide) hd_X9_knivesOf ⟨rfl, rfl⟩ ⟨Nat.le_of_ble_eq_true rfl, Nat.le_of_ble_eq_true rfl⟩ hl.1 rfl (Nat.le_of_ble_eq_true rfl) dX9_runs_119 ⟨Nat.zero_le _, Nat.zero_le _⟩ (fun i22 g22 H locs hq hT hS => ?_)
                    obtain ⟨hR22, hf22⟩ := hq
                    have hF22 := Fr_tr hF21 hf22 (by decide)
                    refine lv_aload_n hx hb dX9_runs_122 rfl (lv_at hl 0 rfl) ?_
                    refine lv_iload_n hx hb dX9_runs_123 rfl (lv_at hl 1 rfl) ?_
                    refine e_Vv (As := [.int x68_1_1]) (rest := []) X Y hT hS (m_X9_opensOthers hR22 x68_1_1 h14) mk_X9_opensOthers gm_1724 rfl rfl (by decide) hd_X9_opensOthers ⟨rfl, rfl⟩ ⟨Nat.le_of_ble_eq_true rfl, Nat.le_of_ble_eq_true rfl⟩ hl.1 rfl (Nat.le_of_ble_eq_true rfl) dX9_runs_124 ⟨Nat.zero_le _, Nat.zero_le _⟩ (fun i23 g23 H locs hq hT hS => ?_)
                    obtain ⟨hR23, hf23⟩ := hq
                    have hF23 := Fr_tr hF22 hf23 (by decide)
                    refine lv_aload_n hx hb dX9_runs_127 rfl (lv_at hl 0 rfl) ?_
                    refine r_getr X hT 96 31 112 fk_9_62 rfl rfl (by decide) dX9_runs_128 ?_
                    refine lv_iload_n hx hb dX9_runs_131 rfl (lv_at hl 1 rfl) ?_
                    refine lv_iconst (v := 1) hx hb dX9_runs_132 (by decide) ?_
                    refine q_iadd hx hb dX9_runs_133 (fun x24 ex24 => ?_)
                    obtain ⟨hx24, ax24⟩ := rg_add 1 12 ex24 h14 (rg_k (by decide) : rg 1 1 1) (by decide)
                    replace ax24 : x24.toInt = x68_1_1.toInt + 1 := ax24
                    refine lv_aload_n hx hb dX9_runs_134 rfl (lv_at hl 0 rfl) ?_
                    refine r_geti X hT 96 36 fk_9_276 rfl rfl (by decide) dX9_runs_135 ?_
                    refine r_iast X hT hS 112 rfl (by decide) (v_in hx24 (by decide)) dX9_runs_138 (fun H locs i25 ei25 hT hS => ?_)
                    have hR25 := Rg_put hR23 ei25 (-2147483648) 2147483647 rfl (rg_top (i23 96 36)) (by decide)
                    have hF25 := Fr_puti hF23 ei25 (by decide)
                    refine lv_iconst (v := 0) hx hb dX9_runs_139 (by decide) ?_
                    refine lv_istore_n (lv' := [(2, .int 0), (0, .ref (h 96)), (1, .int x68_1_1)]) hx hb dX9_runs_140 rfl hl (by decide) rfl (fun ls hl => ?_)
                    have L141_26 : ∀ (n28_ : Nat) (x141_3_2 : Int32) (i27 : Nat → Nat → Int32) (g27 : Nat → Nat → Int64) (H : Heap) (locs : List Loc) (ls : Array Slot), rg 0 6 x141_3_2 → Rg rA i27 → Fr [96, 111, 112, 113, 114, 115] [] i g (i27, g27) → TH D h cz i27 g27 H → va_S (hA h) s.heap H locs → lv_has ls 3 [(0, .ref (h 96)), (1, .int x68_1_1), (2, .int x141_3_2)] → (6 - x141_3_2.toInt).toNat < n28_ → W p l e ({ frames := 4, cells := 0, slots := 0, locals := 90 } : Room) s m args below meth c H locs 0 0 Q (F0 m 141 ls []) := by
                      intro n28_
                      induction n28_ with
                      | zero => intro x141_3_2 i27 g27 H locs ls hhx141_3_2 hR27 hF27 hT hS hl hm28_; exact absurd hm28_ (Nat.not_lt_zero _)
                      | succ n28_ ih28_ =>
                        intro x141_3_2 i27 g27 H locs ls hhx141_3_2 hR27 hF27 hT hS hl hm28_
                        refine lv_iload_n hx hb dX9_runs_141 rfl (lv_at hl 2 rfl) ?_
                        refine lv_aload_n hx hb dX9_runs_142 rfl (lv_at hl 0 rfl) ?_
                        refine e_Vi (As := []) (rest := [.int x141_3_2]) X Y hT hS (m_X9_parts hR27) mk_X9_parts gm_1649 rfl rfl (by decide) hd_X9_parts ⟨rfl, rfl⟩ ⟨Nat.le_of_ble_eq_true rfl, Nat.le_of_ble_eq_true rfl⟩ hl.1 rfl (Nat.le_of_ble_eq_true rfl) dX9_runs_143 ⟨Nat.zero_le _, Nat.zero_le _⟩ (fun r29 i29 g29 H locs hq hT hS => ?_)
                        obtain ⟨eh29, hr29⟩ := hq
                        rw [(Prod.mk.inj eh29).1, (Prod.mk.inj eh29).2] at hT
                        refine lv_icmp_ge (tgt := 199) hx hb dX9_runs_146 (by decide) (fun c30 => ?_) (fun c30 => ?_)
                        ·
                          have q30 : r29.toInt ≤ x141_3_2.toInt := i_le c30
                          obtain ⟨x31, ex31⟩ : ∃ y : Int32, y = x68_1_1 + 1 := ⟨_, rfl⟩
                          refine lv_iinc (v := x31) (lv' := [(1, .int x31), (0, .ref (h 96)), (2, .int x141_3_2)]) hx hb dX9_runs_199 hl (k := 1) rfl (by rw [ex31]; rfl) (by decide) rfl (fun ls hl => ?_)
                          obtain ⟨hx31, ax31⟩ := rg_add 1 12 ex31 h14 (rg_k (by decide) : rg 1 1 1) (by decide)
                          replace ax31 : x31.toInt = x68_1_1.toInt + 1 := ax31
                          refine lv_goto (tgt := 68) hx hb dX9_runs_202 (by decide) ?_
                          exact ih11_ x31 i27 g27 _ _ _ (rg_w hx31 (by decide) : rg 0 12 x31) hR27 hF27 hT hS (lv_sub hl [1, 0] rfl) (m_up ax31 hx31 (by decide) hm11_)
                        ·
                          have q30 : x141_3_2.toInt < r29.toInt := i_nle c30
                          have h32 : rg 0 5 x141_3_2 := t_ltx 0 5 hhx141_3_2 hr29 (i_nle c30) (by decide)
                          have h33 : rg 1 6 r29 := t_lty 1 6 hhx141_3_2 hr29 (i_nle c30) (by decide)
                          refine lv_aload_n hx hb dX9_runs_149 rfl (lv_at hl 0 rfl) ?_
                          refine r_geti X hT 96 36 fk_9_276 rfl rfl (by decide) dX9_runs_150 ?_
                          refine lv_iload_n hx hb dX9_runs_153 rfl (lv_at hl 2 rfl) ?_
                          refine e_Si (As := [.int (i27 96 36), .int x141_3_2]) (rest := []) X Y hT hS (m_X9_isBit (i27 96 36) x141_3_2) sk_X9_isBit gm_1670 hd_X9_isBit ⟨rfl, rfl⟩ ⟨Nat.le_of_ble_eq_true rfl, Nat.le_of_ble_eq_true rfl⟩ hl.1 rfl (Nat.le_of_ble_eq_true rfl) dX9_runs_154 ⟨Nat.zero_le _, Nat.zero_le _⟩ (fun r34 i34 g34 H locs hq hT hS => ?_)
                          rcases hq with hq | hq
                          ·
                            obtain ⟨eh34, rfl, hf34_0⟩ := hq
                            rw [(Prod.mk.inj eh34).1, (Prod.mk.inj eh34).2] at hT
                            replace hf34_0 : ((((i27 96 36) : Int32) >>> ((x141_3_2 : Int32) &&& 31)) &&& 1 = 1) := hf34_0
                            refine lv_if_ne (tgt := 193) hx hb dX9_runs_157 (by decide) (fun c35 => ?_) (fun c35 => (x_eq (rg_k (by decide) : rg 1 1 1) (rg_k (by decide) : rg 0 0 0) (i_eq c35) (by decide)).elim)
                            obtain ⟨x36, ex36⟩ : ∃ y : Int32, y = x141_3_2 + 1 := ⟨_, rfl⟩
                            refine lv_iinc (v := x36) (lv' := [(2, .int x36), (0, .ref (h 96)), (1, .int x68_1_1)]) hx hb dX9_runs_193 hl (k := 2) rfl (by rw [ex36]; rfl) (by decide) rfl (fun ls hl => ?_)
                            obtain ⟨hx36, ax36⟩ := rg_add 1 6 ex36 h32 (rg_k (by decide) : rg 1 1 1) (by decide)
                            replace ax36 : x36.toInt = x141_3_2.toInt + 1 := ax36
                            refine lv_goto (tgt := 141) hx hb dX9_runs_196 (by decide) ?_
                            exact ih28_ x36 i27 g27 _ _ _ (rg_w hx36 (by decide) : rg 0 6 x36) hR27 hF27 hT hS (lv_sub hl [1, 2, 0] rfl) (m_up ax36 hx36 (by decide) hm28_)
                          ·
                            obtain ⟨eh34, rfl, hf34_0⟩ := hq
                            rw [(Prod.mk.inj eh34).1, (Prod.mk.inj eh34).2] at hT
                            replace hf34_0 : ¬ ((((i27 96 36) : Int32) >>> ((x141_3_2 : Int32) &&& 31)) &&& 1 = 1) := hf34_0
                            refine lv_if_ne (tgt := 193) hx hb dX9_runs_157 (by decide) (fun c37 => (x_ne (rg_k (by decide) : rg 0 0 0) (rg_k (by decide) : rg 0 0 0) (i_ne c37) (by decide)).elim) (fun c37 => ?_)
                            refine lv_aload_n hx hb dX9_runs_160 rfl (lv_at hl 0 rfl) ?_
                            refine r_getr X hT 96 30 111 fk_9_59 rfl rfl (by decide) dX9_runs_161 ?_
                            refine lv_bipush (v := 6) hx hb dX9_runs_164 (by decide) ?_
                            refine lv_iload_n hx hb dX9_runs_166 rfl (lv_at hl 1 rfl) ?_
                            refine q_imul hx hb dX9_runs_167 (fun x38 ex38 => ?_)
                            obtain ⟨hx38, ax38⟩ := rg_mul 0 66 ex38 (rg_k (by decide) : rg 6 6 6) h14 (by decide)
                            replace ax38 : x38.toInt = 6 * x68_1_1.toInt := ax38
                            refine lv_bipush (v := 6) hx hb dX9_runs_168 (by decide) ?_
                            refine q_iadd hx hb dX9_runs_170 (fun x39 ex39 => ?_)
                            obtain ⟨hx39, ax39⟩ := rg_add 6 72 ex39 hx38 (rg_k (by decide) : rg 6 6 6) (by decide)
                            replace ax39 : x39.toInt = x38.toInt + 6 := ax39
                            refine lv_iload_n hx hb dX9_runs_171 rfl (lv_at hl 2 rfl) ?_
                            refine q_iadd hx hb dX9_runs_172 (fun x40 ex40 => ?_)
                            obtain ⟨hx40, ax40⟩ := rg_add 6 77 ex40 hx39 h32 (by decide)
                            replace ax40 : x40.toInt = x39.toInt + x141_3_2.toInt := ax40
                            refine lv_aload_n hx hb dX9_runs_173 rfl (lv_at hl 0 rfl) ?_
                            refine lv_iload_n hx hb dX9_runs_174 rfl (lv_at hl 2 rfl) ?_
                            refine lv_aload_n hx hb dX9_runs_175 rfl (lv_at hl 0 rfl) ?_
                            refine r_getr X hT 96 30 111 fk_9_59 rfl rfl (by decide) dX9_runs_176 ?_
                            refine lv_bipush (v := 6) hx hb dX9_runs_179 (by decide) ?_
                            refine lv_iload_n hx hb dX9_runs_181 rfl (lv_at hl 1 rfl) ?_
                            refine q_imul hx hb dX9_runs_182 (fun x41 ex41 => ?_)
                            obtain ⟨hx41, ax41⟩ := rg_mul 0 66 ex41 (rg_k (by decide) : rg 6 6 6) h14 (by decide)
                            replace ax41 : x41.toInt = 6 * x68_1_1.toInt := ax41
                            refine lv_bipush (v := 6) hx hb dX9_runs_183 (by decide) ?_
                            refine q_iadd hx hb dX9_runs_185 (fun x42 ex42 => ?_)
                            obtain ⟨hx42, ax42⟩ := rg_add 6 72 ex42 hx41 (rg_k (by decide) : rg 6 6 6) (by decide)
                            replace ax42 : x42.toInt = x41.toInt + 6 := ax42
                            refine lv_iload_n hx hb dX9_runs_186 rfl (lv_at hl 2 rfl) ?_
                            refine q_iadd hx hb dX9_runs_187 (fun x43 ex43 => ?_)
                            obtain ⟨hx43, ax43⟩ := rg_add 6 77 ex43 hx42 h32 (by decide)
                            replace ax43 : x43.toInt = x42.toInt + x141_3_2.toInt := ax43
                            refine r_iald X hT 111 rfl (by decide) (v_in hx43 (by decide)) dX9_runs_188 ?_
                            refine e_Vi (As := [.int x141_3_2, .int (i27 111 x43.toNatClampNeg)]) (rest := [.int x40, .ref (h 111)]) X Y hT hS (m_X9_stiffer hR27 x141_3_2 (i27 111 x43.toNatClampNeg) h32 (Rg_at hR27 111 x43.toNatClampNeg 0 99 (v_lt (v_in hx43 (by decide))) rfl)) mk_X9_stiffer gm_1728 rfl rfl (by decide) hd_X9_stiffer ⟨rfl, rfl⟩ ⟨Nat.le_of_ble_eq_true rfl, Nat.le_of_ble_eq_true rfl⟩ hl.1 rfl (Nat.le_of_ble_eq_true rfl) dX9_runs_189 ⟨Nat.zero_le _, Nat.zero_le _⟩ (fun r44 i44 g44 H locs hq hT hS => ?_)
                            obtain ⟨eh44, hr44⟩ := hq
                            rw [(Prod.mk.inj eh44).1, (Prod.mk.inj eh44).2] at hT
                            refine r_iast X hT hS 111 rfl (by decide) (v_in hx40 (by decide)) dX9_runs_192 (fun H locs i45 ei45 hT hS => ?_)
                            have hR45 := Rg_put hR27 ei45 0 99 rfl hr44 (by decide)
                            have hF45 := Fr_puti hF27 ei45 (by decide)
                            obtain ⟨x46, ex46⟩ : ∃ y : Int32, y = x141_3_2 + 1 := ⟨_, rfl⟩
                            refine lv_iinc (v := x46) (lv' := [(2, .int x46), (0, .ref (h 96)), (1, .int x68_1_1)]) hx hb dX9_runs_193 hl (k := 2) rfl (by rw [ex46]; rfl) (by decide) rfl (fun ls hl => ?_)
                            obtain ⟨hx46, ax46⟩ := rg_add 1 6 ex46 h32 (rg_k (by decide) : rg 1 1 1) (by decide)
                            replace ax46 : x46.toInt = x141_3_2.toInt + 1 := ax46
                            refine lv_goto (tgt := 141) hx hb dX9_runs_196 (by decide) ?_
                            exact ih28_ x46 i45 g27 _ _ _ (rg_w hx46 (by decide) : rg 0 6 x46) hR45 hF45 hT hS (lv_sub hl [1, 2, 0] rfl) (m_up ax46 hx46 (by decide) hm28_)
                    exact L141_26 _ (0) i25 g23 _ _ _ (rg_w (rg_k (by decide) : rg 0 0 0) (by decide) : rg 0 6 0) hR25 hF25 hT hS (lv_sub hl [1, 2, 0] rfl) (Nat.lt_succ_self _)
                  ·
                    have q20 : x78_2_2.toInt < r19.toInt := i_nle c20
                    have h47 : rg 0 5 x78_2_2 := t_ltx 0 5 hhx78_2_2 hr19 (i_nle c20) (by decide)
                    have h48 : rg 1 6 r19 := t_lty 1 6 hhx78_2_2 hr19 (i_nle c20) (by decide)
                    refine lv_aload_n hx hb dX9_runs_86 rfl (lv_at hl 0 rfl) ?_
                    refine r_getr X hT 96 30 111 fk_9_59 rfl rfl (by decide) dX9_runs_87 ?_
                    refine lv_bipush (v := 6) hx hb dX9_runs_90 (by decide) ?_
                    refine lv_iload_n hx hb dX9_runs_92 rfl (lv_at hl 1 rfl) ?_
                    refine q_imul hx hb dX9_runs_93 (fun x49 ex49 => ?_)
                    obtain ⟨hx49, ax49⟩ := rg_mul 0 66 ex49 (rg_k (by decide) : rg 6 6 6) h14 (by decide)
                    replace ax49 : x49.toInt = 6 * x68_1_1.toInt := ax49
                    refine lv_bipush (v := 6) hx hb dX9_runs_94 (by decide) ?_
                    refine q_iadd hx hb dX9_runs_96 (fun x50 ex50 => ?_)
                    obtain ⟨hx50, ax50⟩ := rg_add 6 72 ex50 hx49 (rg_k (by decide) : rg 6 6 6) (by decide)
                    replace ax50 : x50.toInt = x49.toInt + 6 := ax50
                    refine lv_iload_n hx hb dX9_runs_97 rfl (lv_at hl 2 rfl) ?_
                    refine q_iadd hx hb dX9_runs_98 (fun x51 ex51 => ?_)
                    obtain ⟨hx51, ax51⟩ := rg_add 6 77 ex51 hx50 h47 (by decide)
                    replace ax51 : x51.toInt = x50.toInt + x78_2_2.toInt := ax51
                    refine lv_aload_n hx hb dX9_runs_99 rfl (lv_at hl 0 rfl) ?_
                    refine lv_iload_n hx hb dX9_runs_100 rfl (lv_at hl 2 rfl) ?_
                    refine lv_iload_n hx hb dX9_runs_101 rfl (lv_at hl 1 rfl) ?_
                    refine e_Vi (As := [.int x78_2_2, .int x68_1_1]) (rest := [.int x51, .ref (h 111)]) X Y hT hS (m_X9_stiffAt hR17 x78_2_2 x68_1_1 h47 (rg_w h14 (by decide) : rg 0 12 x68_1_1)) mk_X9_stiffAt gm_1701 rfl rfl (by decide) hd_X9_stiffAt ⟨rfl, rfl⟩ ⟨Nat.le_of_ble_eq_true rfl, Nat.le_of_ble_eq_true rfl⟩ hl.1 rfl (Nat.le_of_ble_eq_true rfl) dX9_runs_102 ⟨Nat.zero_le _, Nat.zero_le _⟩ (fun r52 i52 g52 H locs hq hT hS => ?_)
                    obtain ⟨eh52, hr52⟩ := hq
                    rw [(Prod.mk.inj eh52).1, (Prod.mk.inj eh52).2] at hT
                    refine r_iast X hT hS 111 rfl (by decide) (v_in hx51 (by decide)) dX9_runs_105 (fun H locs i53 ei53 hT hS => ?_)
                    have hR53 := Rg_put hR17 ei53 0 99 rfl hr52 (by decide)
                    have hF53 := Fr_puti hF17 ei53 (by decide)
                    obtain ⟨x54, ex54⟩ : ∃ y : Int32, y = x78_2_2 + 1 := ⟨_, rfl⟩
                    refine lv_iinc (v := x54) (lv' := [(2, .int x54), (0, .ref (h 96)), (1, .int x68_1_1)]) hx hb dX9_runs_106 hl (k := 2) rfl (by rw [ex54]; rfl) (by decide) rfl (fun ls hl => ?_)
                    obtain ⟨hx54, ax54⟩ := rg_add 1 6 ex54 h47 (rg_k (by decide) : rg 1 1 1) (by decide)
                    replace ax54 : x54.toInt = x78_2_2.toInt + 1 := ax54
                    refine lv_goto (tgt := 78) hx hb dX9_runs_109 (by decide) ?_
                    exact ih18_ x54 i53 g17 _ _ _ (rg_w hx54 (by decide) : rg 0 6 x54) hR53 hF53 hT hS (lv_sub hl [1, 2, 0] rfl) (m_up ax54 hx54 (by decide) hm18_)
              exact L78_16 _ (0) i10 g10 _ _ _ (rg_w (rg_k (by decide) : rg 0 0 0) (by decide) : rg 0 6 0) hR10 hF10 hT hS (lv_sub hl [1, 2, 0] rfl) (Nat.lt_succ_self _)
        exact L68_9 _ (0) i5 g5 _ _ _ (rg_w (rg_k (by decide) : rg 0 0 0) (by decide) : rg 0 12 0) hR5 hF5 hT hS (lv_sub hl [1, 0] rfl) (Nat.lt_succ_self _)
      ·
        have q8 : x19_1.toInt < r7.toInt := i_nle c8
        have h55 : rg 0 5 x19_1 := t_ltx 0 5 hhx19_1 hr7 (i_nle c8) (by decide)
        have h56 : rg 1 6 r7 := t_lty 1 6 hhx19_1 hr7 (i_nle c8) (by decide)
        refine lv_aload_n hx hb dX9_runs_27 rfl (lv_at hl 0 rfl) ?_
        refine r_getr X hT 96 30 111 fk_9_59 rfl rfl (by decide) dX9_runs_28 ?_
        refine lv_iload_n hx hb dX9_runs_31 rfl (lv_at hl 1 rfl) ?_
        refine lv_aload_n hx hb dX9_runs_32 rfl (lv_at hl 0 rfl) ?_
        refine r_getr X hT 96 28 109 fk_9_53 rfl rfl (by decide) dX9_runs_33 ?_
        refine lv_iload_n hx hb dX9_runs_36 rfl (lv_at hl 1 rfl) ?_
        refine r_iald X hT 109 rfl (by decide) (v_in h55 (by decide)) dX9_runs_37 ?_
        refine r_iast X hT hS 111 rfl (by decide) (v_in h55 (by decide)) dX9_runs_38 (fun H locs i57 ei57 hT hS => ?_)
        have hR57 := Rg_put hR5 ei57 0 99 rfl (Rg_at hR5 109 x19_1.toNatClampNeg 0 60 (v_lt (v_in h55 (by decide))) rfl) (by decide)
        have hF57 := Fr_puti hF5 ei57 (by decide)
        refine lv_aload_n hx hb dX9_runs_39 rfl (lv_at hl 0 rfl) ?_
        refine r_getr X hT 96 32 113 fk_9_65 rfl rfl (by decide) dX9_runs_40 ?_
        refine lv_iload_n hx hb dX9_runs_43 rfl (lv_at hl 1 rfl) ?_
        refine lv_iconst (v := (-1)) hx hb dX9_runs_44 (by decide) ?_
        refine r_iast X hT hS 113 rfl (by decide) (v_in h55 (by decide)) dX9_runs_45 (fun H locs i58 ei58 hT hS => ?_)
        have hR58 := Rg_put hR57 ei58 (-2147483648) 2147483647 rfl (rg_k (by decide) : rg (-1) (-1) (-1)) (by decide)
        have hF58 := Fr_puti hF57 ei58 (by decide)
        refine lv_aload_n hx hb dX9_runs_46 rfl (lv_at hl 0 rfl) ?_
        refine r_getr X hT 96 33 114 fk_9_68 rfl rfl (by decide) dX9_runs_47 ?_
        refine lv_iload_n hx hb dX9_runs_50 rfl (lv_at hl 1 rfl) ?_
        refine lv_iconst (v := 0) hx hb dX9_runs_51 (by decide) ?_
        refine r_iast X hT hS 114 rfl (by decide) (v_in h55 (by decide)) dX9_runs_52 (fun H locs i59 ei59 hT hS => ?_)
        have hR59 := Rg_put hR58 ei59 (-2147483648) 2147483647 rfl (rg_k (by decide) : rg 0 0 0) (by decide)
        have hF59 := Fr_puti hF58 ei59 (by decide)
        refine lv_aload_n hx hb dX9_runs_53 rfl (lv_at hl 0 rfl) ?_
        refine r_getr X hT 96 34 115 fk_9_71 rfl rfl (by decide) dX9_runs_54 ?_
        refine lv_iload_n hx hb dX9_runs_57 rfl (lv_at hl 1 rfl) ?_
        refine lv_iconst (v := (-1)) hx hb dX9_runs_58 (by decide) ?_
        refine r_iast X hT hS 115 rfl (by decide) (v_in h55 (by decide)) dX9_runs_59 (fun H locs i60 ei60 hT hS => ?_)
        have hR60 := Rg_put hR59 ei60 (-2147483648) 2147483647 rfl (rg_k (by decide) : rg (-1) (-1) (-1)) (by decide)
        have hF60 := Fr_puti hF59 ei60 (by decide)
        obtain ⟨x61, ex61⟩ : ∃ y : Int32, y = x19_1 + 1 := ⟨_, rfl⟩
        refine lv_iinc (v := x61) (lv' := [(1, .int x61), (0, .ref (h 96))]) hx hb dX9_runs_60 hl (k := 1) rfl (by rw [ex61]; rfl) (by decide) rfl (fun ls hl => ?_)
        obtain ⟨hx61, ax61⟩ := rg_add 1 6 ex61 h55 (rg_k (by decide) : rg 1 1 1) (by decide)
        replace ax61 : x61.toInt = x19_1.toInt + 1 := ax61
        refine lv_goto (tgt := 19) hx hb dX9_runs_63 (by decide) ?_
        exact ih6_ x61 i60 g5 _ _ _ (rg_w hx61 (by decide) : rg 0 6 x61) hR60 hF60 hT hS (lv_sub hl [1, 0] rfl) (m_up ax61 hx61 (by decide) hm6_)
  exact L19_4 _ (0) i3 g _ _ _ (rg_w (rg_k (by decide) : rg 0 0 0) (by decide) : rg 0 6 0) hR3 hF3 hT hS (lv_sub hl [1, 0] rfl) (Nat.lt_succ_self _)
set_option maxRecDepth 100000 in
set_option maxHeartbeats 4000000 in
theorem m_X9_laysNow {l : Launch} {D : va_G} {h : Nat → Nat} {cz : Nat → ClassId} {z : EZ} {i : Nat → Nat → Int32} {g : Nat → Nat → Int64} (hR : Rg rA i) : DtV l yX9_laysNow cX9_laysNow 1 none ({ frames := 5, cells := 0, slots := 0, locals := 112 } : Room) D h cz z i g [.ref (h 96)] (fun u => Rg rA u.1 ∧ Fr [96, 109, 110, 111, 112, 113, 114, 115] [] i g u) := by
  refine e_V pn_X9_laysNow (Nat.le_of_ble_eq_true rfl) ?_
  intro p e s m args below meth c ls Q X Y hret hT hl hS
  have hx := X.1
  have hb := X.2.1
  have hl : lv_has ls 1 [(0, .ref (h 96))] := hl
  have hF : Fr [96, 109, 110, 111, 112, 113, 114, 115] [] i g (i, g) := Fr_rf _ _ _ _
  refine lv_aload_n hx hb dX9_laysNow_0 rfl (lv_at hl 0 rfl) ?_
  refine e_Vv (As := []) (rest := []) X Y hT hS (m_X9_lays hR) mk_X9_lays gm_1658 rfl rfl (by decide) hd_X9_lays ⟨rfl, rfl⟩ ⟨Nat.le_of_ble_eq_true rfl, Nat.le_of_ble_eq_true rfl⟩ hl.1 rfl (Nat.le_of_ble_eq_true rfl) dX9_laysNow_1 ⟨Nat.zero_le _, Nat.zero_le _⟩ (fun i1 g1 H locs hq hT hS => ?_)
  obtain ⟨hR1, hf1⟩ := hq
  have hF1 := Fr_tr hF hf1 (by decide)
  refine lv_aload_n hx hb dX9_laysNow_4 rfl (lv_at hl 0 rfl) ?_
  refine e_Vv (As := []) (rest := []) X Y hT hS (m_X9_runs hR1) mk_X9_runs gm_1697 rfl rfl (by decide) hd_X9_runs ⟨rfl, rfl⟩ ⟨Nat.le_of_ble_eq_true rfl, Nat.le_of_ble_eq_true rfl⟩ hl.1 rfl (Nat.le_of_ble_eq_true rfl) dX9_laysNow_5 ⟨Nat.zero_le _, Nat.zero_le _⟩ (fun i2 g2 H locs hq hT hS => ?_)
  obtain ⟨hR2, hf2⟩ := hq
  have hF2 := Fr_tr hF1 hf2 (by decide)
  exact hret _ _ _ _ _ _ dX9_laysNow_8 hT hS ⟨hR2, hF2⟩
set_option maxRecDepth 100000 in
set_option maxHeartbeats 4000000 in
theorem m_X9_stiff {l : Launch} {D : va_G} {h : Nat → Nat} {cz : Nat → ClassId} {z : EZ} {i : Nat → Nat → Int32} {g : Nat → Nat → Int64} (hR : Rg rA i) (a_a : Int32) (a_b : Int32) : DtI l yX9_stiff cX9_stiff 3 (some .int) ({ frames := 6, cells := 0, slots := 0, locals := 132 } : Room) D h cz z i g [.ref (h 96), .int a_a, .int a_b] (fun r u => Rg rA u.1 ∧ Fr [96, 109, 110, 111, 112, 113, 114, 115] [] i g u ∧ rg (-2) 99 r) := by
  refine e_I pn_X9_stiff (Nat.le_of_ble_eq_true rfl) ?_
  intro p e s m args below meth c ls Q X Y hret hT hl hS
  have hx := X.1
  have hb := X.2.1
  have hl : lv_has ls 3 [(0, .ref (h 96)), (1, .int a_a), (2, .int a_b)] := hl
  have hF : Fr [96, 109, 110, 111, 112, 113, 114, 115] [] i g (i, g) := Fr_rf _ _ _ _
  refine lv_aload_n hx hb dX9_stiff_0 rfl (lv_at hl 0 rfl) ?_
  refine lv_iconst (v := 0) hx hb dX9_stiff_1 (by decide) ?_
  refine r_puti X hT hS 96 0 pk_9_83 rfl rfl rfl rfl (by decide) dX9_stiff_2 (fun H locs i1 ei1 hT hS => ?_)
  have hR1 := Rg_put hR ei1 (-2147483648) 2147483647 rfl (rg_k (by decide) : rg 0 0 0) (by decide)
  have hF1 := Fr_puti hF ei1 (by decide)
  refine lv_aload_n hx hb dX9_stiff_5 rfl (lv_at hl 0 rfl) ?_
  refine lv_iload_n hx hb dX9_stiff_6 rfl (lv_at hl 1 rfl) ?_
  refine lv_iload_n hx hb dX9_stiff_7 rfl (lv_at hl 2 rfl) ?_
  refine e_Vi (As := [.int a_a, .int a_b]) (rest := []) X Y hT hS (m_X9_isThen hR1 a_a a_b) mk_X9_isThen gm_1677 rfl rfl (by decide) hd_X9_isThen ⟨rfl, rfl⟩ ⟨Nat.le_of_ble_eq_true rfl, Nat.le_of_ble_eq_true rfl⟩ hl.1 rfl (Nat.le_of_ble_eq_true rfl) dX9_stiff_8 ⟨Nat.zero_le _, Nat.zero_le _⟩ (fun r2 i2 g2 H locs hq hT hS => ?_)
  rcases hq with hq | hq
  ·
    obtain ⟨eh2, rfl, hf2_0, hf2_1⟩ := hq
    rw [(Prod.mk.inj eh2).1, (Prod.mk.inj eh2).2] at hT
    have h3 : rg 0 5 a_a := ⟨by have := (rg_top a_a).1; have := hf2_0.1; omega, by have := (rg_top a_a).2; have := hf2_0.2; omega⟩
    have h4 : rg 0 12 a_b := ⟨by have := (rg_top a_b).1; have := hf2_1.1; omega, by have := (rg_top a_b).2; have := hf2_1.2; omega⟩
    refine lv_if_ne (tgt := 17) hx hb dX9_stiff_11 (by decide) (fun c5 => ?_) (fun c5 => (x_eq (rg_k (by decide) : rg 1 1 1) (rg_k (by decide) : rg 0 0 0) (i_eq c5) (by decide)).elim)
    refine lv_aload_n hx hb dX9_stiff_17 rfl (lv_at hl 0 rfl) ?_
    refine e_Vv (As := []) (rest := []) X Y hT hS (m_X9_laysNow hR1) mk_X9_laysNow gm_1693 rfl rfl (by decide) hd_X9_laysNow ⟨rfl, rfl⟩ ⟨Nat.le_of_ble_eq_true rfl, Nat.le_of_ble_eq_true rfl⟩ hl.1 rfl (Nat.le_of_ble_eq_true rfl) dX9_stiff_18 ⟨Nat.zero_le _, Nat.zero_le _⟩ (fun i6 g6 H locs hq hT hS => ?_)
    obtain ⟨hR6, hf6⟩ := hq
    have hF6 := Fr_tr hF1 hf6 (by decide)
    refine lv_aload_n hx hb dX9_stiff_21 rfl (lv_at hl 0 rfl) ?_
    refine lv_iload_n hx hb dX9_stiff_22 rfl (lv_at hl 1 rfl) ?_
    refine lv_iload_n hx hb dX9_stiff_23 rfl (lv_at hl 2 rfl) ?_
    refine e_Vi (As := [.int a_a, .int a_b]) (rest := []) X Y hT hS (m_X9_stiffAt hR6 a_a a_b h3 h4) mk_X9_stiffAt gm_1701 rfl rfl (by decide) hd_X9_stiffAt ⟨rfl, rfl⟩ ⟨Nat.le_of_ble_eq_true rfl, Nat.le_of_ble_eq_true rfl⟩ hl.1 rfl (Nat.le_of_ble_eq_true rfl) dX9_stiff_24 ⟨Nat.zero_le _, Nat.zero_le _⟩ (fun r7 i7 g7 H locs hq hT hS => ?_)
    obtain ⟨eh7, hr7⟩ := hq
    rw [(Prod.mk.inj eh7).1, (Prod.mk.inj eh7).2] at hT
    exact hret r7 _ _ _ _ _ _ dX9_stiff_27 hT hS ⟨hR6, hF6, (rg_w hr7 (by decide) : rg (-2) 99 r7)⟩
  ·
    obtain ⟨eh2, rfl⟩ := hq
    rw [(Prod.mk.inj eh2).1, (Prod.mk.inj eh2).2] at hT
    refine lv_if_ne (tgt := 17) hx hb dX9_stiff_11 (by decide) (fun c8 => (x_ne (rg_k (by decide) : rg 0 0 0) (rg_k (by decide) : rg 0 0 0) (i_ne c8) (by decide)).elim) (fun c8 => ?_)
    refine lv_bipush (v := (-2)) hx hb dX9_stiff_14 (by decide) ?_
    exact hret (-2) _ _ _ _ _ _ dX9_stiff_16 hT hS ⟨hR1, hF1, (rg_w (rg_k (by decide) : rg (-2) (-2) (-2)) (by decide) : rg (-2) 99 (-2))⟩
set_option maxRecDepth 100000 in
set_option maxHeartbeats 4000000 in
theorem m_X9_open {l : Launch} {D : va_G} {h : Nat → Nat} {cz : Nat → ClassId} {z : EZ} {i : Nat → Nat → Int32} {g : Nat → Nat → Int64} (hR : Rg rA i) (a_a : Int32) : DtI l yX9_open cX9_open 2 (some .int) ({ frames := 6, cells := 0, slots := 0, locals := 132 } : Room) D h cz z i g [.ref (h 96), .int a_a] (fun r u => Rg rA u.1 ∧ Fr [96, 109, 110, 111, 112, 113, 114, 115] [] i g u) := by
  refine e_I pn_X9_open (Nat.le_of_ble_eq_true rfl) ?_
  intro p e s m args below meth c ls Q X Y hret hT hl hS
  have hx := X.1
  have hb := X.2.1
  have hl : lv_has ls 2 [(0, .ref (h 96)), (1, .int a_a)] := hl
  have hF : Fr [96, 109, 110, 111, 112, 113, 114, 115] [] i g (i, g) := Fr_rf _ _ _ _
  refine lv_aload_n hx hb dX9_open_0 rfl (lv_at hl 0 rfl) ?_
  refine lv_iconst (v := 0) hx hb dX9_open_1 (by decide) ?_
  refine r_puti X hT hS 96 0 pk_9_83 rfl rfl rfl rfl (by decide) dX9_open_2 (fun H locs i1 ei1 hT hS => ?_)
  have hR1 := Rg_put hR ei1 (-2147483648) 2147483647 rfl (rg_k (by decide) : rg 0 0 0) (by decide)
  have hF1 := Fr_puti hF ei1 (by decide)
  refine lv_aload_n hx hb dX9_open_5 rfl (lv_at hl 0 rfl) ?_
  refine lv_iload_n hx hb dX9_open_6 rfl (lv_at hl 1 rfl) ?_
  refine q_i2l hx hb dX9_open_7 (fun y2 ey2 => ?_)
  obtain ⟨hy2, ay2⟩ := rg_i2l ey2 (rg_top a_a)
  refine e_Vi (As := [.long y2]) (rest := []) X Y hT hS (m_X9_isYear hR1 y2) mk_X9_isYear gm_1681 rfl rfl (by decide) hd_X9_isYear ⟨rfl, rfl⟩ ⟨Nat.le_of_ble_eq_true rfl, Nat.le_of_ble_eq_true rfl⟩ hl.1 rfl (Nat.le_of_ble_eq_true rfl) dX9_open_8 ⟨Nat.zero_le _, Nat.zero_le _⟩ (fun r3 i3 g3 H locs hq hT hS => ?_)
  rcases hq with hq | hq
  ·
    obtain ⟨eh3, rfl, hf3_0⟩ := hq
    rw [(Prod.mk.inj eh3).1, (Prod.mk.inj eh3).2] at hT
    have h4 : rgL 0 12 y2 := ⟨by have := hy2.1; have := hf3_0.1; omega, by have := hy2.2; have := hf3_0.2; omega⟩
    have h5 : rg 0 12 a_a := ⟨by have := h4.1; have := (rg_top a_a).1; have := ay2; omega, by have := h4.2; have := (rg_top a_a).2; have := ay2; omega⟩
    refine lv_if_ne (tgt := 17) hx hb dX9_open_11 (by decide) (fun c6 => ?_) (fun c6 => (x_eq (rg_k (by decide) : rg 1 1 1) (rg_k (by decide) : rg 0 0 0) (i_eq c6) (by decide)).elim)
    refine lv_aload_n hx hb dX9_open_17 rfl (lv_at hl 0 rfl) ?_
    refine e_Vv (As := []) (rest := []) X Y hT hS (m_X9_laysNow hR1) mk_X9_laysNow gm_1693 rfl rfl (by decide) hd_X9_laysNow ⟨rfl, rfl⟩ ⟨Nat.le_of_ble_eq_true rfl, Nat.le_of_ble_eq_true rfl⟩ hl.1 rfl (Nat.le_of_ble_eq_true rfl) dX9_open_18 ⟨Nat.zero_le _, Nat.zero_le _⟩ (fun i7 g7 H locs hq hT hS => ?_)
    obtain ⟨hR7, hf7⟩ := hq
    have hF7 := Fr_tr hF1 hf7 (by decide)
    refine lv_aload_n hx hb dX9_open_21 rfl (lv_at hl 0 rfl) ?_
    refine r_getr X hT 96 31 112 fk_9_62 rfl rfl (by decide) dX9_open_22 ?_
    refine lv_iload_n hx hb dX9_open_25 rfl (lv_at hl 1 rfl) ?_
    refine r_iald X hT 112 rfl (by decide) (v_in h5 (by decide)) dX9_open_26 ?_
    exact hret (i7 112 a_a.toNatClampNeg) _ _ _ _ _ _ dX9_open_27 hT hS ⟨hR7, hF7⟩
  ·
    obtain ⟨eh3, rfl⟩ := hq
    rw [(Prod.mk.inj eh3).1, (Prod.mk.inj eh3).2] at hT
    refine lv_if_ne (tgt := 17) hx hb dX9_open_11 (by decide) (fun c8 => (x_ne (rg_k (by decide) : rg 0 0 0) (rg_k (by decide) : rg 0 0 0) (i_ne c8) (by decide)).elim) (fun c8 => ?_)
    refine lv_bipush (v := (-2)) hx hb dX9_open_14 (by decide) ?_
    exact hret (-2) _ _ _ _ _ _ dX9_open_16 hT hS ⟨hR1, hF1⟩
set_option maxRecDepth 100000 in
set_option maxHeartbeats 4000000 in
theorem m_X9_when {l : Launch} {D : va_G} {h : Nat → Nat} {cz : Nat → ClassId} {z : EZ} {i : Nat → Nat → Int32} {g : Nat → Nat → Int64} (hR : Rg rA i) (a_a : Int32) : DtI l yX9_when cX9_when 2 (some .int) ({ frames := 6, cells := 0, slots := 0, locals := 132 } : Room) D h cz z i g [.ref (h 96), .int a_a] (fun r u => Rg rA u.1 ∧ Fr [96, 109, 110, 111, 112, 113, 114, 115] [] i g u) := by
  refine e_I pn_X9_when (Nat.le_of_ble_eq_true rfl) ?_
  intro p e s m args below meth c ls Q X Y hret hT hl hS
  have hx := X.1
  have hb := X.2.1
  have hl : lv_has ls 2 [(0, .ref (h 96)), (1, .int a_a)] := hl
  have hF : Fr [96, 109, 110, 111, 112, 113, 114, 115] [] i g (i, g) := Fr_rf _ _ _ _
  refine lv_aload_n hx hb dX9_when_0 rfl (lv_at hl 0 rfl) ?_
  refine lv_iconst (v := 0) hx hb dX9_when_1 (by decide) ?_
  refine r_puti X hT hS 96 0 pk_9_83 rfl rfl rfl rfl (by decide) dX9_when_2 (fun H locs i1 ei1 hT hS => ?_)
  have hR1 := Rg_put hR ei1 (-2147483648) 2147483647 rfl (rg_k (by decide) : rg 0 0 0) (by decide)
  have hF1 := Fr_puti hF ei1 (by decide)
  refine lv_aload_n hx hb dX9_when_5 rfl (lv_at hl 0 rfl) ?_
  refine lv_iload_n hx hb dX9_when_6 rfl (lv_at hl 1 rfl) ?_
  refine q_i2l hx hb dX9_when_7 (fun y2 ey2 => ?_)
  obtain ⟨hy2, ay2⟩ := rg_i2l ey2 (rg_top a_a)
  refine e_Vi (As := [.long y2]) (rest := []) X Y hT hS (m_X9_isPart hR1 y2) mk_X9_isPart gm_1645 rfl rfl (by decide) hd_X9_isPart ⟨rfl, rfl⟩ ⟨Nat.le_of_ble_eq_true rfl, Nat.le_of_ble_eq_true rfl⟩ hl.1 rfl (Nat.le_of_ble_eq_true rfl) dX9_when_8 ⟨Nat.zero_le _, Nat.zero_le _⟩ (fun r3 i3 g3 H locs hq hT hS => ?_)
  rcases hq with hq | hq
  ·
    obtain ⟨eh3, rfl, hf3_0⟩ := hq
    rw [(Prod.mk.inj eh3).1, (Prod.mk.inj eh3).2] at hT
    have h4 : rgL 0 5 y2 := ⟨by have := hy2.1; have := hf3_0.1; omega, by have := hy2.2; have := hf3_0.2; omega⟩
    have h5 : rg 0 5 a_a := ⟨by have := h4.1; have := (rg_top a_a).1; have := ay2; omega, by have := h4.2; have := (rg_top a_a).2; have := ay2; omega⟩
    refine lv_if_ne (tgt := 17) hx hb dX9_when_11 (by decide) (fun c6 => ?_) (fun c6 => (x_eq (rg_k (by decide) : rg 1 1 1) (rg_k (by decide) : rg 0 0 0) (i_eq c6) (by decide)).elim)
    refine lv_aload_n hx hb dX9_when_17 rfl (lv_at hl 0 rfl) ?_
    refine e_Vv (As := []) (rest := []) X Y hT hS (m_X9_laysNow hR1) mk_X9_laysNow gm_1693 rfl rfl (by decide) hd_X9_laysNow ⟨rfl, rfl⟩ ⟨Nat.le_of_ble_eq_true rfl, Nat.le_of_ble_eq_true rfl⟩ hl.1 rfl (Nat.le_of_ble_eq_true rfl) dX9_when_18 ⟨Nat.zero_le _, Nat.zero_le _⟩ (fun i7 g7 H locs hq hT hS => ?_)
    obtain ⟨hR7, hf7⟩ := hq
    have hF7 := Fr_tr hF1 hf7 (by decide)
    refine lv_aload_n hx hb dX9_when_21 rfl (lv_at hl 0 rfl) ?_
    refine r_getr X hT 96 32 113 fk_9_65 rfl rfl (by decide) dX9_when_22 ?_
    refine lv_iload_n hx hb dX9_when_25 rfl (lv_at hl 1 rfl) ?_
    refine r_iald X hT 113 rfl (by decide) (v_in h5 (by decide)) dX9_when_26 ?_
    exact hret (i7 113 a_a.toNatClampNeg) _ _ _ _ _ _ dX9_when_27 hT hS ⟨hR7, hF7⟩
  ·
    obtain ⟨eh3, rfl⟩ := hq
    rw [(Prod.mk.inj eh3).1, (Prod.mk.inj eh3).2] at hT
    refine lv_if_ne (tgt := 17) hx hb dX9_when_11 (by decide) (fun c8 => (x_ne (rg_k (by decide) : rg 0 0 0) (rg_k (by decide) : rg 0 0 0) (i_ne c8) (by decide)).elim) (fun c8 => ?_)
    refine lv_bipush (v := (-2)) hx hb dX9_when_14 (by decide) ?_
    exact hret (-2) _ _ _ _ _ _ dX9_when_16 hT hS ⟨hR1, hF1⟩
set_option maxRecDepth 100000 in
set_option maxHeartbeats 4000000 in
theorem m_X9_how {l : Launch} {D : va_G} {h : Nat → Nat} {cz : Nat → ClassId} {z : EZ} {i : Nat → Nat → Int32} {g : Nat → Nat → Int64} (hR : Rg rA i) (a_a : Int32) : DtI l yX9_how cX9_how 2 (some .int) ({ frames := 6, cells := 0, slots := 0, locals := 132 } : Room) D h cz z i g [.ref (h 96), .int a_a] (fun r u => Rg rA u.1 ∧ Fr [96, 109, 110, 111, 112, 113, 114, 115] [] i g u) := by
  refine e_I pn_X9_how (Nat.le_of_ble_eq_true rfl) ?_
  intro p e s m args below meth c ls Q X Y hret hT hl hS
  have hx := X.1
  have hb := X.2.1
  have hl : lv_has ls 2 [(0, .ref (h 96)), (1, .int a_a)] := hl
  have hF : Fr [96, 109, 110, 111, 112, 113, 114, 115] [] i g (i, g) := Fr_rf _ _ _ _
  refine lv_aload_n hx hb dX9_how_0 rfl (lv_at hl 0 rfl) ?_
  refine lv_iconst (v := 0) hx hb dX9_how_1 (by decide) ?_
  refine r_puti X hT hS 96 0 pk_9_83 rfl rfl rfl rfl (by decide) dX9_how_2 (fun H locs i1 ei1 hT hS => ?_)
  have hR1 := Rg_put hR ei1 (-2147483648) 2147483647 rfl (rg_k (by decide) : rg 0 0 0) (by decide)
  have hF1 := Fr_puti hF ei1 (by decide)
  refine lv_aload_n hx hb dX9_how_5 rfl (lv_at hl 0 rfl) ?_
  refine lv_iload_n hx hb dX9_how_6 rfl (lv_at hl 1 rfl) ?_
  refine q_i2l hx hb dX9_how_7 (fun y2 ey2 => ?_)
  obtain ⟨hy2, ay2⟩ := rg_i2l ey2 (rg_top a_a)
  refine e_Vi (As := [.long y2]) (rest := []) X Y hT hS (m_X9_isPart hR1 y2) mk_X9_isPart gm_1645 rfl rfl (by decide) hd_X9_isPart ⟨rfl, rfl⟩ ⟨Nat.le_of_ble_eq_true rfl, Nat.le_of_ble_eq_true rfl⟩ hl.1 rfl (Nat.le_of_ble_eq_true rfl) dX9_how_8 ⟨Nat.zero_le _, Nat.zero_le _⟩ (fun r3 i3 g3 H locs hq hT hS => ?_)
  rcases hq with hq | hq
  ·
    obtain ⟨eh3, rfl, hf3_0⟩ := hq
    rw [(Prod.mk.inj eh3).1, (Prod.mk.inj eh3).2] at hT
    have h4 : rgL 0 5 y2 := ⟨by have := hy2.1; have := hf3_0.1; omega, by have := hy2.2; have := hf3_0.2; omega⟩
    have h5 : rg 0 5 a_a := ⟨by have := h4.1; have := (rg_top a_a).1; have := ay2; omega, by have := h4.2; have := (rg_top a_a).2; have := ay2; omega⟩
    refine lv_if_ne (tgt := 17) hx hb dX9_how_11 (by decide) (fun c6 => ?_) (fun c6 => (x_eq (rg_k (by decide) : rg 1 1 1) (rg_k (by decide) : rg 0 0 0) (i_eq c6) (by decide)).elim)
    refine lv_aload_n hx hb dX9_how_17 rfl (lv_at hl 0 rfl) ?_
    refine e_Vv (As := []) (rest := []) X Y hT hS (m_X9_laysNow hR1) mk_X9_laysNow gm_1693 rfl rfl (by decide) hd_X9_laysNow ⟨rfl, rfl⟩ ⟨Nat.le_of_ble_eq_true rfl, Nat.le_of_ble_eq_true rfl⟩ hl.1 rfl (Nat.le_of_ble_eq_true rfl) dX9_how_18 ⟨Nat.zero_le _, Nat.zero_le _⟩ (fun i7 g7 H locs hq hT hS => ?_)
    obtain ⟨hR7, hf7⟩ := hq
    have hF7 := Fr_tr hF1 hf7 (by decide)
    refine lv_aload_n hx hb dX9_how_21 rfl (lv_at hl 0 rfl) ?_
    refine r_getr X hT 96 33 114 fk_9_68 rfl rfl (by decide) dX9_how_22 ?_
    refine lv_iload_n hx hb dX9_how_25 rfl (lv_at hl 1 rfl) ?_
    refine r_iald X hT 114 rfl (by decide) (v_in h5 (by decide)) dX9_how_26 ?_
    exact hret (i7 114 a_a.toNatClampNeg) _ _ _ _ _ _ dX9_how_27 hT hS ⟨hR7, hF7⟩
  ·
    obtain ⟨eh3, rfl⟩ := hq
    rw [(Prod.mk.inj eh3).1, (Prod.mk.inj eh3).2] at hT
    refine lv_if_ne (tgt := 17) hx hb dX9_how_11 (by decide) (fun c8 => (x_ne (rg_k (by decide) : rg 0 0 0) (rg_k (by decide) : rg 0 0 0) (i_ne c8) (by decide)).elim) (fun c8 => ?_)
    refine lv_bipush (v := (-2)) hx hb dX9_how_14 (by decide) ?_
    exact hret (-2) _ _ _ _ _ _ dX9_how_16 hT hS ⟨hR1, hF1⟩
set_option maxRecDepth 100000 in
set_option maxHeartbeats 4000000 in
theorem m_X9_read {l : Launch} {D : va_G} {h : Nat → Nat} {cz : Nat → ClassId} {z : EZ} {i : Nat → Nat → Int32} {g : Nat → Nat → Int64} (hR : Rg rA i) (a_a : Int32) : DtI l yX9_read cX9_read 2 (some .int) ({ frames := 6, cells := 0, slots := 0, locals := 132 } : Room) D h cz z i g [.ref (h 96), .int a_a] (fun r u => Rg rA u.1 ∧ Fr [96, 109, 110, 111, 112, 113, 114, 115] [] i g u) := by
  refine e_I pn_X9_read (Nat.le_of_ble_eq_true rfl) ?_
  intro p e s m args below meth c ls Q X Y hret hT hl hS
  have hx := X.1
  have hb := X.2.1
  have hl : lv_has ls 2 [(0, .ref (h 96)), (1, .int a_a)] := hl
  have hF : Fr [96, 109, 110, 111, 112, 113, 114, 115] [] i g (i, g) := Fr_rf _ _ _ _
  refine lv_aload_n hx hb dX9_read_0 rfl (lv_at hl 0 rfl) ?_
  refine lv_iconst (v := 0) hx hb dX9_read_1 (by decide) ?_
  refine r_puti X hT hS 96 0 pk_9_83 rfl rfl rfl rfl (by decide) dX9_read_2 (fun H locs i1 ei1 hT hS => ?_)
  have hR1 := Rg_put hR ei1 (-2147483648) 2147483647 rfl (rg_k (by decide) : rg 0 0 0) (by decide)
  have hF1 := Fr_puti hF ei1 (by decide)
  refine lv_aload_n hx hb dX9_read_5 rfl (lv_at hl 0 rfl) ?_
  refine lv_iload_n hx hb dX9_read_6 rfl (lv_at hl 1 rfl) ?_
  refine q_i2l hx hb dX9_read_7 (fun y2 ey2 => ?_)
  obtain ⟨hy2, ay2⟩ := rg_i2l ey2 (rg_top a_a)
  refine e_Vi (As := [.long y2]) (rest := []) X Y hT hS (m_X9_isPart hR1 y2) mk_X9_isPart gm_1645 rfl rfl (by decide) hd_X9_isPart ⟨rfl, rfl⟩ ⟨Nat.le_of_ble_eq_true rfl, Nat.le_of_ble_eq_true rfl⟩ hl.1 rfl (Nat.le_of_ble_eq_true rfl) dX9_read_8 ⟨Nat.zero_le _, Nat.zero_le _⟩ (fun r3 i3 g3 H locs hq hT hS => ?_)
  rcases hq with hq | hq
  ·
    obtain ⟨eh3, rfl, hf3_0⟩ := hq
    rw [(Prod.mk.inj eh3).1, (Prod.mk.inj eh3).2] at hT
    have h4 : rgL 0 5 y2 := ⟨by have := hy2.1; have := hf3_0.1; omega, by have := hy2.2; have := hf3_0.2; omega⟩
    have h5 : rg 0 5 a_a := ⟨by have := h4.1; have := (rg_top a_a).1; have := ay2; omega, by have := h4.2; have := (rg_top a_a).2; have := ay2; omega⟩
    refine lv_if_ne (tgt := 17) hx hb dX9_read_11 (by decide) (fun c6 => ?_) (fun c6 => (x_eq (rg_k (by decide) : rg 1 1 1) (rg_k (by decide) : rg 0 0 0) (i_eq c6) (by decide)).elim)
    refine lv_aload_n hx hb dX9_read_17 rfl (lv_at hl 0 rfl) ?_
    refine e_Vv (As := []) (rest := []) X Y hT hS (m_X9_laysNow hR1) mk_X9_laysNow gm_1693 rfl rfl (by decide) hd_X9_laysNow ⟨rfl, rfl⟩ ⟨Nat.le_of_ble_eq_true rfl, Nat.le_of_ble_eq_true rfl⟩ hl.1 rfl (Nat.le_of_ble_eq_true rfl) dX9_read_18 ⟨Nat.zero_le _, Nat.zero_le _⟩ (fun i7 g7 H locs hq hT hS => ?_)
    obtain ⟨hR7, hf7⟩ := hq
    have hF7 := Fr_tr hF1 hf7 (by decide)
    refine lv_aload_n hx hb dX9_read_21 rfl (lv_at hl 0 rfl) ?_
    refine r_getr X hT 96 34 115 fk_9_71 rfl rfl (by decide) dX9_read_22 ?_
    refine lv_iload_n hx hb dX9_read_25 rfl (lv_at hl 1 rfl) ?_
    refine r_iald X hT 115 rfl (by decide) (v_in h5 (by decide)) dX9_read_26 ?_
    exact hret (i7 115 a_a.toNatClampNeg) _ _ _ _ _ _ dX9_read_27 hT hS ⟨hR7, hF7⟩
  ·
    obtain ⟨eh3, rfl⟩ := hq
    rw [(Prod.mk.inj eh3).1, (Prod.mk.inj eh3).2] at hT
    refine lv_if_ne (tgt := 17) hx hb dX9_read_11 (by decide) (fun c8 => (x_ne (rg_k (by decide) : rg 0 0 0) (rg_k (by decide) : rg 0 0 0) (i_ne c8) (by decide)).elim) (fun c8 => ?_)
    refine lv_bipush (v := (-2)) hx hb dX9_read_14 (by decide) ?_
    exact hret (-2) _ _ _ _ _ _ dX9_read_16 hT hS ⟨hR1, hF1⟩
set_option maxRecDepth 100000 in
set_option maxHeartbeats 4000000 in
theorem m_X9_isAhead {l : Launch} {D : va_G} {h : Nat → Nat} {cz : Nat → ClassId} {z : EZ} {i : Nat → Nat → Int32} {g : Nat → Nat → Int64} (hR : Rg rA i) (a_a : Int32) : DtI l yX9_isAhead cX9_isAhead 2 (some .boolean) ({ frames := 1, cells := 0, slots := 0, locals := 25 } : Room) D h cz z i g [.ref (h 96), .int a_a] (fun r u => (u = (i, g) ∧ r = 1 ∧ rg 0 11 a_a) ∨ (u = (i, g) ∧ r = 0)) := by
  refine e_Z (fun v u hq => (hq.elim (fun hq => (Or.inr hq.2.1)) (fun hq => (Or.inl hq.2)))) pn_X9_isAhead (Nat.le_of_ble_eq_true rfl) ?_
  intro p e s m args below meth c ls Q X Y hret hT hl hS
  have hx := X.1
  have hb := X.2.1
  have hl : lv_has ls 2 [(0, .ref (h 96)), (1, .int a_a)] := hl
  refine lv_iload_n hx hb dX9_isAhead_0 rfl (lv_at hl 1 rfl) ?_
  refine q_i2l hx hb dX9_isAhead_1 (fun y1 ey1 => ?_)
  obtain ⟨hy1, ay1⟩ := rg_i2l ey1 (rg_top a_a)
  refine lv_lconst (v := 0) hx hb dX9_isAhead_2 (by decide) ?_
  refine lv_aload_n hx hb dX9_isAhead_3 rfl (lv_at hl 0 rfl) ?_
  refine e_Vi (As := []) (rest := [.long 0, .long y1]) X Y hT hS (m_X9_years hR) mk_X9_years gm_1689 rfl rfl (by decide) hd_X9_years ⟨rfl, rfl⟩ ⟨Nat.le_of_ble_eq_true rfl, Nat.le_of_ble_eq_true rfl⟩ hl.1 rfl (Nat.le_of_ble_eq_true rfl) dX9_isAhead_4 ⟨Nat.zero_le _, Nat.zero_le _⟩ (fun r2 i2 g2 H locs hq hT hS => ?_)
  obtain ⟨eh2, hr2⟩ := hq
  rw [(Prod.mk.inj eh2).1, (Prod.mk.inj eh2).2] at hT
  refine q_i2l hx hb dX9_isAhead_7 (fun y3 ey3 => ?_)
  obtain ⟨hy3, ay3⟩ := rg_i2l ey3 hr2
  refine lv_lconst (v := 1) hx hb dX9_isAhead_8 (by decide) ?_
  refine q_lsub hx hb dX9_isAhead_9 (fun y4 ey4 => ?_)
  obtain ⟨hy4, ay4⟩ := rgL_sub (-1) 11 ey4 hy3 (rgL_k (by decide) : rgL 1 1 1) (by decide)
  refine e_Si (As := [.long y1, .long 0, .long y4]) (rest := []) X Y hT hS (m_in y1 (0) y4) sk_X9_in gm_1496 hd_X9_in ⟨rfl, rfl⟩ ⟨Nat.le_of_ble_eq_true rfl, Nat.le_of_ble_eq_true rfl⟩ hl.1 rfl (Nat.le_of_ble_eq_true rfl) dX9_isAhead_10 ⟨Nat.zero_le _, Nat.zero_le _⟩ (fun r5 i5 g5 H locs hq hT hS => ?_)
  rcases hq with hq | hq
  ·
    obtain ⟨eh5, rfl, hf5_0⟩ := hq
    rw [(Prod.mk.inj eh5).1, (Prod.mk.inj eh5).2] at hT
    replace hf5_0 : 0 ≤ y1.toInt ∧ y1.toInt ≤ y4.toInt := hf5_0
    have h6 : rgL 0 11 y1 := ⟨by have := hy1.1; have := hy1.2; have := hy4.1; have := hy4.2; omega, by have := hy1.1; have := hy1.2; have := hy4.1; have := hy4.2; omega⟩
    have h7 : rg 0 11 a_a := ⟨by have := h6.1; have := (rg_top a_a).1; have := ay1; omega, by have := h6.2; have := (rg_top a_a).2; have := ay1; omega⟩
    exact hret 1 _ _ _ _ _ _ dX9_isAhead_13 hT hS (Or.inl ⟨rfl, rfl, h7⟩)
  ·
    obtain ⟨eh5, rfl, hf5_0⟩ := hq
    rw [(Prod.mk.inj eh5).1, (Prod.mk.inj eh5).2] at hT
    replace hf5_0 : y1.toInt < 0 ∨ y4.toInt < y1.toInt := hf5_0
    exact hret 0 _ _ _ _ _ _ dX9_isAhead_13 hT hS (Or.inr ⟨rfl, rfl⟩)
set_option maxRecDepth 100000 in
set_option maxHeartbeats 4000000 in
theorem m_X9_readIn {l : Launch} {D : va_G} {h : Nat → Nat} {cz : Nat → ClassId} {z : EZ} {i : Nat → Nat → Int32} {g : Nat → Nat → Int64} (hR : Rg rA i) (a_a : Int32) : DtI l yX9_readIn cX9_readIn 4 (some .int) ({ frames := 1, cells := 0, slots := 0, locals := 20 } : Room) D h cz z i g [.ref (h 96), .int a_a] (fun r u => u = (i, g)) := by
  refine e_I pn_X9_readIn (Nat.le_of_ble_eq_true rfl) ?_
  intro p e s m args below meth c ls Q X Y hret hT hl hS
  have hx := X.1
  have hb := X.2.1
  have hl : lv_has ls 4 [(0, .ref (h 96)), (1, .int a_a)] := hl
  refine lv_iconst (v := 0) hx hb dX9_readIn_0 (by decide) ?_
  refine lv_istore_n (lv' := [(2, .int 0), (0, .ref (h 96)), (1, .int a_a)]) hx hb dX9_readIn_1 rfl hl (by decide) rfl (fun ls hl => ?_)
  refine lv_iconst (v := 0) hx hb dX9_readIn_2 (by decide) ?_
  refine lv_istore_n (lv' := [(3, .int 0), (2, .int 0), (0, .ref (h 96)), (1, .int a_a)]) hx hb dX9_readIn_3 rfl hl (by decide) rfl (fun ls hl => ?_)
  have L4_1 : ∀ (n2_ : Nat) (x4_2 : Int32) (x4_3 : Int32) (H : Heap) (locs : List Loc) (ls : Array Slot), rg 0 6 x4_3 → TH D h cz i g H → va_S (hA h) s.heap H locs → lv_has ls 4 [(0, .ref (h 96)), (1, .int a_a), (2, .int x4_2), (3, .int x4_3)] → (6 - x4_3.toInt).toNat < n2_ → W p l e ({ frames := 1, cells := 0, slots := 0, locals := 20 } : Room) s m args below meth c H locs 0 0 Q (F0 m 4 ls []) := by
    intro n2_
    induction n2_ with
    | zero => intro x4_2 x4_3 H locs ls hhx4_3 hT hS hl hm2_; exact absurd hm2_ (Nat.not_lt_zero _)
    | succ n2_ ih2_ =>
      intro x4_2 x4_3 H locs ls hhx4_3 hT hS hl hm2_
      refine lv_iload_n hx hb dX9_readIn_4 rfl (lv_at hl 3 rfl) ?_
      refine lv_aload_n hx hb dX9_readIn_5 rfl (lv_at hl 0 rfl) ?_
      refine e_Vi (As := []) (rest := [.int x4_3]) X Y hT hS (m_X9_parts hR) mk_X9_parts gm_1649 rfl rfl (by decide) hd_X9_parts ⟨rfl, rfl⟩ ⟨Nat.le_of_ble_eq_true rfl, Nat.le_of_ble_eq_true rfl⟩ hl.1 rfl (Nat.le_of_ble_eq_true rfl) dX9_readIn_6 ⟨Nat.zero_le _, Nat.zero_le _⟩ (fun r3 i3 g3 H locs hq hT hS => ?_)
      obtain ⟨eh3, hr3⟩ := hq
      rw [(Prod.mk.inj eh3).1, (Prod.mk.inj eh3).2] at hT
      refine lv_icmp_ge (tgt := 41) hx hb dX9_readIn_9 (by decide) (fun c4 => ?_) (fun c4 => ?_)
      ·
        have q4 : r3.toInt ≤ x4_3.toInt := i_le c4
        refine lv_iload_n hx hb dX9_readIn_41 rfl (lv_at hl 2 rfl) ?_
        exact hret x4_2 _ _ _ _ _ _ dX9_readIn_42 hT hS rfl
      ·
        have q4 : x4_3.toInt < r3.toInt := i_nle c4
        have h5 : rg 0 5 x4_3 := t_ltx 0 5 hhx4_3 hr3 (i_nle c4) (by decide)
        have h6 : rg 1 6 r3 := t_lty 1 6 hhx4_3 hr3 (i_nle c4) (by decide)
        refine lv_iload_n hx hb dX9_readIn_12 rfl (lv_at hl 2 rfl) ?_
        refine lv_aload_n hx hb dX9_readIn_13 rfl (lv_at hl 0 rfl) ?_
        refine r_getr X hT 96 32 113 fk_9_65 rfl rfl (by decide) dX9_readIn_14 ?_
        refine lv_iload_n hx hb dX9_readIn_17 rfl (lv_at hl 3 rfl) ?_
        refine r_iald X hT 113 rfl (by decide) (v_in h5 (by decide)) dX9_readIn_18 ?_
        refine lv_iload_n hx hb dX9_readIn_19 rfl (lv_at hl 1 rfl) ?_
        refine lv_icmp_ne (tgt := 32) hx hb dX9_readIn_20 (by decide) (fun c7 => ?_) (fun c7 => ?_)
        ·
          have q7 : ¬ (i 113 x4_3.toNatClampNeg).toInt = a_a.toInt := i_ne c7
          refine lv_iconst (v := 0) hx hb dX9_readIn_32 (by decide) ?_
          refine q_iadd hx hb dX9_readIn_33 (fun x8 ex8 => ?_)
          obtain ⟨hx8, ax8⟩ := rg_add (-2147483648) 2147483647 ex8 (rg_top x4_2) (rg_k (by decide) : rg 0 0 0) (by decide)
          replace ax8 : x8.toInt = x4_2.toInt + 0 := ax8
          refine lv_istore_n (lv' := [(2, .int x8), (0, .ref (h 96)), (1, .int a_a), (3, .int x4_3)]) hx hb dX9_readIn_34 rfl hl (by decide) rfl (fun ls hl => ?_)
          obtain ⟨x9, ex9⟩ : ∃ y : Int32, y = x4_3 + 1 := ⟨_, rfl⟩
          refine lv_iinc (v := x9) (lv' := [(3, .int x9), (2, .int x8), (0, .ref (h 96)), (1, .int a_a)]) hx hb dX9_readIn_35 hl (k := 3) rfl (by rw [ex9]; rfl) (by decide) rfl (fun ls hl => ?_)
          obtain ⟨hx9, ax9⟩ := rg_add 1 6 ex9 h5 (rg_k (by decide) : rg 1 1 1) (by decide)
          replace ax9 : x9.toInt = x4_3.toInt + 1 := ax9
          refine lv_goto (tgt := 4) hx hb dX9_readIn_38 (by decide) ?_
          exact ih2_ x8 x9 _ _ _ (rg_w hx9 (by decide) : rg 0 6 x9) hT hS (lv_sub hl [2, 3, 1, 0] rfl) (m_up ax9 hx9 (by decide) hm2_)
        ·
          have q7 : (i 113 x4_3.toNatClampNeg).toInt = a_a.toInt := i_eq c7
          refine lv_aload_n hx hb dX9_readIn_23 rfl (lv_at hl 0 rfl) ?_
          refine r_getr X hT 96 34 115 fk_9_71 rfl rfl (by decide) dX9_readIn_24 ?_
          refine lv_iload_n hx hb dX9_readIn_27 rfl (lv_at hl 3 rfl) ?_
          refine r_iald X hT 115 rfl (by decide) (v_in h5 (by decide)) dX9_readIn_28 ?_
          refine lv_goto (tgt := 33) hx hb dX9_readIn_29 (by decide) ?_
          refine q_iadd hx hb dX9_readIn_33 (fun x10 ex10 => ?_)
          refine lv_istore_n (lv' := [(2, .int x10), (0, .ref (h 96)), (1, .int a_a), (3, .int x4_3)]) hx hb dX9_readIn_34 rfl hl (by decide) rfl (fun ls hl => ?_)
          obtain ⟨x11, ex11⟩ : ∃ y : Int32, y = x4_3 + 1 := ⟨_, rfl⟩
          refine lv_iinc (v := x11) (lv' := [(3, .int x11), (2, .int x10), (0, .ref (h 96)), (1, .int a_a)]) hx hb dX9_readIn_35 hl (k := 3) rfl (by rw [ex11]; rfl) (by decide) rfl (fun ls hl => ?_)
          obtain ⟨hx11, ax11⟩ := rg_add 1 6 ex11 h5 (rg_k (by decide) : rg 1 1 1) (by decide)
          replace ax11 : x11.toInt = x4_3.toInt + 1 := ax11
          refine lv_goto (tgt := 4) hx hb dX9_readIn_38 (by decide) ?_
          exact ih2_ x10 x11 _ _ _ (rg_w hx11 (by decide) : rg 0 6 x11) hT hS (lv_sub hl [2, 3, 1, 0] rfl) (m_up ax11 hx11 (by decide) hm2_)
  exact L4_1 _ (0) (0) _ _ _ (rg_w (rg_k (by decide) : rg 0 0 0) (by decide) : rg 0 6 0) hT hS (lv_sub hl [2, 3, 1, 0] rfl) (Nat.lt_succ_self _)
set_option maxRecDepth 100000 in
set_option maxHeartbeats 4000000 in
theorem m_X9_reads {l : Launch} {D : va_G} {h : Nat → Nat} {cz : Nat → ClassId} {z : EZ} {i : Nat → Nat → Int32} {g : Nat → Nat → Int64} (hR : Rg rA i) (a_a : Int32) : DtI l yX9_reads cX9_reads 2 (some .int) ({ frames := 6, cells := 0, slots := 0, locals := 132 } : Room) D h cz z i g [.ref (h 96), .int a_a] (fun r u => Rg rA u.1 ∧ Fr [96, 109, 110, 111, 112, 113, 114, 115] [] i g u) := by
  refine e_I pn_X9_reads (Nat.le_of_ble_eq_true rfl) ?_
  intro p e s m args below meth c ls Q X Y hret hT hl hS
  have hx := X.1
  have hb := X.2.1
  have hl : lv_has ls 2 [(0, .ref (h 96)), (1, .int a_a)] := hl
  have hF : Fr [96, 109, 110, 111, 112, 113, 114, 115] [] i g (i, g) := Fr_rf _ _ _ _
  refine lv_aload_n hx hb dX9_reads_0 rfl (lv_at hl 0 rfl) ?_
  refine lv_iconst (v := 0) hx hb dX9_reads_1 (by decide) ?_
  refine r_puti X hT hS 96 0 pk_9_83 rfl rfl rfl rfl (by decide) dX9_reads_2 (fun H locs i1 ei1 hT hS => ?_)
  have hR1 := Rg_put hR ei1 (-2147483648) 2147483647 rfl (rg_k (by decide) : rg 0 0 0) (by decide)
  have hF1 := Fr_puti hF ei1 (by decide)
  refine lv_aload_n hx hb dX9_reads_5 rfl (lv_at hl 0 rfl) ?_
  refine lv_iload_n hx hb dX9_reads_6 rfl (lv_at hl 1 rfl) ?_
  refine e_Vi (As := [.int a_a]) (rest := []) X Y hT hS (m_X9_isAhead hR1 a_a) mk_X9_isAhead gm_1758 rfl rfl (by decide) hd_X9_isAhead ⟨rfl, rfl⟩ ⟨Nat.le_of_ble_eq_true rfl, Nat.le_of_ble_eq_true rfl⟩ hl.1 rfl (Nat.le_of_ble_eq_true rfl) dX9_reads_7 ⟨Nat.zero_le _, Nat.zero_le _⟩ (fun r2 i2 g2 H locs hq hT hS => ?_)
  rcases hq with hq | hq
  ·
    obtain ⟨eh2, rfl, hf2_0⟩ := hq
    rw [(Prod.mk.inj eh2).1, (Prod.mk.inj eh2).2] at hT
    have h3 : rg 0 11 a_a := ⟨by have := (rg_top a_a).1; have := hf2_0.1; omega, by have := (rg_top a_a).2; have := hf2_0.2; omega⟩
    refine lv_if_ne (tgt := 16) hx hb dX9_reads_10 (by decide) (fun c4 => ?_) (fun c4 => (x_eq (rg_k (by decide) : rg 1 1 1) (rg_k (by decide) : rg 0 0 0) (i_eq c4) (by decide)).elim)
    refine lv_aload_n hx hb dX9_reads_16 rfl (lv_at hl 0 rfl) ?_
    refine e_Vv (As := []) (rest := []) X Y hT hS (m_X9_laysNow hR1) mk_X9_laysNow gm_1693 rfl rfl (by decide) hd_X9_laysNow ⟨rfl, rfl⟩ ⟨Nat.le_of_ble_eq_true rfl, Nat.le_of_ble_eq_true rfl⟩ hl.1 rfl (Nat.le_of_ble_eq_true rfl) dX9_reads_17 ⟨Nat.zero_le _, Nat.zero_le _⟩ (fun i5 g5 H locs hq hT hS => ?_)
    obtain ⟨hR5, hf5⟩ := hq
    have hF5 := Fr_tr hF1 hf5 (by decide)
    refine lv_aload_n hx hb dX9_reads_20 rfl (lv_at hl 0 rfl) ?_
    refine lv_iload_n hx hb dX9_reads_21 rfl (lv_at hl 1 rfl) ?_
    refine e_Vi (As := [.int a_a]) (rest := []) X Y hT hS (m_X9_readIn hR5 a_a) mk_X9_readIn gm_1762 rfl rfl (by decide) hd_X9_readIn ⟨rfl, rfl⟩ ⟨Nat.le_of_ble_eq_true rfl, Nat.le_of_ble_eq_true rfl⟩ hl.1 rfl (Nat.le_of_ble_eq_true rfl) dX9_reads_22 ⟨Nat.zero_le _, Nat.zero_le _⟩ (fun r6 i6 g6 H locs hq hT hS => ?_)
    have eh6 := hq
    rw [(Prod.mk.inj eh6).1, (Prod.mk.inj eh6).2] at hT
    exact hret r6 _ _ _ _ _ _ dX9_reads_25 hT hS ⟨hR5, hF5⟩
  ·
    obtain ⟨eh2, rfl⟩ := hq
    rw [(Prod.mk.inj eh2).1, (Prod.mk.inj eh2).2] at hT
    refine lv_if_ne (tgt := 16) hx hb dX9_reads_10 (by decide) (fun c7 => (x_ne (rg_k (by decide) : rg 0 0 0) (rg_k (by decide) : rg 0 0 0) (i_ne c7) (by decide)).elim) (fun c7 => ?_)
    refine lv_bipush (v := (-2)) hx hb dX9_reads_13 (by decide) ?_
    exact hret (-2) _ _ _ _ _ _ dX9_reads_15 hT hS ⟨hR1, hF1⟩
set_option maxRecDepth 100000 in
set_option maxHeartbeats 4000000 in
theorem m_X9_readAll {l : Launch} {D : va_G} {h : Nat → Nat} {cz : Nat → ClassId} {z : EZ} {i : Nat → Nat → Int32} {g : Nat → Nat → Int64} (hR : Rg rA i) : DtI l yX9_readAll cX9_readAll 3 (some .int) ({ frames := 1, cells := 0, slots := 0, locals := 20 } : Room) D h cz z i g [.ref (h 96)] (fun r u => u = (i, g)) := by
  refine e_I pn_X9_readAll (Nat.le_of_ble_eq_true rfl) ?_
  intro p e s m args below meth c ls Q X Y hret hT hl hS
  have hx := X.1
  have hb := X.2.1
  have hl : lv_has ls 3 [(0, .ref (h 96))] := hl
  refine lv_iconst (v := 0) hx hb dX9_readAll_0 (by decide) ?_
  refine lv_istore_n (lv' := [(1, .int 0), (0, .ref (h 96))]) hx hb dX9_readAll_1 rfl hl (by decide) rfl (fun ls hl => ?_)
  refine lv_iconst (v := 0) hx hb dX9_readAll_2 (by decide) ?_
  refine lv_istore_n (lv' := [(2, .int 0), (1, .int 0), (0, .ref (h 96))]) hx hb dX9_readAll_3 rfl hl (by decide) rfl (fun ls hl => ?_)
  have L4_1 : ∀ (n2_ : Nat) (x4_1 : Int32) (x4_2 : Int32) (H : Heap) (locs : List Loc) (ls : Array Slot), rg 0 6 x4_2 → TH D h cz i g H → va_S (hA h) s.heap H locs → lv_has ls 3 [(0, .ref (h 96)), (1, .int x4_1), (2, .int x4_2)] → (6 - x4_2.toInt).toNat < n2_ → W p l e ({ frames := 1, cells := 0, slots := 0, locals := 20 } : Room) s m args below meth c H locs 0 0 Q (F0 m 4 ls []) := by
    intro n2_
    induction n2_ with
    | zero => intro x4_1 x4_2 H locs ls hhx4_2 hT hS hl hm2_; exact absurd hm2_ (Nat.not_lt_zero _)
    | succ n2_ ih2_ =>
      intro x4_1 x4_2 H locs ls hhx4_2 hT hS hl hm2_
      refine lv_iload_n hx hb dX9_readAll_4 rfl (lv_at hl 2 rfl) ?_
      refine lv_aload_n hx hb dX9_readAll_5 rfl (lv_at hl 0 rfl) ?_
      refine e_Vi (As := []) (rest := [.int x4_2]) X Y hT hS (m_X9_parts hR) mk_X9_parts gm_1649 rfl rfl (by decide) hd_X9_parts ⟨rfl, rfl⟩ ⟨Nat.le_of_ble_eq_true rfl, Nat.le_of_ble_eq_true rfl⟩ hl.1 rfl (Nat.le_of_ble_eq_true rfl) dX9_readAll_6 ⟨Nat.zero_le _, Nat.zero_le _⟩ (fun r3 i3 g3 H locs hq hT hS => ?_)
      obtain ⟨eh3, hr3⟩ := hq
      rw [(Prod.mk.inj eh3).1, (Prod.mk.inj eh3).2] at hT
      refine lv_icmp_ge (tgt := 41) hx hb dX9_readAll_9 (by decide) (fun c4 => ?_) (fun c4 => ?_)
      ·
        have q4 : r3.toInt ≤ x4_2.toInt := i_le c4
        refine lv_iload_n hx hb dX9_readAll_41 rfl (lv_at hl 1 rfl) ?_
        exact hret x4_1 _ _ _ _ _ _ dX9_readAll_42 hT hS rfl
      ·
        have q4 : x4_2.toInt < r3.toInt := i_nle c4
        have h5 : rg 0 5 x4_2 := t_ltx 0 5 hhx4_2 hr3 (i_nle c4) (by decide)
        have h6 : rg 1 6 r3 := t_lty 1 6 hhx4_2 hr3 (i_nle c4) (by decide)
        refine lv_iload_n hx hb dX9_readAll_12 rfl (lv_at hl 1 rfl) ?_
        refine lv_aload_n hx hb dX9_readAll_13 rfl (lv_at hl 0 rfl) ?_
        refine r_getr X hT 96 34 115 fk_9_71 rfl rfl (by decide) dX9_readAll_14 ?_
        refine lv_iload_n hx hb dX9_readAll_17 rfl (lv_at hl 2 rfl) ?_
        refine r_iald X hT 115 rfl (by decide) (v_in h5 (by decide)) dX9_readAll_18 ?_
        refine lv_iconst (v := (-1)) hx hb dX9_readAll_19 (by decide) ?_
        refine lv_icmp_ne (tgt := 27) hx hb dX9_readAll_20 (by decide) (fun c7 => ?_) (fun c7 => ?_)
        ·
          have q7 : ¬ (i 115 x4_2.toNatClampNeg).toInt = (-1) := i_ne c7
          refine lv_aload_n hx hb dX9_readAll_27 rfl (lv_at hl 0 rfl) ?_
          refine r_getr X hT 96 34 115 fk_9_71 rfl rfl (by decide) dX9_readAll_28 ?_
          refine lv_iload_n hx hb dX9_readAll_31 rfl (lv_at hl 2 rfl) ?_
          refine r_iald X hT 115 rfl (by decide) (v_in h5 (by decide)) dX9_readAll_32 ?_
          refine q_iadd hx hb dX9_readAll_33 (fun x8 ex8 => ?_)
          refine lv_istore_n (lv' := [(1, .int x8), (0, .ref (h 96)), (2, .int x4_2)]) hx hb dX9_readAll_34 rfl hl (by decide) rfl (fun ls hl => ?_)
          obtain ⟨x9, ex9⟩ : ∃ y : Int32, y = x4_2 + 1 := ⟨_, rfl⟩
          refine lv_iinc (v := x9) (lv' := [(2, .int x9), (1, .int x8), (0, .ref (h 96))]) hx hb dX9_readAll_35 hl (k := 2) rfl (by rw [ex9]; rfl) (by decide) rfl (fun ls hl => ?_)
          obtain ⟨hx9, ax9⟩ := rg_add 1 6 ex9 h5 (rg_k (by decide) : rg 1 1 1) (by decide)
          replace ax9 : x9.toInt = x4_2.toInt + 1 := ax9
          refine lv_goto (tgt := 4) hx hb dX9_readAll_38 (by decide) ?_
          exact ih2_ x8 x9 _ _ _ (rg_w hx9 (by decide) : rg 0 6 x9) hT hS (lv_sub hl [2, 1, 0] rfl) (m_up ax9 hx9 (by decide) hm2_)
        ·
          have q7 : (i 115 x4_2.toNatClampNeg).toInt = (-1) := i_eq c7
          have h10 : rg (-1) (-1) (i 115 x4_2.toNatClampNeg) := t_eqx (-1) (-1) (rg_top (i 115 x4_2.toNatClampNeg)) (rg_k (by decide) : rg (-1) (-1) (-1)) (i_eq c7) (by decide)
          refine lv_iconst (v := 0) hx hb dX9_readAll_23 (by decide) ?_
          refine lv_goto (tgt := 33) hx hb dX9_readAll_24 (by decide) ?_
          refine q_iadd hx hb dX9_readAll_33 (fun x11 ex11 => ?_)
          obtain ⟨hx11, ax11⟩ := rg_add (-2147483648) 2147483647 ex11 (rg_top x4_1) (rg_k (by decide) : rg 0 0 0) (by decide)
          replace ax11 : x11.toInt = x4_1.toInt + 0 := ax11
          refine lv_istore_n (lv' := [(1, .int x11), (0, .ref (h 96)), (2, .int x4_2)]) hx hb dX9_readAll_34 rfl hl (by decide) rfl (fun ls hl => ?_)
          obtain ⟨x12, ex12⟩ : ∃ y : Int32, y = x4_2 + 1 := ⟨_, rfl⟩
          refine lv_iinc (v := x12) (lv' := [(2, .int x12), (1, .int x11), (0, .ref (h 96))]) hx hb dX9_readAll_35 hl (k := 2) rfl (by rw [ex12]; rfl) (by decide) rfl (fun ls hl => ?_)
          obtain ⟨hx12, ax12⟩ := rg_add 1 6 ex12 h5 (rg_k (by decide) : rg 1 1 1) (by decide)
          replace ax12 : x12.toInt = x4_2.toInt + 1 := ax12
          refine lv_goto (tgt := 4) hx hb dX9_readAll_38 (by decide) ?_
          exact ih2_ x11 x12 _ _ _ (rg_w hx12 (by decide) : rg 0 6 x12) hT hS (lv_sub hl [2, 1, 0] rfl) (m_up ax12 hx12 (by decide) hm2_)
  exact L4_1 _ (0) (0) _ _ _ (rg_w (rg_k (by decide) : rg 0 0 0) (by decide) : rg 0 6 0) hT hS (lv_sub hl [2, 1, 0] rfl) (Nat.lt_succ_self _)
set_option maxRecDepth 100000 in
set_option maxHeartbeats 4000000 in
theorem m_X9_all {l : Launch} {D : va_G} {h : Nat → Nat} {cz : Nat → ClassId} {z : EZ} {i : Nat → Nat → Int32} {g : Nat → Nat → Int64} (hR : Rg rA i) : DtI l yX9_all cX9_all 1 (some .int) ({ frames := 6, cells := 0, slots := 0, locals := 132 } : Room) D h cz z i g [.ref (h 96)] (fun r u => Rg rA u.1 ∧ Fr [96, 109, 110, 111, 112, 113, 114, 115] [] i g u) := by
  refine e_I pn_X9_all (Nat.le_of_ble_eq_true rfl) ?_
  intro p e s m args below meth c ls Q X Y hret hT hl hS
  have hx := X.1
  have hb := X.2.1
  have hl : lv_has ls 1 [(0, .ref (h 96))] := hl
  have hF : Fr [96, 109, 110, 111, 112, 113, 114, 115] [] i g (i, g) := Fr_rf _ _ _ _
  refine lv_aload_n hx hb dX9_all_0 rfl (lv_at hl 0 rfl) ?_
  refine lv_iconst (v := 0) hx hb dX9_all_1 (by decide) ?_
  refine r_puti X hT hS 96 0 pk_9_83 rfl rfl rfl rfl (by decide) dX9_all_2 (fun H locs i1 ei1 hT hS => ?_)
  have hR1 := Rg_put hR ei1 (-2147483648) 2147483647 rfl (rg_k (by decide) : rg 0 0 0) (by decide)
  have hF1 := Fr_puti hF ei1 (by decide)
  refine lv_aload_n hx hb dX9_all_5 rfl (lv_at hl 0 rfl) ?_
  refine e_Vi (As := []) (rest := []) X Y hT hS (m_X9_isTale hR1) mk_X9_isTale gm_1685 rfl rfl (by decide) hd_X9_isTale ⟨rfl, rfl⟩ ⟨Nat.le_of_ble_eq_true rfl, Nat.le_of_ble_eq_true rfl⟩ hl.1 rfl (Nat.le_of_ble_eq_true rfl) dX9_all_6 ⟨Nat.zero_le _, Nat.zero_le _⟩ (fun r2 i2 g2 H locs hq hT hS => ?_)
  obtain ⟨eh2, hr2⟩ := hq
  rw [(Prod.mk.inj eh2).1, (Prod.mk.inj eh2).2] at hT
  refine lv_if_ne (tgt := 15) hx hb dX9_all_9 (by decide) (fun c3 => ?_) (fun c3 => ?_)
  ·
    have q3 : ¬ r2.toInt = 0 := i_ne c3
    have h4 : rg 1 1 r2 := t_nelo 1 hr2 (rg_k (by decide) : rg 0 0 0) (i_ne c3) (by decide)
    refine lv_aload_n hx hb dX9_all_15 rfl (lv_at hl 0 rfl) ?_
    refine e_Vv (As := []) (rest := []) X Y hT hS (m_X9_laysNow hR1) mk_X9_laysNow gm_1693 rfl rfl (by decide) hd_X9_laysNow ⟨rfl, rfl⟩ ⟨Nat.le_of_ble_eq_true rfl, Nat.le_of_ble_eq_true rfl⟩ hl.1 rfl (Nat.le_of_ble_eq_true rfl) dX9_all_16 ⟨Nat.zero_le _, Nat.zero_le _⟩ (fun i5 g5 H locs hq hT hS => ?_)
    obtain ⟨hR5, hf5⟩ := hq
    have hF5 := Fr_tr hF1 hf5 (by decide)
    refine lv_aload_n hx hb dX9_all_19 rfl (lv_at hl 0 rfl) ?_
    refine e_Vi (As := []) (rest := []) X Y hT hS (m_X9_readAll hR5) mk_X9_readAll gm_1770 rfl rfl (by decide) hd_X9_readAll ⟨rfl, rfl⟩ ⟨Nat.le_of_ble_eq_true rfl, Nat.le_of_ble_eq_true rfl⟩ hl.1 rfl (Nat.le_of_ble_eq_true rfl) dX9_all_20 ⟨Nat.zero_le _, Nat.zero_le _⟩ (fun r6 i6 g6 H locs hq hT hS => ?_)
    have eh6 := hq
    rw [(Prod.mk.inj eh6).1, (Prod.mk.inj eh6).2] at hT
    exact hret r6 _ _ _ _ _ _ dX9_all_23 hT hS ⟨hR5, hF5⟩
  ·
    have q3 : r2.toInt = 0 := i_eq c3
    have h7 : rg 0 0 r2 := t_eqx 0 0 hr2 (rg_k (by decide) : rg 0 0 0) (i_eq c3) (by decide)
    refine lv_bipush (v := (-2)) hx hb dX9_all_12 (by decide) ?_
    exact hret (-2) _ _ _ _ _ _ dX9_all_14 hT hS ⟨hR1, hF1⟩
set_option maxRecDepth 100000 in
set_option maxHeartbeats 4000000 in
theorem m_X9_keepsOf {l : Launch} {D : va_G} {h : Nat → Nat} {cz : Nat → ClassId} {z : EZ} {i : Nat → Nat → Int32} {g : Nat → Nat → Int64} (hR : Rg rA i) (a_a : Int32) (a_b : Int32) (ha_a : rg 0 5 a_a) (ha_b : rg 0 12 a_b) : DtI l yX9_keepsOf cX9_keepsOf 3 (some .int) ({ frames := 1, cells := 0, slots := 0, locals := 22 } : Room) D h cz z i g [.ref (h 96), .int a_a, .int a_b] (fun r u => u = (i, g) ∧ rg (-1) 60 r) := by
  refine e_I pn_X9_keepsOf (Nat.le_of_ble_eq_true rfl) ?_
  intro p e s m args below meth c ls Q X Y hret hT hl hS
  have hx := X.1
  have hb := X.2.1
  have hl : lv_has ls 3 [(0, .ref (h 96)), (1, .int a_a), (2, .int a_b)] := hl
  refine lv_aload_n hx hb dX9_keepsOf_0 rfl (lv_at hl 0 rfl) ?_
  refine r_getr X hT 96 31 112 fk_9_62 rfl rfl (by decide) dX9_keepsOf_1 ?_
  refine lv_iload_n hx hb dX9_keepsOf_4 rfl (lv_at hl 2 rfl) ?_
  refine r_iald X hT 112 rfl (by decide) (v_in ha_b (by decide)) dX9_keepsOf_5 ?_
  refine lv_iload_n hx hb dX9_keepsOf_6 rfl (lv_at hl 1 rfl) ?_
  refine e_Si (As := [.int (i 112 a_b.toNatClampNeg), .int a_a]) (rest := []) X Y hT hS (m_X9_isBit (i 112 a_b.toNatClampNeg) a_a) sk_X9_isBit gm_1670 hd_X9_isBit ⟨rfl, rfl⟩ ⟨Nat.le_of_ble_eq_true rfl, Nat.le_of_ble_eq_true rfl⟩ hl.1 rfl (Nat.le_of_ble_eq_true rfl) dX9_keepsOf_7 ⟨Nat.zero_le _, Nat.zero_le _⟩ (fun r1 i1 g1 H locs hq hT hS => ?_)
  rcases hq with hq | hq
  ·
    obtain ⟨eh1, rfl, hf1_0⟩ := hq
    rw [(Prod.mk.inj eh1).1, (Prod.mk.inj eh1).2] at hT
    replace hf1_0 : ((((i 112 a_b.toNatClampNeg) : Int32) >>> ((a_a : Int32) &&& 31)) &&& 1 = 1) := hf1_0
    refine lv_if_eq (tgt := 17) hx hb dX9_keepsOf_10 (by decide) (fun c2 => (x_eq (rg_k (by decide) : rg 1 1 1) (rg_k (by decide) : rg 0 0 0) (i_eq c2) (by decide)).elim) (fun c2 => ?_)
    refine lv_iconst (v := (-1)) hx hb dX9_keepsOf_13 (by decide) ?_
    refine lv_goto (tgt := 36) hx hb dX9_keepsOf_14 (by decide) ?_
    exact hret (-1) _ _ _ _ _ _ dX9_keepsOf_36 hT hS ⟨rfl, (rg_w (rg_k (by decide) : rg (-1) (-1) (-1)) (by decide) : rg (-1) 60 (-1))⟩
  ·
    obtain ⟨eh1, rfl, hf1_0⟩ := hq
    rw [(Prod.mk.inj eh1).1, (Prod.mk.inj eh1).2] at hT
    replace hf1_0 : ¬ ((((i 112 a_b.toNatClampNeg) : Int32) >>> ((a_a : Int32) &&& 31)) &&& 1 = 1) := hf1_0
    refine lv_if_eq (tgt := 17) hx hb dX9_keepsOf_10 (by decide) (fun c3 => ?_) (fun c3 => (x_ne (rg_k (by decide) : rg 0 0 0) (rg_k (by decide) : rg 0 0 0) (i_ne c3) (by decide)).elim)
    refine lv_iconst (v := 0) hx hb dX9_keepsOf_17 (by decide) ?_
    refine lv_aload_n hx hb dX9_keepsOf_18 rfl (lv_at hl 0 rfl) ?_
    refine r_getr X hT 96 18 104 fk_9_37 rfl rfl (by decide) dX9_keepsOf_19 ?_
    refine lv_iconst (v := 3) hx hb dX9_keepsOf_22 (by decide) ?_
    refine lv_iload_n hx hb dX9_keepsOf_23 rfl (lv_at hl 1 rfl) ?_
    refine q_imul hx hb dX9_keepsOf_24 (fun x4 ex4 => ?_)
    obtain ⟨hx4, ax4⟩ := rg_mul 0 15 ex4 (rg_k (by decide) : rg 3 3 3) ha_a (by decide)
    replace ax4 : x4.toInt = 3 * a_a.toInt := ax4
    refine r_iald X hT 104 rfl (by decide) (v_in hx4 (by decide)) dX9_keepsOf_25 ?_
    refine lv_aload_n hx hb dX9_keepsOf_26 rfl (lv_at hl 0 rfl) ?_
    refine lv_iload_n hx hb dX9_keepsOf_27 rfl (lv_at hl 1 rfl) ?_
    refine lv_iload_n hx hb dX9_keepsOf_28 rfl (lv_at hl 2 rfl) ?_
    refine e_Vi (As := [.int a_a, .int a_b]) (rest := [.int (i 104 x4.toNatClampNeg), .int 0]) X Y hT hS (m_X9_stiffAt hR a_a a_b ha_a ha_b) mk_X9_stiffAt gm_1701 rfl rfl (by decide) hd_X9_stiffAt ⟨rfl, rfl⟩ ⟨Nat.le_of_ble_eq_true rfl, Nat.le_of_ble_eq_true rfl⟩ hl.1 rfl (Nat.le_of_ble_eq_true rfl) dX9_keepsOf_29 ⟨Nat.zero_le _, Nat.zero_le _⟩ (fun r5 i5 g5 H locs hq hT hS => ?_)
    obtain ⟨eh5, hr5⟩ := hq
    rw [(Prod.mk.inj eh5).1, (Prod.mk.inj eh5).2] at hT
    refine q_isub hx hb dX9_keepsOf_32 (fun x6 ex6 => ?_)
    obtain ⟨hx6, ax6⟩ := rg_sub (-99) 60 ex6 (Rg_at hR 104 x4.toNatClampNeg 0 60 (v_lt (v_in hx4 (by decide))) rfl) hr5 (by decide)
    replace ax6 : x6.toInt = (i 104 x4.toNatClampNeg).toInt - r5.toInt := ax6
    refine e_Si (As := [.int 0, .int x6]) (rest := []) X Y hT hS (m_X9_moreOf_0t0_m99t60 (0) x6 (rg_k (by decide) : rg 0 0 0) hx6) sk_X9_moreOf gm_1709 hd_X9_moreOf ⟨rfl, rfl⟩ ⟨Nat.le_of_ble_eq_true rfl, Nat.le_of_ble_eq_true rfl⟩ hl.1 rfl (Nat.le_of_ble_eq_true rfl) dX9_keepsOf_33 ⟨Nat.zero_le _, Nat.zero_le _⟩ (fun r7 i7 g7 H locs hq hT hS => ?_)
    obtain ⟨eh7, hr7⟩ := hq
    rw [(Prod.mk.inj eh7).1, (Prod.mk.inj eh7).2] at hT
    exact hret r7 _ _ _ _ _ _ dX9_keepsOf_36 hT hS ⟨rfl, (rg_w hr7 (by decide) : rg (-1) 60 r7)⟩
set_option maxRecDepth 100000 in
set_option maxHeartbeats 4000000 in
theorem m_X9_keeps {l : Launch} {D : va_G} {h : Nat → Nat} {cz : Nat → ClassId} {z : EZ} {i : Nat → Nat → Int32} {g : Nat → Nat → Int64} (hR : Rg rA i) (a_a : Int32) (a_b : Int32) : DtI l yX9_keeps cX9_keeps 3 (some .int) ({ frames := 6, cells := 0, slots := 0, locals := 132 } : Room) D h cz z i g [.ref (h 96), .int a_a, .int a_b] (fun r u => Rg rA u.1 ∧ Fr [96, 109, 110, 111, 112, 113, 114, 115] [] i g u ∧ rg (-2) 60 r) := by
  refine e_I pn_X9_keeps (Nat.le_of_ble_eq_true rfl) ?_
  intro p e s m args below meth c ls Q X Y hret hT hl hS
  have hx := X.1
  have hb := X.2.1
  have hl : lv_has ls 3 [(0, .ref (h 96)), (1, .int a_a), (2, .int a_b)] := hl
  have hF : Fr [96, 109, 110, 111, 112, 113, 114, 115] [] i g (i, g) := Fr_rf _ _ _ _
  refine lv_aload_n hx hb dX9_keeps_0 rfl (lv_at hl 0 rfl) ?_
  refine lv_iconst (v := 0) hx hb dX9_keeps_1 (by decide) ?_
  refine r_puti X hT hS 96 0 pk_9_83 rfl rfl rfl rfl (by decide) dX9_keeps_2 (fun H locs i1 ei1 hT hS => ?_)
  have hR1 := Rg_put hR ei1 (-2147483648) 2147483647 rfl (rg_k (by decide) : rg 0 0 0) (by decide)
  have hF1 := Fr_puti hF ei1 (by decide)
  refine lv_aload_n hx hb dX9_keeps_5 rfl (lv_at hl 0 rfl) ?_
  refine lv_iload_n hx hb dX9_keeps_6 rfl (lv_at hl 1 rfl) ?_
  refine lv_iload_n hx hb dX9_keeps_7 rfl (lv_at hl 2 rfl) ?_
  refine e_Vi (As := [.int a_a, .int a_b]) (rest := []) X Y hT hS (m_X9_isThen hR1 a_a a_b) mk_X9_isThen gm_1677 rfl rfl (by decide) hd_X9_isThen ⟨rfl, rfl⟩ ⟨Nat.le_of_ble_eq_true rfl, Nat.le_of_ble_eq_true rfl⟩ hl.1 rfl (Nat.le_of_ble_eq_true rfl) dX9_keeps_8 ⟨Nat.zero_le _, Nat.zero_le _⟩ (fun r2 i2 g2 H locs hq hT hS => ?_)
  rcases hq with hq | hq
  ·
    obtain ⟨eh2, rfl, hf2_0, hf2_1⟩ := hq
    rw [(Prod.mk.inj eh2).1, (Prod.mk.inj eh2).2] at hT
    have h3 : rg 0 5 a_a := ⟨by have := (rg_top a_a).1; have := hf2_0.1; omega, by have := (rg_top a_a).2; have := hf2_0.2; omega⟩
    have h4 : rg 0 12 a_b := ⟨by have := (rg_top a_b).1; have := hf2_1.1; omega, by have := (rg_top a_b).2; have := hf2_1.2; omega⟩
    refine lv_if_ne (tgt := 17) hx hb dX9_keeps_11 (by decide) (fun c5 => ?_) (fun c5 => (x_eq (rg_k (by decide) : rg 1 1 1) (rg_k (by decide) : rg 0 0 0) (i_eq c5) (by decide)).elim)
    refine lv_aload_n hx hb dX9_keeps_17 rfl (lv_at hl 0 rfl) ?_
    refine e_Vv (As := []) (rest := []) X Y hT hS (m_X9_laysNow hR1) mk_X9_laysNow gm_1693 rfl rfl (by decide) hd_X9_laysNow ⟨rfl, rfl⟩ ⟨Nat.le_of_ble_eq_true rfl, Nat.le_of_ble_eq_true rfl⟩ hl.1 rfl (Nat.le_of_ble_eq_true rfl) dX9_keeps_18 ⟨Nat.zero_le _, Nat.zero_le _⟩ (fun i6 g6 H locs hq hT hS => ?_)
    obtain ⟨hR6, hf6⟩ := hq
    have hF6 := Fr_tr hF1 hf6 (by decide)
    refine lv_aload_n hx hb dX9_keeps_21 rfl (lv_at hl 0 rfl) ?_
    refine lv_iload_n hx hb dX9_keeps_22 rfl (lv_at hl 1 rfl) ?_
    refine lv_iload_n hx hb dX9_keeps_23 rfl (lv_at hl 2 rfl) ?_
    refine e_Vi (As := [.int a_a, .int a_b]) (rest := []) X Y hT hS (m_X9_keepsOf hR6 a_a a_b h3 h4) mk_X9_keepsOf gm_1778 rfl rfl (by decide) hd_X9_keepsOf ⟨rfl, rfl⟩ ⟨Nat.le_of_ble_eq_true rfl, Nat.le_of_ble_eq_true rfl⟩ hl.1 rfl (Nat.le_of_ble_eq_true rfl) dX9_keeps_24 ⟨Nat.zero_le _, Nat.zero_le _⟩ (fun r7 i7 g7 H locs hq hT hS => ?_)
    obtain ⟨eh7, hr7⟩ := hq
    rw [(Prod.mk.inj eh7).1, (Prod.mk.inj eh7).2] at hT
    exact hret r7 _ _ _ _ _ _ dX9_keeps_27 hT hS ⟨hR6, hF6, (rg_w hr7 (by decide) : rg (-2) 60 r7)⟩
  ·
    obtain ⟨eh2, rfl⟩ := hq
    rw [(Prod.mk.inj eh2).1, (Prod.mk.inj eh2).2] at hT
    refine lv_if_ne (tgt := 17) hx hb dX9_keeps_11 (by decide) (fun c8 => (x_ne (rg_k (by decide) : rg 0 0 0) (rg_k (by decide) : rg 0 0 0) (i_ne c8) (by decide)).elim) (fun c8 => ?_)
    refine lv_bipush (v := (-2)) hx hb dX9_keeps_14 (by decide) ?_
    exact hret (-2) _ _ _ _ _ _ dX9_keeps_16 hT hS ⟨hR1, hF1, (rg_w (rg_k (by decide) : rg (-2) (-2) (-2)) (by decide) : rg (-2) 60 (-2))⟩
set_option maxRecDepth 100000 in
set_option maxHeartbeats 4000000 in
theorem m_X9_moreOf_0t0_m1t60 {l : Launch} {D : va_G} {h : Nat → Nat} {cz : Nat → ClassId} {z : EZ} {i : Nat → Nat → Int32} {g : Nat → Nat → Int64} (a_a : Int32) (a_b : Int32) (ha_a : rg 0 0 a_a) (ha_b : rg (-1) 60 a_b) : DtI l yX9_moreOf cX9_moreOf 2 (some .int) ({ frames := 0, cells := 0, slots := 0, locals := 0 } : Room) D h cz z i g [.int a_a, .int a_b] (fun r u => u = (i, g) ∧ rg 0 60 r) := by
  refine e_I pn_X9_moreOf (Nat.le_of_ble_eq_true rfl) ?_
  intro p e s m args below meth c ls Q X Y hret hT hl hS
  have hx := X.1
  have hb := X.2.1
  have hl : lv_has ls 2 [(0, .int a_a), (1, .int a_b)] := hl
  refine lv_iload_n hx hb dX9_moreOf_0 rfl (lv_at hl 0 rfl) ?_
  refine lv_iload_n hx hb dX9_moreOf_1 rfl (lv_at hl 1 rfl) ?_
  refine lv_icmp_le (tgt := 9) hx hb dX9_moreOf_2 (by decide) (fun c1 => ?_) (fun c1 => ?_)
  ·
    have q1 : a_a.toInt ≤ a_b.toInt := i_le c1
    have h2 : rg 0 60 a_b := t_ley 0 60 ha_a ha_b (i_le c1) (by decide)
    refine lv_iload_n hx hb dX9_moreOf_9 rfl (lv_at hl 1 rfl) ?_
    exact hret a_b _ _ _ _ _ _ dX9_moreOf_10 hT hS ⟨rfl, h2⟩
  ·
    have q1 : a_b.toInt < a_a.toInt := i_nle c1
    have h3 : rg (-1) (-1) a_b := t_ltx (-1) (-1) ha_b ha_a (i_nle c1) (by decide)
    refine lv_iload_n hx hb dX9_moreOf_5 rfl (lv_at hl 0 rfl) ?_
    refine lv_goto (tgt := 10) hx hb dX9_moreOf_6 (by decide) ?_
    exact hret a_a _ _ _ _ _ _ dX9_moreOf_10 hT hS ⟨rfl, (rg_w ha_a (by decide) : rg 0 60 a_a)⟩
set_option maxRecDepth 100000 in
set_option maxHeartbeats 4000000 in
theorem m_X9_waits {l : Launch} {D : va_G} {h : Nat → Nat} {cz : Nat → ClassId} {z : EZ} {i : Nat → Nat → Int32} {g : Nat → Nat → Int64} (hR : Rg rA i) (a_a : Int32) : DtI l yX9_waits cX9_waits 4 (some .int) ({ frames := 6, cells := 0, slots := 0, locals := 132 } : Room) D h cz z i g [.ref (h 96), .int a_a] (fun r u => Rg rA u.1 ∧ Fr [96, 109, 110, 111, 112, 113, 114, 115] [] i g u) := by
  refine e_I pn_X9_waits (Nat.le_of_ble_eq_true rfl) ?_
  intro p e s m args below meth c ls Q X Y hret hT hl hS
  have hx := X.1
  have hb := X.2.1
  have hl : lv_has ls 4 [(0, .ref (h 96)), (1, .int a_a)] := hl
  have hF : Fr [96, 109, 110, 111, 112, 113, 114, 115] [] i g (i, g) := Fr_rf _ _ _ _
  refine lv_aload_n hx hb dX9_waits_0 rfl (lv_at hl 0 rfl) ?_
  refine lv_iconst (v := 0) hx hb dX9_waits_1 (by decide) ?_
  refine r_puti X hT hS 96 0 pk_9_83 rfl rfl rfl rfl (by decide) dX9_waits_2 (fun H locs i1 ei1 hT hS => ?_)
  have hR1 := Rg_put hR ei1 (-2147483648) 2147483647 rfl (rg_k (by decide) : rg 0 0 0) (by decide)
  have hF1 := Fr_puti hF ei1 (by decide)
  refine lv_aload_n hx hb dX9_waits_5 rfl (lv_at hl 0 rfl) ?_
  refine lv_iload_n hx hb dX9_waits_6 rfl (lv_at hl 1 rfl) ?_
  refine q_i2l hx hb dX9_waits_7 (fun y2 ey2 => ?_)
  obtain ⟨hy2, ay2⟩ := rg_i2l ey2 (rg_top a_a)
  refine e_Vi (As := [.long y2]) (rest := []) X Y hT hS (m_X9_isYear hR1 y2) mk_X9_isYear gm_1681 rfl rfl (by decide) hd_X9_isYear ⟨rfl, rfl⟩ ⟨Nat.le_of_ble_eq_true rfl, Nat.le_of_ble_eq_true rfl⟩ hl.1 rfl (Nat.le_of_ble_eq_true rfl) dX9_waits_8 ⟨Nat.zero_le _, Nat.zero_le _⟩ (fun r3 i3 g3 H locs hq hT hS => ?_)
  rcases hq with hq | hq
  ·
    obtain ⟨eh3, rfl, hf3_0⟩ := hq
    rw [(Prod.mk.inj eh3).1, (Prod.mk.inj eh3).2] at hT
    have h4 : rgL 0 12 y2 := ⟨by have := hy2.1; have := hf3_0.1; omega, by have := hy2.2; have := hf3_0.2; omega⟩
    have h5 : rg 0 12 a_a := ⟨by have := h4.1; have := (rg_top a_a).1; have := ay2; omega, by have := h4.2; have := (rg_top a_a).2; have := ay2; omega⟩
    refine lv_if_ne (tgt := 17) hx hb dX9_waits_11 (by decide) (fun c6 => ?_) (fun c6 => (x_eq (rg_k (by decide) : rg 1 1 1) (rg_k (by decide) : rg 0 0 0) (i_eq c6) (by decide)).elim)
    refine lv_aload_n hx hb dX9_waits_17 rfl (lv_at hl 0 rfl) ?_
    refine e_Vv (As := []) (rest := []) X Y hT hS (m_X9_laysNow hR1) mk_X9_laysNow gm_1693 rfl rfl (by decide) hd_X9_laysNow ⟨rfl, rfl⟩ ⟨Nat.le_of_ble_eq_true rfl, Nat.le_of_ble_eq_true rfl⟩ hl.1 rfl (Nat.le_of_ble_eq_true rfl) dX9_waits_18 ⟨Nat.zero_le _, Nat.zero_le _⟩ (fun i7 g7 H locs hq hT hS => ?_)
    obtain ⟨hR7, hf7⟩ := hq
    have hF7 := Fr_tr hF1 hf7 (by decide)
    refine lv_iconst (v := 0) hx hb dX9_waits_21 (by decide) ?_
    refine lv_istore_n (lv' := [(2, .int 0), (0, .ref (h 96)), (1, .int a_a)]) hx hb dX9_waits_22 rfl hl (by decide) rfl (fun ls hl => ?_)
    refine lv_iconst (v := 0) hx hb dX9_waits_23 (by decide) ?_
    refine lv_istore_n (lv' := [(3, .int 0), (2, .int 0), (0, .ref (h 96)), (1, .int a_a)]) hx hb dX9_waits_24 rfl hl (by decide) rfl (fun ls hl => ?_)
    have L25_8 : ∀ (n9_ : Nat) (x25_2 : Int32) (x25_3 : Int32) (H : Heap) (locs : List Loc) (ls : Array Slot), rg 0 6 x25_3 → TH D h cz i7 g7 H → va_S (hA h) s.heap H locs → lv_has ls 4 [(0, .ref (h 96)), (1, .int a_a), (2, .int x25_2), (3, .int x25_3)] → (6 - x25_3.toInt).toNat < n9_ → W p l e ({ frames := 6, cells := 0, slots := 0, locals := 132 } : Room) s m args below meth c H locs 0 0 Q (F0 m 25 ls []) := by
      intro n9_
      induction n9_ with
      | zero => intro x25_2 x25_3 H locs ls hhx25_3 hT hS hl hm9_; exact absurd hm9_ (Nat.not_lt_zero _)
      | succ n9_ ih9_ =>
        intro x25_2 x25_3 H locs ls hhx25_3 hT hS hl hm9_
        refine lv_iload_n hx hb dX9_waits_25 rfl (lv_at hl 3 rfl) ?_
        refine lv_aload_n hx hb dX9_waits_26 rfl (lv_at hl 0 rfl) ?_
        refine e_Vi (As := []) (rest := [.int x25_3]) X Y hT hS (m_X9_parts hR7) mk_X9_parts gm_1649 rfl rfl (by decide) hd_X9_parts ⟨rfl, rfl⟩ ⟨Nat.le_of_ble_eq_true rfl, Nat.le_of_ble_eq_true rfl⟩ hl.1 rfl (Nat.le_of_ble_eq_true rfl) dX9_waits_27 ⟨Nat.zero_le _, Nat.zero_le _⟩ (fun r10 i10 g10 H locs hq hT hS => ?_)
        obtain ⟨eh10, hr10⟩ := hq
        rw [(Prod.mk.inj eh10).1, (Prod.mk.inj eh10).2] at hT
        refine lv_icmp_ge (tgt := 52) hx hb dX9_waits_30 (by decide) (fun c11 => ?_) (fun c11 => ?_)
        ·
          have q11 : r10.toInt ≤ x25_3.toInt := i_le c11
          refine lv_iload_n hx hb dX9_waits_52 rfl (lv_at hl 2 rfl) ?_
          exact hret x25_2 _ _ _ _ _ _ dX9_waits_53 hT hS ⟨hR7, hF7⟩
        ·
          have q11 : x25_3.toInt < r10.toInt := i_nle c11
          have h12 : rg 0 5 x25_3 := t_ltx 0 5 hhx25_3 hr10 (i_nle c11) (by decide)
          have h13 : rg 1 6 r10 := t_lty 1 6 hhx25_3 hr10 (i_nle c11) (by decide)
          refine lv_iload_n hx hb dX9_waits_33 rfl (lv_at hl 2 rfl) ?_
          refine lv_iconst (v := 0) hx hb dX9_waits_34 (by decide) ?_
          refine lv_aload_n hx hb dX9_waits_35 rfl (lv_at hl 0 rfl) ?_
          refine lv_iload_n hx hb dX9_waits_36 rfl (lv_at hl 3 rfl) ?_
          refine lv_iload_n hx hb dX9_waits_37 rfl (lv_at hl 1 rfl) ?_
          refine e_Vi (As := [.int x25_3, .int a_a]) (rest := [.int 0, .int x25_2]) X Y hT hS (m_X9_keepsOf hR7 x25_3 a_a h12 h5) mk_X9_keepsOf gm_1778 rfl rfl (by decide) hd_X9_keepsOf ⟨rfl, rfl⟩ ⟨Nat.le_of_ble_eq_true rfl, Nat.le_of_ble_eq_true rfl⟩ hl.1 rfl (Nat.le_of_ble_eq_true rfl) dX9_waits_38 ⟨Nat.zero_le _, Nat.zero_le _⟩ (fun r14 i14 g14 H locs hq hT hS => ?_)
          obtain ⟨eh14, hr14⟩ := hq
          rw [(Prod.mk.inj eh14).1, (Prod.mk.inj eh14).2] at hT
          refine e_Si (As := [.int 0, .int r14]) (rest := [.int x25_2]) X Y hT hS (m_X9_moreOf_0t0_m1t60 (0) r14 (rg_k (by decide) : rg 0 0 0) hr14) sk_X9_moreOf gm_1709 hd_X9_moreOf ⟨rfl, rfl⟩ ⟨Nat.le_of_ble_eq_true rfl, Nat.le_of_ble_eq_true rfl⟩ hl.1 rfl (Nat.le_of_ble_eq_true rfl) dX9_waits_41 ⟨Nat.zero_le _, Nat.zero_le _⟩ (fun r15 i15 g15 H locs hq hT hS => ?_)
          obtain ⟨eh15, hr15⟩ := hq
          rw [(Prod.mk.inj eh15).1, (Prod.mk.inj eh15).2] at hT
          refine q_iadd hx hb dX9_waits_44 (fun x16 ex16 => ?_)
          refine lv_istore_n (lv' := [(2, .int x16), (0, .ref (h 96)), (1, .int a_a), (3, .int x25_3)]) hx hb dX9_waits_45 rfl hl (by decide) rfl (fun ls hl => ?_)
          obtain ⟨x17, ex17⟩ : ∃ y : Int32, y = x25_3 + 1 := ⟨_, rfl⟩
          refine lv_iinc (v := x17) (lv' := [(3, .int x17), (2, .int x16), (0, .ref (h 96)), (1, .int a_a)]) hx hb dX9_waits_46 hl (k := 3) rfl (by rw [ex17]; rfl) (by decide) rfl (fun ls hl => ?_)
          obtain ⟨hx17, ax17⟩ := rg_add 1 6 ex17 h12 (rg_k (by decide) : rg 1 1 1) (by decide)
          replace ax17 : x17.toInt = x25_3.toInt + 1 := ax17
          refine lv_goto (tgt := 25) hx hb dX9_waits_49 (by decide) ?_
          exact ih9_ x16 x17 _ _ _ (rg_w hx17 (by decide) : rg 0 6 x17) hT hS (lv_sub hl [2, 3, 1, 0] rfl) (m_up ax17 hx17 (by decide) hm9_)
    exact L25_8 _ (0) (0) _ _ _ (rg_w (rg_k (by decide) : rg 0 0 0) (by decide) : rg 0 6 0) hT hS (lv_sub hl [2, 3, 1, 0] rfl) (Nat.lt_succ_self _)
  ·
    obtain ⟨eh3, rfl⟩ := hq
    rw [(Prod.mk.inj eh3).1, (Prod.mk.inj eh3).2] at hT
    refine lv_if_ne (tgt := 17) hx hb dX9_waits_11 (by decide) (fun c18 => (x_ne (rg_k (by decide) : rg 0 0 0) (rg_k (by decide) : rg 0 0 0) (i_ne c18) (by decide)).elim) (fun c18 => ?_)
    refine lv_bipush (v := (-2)) hx hb dX9_waits_14 (by decide) ?_
    exact hret (-2) _ _ _ _ _ _ dX9_waits_16 hT hS ⟨hR1, hF1⟩
set_option maxRecDepth 100000 in
set_option maxHeartbeats 4000000 in
theorem m_X9_next {l : Launch} {D : va_G} {h : Nat → Nat} {cz : Nat → ClassId} {z : EZ} {i : Nat → Nat → Int32} {g : Nat → Nat → Int64} (hR : Rg rA i) (a_a : Int32) : DtI l yX9_next cX9_next 4 (some .int) ({ frames := 6, cells := 0, slots := 0, locals := 132 } : Room) D h cz z i g [.ref (h 96), .int a_a] (fun r u => Rg rA u.1 ∧ Fr [96, 109, 110, 111, 112, 113, 114, 115] [] i g u ∧ rg (-2) 5 r) := by
  refine e_I pn_X9_next (Nat.le_of_ble_eq_true rfl) ?_
  intro p e s m args below meth c ls Q X Y hret hT hl hS
  have hx := X.1
  have hb := X.2.1
  have hl : lv_has ls 4 [(0, .ref (h 96)), (1, .int a_a)] := hl
  have hF : Fr [96, 109, 110, 111, 112, 113, 114, 115] [] i g (i, g) := Fr_rf _ _ _ _
  refine lv_aload_n hx hb dX9_next_0 rfl (lv_at hl 0 rfl) ?_
  refine lv_iconst (v := 0) hx hb dX9_next_1 (by decide) ?_
  refine r_puti X hT hS 96 0 pk_9_83 rfl rfl rfl rfl (by decide) dX9_next_2 (fun H locs i1 ei1 hT hS => ?_)
  have hR1 := Rg_put hR ei1 (-2147483648) 2147483647 rfl (rg_k (by decide) : rg 0 0 0) (by decide)
  have hF1 := Fr_puti hF ei1 (by decide)
  refine lv_aload_n hx hb dX9_next_5 rfl (lv_at hl 0 rfl) ?_
  refine lv_iload_n hx hb dX9_next_6 rfl (lv_at hl 1 rfl) ?_
  refine q_i2l hx hb dX9_next_7 (fun y2 ey2 => ?_)
  obtain ⟨hy2, ay2⟩ := rg_i2l ey2 (rg_top a_a)
  refine e_Vi (As := [.long y2]) (rest := []) X Y hT hS (m_X9_isYear hR1 y2) mk_X9_isYear gm_1681 rfl rfl (by decide) hd_X9_isYear ⟨rfl, rfl⟩ ⟨Nat.le_of_ble_eq_true rfl, Nat.le_of_ble_eq_true rfl⟩ hl.1 rfl (Nat.le_of_ble_eq_true rfl) dX9_next_8 ⟨Nat.zero_le _, Nat.zero_le _⟩ (fun r3 i3 g3 H locs hq hT hS => ?_)
  rcases hq with hq | hq
  ·
    obtain ⟨eh3, rfl, hf3_0⟩ := hq
    rw [(Prod.mk.inj eh3).1, (Prod.mk.inj eh3).2] at hT
    have h4 : rgL 0 12 y2 := ⟨by have := hy2.1; have := hf3_0.1; omega, by have := hy2.2; have := hf3_0.2; omega⟩
    have h5 : rg 0 12 a_a := ⟨by have := h4.1; have := (rg_top a_a).1; have := ay2; omega, by have := h4.2; have := (rg_top a_a).2; have := ay2; omega⟩
    refine lv_if_ne (tgt := 17) hx hb dX9_next_11 (by decide) (fun c6 => ?_) (fun c6 => (x_eq (rg_k (by decide) : rg 1 1 1) (rg_k (by decide) : rg 0 0 0) (i_eq c6) (by decide)).elim)
    refine lv_aload_n hx hb dX9_next_17 rfl (lv_at hl 0 rfl) ?_
    refine e_Vv (As := []) (rest := []) X Y hT hS (m_X9_laysNow hR1) mk_X9_laysNow gm_1693 rfl rfl (by decide) hd_X9_laysNow ⟨rfl, rfl⟩ ⟨Nat.le_of_ble_eq_true rfl, Nat.le_of_ble_eq_true rfl⟩ hl.1 rfl (Nat.le_of_ble_eq_true rfl) dX9_next_18 ⟨Nat.zero_le _, Nat.zero_le _⟩ (fun i7 g7 H locs hq hT hS => ?_)
    obtain ⟨hR7, hf7⟩ := hq
    have hF7 := Fr_tr hF1 hf7 (by decide)
    refine lv_iconst (v := (-1)) hx hb dX9_next_21 (by decide) ?_
    refine lv_istore_n (lv' := [(2, .int (-1)), (0, .ref (h 96)), (1, .int a_a)]) hx hb dX9_next_22 rfl hl (by decide) rfl (fun ls hl => ?_)
    refine lv_iconst (v := 0) hx hb dX9_next_23 (by decide) ?_
    refine lv_istore_n (lv' := [(3, .int 0), (2, .int (-1)), (0, .ref (h 96)), (1, .int a_a)]) hx hb dX9_next_24 rfl hl (by decide) rfl (fun ls hl => ?_)
    have L25_8 : ∀ (n9_ : Nat) (x25_2 : Int32) (x25_3 : Int32) (H : Heap) (locs : List Loc) (ls : Array Slot), rg (-1) 5 x25_2 → rg 0 6 x25_3 → TH D h cz i7 g7 H → va_S (hA h) s.heap H locs → lv_has ls 4 [(0, .ref (h 96)), (1, .int a_a), (2, .int x25_2), (3, .int x25_3)] → (6 - x25_3.toInt).toNat < n9_ → W p l e ({ frames := 6, cells := 0, slots := 0, locals := 132 } : Room) s m args below meth c H locs 0 0 Q (F0 m 25 ls []) := by
      intro n9_
      induction n9_ with
      | zero => intro x25_2 x25_3 H locs ls hhx25_2 hhx25_3 hT hS hl hm9_; exact absurd hm9_ (Nat.not_lt_zero _)
      | succ n9_ ih9_ =>
        intro x25_2 x25_3 H locs ls hhx25_2 hhx25_3 hT hS hl hm9_
        refine lv_iload_n hx hb dX9_next_25 rfl (lv_at hl 3 rfl) ?_
        refine lv_aload_n hx hb dX9_next_26 rfl (lv_at hl 0 rfl) ?_
        refine e_Vi (As := []) (rest := [.int x25_3]) X Y hT hS (m_X9_parts hR7) mk_X9_parts gm_1649 rfl rfl (by decide) hd_X9_parts ⟨rfl, rfl⟩ ⟨Nat.le_of_ble_eq_true rfl, Nat.le_of_ble_eq_true rfl⟩ hl.1 rfl (Nat.le_of_ble_eq_true rfl) dX9_next_27 ⟨Nat.zero_le _, Nat.zero_le _⟩ (fun r10 i10 g10 H locs hq hT hS => ?_)
        obtain ⟨eh10, hr10⟩ := hq
        rw [(Prod.mk.inj eh10).1, (Prod.mk.inj eh10).2] at hT
        refine lv_icmp_ge (tgt := 71) hx hb dX9_next_30 (by decide) (fun c11 => ?_) (fun c11 => ?_)
        ·
          have q11 : r10.toInt ≤ x25_3.toInt := i_le c11
          refine lv_iload_n hx hb dX9_next_71 rfl (lv_at hl 2 rfl) ?_
          exact hret x25_2 _ _ _ _ _ _ dX9_next_72 hT hS ⟨hR7, hF7, (rg_w hhx25_2 (by decide) : rg (-2) 5 x25_2)⟩
        ·
          have q11 : x25_3.toInt < r10.toInt := i_nle c11
          have h12 : rg 0 5 x25_3 := t_ltx 0 5 hhx25_3 hr10 (i_nle c11) (by decide)
          have h13 : rg 1 6 r10 := t_lty 1 6 hhx25_3 hr10 (i_nle c11) (by decide)
          refine lv_aload_n hx hb dX9_next_33 rfl (lv_at hl 0 rfl) ?_
          refine lv_iload_n hx hb dX9_next_34 rfl (lv_at hl 3 rfl) ?_
          refine lv_iload_n hx hb dX9_next_35 rfl (lv_at hl 1 rfl) ?_
          refine e_Vi (As := [.int x25_3, .int a_a]) (rest := []) X Y hT hS (m_X9_keepsOf hR7 x25_3 a_a h12 h5) mk_X9_keepsOf gm_1778 rfl rfl (by decide) hd_X9_keepsOf ⟨rfl, rfl⟩ ⟨Nat.le_of_ble_eq_true rfl, Nat.le_of_ble_eq_true rfl⟩ hl.1 rfl (Nat.le_of_ble_eq_true rfl) dX9_next_36 ⟨Nat.zero_le _, Nat.zero_le _⟩ (fun r14 i14 g14 H locs hq hT hS => ?_)
          obtain ⟨eh14, hr14⟩ := hq
          rw [(Prod.mk.inj eh14).1, (Prod.mk.inj eh14).2] at hT
          refine lv_iconst (v := (-1)) hx hb dX9_next_39 (by decide) ?_
          refine lv_icmp_eq (tgt := 65) hx hb dX9_next_40 (by decide) (fun c15 => ?_) (fun c15 => ?_)
          ·
            have q15 : r14.toInt = (-1) := i_eq c15
            have h16 : rg (-1) (-1) r14 := t_eqx (-1) (-1) hr14 (rg_k (by decide) : rg (-1) (-1) (-1)) (i_eq c15) (by decide)
            obtain ⟨x17, ex17⟩ : ∃ y : Int32, y = x25_3 + 1 := ⟨_, rfl⟩
            refine lv_iinc (v := x17) (lv' := [(3, .int x17), (0, .ref (h 96)), (1, .int a_a), (2, .int x25_2)]) hx hb dX9_next_65 hl (k := 3) rfl (by rw [ex17]; rfl) (by decide) rfl (fun ls hl => ?_)
            obtain ⟨hx17, ax17⟩ := rg_add 1 6 ex17 h12 (rg_k (by decide) : rg 1 1 1) (by decide)
            replace ax17 : x17.toInt = x25_3.toInt + 1 := ax17
            refine lv_goto (tgt := 25) hx hb dX9_next_68 (by decide) ?_
            exact ih9_ x25_2 x17 _ _ _ hhx25_2 (rg_w hx17 (by decide) : rg 0 6 x17) hT hS (lv_sub hl [1, 2, 3, 0] rfl) (m_up ax17 hx17 (by decide) hm9_)
          ·
            have q15 : ¬ r14.toInt = (-1) := i_ne c15
            have h18 : rg 0 60 r14 := t_nelo 0 hr14 (rg_k (by decide) : rg (-1) (-1) (-1)) (i_ne c15) (by decide)
            refine lv_iload_n hx hb dX9_next_43 rfl (lv_at hl 2 rfl) ?_
            refine lv_iconst (v := (-1)) hx hb dX9_next_44 (by decide) ?_
            refine lv_icmp_eq (tgt := 63) hx hb dX9_next_45 (by decide) (fun c19 => ?_) (fun c19 => ?_)
            ·
              have q19 : x25_2.toInt = (-1) := i_eq c19
              have h20 : rg (-1) (-1) x25_2 := t_eqx (-1) (-1) hhx25_2 (rg_k (by decide) : rg (-1) (-1) (-1)) (i_eq c19) (by decide)
              refine lv_iload_n hx hb dX9_next_63 rfl (lv_at hl 3 rfl) ?_
              refine lv_istore_n (lv' := [(2, .int x25_3), (0, .ref (h 96)), (1, .int a_a), (3, .int x25_3)]) hx hb dX9_next_64 rfl hl (by decide) rfl (fun ls hl => ?_)
              obtain ⟨x21, ex21⟩ : ∃ y : Int32, y = x25_3 + 1 := ⟨_, rfl⟩
              refine lv_iinc (v := x21) (lv' := [(3, .int x21), (2, .int x25_3), (0, .ref (h 96)), (1, .int a_a)]) hx hb dX9_next_65 hl (k := 3) rfl (by rw [ex21]; rfl) (by decide) rfl (fun ls hl => ?_)
              obtain ⟨hx21, ax21⟩ := rg_add 1 6 ex21 h12 (rg_k (by decide) : rg 1 1 1) (by decide)
              replace ax21 : x21.toInt = x25_3.toInt + 1 := ax21
              refine lv_goto (tgt := 25) hx hb dX9_next_68 (by decide) ?_
              exact ih9_ x25_3 x21 _ _ _ (rg_w h12 (by decide) : rg (-1) 5 x25_3) (rg_w hx21 (by decide) : rg 0 6 x21) hT hS (lv_sub hl [2, 3, 1, 0] rfl) (m_up ax21 hx21 (by decide) hm9_)
            ·
              have q19 : ¬ x25_2.toInt = (-1) := i_ne c19
              have h22 : rg 0 5 x25_2 := t_nelo 0 hhx25_2 (rg_k (by decide) : rg (-1) (-1) (-1)) (i_ne c19) (by decide)
              refine lv_aload_n hx hb dX9_next_48 rfl (lv_at hl 0 rfl) ?_
              refine lv_iload_n hx hb dX9_next_49 rfl (lv_at hl 3 rfl) ?_
              refine lv_iload_n hx hb dX9_next_50 rfl (lv_at hl 1 rfl) ?_
              refine e_Vi (As := [.int x25_3, .int a_a]) (rest := []) X Y hT hS (m_X9_keepsOf hR7 x25_3 a_a h12 h5) mk_X9_keepsOf gm_1778 rfl rfl (by decide) hd_X9_keepsOf ⟨rfl, rfl⟩ ⟨Nat.le_of_ble_eq_true rfl, Nat.le_of_ble_eq_true rfl⟩ hl.1 rfl (Nat.le_of_ble_eq_true rfl) dX9_next_51 ⟨Nat.zero_le _, Nat.zero_le _⟩ (fun r23 i23 g23 H locs hq hT hS => ?_)
              obtain ⟨eh23, hr23⟩ := hq
              rw [(Prod.mk.inj eh23).1, (Prod.mk.inj eh23).2] at hT
              refine lv_aload_n hx hb dX9_next_54 rfl (lv_at hl 0 rfl) ?_
              refine lv_iload_n hx hb dX9_next_55 rfl (lv_at hl 2 rfl) ?_
              refine lv_iload_n hx hb dX9_next_56 rfl (lv_at hl 1 rfl) ?_
              refine e_Vi (As := [.int x25_2, .int a_a]) (rest := [.int r23]) X Y hT hS (m_X9_keepsOf hR7 x25_2 a_a h22 h5) mk_X9_keepsOf gm_1778 rfl rfl (by decide) hd_X9_keepsOf ⟨rfl, rfl⟩ ⟨Nat.le_of_ble_eq_true rfl, Nat.le_of_ble_eq_true rfl⟩ hl.1 rfl (Nat.le_of_ble_eq_true rfl) dX9_next_57 ⟨Nat.zero_le _, Nat.zero_le _⟩ (fun r24 i24 g24 H locs hq hT hS => ?_)
              obtain ⟨eh24, hr24⟩ := hq
              rw [(Prod.mk.inj eh24).1, (Prod.mk.inj eh24).2] at hT
              refine lv_icmp_le (tgt := 65) hx hb dX9_next_60 (by decide) (fun c25 => ?_) (fun c25 => ?_)
              ·
                have q25 : r23.toInt ≤ r24.toInt := i_le c25
                obtain ⟨x26, ex26⟩ : ∃ y : Int32, y = x25_3 + 1 := ⟨_, rfl⟩
                refine lv_iinc (v := x26) (lv' := [(3, .int x26), (0, .ref (h 96)), (1, .int a_a), (2, .int x25_2)]) hx hb dX9_next_65 hl (k := 3) rfl (by rw [ex26]; rfl) (by decide) rfl (fun ls hl => ?_)
                obtain ⟨hx26, ax26⟩ := rg_add 1 6 ex26 h12 (rg_k (by decide) : rg 1 1 1) (by decide)
                replace ax26 : x26.toInt = x25_3.toInt + 1 := ax26
                refine lv_goto (tgt := 25) hx hb dX9_next_68 (by decide) ?_
                exact ih9_ x25_2 x26 _ _ _ (rg_w h22 (by decide) : rg (-1) 5 x25_2) (rg_w hx26 (by decide) : rg 0 6 x26) hT hS (lv_sub hl [1, 2, 3, 0] rfl) (m_up ax26 hx26 (by decide) hm9_)
              ·
                have q25 : r24.toInt < r23.toInt := i_nle c25
                have h27 : rg (-1) 59 r24 := t_ltx (-1) 59 hr24 hr23 (i_nle c25) (by decide)
                have h28 : rg 0 60 r23 := t_lty 0 60 hr24 hr23 (i_nle c25) (by decide)
                refine lv_iload_n hx hb dX9_next_63 rfl (lv_at hl 3 rfl) ?_
                refine lv_istore_n (lv' := [(2, .int x25_3), (0, .ref (h 96)), (1, .int a_a), (3, .int x25_3)]) hx hb dX9_next_64 rfl hl (by decide) rfl (fun ls hl => ?_)
                obtain ⟨x29, ex29⟩ : ∃ y : Int32, y = x25_3 + 1 := ⟨_, rfl⟩
                refine lv_iinc (v := x29) (lv' := [(3, .int x29), (2, .int x25_3), (0, .ref (h 96)), (1, .int a_a)]) hx hb dX9_next_65 hl (k := 3) rfl (by rw [ex29]; rfl) (by decide) rfl (fun ls hl => ?_)
                obtain ⟨hx29, ax29⟩ := rg_add 1 6 ex29 h12 (rg_k (by decide) : rg 1 1 1) (by decide)
                replace ax29 : x29.toInt = x25_3.toInt + 1 := ax29
                refine lv_goto (tgt := 25) hx hb dX9_next_68 (by decide) ?_
                exact ih9_ x25_3 x29 _ _ _ (rg_w h12 (by decide) : rg (-1) 5 x25_3) (rg_w hx29 (by decide) : rg 0 6 x29) hT hS (lv_sub hl [2, 3, 1, 0] rfl) (m_up ax29 hx29 (by decide) hm9_)
    exact L25_8 _ ((-1)) (0) _ _ _ (rg_w (rg_k (by decide) : rg (-1) (-1) (-1)) (by decide) : rg (-1) 5 (-1)) (rg_w (rg_k (by decide) : rg 0 0 0) (by decide) : rg 0 6 0) hT hS (lv_sub hl [2, 3, 1, 0] rfl) (Nat.lt_succ_self _)
  ·
    obtain ⟨eh3, rfl⟩ := hq
    rw [(Prod.mk.inj eh3).1, (Prod.mk.inj eh3).2] at hT
    refine lv_if_ne (tgt := 17) hx hb dX9_next_11 (by decide) (fun c30 => (x_ne (rg_k (by decide) : rg 0 0 0) (rg_k (by decide) : rg 0 0 0) (i_ne c30) (by decide)).elim) (fun c30 => ?_)
    refine lv_bipush (v := (-2)) hx hb dX9_next_14 (by decide) ?_
    exact hret (-2) _ _ _ _ _ _ dX9_next_16 hT hS ⟨hR1, hF1, (rg_w (rg_k (by decide) : rg (-2) (-2) (-2)) (by decide) : rg (-2) 5 (-2))⟩
