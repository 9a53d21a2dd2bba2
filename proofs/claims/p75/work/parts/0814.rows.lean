set_option maxRecDepth 100000 in
set_option maxHeartbeats 4000000 in
theorem m_X9_planFrom_1 {l : Launch} {D : va_G} {h : Nat → Nat} {cz : Nat → ClassId} {z : EZ} {i : Nat → Nat → Int32} {g : Nat → Nat → Int64} (hR : Rg rA i) (a_a : Int32) (a_b : Int32) (ha_a : rg 1 1 a_a) (ha_b : rg 1 5 a_b) : DtV l yX9_planFrom cX9_planFrom 5 none ({ frames := 10, cells := 0, slots := 0, locals := 230 } : Room) D h cz z i g [.ref (h 96), .int a_a, .int a_b] (fun u => Rg rA u.1 ∧ Fr [96, 109, 110, 111, 112, 113, 114, 115, 116, 117] [] i g u) := by
  refine e_V pn_X9_planFrom (Nat.le_of_ble_eq_true rfl) ?_
  intro p e s m args below meth c ls Q X Y hret hT hl hS
  have hx := X.1
  have hb := X.2.1
  have hl : lv_has ls 5 [(0, .ref (h 96)), (1, .int a_a), (2, .int a_b)] := hl
  have hF : Fr [96, 109, 110, 111, 112, 113, 114, 115, 116, 117] [] i g (i, g) := Fr_rf _ _ _ _
  refine lv_aload_n hx hb dX9_planFrom_0 rfl (lv_at hl 0 rfl) ?_
  refine lv_iload_n hx hb dX9_planFrom_1 rfl (lv_at hl 1 rfl) ?_
  refine e_Vv (As := [.int a_a]) (rest := []) X Y hT hS (m_X9_runsPlan hR a_a (rg_w ha_a (by decide) : rg 0 5 a_a)) mk_X9_runsPlan gm_1931 rfl rfl (by decide) hd_X9_runsPlan ⟨rfl, rfl⟩ ⟨Nat.le_of_ble_eq_true rfl, Nat.le_of_ble_eq_true rfl⟩ hl.1 rfl (Nat.le_of_ble_eq_true rfl) dX9_planFrom_2 ⟨Nat.zero_le _, Nat.zero_le _⟩ (fun i1 g1 H locs hq hT hS => ?_)
  obtain ⟨hR1, hf1⟩ := hq
  have hF1 := Fr_tr hF hf1 (by decide)
  refine lv_iload_n hx hb dX9_planFrom_5 rfl (lv_at hl 1 rfl) ?_
  refine lv_iload_n hx hb dX9_planFrom_6 rfl (lv_at hl 2 rfl) ?_
  refine lv_icmp_ne (tgt := 85) hx hb dX9_planFrom_7 (by decide) (fun c2 => ?_) (fun c2 => ?_)
  ·
    have q2 : ¬ a_a.toInt = a_b.toInt := i_ne c2
    have h3 : rg 2 5 a_b := t_nelo 2 ha_b ha_a (Ne.symm (i_ne c2)) (by decide)
    refine lv_aload_n hx hb dX9_planFrom_85 rfl (lv_at hl 0 rfl) ?_
    refine e_Vi (As := []) (rest := []) X Y hT hS (m_X9_every hR1) mk_X9_every gm_1814 rfl rfl (by decide) hd_X9_every ⟨rfl, rfl⟩ ⟨Nat.le_of_ble_eq_true rfl, Nat.le_of_ble_eq_true rfl⟩ hl.1 rfl (Nat.le_of_ble_eq_true rfl) dX9_planFrom_86 ⟨Nat.zero_le _, Nat.zero_le _⟩ (fun r4 i4 g4 H locs hq hT hS => ?_)
    obtain ⟨eh4, hr4⟩ := hq
    rw [(Prod.mk.inj eh4).1, (Prod.mk.inj eh4).2] at hT
    refine lv_aload_n hx hb dX9_planFrom_89 rfl (lv_at hl 0 rfl) ?_
    refine r_getr X hT 96 31 112 fk_9_62 rfl rfl (by decide) dX9_planFrom_90 ?_
    refine lv_iload_n hx hb dX9_planFrom_93 rfl (lv_at hl 1 rfl) ?_
    refine r_ialdc X hT 112 1 rfl (by decide) (v_in ha_a (by decide)) (cl_c ha_a 1 rfl (by decide)) dX9_planFrom_94 ?_
    refine lv_iconst (v := (-1)) hx hb dX9_planFrom_95 (by decide) ?_
    refine q_ixor hx hb dX9_planFrom_96 (fun x5 ex5 => ?_)
    refine q_iand hx hb dX9_planFrom_97 (fun x6 ex6 => ?_)
    have h7 : rg 0 63 x6 := rg_andl ex6 hr4 (by decide)
    refine lv_istore_n (lv' := [(3, .int x6), (0, .ref (h 96)), (1, .int a_a), (2, .int a_b)]) hx hb dX9_planFrom_98 rfl hl (by decide) rfl (fun ls hl => ?_)
    refine lv_iconst (v := (-1)) hx hb dX9_planFrom_99 (by decide) ?_
    refine lv_istore (lv' := [(4, .int (-1)), (3, .int x6), (0, .ref (h 96)), (1, .int a_a), (2, .int a_b)]) hx hb dX9_planFrom_100 hl (by decide) rfl (fun ls hl => ?_)
    have L102_8 : ∀ (n10_ : Nat) (x102_4 : Int32) (i9 : Nat → Nat → Int32) (g9 : Nat → Nat → Int64) (H : Heap) (locs : List Loc) (ls : Array Slot), rg (-1) 6 x102_4 → Rg rA i9 → Fr [96, 109, 110, 111, 112, 113, 114, 115, 116, 117] [] i g (i9, g9) → TH D h cz i9 g9 H → va_S (hA h) s.heap H locs → lv_has ls 5 [(0, .ref (h 96)), (1, .int a_a), (2, .int a_b), (3, .int x6), (4, .int x102_4)] → (6 - x102_4.toInt).toNat < n10_ → W p l e ({ frames := 10, cells := 0, slots := 0, locals := 230 } : Room) s m args below meth c H locs 0 0 Q (F0 m 102 ls []) := by
      intro n10_
      induction n10_ with
      | zero => intro x102_4 i9 g9 H locs ls hhx102_4 hR9 hF9 hT hS hl hm10_; exact absurd hm10_ (Nat.not_lt_zero _)
      | succ n10_ ih10_ =>
        intro x102_4 i9 g9 H locs ls hhx102_4 hR9 hF9 hT hS hl hm10_
        refine lv_iload hx hb dX9_planFrom_102 (lv_at hl 4 rfl) ?_
        refine lv_aload_n hx hb dX9_planFrom_104 rfl (lv_at hl 0 rfl) ?_
        refine e_Vi (As := []) (rest := [.int x102_4]) X Y hT hS (m_X9_parts hR9) mk_X9_parts gm_1649 rfl rfl (by decide) hd_X9_parts ⟨rfl, rfl⟩ ⟨Nat.le_of_ble_eq_true rfl, Nat.le_of_ble_eq_true rfl⟩ hl.1 rfl (Nat.le_of_ble_eq_true rfl) dX9_planFrom_105 ⟨Nat.zero_le _, Nat.zero_le _⟩ (fun r11 i11 g11 H locs hq hT hS => ?_)
        obtain ⟨eh11, hr11⟩ := hq
        rw [(Prod.mk.inj eh11).1, (Prod.mk.inj eh11).2] at hT
        refine lv_icmp_ge (tgt := 151) hx hb dX9_planFrom_108 (by decide) (fun c12 => ?_) (fun c12 => ?_)
        ·
          have q12 : r11.toInt ≤ x102_4.toInt := i_le c12
          have h13 : rg 0 6 x102_4 := t_ley 0 6 hr11 hhx102_4 (i_le c12) (by decide)
          exact hret _ _ _ _ _ _ dX9_planFrom_151 hT hS ⟨hR9, hF9⟩
        ·
          have q12 : x102_4.toInt < r11.toInt := i_nle c12
          have h14 : rg (-1) 5 x102_4 := t_ltx (-1) 5 hhx102_4 hr11 (i_nle c12) (by decide)
          refine lv_iload hx hb dX9_planFrom_111 (lv_at hl 4 rfl) ?_
          refine lv_iconst (v := (-1)) hx hb dX9_planFrom_113 (by decide) ?_
          refine lv_icmp_eq (tgt := 129) hx hb dX9_planFrom_114 (by decide) (fun c15 => ?_) (fun c15 => ?_)
          ·
            have q15 : x102_4.toInt = (-1) := i_eq c15
            have h16 : rg (-1) (-1) x102_4 := t_eqx (-1) (-1) h14 (rg_k (by decide) : rg (-1) (-1) (-1)) (i_eq c15) (by decide)
            refine lv_aload_n hx hb dX9_planFrom_129 rfl (lv_at hl 0 rfl) ?_
            refine r_getr X hT 96 40 117 fk_9_77 rfl rfl (by decide) dX9_planFrom_130 ?_
            refine lv_iload_n hx hb dX9_planFrom_133 rfl (lv_at hl 1 rfl) ?_
            refine lv_iload hx hb dX9_planFrom_134 (lv_at hl 4 rfl) ?_
            refine r_iastc X hT hS 117 1 rfl (by decide) (v_in ha_a (by decide)) (cl_c ha_a 1 rfl (by decide)) dX9_planFrom_136 (fun H locs i17 ei17 hT hS => ?_)
            have hR17 := Rg_put hR9 ei17 (-2147483648) 2147483647 rfl h16 (by decide)
            have hF17 := Fr_puti hF9 ei17 (by decide)
            refine lv_aload_n hx hb dX9_planFrom_137 rfl (lv_at hl 0 rfl) ?_
            refine lv_iload_n hx hb dX9_planFrom_138 rfl (lv_at hl 1 rfl) ?_
            refine lv_iconst (v := 1) hx hb dX9_planFrom_139 (by decide) ?_
            refine q_iadd hx hb dX9_planFrom_140 (fun x18 ex18 => ?_)
            obtain ⟨hx18, ax18⟩ := rg_add 2 2 ex18 ha_a (rg_k (by decide) : rg 1 1 1) (by decide)
            replace ax18 : x18.toInt = a_a.toInt + 1 := ax18
            refine lv_iload_n hx hb dX9_planFrom_141 rfl (lv_at hl 2 rfl) ?_
            refine e_Vv (As := [.int x18, .int a_b]) (rest := []) X Y hT hS (m_X9_planFrom_2 hR17 x18 a_b hx18 h3) mk_X9_planFrom gm_1927 rfl rfl (by decide) hd_X9_planFrom ⟨rfl, rfl⟩ ⟨Nat.le_of_ble_eq_true rfl, Nat.le_of_ble_eq_true rfl⟩ hl.1 rfl (Nat.le_of_ble_eq_true rfl) dX9_planFrom_142 ⟨Nat.zero_le _, Nat.zero_le _⟩ (fun i19 g19 H locs hq hT hS => ?_)
            obtain ⟨hR19, hf19⟩ := hq
            have hF19 := Fr_tr hF17 hf19 (by decide)
            obtain ⟨x20, ex20⟩ : ∃ y : Int32, y = x102_4 + 1 := ⟨_, rfl⟩
            refine lv_iinc (v := x20) (lv' := [(4, .int x20), (0, .ref (h 96)), (1, .int a_a), (2, .int a_b), (3, .int x6)]) hx hb dX9_planFrom_145 hl (k := 4) rfl (by rw [ex20]; rfl) (by decide) rfl (fun ls hl => ?_)
            obtain ⟨hx20, ax20⟩ := rg_add 0 0 ex20 h16 (rg_k (by decide) : rg 1 1 1) (by decide)
            replace ax20 : x20.toInt = x102_4.toInt + 1 := ax20
            refine lv_goto (tgt := 102) hx hb dX9_planFrom_148 (by decide) ?_
            exact ih10_ x20 i19 g19 _ _ _ (rg_w hx20 (by decide) : rg (-1) 6 x20) hR19 hF19 hT hS (lv_sub hl [1, 2, 3, 4, 0] rfl) (m_up ax20 hx20 (by decide) hm10_)
          ·
            have q15 : ¬ x102_4.toInt = (-1) := i_ne c15
            have h21 : rg 0 5 x102_4 := t_nelo 0 h14 (rg_k (by decide) : rg (-1) (-1) (-1)) (i_ne c15) (by decide)
            refine lv_iload_n hx hb dX9_planFrom_117 rfl (lv_at hl 3 rfl) ?_
            refine lv_iload hx hb dX9_planFrom_118 (lv_at hl 4 rfl) ?_
            refine e_Si (As := [.int x6, .int x102_4]) (rest := []) X Y hT hS (m_X9_isBit x6 x102_4) sk_X9_isBit gm_1670 hd_X9_isBit ⟨rfl, rfl⟩ ⟨Nat.le_of_ble_eq_true rfl, Nat.le_of_ble_eq_true rfl⟩ hl.1 rfl (Nat.le_of_ble_eq_true rfl) dX9_planFrom_120 ⟨Nat.zero_le _, Nat.zero_le _⟩ (fun r22 i22 g22 H locs hq hT hS => ?_)
            rcases hq with hq | hq
            ·
              obtain ⟨eh22, rfl, hf22_0⟩ := hq
              rw [(Prod.mk.inj eh22).1, (Prod.mk.inj eh22).2] at hT
              replace hf22_0 : (((x6 : Int32) >>> ((x102_4 : Int32) &&& 31)) &&& 1 = 1) := hf22_0
              refine lv_if_ne (tgt := 129) hx hb dX9_planFrom_123 (by decide) (fun c23 => ?_) (fun c23 => (x_eq (rg_k (by decide) : rg 1 1 1) (rg_k (by decide) : rg 0 0 0) (i_eq c23) (by decide)).elim)
              refine lv_aload_n hx hb dX9_planFrom_129 rfl (lv_at hl 0 rfl) ?_
              refine r_getr X hT 96 40 117 fk_9_77 rfl rfl (by decide) dX9_planFrom_130 ?_
              refine lv_iload_n hx hb dX9_planFrom_133 rfl (lv_at hl 1 rfl) ?_
              refine lv_iload hx hb dX9_planFrom_134 (lv_at hl 4 rfl) ?_
              refine r_iastc X hT hS 117 1 rfl (by decide) (v_in ha_a (by decide)) (cl_c ha_a 1 rfl (by decide)) dX9_planFrom_136 (fun H locs i24 ei24 hT hS => ?_)
              have hR24 := Rg_put hR9 ei24 (-2147483648) 2147483647 rfl h21 (by decide)
              have hF24 := Fr_puti hF9 ei24 (by decide)
              refine lv_aload_n hx hb dX9_planFrom_137 rfl (lv_at hl 0 rfl) ?_
              refine lv_iload_n hx hb dX9_planFrom_138 rfl (lv_at hl 1 rfl) ?_
              refine lv_iconst (v := 1) hx hb dX9_planFrom_139 (by decide) ?_
              refine q_iadd hx hb dX9_planFrom_140 (fun x25 ex25 => ?_)
              obtain ⟨hx25, ax25⟩ := rg_add 2 2 ex25 ha_a (rg_k (by decide) : rg 1 1 1) (by decide)
              replace ax25 : x25.toInt = a_a.toInt + 1 := ax25
              refine lv_iload_n hx hb dX9_planFrom_141 rfl (lv_at hl 2 rfl) ?_
              refine e_Vv (As := [.int x25, .int a_b]) (rest := []) X Y hT hS (m_X9_planFrom_2 hR24 x25 a_b hx25 h3) mk_X9_planFrom gm_1927 rfl rfl (by decide) hd_X9_planFrom ⟨rfl, rfl⟩ ⟨Nat.le_of_ble_eq_true rfl, Nat.le_of_ble_eq_true rfl⟩ hl.1 rfl (Nat.le_of_ble_eq_true rfl) dX9_planFrom_142 ⟨Nat.zero_le _, Nat.zero_le _⟩ (fun i26 g26 H locs hq hT hS => ?_)
              obtain ⟨hR26, hf26⟩ := hq
              have hF26 := Fr_tr hF24 hf26 (by decide)
              obtain ⟨x27, ex27⟩ : ∃ y : Int32, y = x102_4 + 1 := ⟨_, rfl⟩
              refine lv_iinc (v := x27) (lv' := [(4, .int x27), (0, .ref (h 96)), (1, .int a_a), (2, .int a_b), (3, .int x6)]) hx hb dX9_planFrom_145 hl (k := 4) rfl (by rw [ex27]; rfl) (by decide) rfl (fun ls hl => ?_)
              obtain ⟨hx27, ax27⟩ := rg_add 1 6 ex27 h21 (rg_k (by decide) : rg 1 1 1) (by decide)
              replace ax27 : x27.toInt = x102_4.toInt + 1 := ax27
              refine lv_goto (tgt := 102) hx hb dX9_planFrom_148 (by decide) ?_
              exact ih10_ x27 i26 g26 _ _ _ (rg_w hx27 (by decide) : rg (-1) 6 x27) hR26 hF26 hT hS (lv_sub hl [1, 2, 3, 4, 0] rfl) (m_up ax27 hx27 (by decide) hm10_)
            ·
              obtain ⟨eh22, rfl, hf22_0⟩ := hq
              rw [(Prod.mk.inj eh22).1, (Prod.mk.inj eh22).2] at hT
              replace hf22_0 : ¬ (((x6 : Int32) >>> ((x102_4 : Int32) &&& 31)) &&& 1 = 1) := hf22_0
              refine lv_if_ne (tgt := 129) hx hb dX9_planFrom_123 (by decide) (fun c28 => (x_ne (rg_k (by decide) : rg 0 0 0) (rg_k (by decide) : rg 0 0 0) (i_ne c28) (by decide)).elim) (fun c28 => ?_)
              refine lv_goto (tgt := 145) hx hb dX9_planFrom_126 (by decide) ?_
              obtain ⟨x29, ex29⟩ : ∃ y : Int32, y = x102_4 + 1 := ⟨_, rfl⟩
              refine lv_iinc (v := x29) (lv' := [(4, .int x29), (0, .ref (h 96)), (1, .int a_a), (2, .int a_b), (3, .int x6)]) hx hb dX9_planFrom_145 hl (k := 4) rfl (by rw [ex29]; rfl) (by decide) rfl (fun ls hl => ?_)
              obtain ⟨hx29, ax29⟩ := rg_add 1 6 ex29 h21 (rg_k (by decide) : rg 1 1 1) (by decide)
              replace ax29 : x29.toInt = x102_4.toInt + 1 := ax29
              refine lv_goto (tgt := 102) hx hb dX9_planFrom_148 (by decide) ?_
              exact ih10_ x29 i9 g9 _ _ _ (rg_w hx29 (by decide) : rg (-1) 6 x29) hR9 hF9 hT hS (lv_sub hl [1, 2, 3, 4, 0] rfl) (m_up ax29 hx29 (by decide) hm10_)
    exact L102_8 _ ((-1)) i1 g1 _ _ _ (rg_w (rg_k (by decide) : rg (-1) (-1) (-1)) (by decide) : rg (-1) 6 (-1)) hR1 hF1 hT hS (lv_sub hl [2, 3, 4, 1, 0] rfl) (Nat.lt_succ_self _)
  ·
    have q2 : a_a.toInt = a_b.toInt := i_eq c2
    have h30 : rg 1 1 a_b := t_eqy 1 1 ha_a ha_b (i_eq c2) (by decide)
    refine lv_aload_n hx hb dX9_planFrom_10 rfl (lv_at hl 0 rfl) ?_
    refine e_Vi (As := []) (rest := []) X Y hT hS (m_X9_readAll hR1) mk_X9_readAll gm_1770 rfl rfl (by decide) hd_X9_readAll ⟨rfl, rfl⟩ ⟨Nat.le_of_ble_eq_true rfl, Nat.le_of_ble_eq_true rfl⟩ hl.1 rfl (Nat.le_of_ble_eq_true rfl) dX9_planFrom_11 ⟨Nat.zero_le _, Nat.zero_le _⟩ (fun r31 i31 g31 H locs hq hT hS => ?_)
    have eh31 := hq
    rw [(Prod.mk.inj eh31).1, (Prod.mk.inj eh31).2] at hT
    refine lv_istore_n (lv' := [(3, .int r31), (0, .ref (h 96)), (1, .int a_a), (2, .int a_b)]) hx hb dX9_planFrom_14 rfl hl (by decide) rfl (fun ls hl => ?_)
    refine lv_iload_n hx hb dX9_planFrom_15 rfl (lv_at hl 0 rfl) ?_
    refine lv_aload_n hx hb dX9_planFrom_16 rfl (lv_at hl 1 rfl) ?_
    refine r_geti X hT 96 37 fk_9_375 rfl rfl (by decide) dX9_planFrom_17 ?_
    have J62_33 : ∀  (i34 : Nat → Nat → Int32) (g34 : Nat → Nat → Int64) (H : Heap) (locs : List Loc) (ls : Array Slot), Rg rA i34 → Fr [96, 109, 110, 111, 112, 113, 114, 115, 116, 117] [] i g (i34, g34) → TH D h cz i34 g34 H → va_S (hA h) s.heap H locs → lv_has ls 5 [(0, .ref (h 96)), (3, .int r31)] → W p l e ({ frames := 10, cells := 0, slots := 0, locals := 230 } : Room) s m args below meth c H locs 0 0 Q (F0 m 62 ls []) := by
      intro  i34 g34 H locs ls hR34 hF34 hT hS hl
      refine lv_aload_n hx hb dX9_planFrom_62 rfl (lv_at hl 0 rfl) ?_
      refine lv_dup hx hb dX9_planFrom_63 rfl ?_
      refine r_geti X hT 96 38 fk_9_378 rfl rfl (by decide) dX9_planFrom_64 ?_
      refine lv_iload_n hx hb dX9_planFrom_67 rfl (lv_at hl 1 rfl) ?_
      refine lv_aload_n hx hb dX9_planFrom_68 rfl (lv_at hl 0 rfl) ?_
      refine r_geti X hT 96 37 fk_9_375 rfl rfl (by decide) dX9_planFrom_69 ?_
      refine lv_icmp_ne (tgt := 79) hx hb dX9_planFrom_72 (by decide) (fun c35 => ?_) (fun c35 => ?_)
      ·
        have q35 : ¬ r31.toInt = (i34 96 37).toInt := i_ne c35
        refine lv_iconst (v := 0) hx hb dX9_planFrom_79 (by decide) ?_
        refine q_iadd hx hb dX9_planFrom_80 (fun x36 ex36 => ?_)
        obtain ⟨hx36, ax36⟩ := rg_add (-2147483648) 2147483647 ex36 (rg_top (i34 96 38)) (rg_k (by decide) : rg 0 0 0) (by decide)
        replace ax36 : x36.toInt = (i34 96 38).toInt + 0 := ax36
        refine r_puti X hT hS 96 38 pk_9_378 rfl rfl rfl rfl (by decide) dX9_planFrom_81 (fun H locs i37 ei37 hT hS => ?_)
        have hR37 := Rg_put hR34 ei37 (-2147483648) 2147483647 rfl hx36 (by decide)
        have hF37 := Fr_puti hF34 ei37 (by decide)
        exact hret _ _ _ _ _ _ dX9_planFrom_84 hT hS ⟨hR37, hF37⟩
      ·
        have q35 : r31.toInt = (i34 96 37).toInt := i_eq c35
        refine lv_iconst (v := 1) hx hb dX9_planFrom_75 (by decide) ?_
        refine lv_goto (tgt := 80) hx hb dX9_planFrom_76 (by decide) ?_
        refine q_iadd hx hb dX9_planFrom_80 (fun x38 ex38 => ?_)
        refine r_puti X hT hS 96 38 pk_9_378 rfl rfl rfl rfl (by decide) dX9_planFrom_81 (fun H locs i39 ei39 hT hS => ?_)
        have hR39 := Rg_put hR34 ei39 (-2147483648) 2147483647 rfl (rg_top x38) (by decide)
        have hF39 := Fr_puti hF34 ei39 (by decide)
        exact hret _ _ _ _ _ _ dX9_planFrom_84 hT hS ⟨hR39, hF39⟩
    refine lv_icmp_le (tgt := 62) hx hb dX9_planFrom_20 (by decide) (fun c32 => ?_) (fun c32 => ?_)
    ·
      have q32 : r31.toInt ≤ (i1 96 37).toInt := i_le c32
      exact J62_33 i1 g1 _ _ _ hR1 hF1 hT hS (lv_sub hl [1, 0] rfl)
    ·
      have q32 : (i1 96 37).toInt < r31.toInt := i_nle c32
      have h40 : rg (-2147483648) 2147483646 (i1 96 37) := t_ltx (-2147483648) 2147483646 (rg_top (i1 96 37)) (rg_top r31) (i_nle c32) (by decide)
      have h41 : rg (-2147483647) 2147483647 r31 := t_lty (-2147483647) 2147483647 (rg_top (i1 96 37)) (rg_top r31) (i_nle c32) (by decide)
      refine lv_aload_n hx hb dX9_planFrom_23 rfl (lv_at hl 1 rfl) ?_
      refine lv_iload_n hx hb dX9_planFrom_24 rfl (lv_at hl 0 rfl) ?_
      refine r_puti X hT hS 96 37 pk_9_375 rfl rfl rfl rfl (by decide) dX9_planFrom_25 (fun H locs i42 ei42 hT hS => ?_)
      have hR42 := Rg_put hR1 ei42 (-2147483648) 2147483647 rfl h41 (by decide)
      have hF42 := Fr_puti hF1 ei42 (by decide)
      refine lv_aload_n hx hb dX9_planFrom_28 rfl (lv_at hl 1 rfl) ?_
      refine lv_iconst (v := 0) hx hb dX9_planFrom_29 (by decide) ?_
      refine r_puti X hT hS 96 38 pk_9_378 rfl rfl rfl rfl (by decide) dX9_planFrom_30 (fun H locs i43 ei43 hT hS => ?_)
      have hR43 := Rg_put hR42 ei43 (-2147483648) 2147483647 rfl (rg_k (by decide) : rg 0 0 0) (by decide)
      have hF43 := Fr_puti hF42 ei43 (by decide)
      refine lv_iconst (v := 0) hx hb dX9_planFrom_33 (by decide) ?_
      refine lv_istore (lv' := [(4, .int 0), (3, .int r31), (0, .ref (h 96)), (1, .int a_a), (2, .int a_b)]) hx hb dX9_planFrom_34 hl (by decide) rfl (fun ls hl => ?_)
      have L36_44 : ∀ (n46_ : Nat) (x36_1_4 : Int32) (i45 : Nat → Nat → Int32) (g45 : Nat → Nat → Int64) (H : Heap) (locs : List Loc) (ls : Array Slot), rg 0 1 x36_1_4 → Rg rA i45 → Fr [96, 109, 110, 111, 112, 113, 114, 115, 116, 117] [] i g (i45, g45) → TH D h cz i45 g45 H → va_S (hA h) s.heap H locs → lv_has ls 5 [(0, .ref (h 96)), (2, .int a_b), (3, .int r31), (4, .int x36_1_4)] → (1 - x36_1_4.toInt).toNat < n46_ → W p l e ({ frames := 10, cells := 0, slots := 0, locals := 230 } : Room) s m args below meth c H locs 0 0 Q (F0 m 36 ls []) := by
        intro n46_
        induction n46_ with
        | zero => intro x36_1_4 i45 g45 H locs ls hhx36_1_4 hR45 hF45 hT hS hl hm46_; exact absurd hm46_ (Nat.not_lt_zero _)
        | succ n46_ ih46_ =>
          intro x36_1_4 i45 g45 H locs ls hhx36_1_4 hR45 hF45 hT hS hl hm46_
          refine lv_iload hx hb dX9_planFrom_36 (lv_at hl 3 rfl) ?_
          refine lv_iload_n hx hb dX9_planFrom_38 rfl (lv_at hl 1 rfl) ?_
          refine lv_icmp_ge (tgt := 62) hx hb dX9_planFrom_39 (by decide) (fun c47 => ?_) (fun c47 => ?_)
          ·
            have q47 : a_b.toInt ≤ x36_1_4.toInt := i_le c47
            have h48 : rg 1 1 x36_1_4 := t_ley 1 1 h30 hhx36_1_4 (i_le c47) (by decide)
            exact J62_33 i45 g45 _ _ _ hR45 hF45 hT hS (lv_sub hl [0, 2] rfl)
          ·
            have q47 : x36_1_4.toInt < a_b.toInt := i_nle c47
            have h49 : rg 0 0 x36_1_4 := t_ltx 0 0 hhx36_1_4 h30 (i_nle c47) (by decide)
            refine lv_aload_n hx hb dX9_planFrom_42 rfl (lv_at hl 0 rfl) ?_
            refine r_getr X hT 96 39 116 fk_9_74 rfl rfl (by decide) dX9_planFrom_43 ?_
            refine lv_iload hx hb dX9_planFrom_46 (lv_at hl 3 rfl) ?_
            refine lv_aload_n hx hb dX9_planFrom_48 rfl (lv_at hl 0 rfl) ?_
            refine r_getr X hT 96 40 117 fk_9_77 rfl rfl (by decide) dX9_planFrom_49 ?_
            refine lv_iload hx hb dX9_planFrom_52 (lv_at hl 3 rfl) ?_
            refine r_ialdc X hT 117 0 rfl (by decide) (v_in h49 (by decide)) (cl_c h49 0 rfl (by decide)) dX9_planFrom_54 ?_
            refine r_iastc X hT hS 116 0 rfl (by decide) (v_in h49 (by decide)) (cl_c h49 0 rfl (by decide)) dX9_planFrom_55 (fun H locs i50 ei50 hT hS => ?_)
            have hR50 := Rg_put hR45 ei50 (-2147483648) 2147483647 rfl (rg_top (i45 117 0)) (by decide)
            have hF50 := Fr_puti hF45 ei50 (by decide)
            obtain ⟨x51, ex51⟩ : ∃ y : Int32, y = x36_1_4 + 1 := ⟨_, rfl⟩
            refine lv_iinc (v := x51) (lv' := [(4, .int x51), (0, .ref (h 96)), (2, .int a_b), (3, .int r31)]) hx hb dX9_planFrom_56 hl (k := 3) rfl (by rw [ex51]; rfl) (by decide) rfl (fun ls hl => ?_)
            obtain ⟨hx51, ax51⟩ := rg_add 1 1 ex51 h49 (rg_k (by decide) : rg 1 1 1) (by decide)
            replace ax51 : x51.toInt = x36_1_4.toInt + 1 := ax51
            refine lv_goto (tgt := 36) hx hb dX9_planFrom_59 (by decide) ?_
            exact ih46_ x51 i50 g45 _ _ _ (rg_w hx51 (by decide) : rg 0 1 x51) hR50 hF50 hT hS (lv_sub hl [1, 2, 3, 0] rfl) (m_up ax51 hx51 (by decide) hm46_)
      exact L36_44 _ (0) i43 g1 _ _ _ (rg_w (rg_k (by decide) : rg 0 0 0) (by decide) : rg 0 1 0) hR43 hF43 hT hS (lv_sub hl [2, 4, 1, 0] rfl) (Nat.lt_succ_self _)
set_option maxRecDepth 100000 in
set_option maxHeartbeats 4000000 in
theorem m_X9_planFrom_0 {l : Launch} {D : va_G} {h : Nat → Nat} {cz : Nat → ClassId} {z : EZ} {i : Nat → Nat → Int32} {g : Nat → Nat → Int64} (hR : Rg rA i) (a_a : Int32) (a_b : Int32) (ha_a : rg 0 0 a_a) (ha_b : rg 1 5 a_b) : DtV l yX9_planFrom cX9_planFrom 5 none ({ frames := 11, cells := 0, slots := 0, locals := 254 } : Room) D h cz z i g [.ref (h 96), .int a_a, .int a_b] (fun u => Rg rA u.1 ∧ Fr [96, 109, 110, 111, 112, 113, 114, 115, 116, 117] [] i g u) := by
  refine e_V pn_X9_planFrom (Nat.le_of_ble_eq_true rfl) ?_
  intro p e s m args below meth c ls Q X Y hret hT hl hS
  have hx := X.1
  have hb := X.2.1
  have hl : lv_has ls 5 [(0, .ref (h 96)), (1, .int a_a), (2, .int a_b)] := hl
  have hF : Fr [96, 109, 110, 111, 112, 113, 114, 115, 116, 117] [] i g (i, g) := Fr_rf _ _ _ _
  refine lv_aload_n hx hb dX9_planFrom_0 rfl (lv_at hl 0 rfl) ?_
  refine lv_iload_n hx hb dX9_planFrom_1 rfl (lv_at hl 1 rfl) ?_
  refine e_Vv (As := [.int a_a]) (rest := []) X Y hT hS (m_X9_runsPlan hR a_a (rg_w ha_a (by decide) : rg 0 5 a_a)) mk_X9_runsPlan gm_1931 rfl rfl (by decide) hd_X9_runsPlan ⟨rfl, rfl⟩ ⟨Nat.le_of_ble_eq_true rfl, Nat.le_of_ble_eq_true rfl⟩ hl.1 rfl (Nat.le_of_ble_eq_true rfl) dX9_planFrom_2 ⟨Nat.zero_le _, Nat.zero_le _⟩ (fun i1 g1 H locs hq hT hS => ?_)
  obtain ⟨hR1, hf1⟩ := hq
  have hF1 := Fr_tr hF hf1 (by decide)
  refine lv_iload_n hx hb dX9_planFrom_5 rfl (lv_at hl 1 rfl) ?_
  refine lv_iload_n hx hb dX9_planFrom_6 rfl (lv_at hl 2 rfl) ?_
  refine lv_icmp_ne (tgt := 85) hx hb dX9_planFrom_7 (by decide) (fun c2 => ?_) (fun c2 => (x_eq ha_a ha_b (i_eq c2) (by decide)).elim)
  have q2 : ¬ a_a.toInt = a_b.toInt := i_ne c2
  refine lv_aload_n hx hb dX9_planFrom_85 rfl (lv_at hl 0 rfl) ?_
  refine e_Vi (As := []) (rest := []) X Y hT hS (m_X9_every hR1) mk_X9_every gm_1814 rfl rfl (by decide) hd_X9_every ⟨rfl, rfl⟩ ⟨Nat.le_of_ble_eq_true rfl, Nat.le_of_ble_eq_true rfl⟩ hl.1 rfl (Nat.le_of_ble_eq_true rfl) dX9_planFrom_86 ⟨Nat.zero_le _, Nat.zero_le _⟩ (fun r3 i3 g3 H locs hq hT hS => ?_)
  obtain ⟨eh3, hr3⟩ := hq
  rw [(Prod.mk.inj eh3).1, (Prod.mk.inj eh3).2] at hT
  refine lv_aload_n hx hb dX9_planFrom_89 rfl (lv_at hl 0 rfl) ?_
  refine r_getr X hT 96 31 112 fk_9_62 rfl rfl (by decide) dX9_planFrom_90 ?_
  refine lv_iload_n hx hb dX9_planFrom_93 rfl (lv_at hl 1 rfl) ?_
  refine r_ialdc X hT 112 0 rfl (by decide) (v_in ha_a (by decide)) (cl_c ha_a 0 rfl (by decide)) dX9_planFrom_94 ?_
  refine lv_iconst (v := (-1)) hx hb dX9_planFrom_95 (by decide) ?_
  refine q_ixor hx hb dX9_planFrom_96 (fun x4 ex4 => ?_)
  refine q_iand hx hb dX9_planFrom_97 (fun x5 ex5 => ?_)
  have h6 : rg 0 63 x5 := rg_andl ex5 hr3 (by decide)
  refine lv_istore_n (lv' := [(3, .int x5), (0, .ref (h 96)), (1, .int a_a), (2, .int a_b)]) hx hb dX9_planFrom_98 rfl hl (by decide) rfl (fun ls hl => ?_)
  refine lv_iconst (v := (-1)) hx hb dX9_planFrom_99 (by decide) ?_
  refine lv_istore (lv' := [(4, .int (-1)), (3, .int x5), (0, .ref (h 96)), (1, .int a_a), (2, .int a_b)]) hx hb dX9_planFrom_100 hl (by decide) rfl (fun ls hl => ?_)
  have L102_7 : ∀ (n9_ : Nat) (x102_4 : Int32) (i8 : Nat → Nat → Int32) (g8 : Nat → Nat → Int64) (H : Heap) (locs : List Loc) (ls : Array Slot), rg (-1) 6 x102_4 → Rg rA i8 → Fr [96, 109, 110, 111, 112, 113, 114, 115, 116, 117] [] i g (i8, g8) → TH D h cz i8 g8 H → va_S (hA h) s.heap H locs → lv_has ls 5 [(0, .ref (h 96)), (1, .int a_a), (2, .int a_b), (3, .int x5), (4, .int x102_4)] → (6 - x102_4.toInt).toNat < n9_ → W p l e ({ frames := 11, cells := 0, slots := 0, locals := 254 } : Room) s m args below meth c H locs 0 0 Q (F0 m 102 ls []) := by
    intro n9_
    induction n9_ with
    | zero => intro x102_4 i8 g8 H locs ls hhx102_4 hR8 hF8 hT hS hl hm9_; exact absurd hm9_ (Nat.not_lt_zero _)
    | succ n9_ ih9_ =>
      intro x102_4 i8 g8 H locs ls hhx102_4 hR8 hF8 hT hS hl hm9_
      refine lv_iload hx hb dX9_planFrom_102 (lv_at hl 4 rfl) ?_
      refine lv_aload_n hx hb dX9_planFrom_104 rfl (lv_at hl 0 rfl) ?_
      refine e_Vi (As := []) (rest := [.int x102_4]) X Y hT hS (m_X9_parts hR8) mk_X9_parts gm_1649 rfl rfl (by decide) hd_X9_parts ⟨rfl, rfl⟩ ⟨Nat.le_of_ble_eq_true rfl, Nat.le_of_ble_eq_true rfl⟩ hl.1 rfl (Nat.le_of_ble_eq_true rfl) dX9_planFrom_105 ⟨Nat.zero_le _, Nat.zero_le _⟩ (fun r10 i10 g10 H locs hq hT hS => ?_)
      obtain ⟨eh10, hr10⟩ := hq
      rw [(Prod.mk.inj eh10).1, (Prod.mk.inj eh10).2] at hT
      refine lv_icmp_ge (tgt := 151) hx hb dX9_planFrom_108 (by decide) (fun c11 => ?_) (fun c11 => ?_)
      ·
        have q11 : r10.toInt ≤ x102_4.toInt := i_le c11
        have h12 : rg 0 6 x102_4 := t_ley 0 6 hr10 hhx102_4 (i_le c11) (by decide)
        exact hret _ _ _ _ _ _ dX9_planFrom_151 hT hS ⟨hR8, hF8⟩
      ·
        have q11 : x102_4.toInt < r10.toInt := i_nle c11
        have h13 : rg (-1) 5 x102_4 := t_ltx (-1) 5 hhx102_4 hr10 (i_nle c11) (by decide)
        refine lv_iload hx hb dX9_planFrom_111 (lv_at hl 4 rfl) ?_
        refine lv_iconst (v := (-1)) hx hb dX9_planFrom_113 (by decide) ?_
        refine lv_icmp_eq (tgt := 129) hx hb dX9_planFrom_114 (by decide) (fun c14 => ?_) (fun c14 => ?_)
        ·
          have q14 : x102_4.toInt = (-1) := i_eq c14
          have h15 : rg (-1) (-1) x102_4 := t_eqx (-1) (-1) h13 (rg_k (by decide) : rg (-1) (-1) (-1)) (i_eq c14) (by decide)
          refine lv_aload_n hx hb dX9_planFrom_129 rfl (lv_at hl 0 rfl) ?_
          refine r_getr X hT 96 40 117 fk_9_77 rfl rfl (by decide) dX9_planFrom_130 ?_
          refine lv_iload_n hx hb dX9_planFrom_133 rfl (lv_at hl 1 rfl) ?_
          refine lv_iload hx hb dX9_planFrom_134 (lv_at hl 4 rfl) ?_
          refine r_iastc X hT hS 117 0 rfl (by decide) (v_in ha_a (by decide)) (cl_c ha_a 0 rfl (by decide)) dX9_planFrom_136 (fun H locs i16 ei16 hT hS => ?_)
          have hR16 := Rg_put hR8 ei16 (-2147483648) 2147483647 rfl h15 (by decide)
          have hF16 := Fr_puti hF8 ei16 (by decide)
          refine lv_aload_n hx hb dX9_planFrom_137 rfl (lv_at hl 0 rfl) ?_
          refine lv_iload_n hx hb dX9_planFrom_138 rfl (lv_at hl 1 rfl) ?_
          refine lv_iconst (v := 1) hx hb dX9_planFrom_139 (by decide) ?_
          refine q_iadd hx hb dX9_planFrom_140 (fun x17 ex17 => ?_)
          obtain ⟨hx17, ax17⟩ := rg_add 1 1 ex17 ha_a (rg_k (by decide) : rg 1 1 1) (by decide)
          replace ax17 : x17.toInt = a_a.toInt + 1 := ax17
          refine lv_iload_n hx hb dX9_planFrom_141 rfl (lv_at hl 2 rfl) ?_
          refine e_Vv (As := [.int x17, .int a_b]) (rest := []) X Y hT hS (m_X9_planFrom_1 hR16 x17 a_b hx17 ha_b) mk_X9_planFrom gm_1927 rfl rfl (by decide) hd_X9_planFrom ⟨rfl, rfl⟩ ⟨Nat.le_of_ble_eq_true rfl, Nat.le_of_ble_eq_true rfl⟩ hl.1 rfl (Nat.le_of_ble_eq_true rfl) dX9_planFrom_142 ⟨Nat.zero_le _, Nat.zero_le _⟩ (fun i18 g18 H locs hq hT hS => ?_)
          obtain ⟨hR18, hf18⟩ := hq
          have hF18 := Fr_tr hF16 hf18 (by decide)
          obtain ⟨x19, ex19⟩ : ∃ y : Int32, y = x102_4 + 1 := ⟨_, rfl⟩
          refine lv_iinc (v := x19) (lv' := [(4, .int x19), (0, .ref (h 96)), (1, .int a_a), (2, .int a_b), (3, .int x5)]) hx hb dX9_planFrom_145 hl (k := 4) rfl (by rw [ex19]; rfl) (by decide) rfl (fun ls hl => ?_)
          obtain ⟨hx19, ax19⟩ := rg_add 0 0 ex19 h15 (rg_k (by decide) : rg 1 1 1) (by decide)
          replace ax19 : x19.toInt = x102_4.toInt + 1 := ax19
          refine lv_goto (tgt := 102) hx hb dX9_planFrom_148 (by decide) ?_
          exact ih9_ x19 i18 g18 _ _ _ (rg_w hx19 (by decide) : rg (-1) 6 x19) hR18 hF18 hT hS (lv_sub hl [1, 2, 3, 4, 0] rfl) (m_up ax19 hx19 (by decide) hm9_)
        ·
          have q14 : ¬ x102_4.toInt = (-1) := i_ne c14
          have h20 : rg 0 5 x102_4 := t_nelo 0 h13 (rg_k (by decide) : rg (-1) (-1) (-1)) (i_ne c14) (by decide)
          refine lv_iload_n hx hb dX9_planFrom_117 rfl (lv_at hl 3 rfl) ?_
          refine lv_iload hx hb dX9_planFrom_118 (lv_at hl 4 rfl) ?_
          refine e_Si (As := [.int x5, .int x102_4]) (rest := []) X Y hT hS (m_X9_isBit x5 x102_4) sk_X9_isBit gm_1670 hd_X9_isBit ⟨rfl, rfl⟩ ⟨Nat.le_of_ble_eq_true rfl, Nat.le_of_ble_eq_true rfl⟩ hl.1 rfl (Nat.le_of_ble_eq_true rfl) dX9_planFrom_120 ⟨Nat.zero_le _, Nat.zero_le _⟩ (fun r21 i21 g21 H locs hq hT hS => ?_)
          rcases hq with hq | hq
          ·
            obtain ⟨eh21, rfl, hf21_0⟩ := hq
            rw [(Prod.mk.inj eh21).1, (Prod.mk.inj eh21).2] at hT
            replace hf21_0 : (((x5 : Int32) >>> ((x102_4 : Int32) &&& 31)) &&& 1 = 1) := hf21_0
            refine lv_if_ne (tgt := 129) hx hb dX9_planFrom_123 (by decide) (fun c22 => ?_) (fun c22 => (x_eq (rg_k (by decide) : rg 1 1 1) (rg_k (by decide) : rg 0 0 0) (i_eq c22) (by decide)).elim)
            refine lv_aload_n hx hb dX9_planFrom_129 rfl (lv_at hl 0 rfl) ?_
            refine r_getr X hT 96 40 117 fk_9_77 rfl rfl (by decide) dX9_planFrom_130 ?_
            refine lv_iload_n hx hb dX9_planFrom_133 rfl (lv_at hl 1 rfl) ?_
            refine lv_iload hx hb dX9_planFrom_134 (lv_at hl 4 rfl) ?_
            refine r_iastc X hT hS 117 0 rfl (by decide) (v_in ha_a (by decide)) (cl_c ha_a 0 rfl (by decide)) dX9_planFrom_136 (fun H locs i23 ei23 hT hS => ?_)
            have hR23 := Rg_put hR8 ei23 (-2147483648) 2147483647 rfl h20 (by decide)
            have hF23 := Fr_puti hF8 ei23 (by decide)
            refine lv_aload_n hx hb dX9_planFrom_137 rfl (lv_at hl 0 rfl) ?_
            refine lv_iload_n hx hb dX9_planFrom_138 rfl (lv_at hl 1 rfl) ?_
            refine lv_iconst (v := 1) hx hb dX9_planFrom_139 (by decide) ?_
            refine q_iadd hx hb dX9_planFrom_140 (fun x24 ex24 => ?_)
            obtain ⟨hx24, ax24⟩ := rg_add 1 1 ex24 ha_a (rg_k (by decide) : rg 1 1 1) (by decide)
            replace ax24 : x24.toInt = a_a.toInt + 1 := ax24
            refine lv_iload_n hx hb dX9_planFrom_141 rfl (lv_at hl 2 rfl) ?_
            refine e_Vv (As := [.int x24, .int a_b]) (rest := []) X Y hT hS (m_X9_planFrom_1 hR23 x24 a_b hx24 ha_b) mk_X9_planFrom gm_1927 rfl rfl (by decide) hd_X9_planFrom ⟨rfl, rfl⟩ ⟨Nat.le_of_ble_eq_true rfl, Nat.le_of_ble_eq_true rfl⟩ hl.1 rfl (Nat.le_of_ble_eq_true rfl) dX9_planFrom_142 ⟨Nat.zero_le _, Nat.zero_le _⟩ (fun i25 g25 H locs hq hT hS => ?_)
            obtain ⟨hR25, hf25⟩ := hq
            have hF25 := Fr_tr hF23 hf25 (by decide)
            obtain ⟨x26, ex26⟩ : ∃ y : Int32, y = x102_4 + 1 := ⟨_, rfl⟩
            refine lv_iinc (v := x26) (lv' := [(4, .int x26), (0, .ref (h 96)), (1, .int a_a), (2, .int a_b), (3, .int x5)]) hx hb dX9_planFrom_145 hl (k := 4) rfl (by rw [ex26]; rfl) (by decide) rfl (fun ls hl => ?_)
            obtain ⟨hx26, ax26⟩ := rg_add 1 6 ex26 h20 (rg_k (by decide) : rg 1 1 1) (by decide)
            replace ax26 : x26.toInt = x102_4.toInt + 1 := ax26
            refine lv_goto (tgt := 102) hx hb dX9_planFrom_148 (by decide) ?_
            exact ih9_ x26 i25 g25 _ _ _ (rg_w hx26 (by decide) : rg (-1) 6 x26) hR25 hF25 hT hS (lv_sub hl [1, 2, 3, 4, 0] rfl) (m_up ax26 hx26 (by decide) hm9_)
          ·
            obtain ⟨eh21, rfl, hf21_0⟩ := hq
            rw [(Prod.mk.inj eh21).1, (Prod.mk.inj eh21).2] at hT
            replace hf21_0 : ¬ (((x5 : Int32) >>> ((x102_4 : Int32) &&& 31)) &&& 1 = 1) := hf21_0
            refine lv_if_ne (tgt := 129) hx hb dX9_planFrom_123 (by decide) (fun c27 => (x_ne (rg_k (by decide) : rg 0 0 0) (rg_k (by decide) : rg 0 0 0) (i_ne c27) (by decide)).elim) (fun c27 => ?_)
            refine lv_goto (tgt := 145) hx hb dX9_planFrom_126 (by decide) ?_
            obtain ⟨x28, ex28⟩ : ∃ y : Int32, y = x102_4 + 1 := ⟨_, rfl⟩
            refine lv_iinc (v := x28) (lv' := [(4, .int x28), (0, .ref (h 96)), (1, .int a_a), (2, .int a_b), (3, .int x5)]) hx hb dX9_planFrom_145 hl (k := 4) rfl (by rw [ex28]; rfl) (by decide) rfl (fun ls hl => ?_)
            obtain ⟨hx28, ax28⟩ := rg_add 1 6 ex28 h20 (rg_k (by decide) : rg 1 1 1) (by decide)
            replace ax28 : x28.toInt = x102_4.toInt + 1 := ax28
            refine lv_goto (tgt := 102) hx hb dX9_planFrom_148 (by decide) ?_
            exact ih9_ x28 i8 g8 _ _ _ (rg_w hx28 (by decide) : rg (-1) 6 x28) hR8 hF8 hT hS (lv_sub hl [1, 2, 3, 4, 0] rfl) (m_up ax28 hx28 (by decide) hm9_)
  exact L102_7 _ ((-1)) i1 g1 _ _ _ (rg_w (rg_k (by decide) : rg (-1) (-1) (-1)) (by decide) : rg (-1) 6 (-1)) hR1 hF1 hT hS (lv_sub hl [2, 3, 4, 1, 0] rfl) (Nat.lt_succ_self _)
set_option maxRecDepth 100000 in
set_option maxHeartbeats 4000000 in
theorem m_X9_laysPlan {l : Launch} {D : va_G} {h : Nat → Nat} {cz : Nat → ClassId} {z : EZ} {i : Nat → Nat → Int32} {g : Nat → Nat → Int64} (hR : Rg rA i) (a_a : Int32) (ha_a : rg 1 5 a_a) : DtV l yX9_laysPlan cX9_laysPlan 2 none ({ frames := 12, cells := 0, slots := 0, locals := 278 } : Room) D h cz z i g [.ref (h 96), .int a_a] (fun u => Rg rA u.1 ∧ Fr [96, 109, 110, 111, 112, 113, 114, 115, 116, 117] [] i g u) := by
  refine e_V pn_X9_laysPlan (Nat.le_of_ble_eq_true rfl) ?_
  intro p e s m args below meth c ls Q X Y hret hT hl hS
  have hx := X.1
  have hb := X.2.1
  have hl : lv_has ls 2 [(0, .ref (h 96)), (1, .int a_a)] := hl
  have hF : Fr [96, 109, 110, 111, 112, 113, 114, 115, 116, 117] [] i g (i, g) := Fr_rf _ _ _ _
  refine lv_aload_n hx hb dX9_laysPlan_0 rfl (lv_at hl 0 rfl) ?_
  refine lv_iconst (v := (-1)) hx hb dX9_laysPlan_1 (by decide) ?_
  refine r_puti X hT hS 96 37 pk_9_375 rfl rfl rfl rfl (by decide) dX9_laysPlan_2 (fun H locs i1 ei1 hT hS => ?_)
  have hR1 := Rg_put hR ei1 (-2147483648) 2147483647 rfl (rg_k (by decide) : rg (-1) (-1) (-1)) (by decide)
  have hF1 := Fr_puti hF ei1 (by decide)
  refine lv_aload_n hx hb dX9_laysPlan_5 rfl (lv_at hl 0 rfl) ?_
  refine lv_iconst (v := 0) hx hb dX9_laysPlan_6 (by decide) ?_
  refine r_puti X hT hS 96 38 pk_9_378 rfl rfl rfl rfl (by decide) dX9_laysPlan_7 (fun H locs i2 ei2 hT hS => ?_)
  have hR2 := Rg_put hR1 ei2 (-2147483648) 2147483647 rfl (rg_k (by decide) : rg 0 0 0) (by decide)
  have hF2 := Fr_puti hF1 ei2 (by decide)
  refine lv_aload_n hx hb dX9_laysPlan_10 rfl (lv_at hl 0 rfl) ?_
  refine lv_iconst (v := 0) hx hb dX9_laysPlan_11 (by decide) ?_
  refine lv_iload_n hx hb dX9_laysPlan_12 rfl (lv_at hl 1 rfl) ?_
  refine e_Vv (As := [.int 0, .int a_a]) (rest := []) X Y hT hS (m_X9_planFrom_0 hR2 (0) a_a (rg_k (by decide) : rg 0 0 0) ha_a) mk_X9_planFrom gm_1927 rfl rfl (by decide) hd_X9_planFrom ⟨rfl, rfl⟩ ⟨Nat.le_of_ble_eq_true rfl, Nat.le_of_ble_eq_true rfl⟩ hl.1 rfl (Nat.le_of_ble_eq_true rfl) dX9_laysPlan_13 ⟨Nat.zero_le _, Nat.zero_le _⟩ (fun i3 g3 H locs hq hT hS => ?_)
  obtain ⟨hR3, hf3⟩ := hq
  have hF3 := Fr_tr hF2 hf3 (by decide)
  exact hret _ _ _ _ _ _ dX9_laysPlan_16 hT hS ⟨hR3, hF3⟩
set_option maxRecDepth 100000 in
set_option maxHeartbeats 4000000 in
theorem m_X9_plan {l : Launch} {D : va_G} {h : Nat → Nat} {cz : Nat → ClassId} {z : EZ} {i : Nat → Nat → Int32} {g : Nat → Nat → Int64} (hR : Rg rA i) (a_a : Int32) : DtI l yX9_plan cX9_plan 2 (some .int) ({ frames := 13, cells := 0, slots := 0, locals := 299 } : Room) D h cz z i g [.ref (h 96), .int a_a] (fun r u => Rg rA u.1 ∧ Fr [96, 109, 110, 111, 112, 113, 114, 115, 116, 117] [] i g u) := by
  refine e_I pn_X9_plan (Nat.le_of_ble_eq_true rfl) ?_
  intro p e s m args below meth c ls Q X Y hret hT hl hS
  have hx := X.1
  have hb := X.2.1
  have hl : lv_has ls 2 [(0, .ref (h 96)), (1, .int a_a)] := hl
  have hF : Fr [96, 109, 110, 111, 112, 113, 114, 115, 116, 117] [] i g (i, g) := Fr_rf _ _ _ _
  refine lv_aload_n hx hb dX9_plan_0 rfl (lv_at hl 0 rfl) ?_
  refine lv_iconst (v := 0) hx hb dX9_plan_1 (by decide) ?_
  refine r_puti X hT hS 96 0 pk_9_83 rfl rfl rfl rfl (by decide) dX9_plan_2 (fun H locs i1 ei1 hT hS => ?_)
  have hR1 := Rg_put hR ei1 (-2147483648) 2147483647 rfl (rg_k (by decide) : rg 0 0 0) (by decide)
  have hF1 := Fr_puti hF ei1 (by decide)
  refine lv_aload_n hx hb dX9_plan_5 rfl (lv_at hl 0 rfl) ?_
  refine lv_iload_n hx hb dX9_plan_6 rfl (lv_at hl 1 rfl) ?_
  refine e_Vi (As := [.int a_a]) (rest := []) X Y hT hS (m_X9_isPlan hR1 a_a) mk_X9_isPlan gm_1919 rfl rfl (by decide) hd_X9_isPlan ⟨rfl, rfl⟩ ⟨Nat.le_of_ble_eq_true rfl, Nat.le_of_ble_eq_true rfl⟩ hl.1 rfl (Nat.le_of_ble_eq_true rfl) dX9_plan_7 ⟨Nat.zero_le _, Nat.zero_le _⟩ (fun r2 i2 g2 H locs hq hT hS => ?_)
  rcases hq with hq | hq
  ·
    obtain ⟨eh2, rfl, hf2_0⟩ := hq
    rw [(Prod.mk.inj eh2).1, (Prod.mk.inj eh2).2] at hT
    have h3 : rg 1 5 a_a := ⟨by have := (rg_top a_a).1; have := hf2_0.1; omega, by have := (rg_top a_a).2; have := hf2_0.2; omega⟩
    refine lv_if_ne (tgt := 16) hx hb dX9_plan_10 (by decide) (fun c4 => ?_) (fun c4 => (x_eq (rg_k (by decide) : rg 1 1 1) (rg_k (by decide) : rg 0 0 0) (i_eq c4) (by decide)).elim)
    refine lv_aload_n hx hb dX9_plan_16 rfl (lv_at hl 0 rfl) ?_
    refine lv_iload_n hx hb dX9_plan_17 rfl (lv_at hl 1 rfl) ?_
    refine e_Vv (As := [.int a_a]) (rest := []) X Y hT hS (m_X9_laysPlan hR1 a_a h3) mk_X9_laysPlan gm_1923 rfl rfl (by decide) hd_X9_laysPlan ⟨rfl, rfl⟩ ⟨Nat.le_of_ble_eq_true rfl, Nat.le_of_ble_eq_true rfl⟩ hl.1 rfl (Nat.le_of_ble_eq_true rfl) dX9_plan_18 ⟨Nat.zero_le _, Nat.zero_le _⟩ (fun i5 g5 H locs hq hT hS => ?_)
    obtain ⟨hR5, hf5⟩ := hq
    have hF5 := Fr_tr hF1 hf5 (by decide)
    refine lv_aload_n hx hb dX9_plan_21 rfl (lv_at hl 0 rfl) ?_
    refine r_geti X hT 96 37 fk_9_375 rfl rfl (by decide) dX9_plan_22 ?_
    exact hret (i5 96 37) _ _ _ _ _ _ dX9_plan_25 hT hS ⟨hR5, hF5⟩
  ·
    obtain ⟨eh2, rfl⟩ := hq
    rw [(Prod.mk.inj eh2).1, (Prod.mk.inj eh2).2] at hT
    refine lv_if_ne (tgt := 16) hx hb dX9_plan_10 (by decide) (fun c6 => (x_ne (rg_k (by decide) : rg 0 0 0) (rg_k (by decide) : rg 0 0 0) (i_ne c6) (by decide)).elim) (fun c6 => ?_)
    refine lv_bipush (v := (-2)) hx hb dX9_plan_13 (by decide) ?_
    exact hret (-2) _ _ _ _ _ _ dX9_plan_15 hT hS ⟨hR1, hF1⟩
set_option maxRecDepth 100000 in
set_option maxHeartbeats 4000000 in
theorem m_X9_planned {l : Launch} {D : va_G} {h : Nat → Nat} {cz : Nat → ClassId} {z : EZ} {i : Nat → Nat → Int32} {g : Nat → Nat → Int64} (hR : Rg rA i) (a_a : Int32) (a_b : Int32) : DtI l yX9_planned cX9_planned 3 (some .int) ({ frames := 13, cells := 0, slots := 0, locals := 299 } : Room) D h cz z i g [.ref (h 96), .int a_a, .int a_b] (fun r u => Rg rA u.1 ∧ Fr [96, 109, 110, 111, 112, 113, 114, 115, 116, 117] [] i g u) := by
  refine e_I pn_X9_planned (Nat.le_of_ble_eq_true rfl) ?_
  intro p e s m args below meth c ls Q X Y hret hT hl hS
  have hx := X.1
  have hb := X.2.1
  have hl : lv_has ls 3 [(0, .ref (h 96)), (1, .int a_a), (2, .int a_b)] := hl
  have hF : Fr [96, 109, 110, 111, 112, 113, 114, 115, 116, 117] [] i g (i, g) := Fr_rf _ _ _ _
  refine lv_aload_n hx hb dX9_planned_0 rfl (lv_at hl 0 rfl) ?_
  refine lv_iconst (v := 0) hx hb dX9_planned_1 (by decide) ?_
  refine r_puti X hT hS 96 0 pk_9_83 rfl rfl rfl rfl (by decide) dX9_planned_2 (fun H locs i1 ei1 hT hS => ?_)
  have hR1 := Rg_put hR ei1 (-2147483648) 2147483647 rfl (rg_k (by decide) : rg 0 0 0) (by decide)
  have hF1 := Fr_puti hF ei1 (by decide)
  refine lv_aload_n hx hb dX9_planned_5 rfl (lv_at hl 0 rfl) ?_
  refine lv_iload_n hx hb dX9_planned_6 rfl (lv_at hl 1 rfl) ?_
  refine e_Vi (As := [.int a_a]) (rest := []) X Y hT hS (m_X9_isPlan hR1 a_a) mk_X9_isPlan gm_1919 rfl rfl (by decide) hd_X9_isPlan ⟨rfl, rfl⟩ ⟨Nat.le_of_ble_eq_true rfl, Nat.le_of_ble_eq_true rfl⟩ hl.1 rfl (Nat.le_of_ble_eq_true rfl) dX9_planned_7 ⟨Nat.zero_le _, Nat.zero_le _⟩ (fun r2 i2 g2 H locs hq hT hS => ?_)
  rcases hq with hq | hq
  ·
    obtain ⟨eh2, rfl, hf2_0⟩ := hq
    rw [(Prod.mk.inj eh2).1, (Prod.mk.inj eh2).2] at hT
    have h3 : rg 1 5 a_a := ⟨by have := (rg_top a_a).1; have := hf2_0.1; omega, by have := (rg_top a_a).2; have := hf2_0.2; omega⟩
    refine lv_if_eq (tgt := 26) hx hb dX9_planned_10 (by decide) (fun c4 => (x_eq (rg_k (by decide) : rg 1 1 1) (rg_k (by decide) : rg 0 0 0) (i_eq c4) (by decide)).elim) (fun c4 => ?_)
    refine lv_iload_n hx hb dX9_planned_13 rfl (lv_at hl 2 rfl) ?_
    refine q_i2l hx hb dX9_planned_14 (fun y5 ey5 => ?_)
    obtain ⟨hy5, ay5⟩ := rg_i2l ey5 (rg_top a_b)
    refine lv_lconst (v := 0) hx hb dX9_planned_15 (by decide) ?_
    refine lv_iload_n hx hb dX9_planned_16 rfl (lv_at hl 1 rfl) ?_
    refine q_i2l hx hb dX9_planned_17 (fun y6 ey6 => ?_)
    obtain ⟨hy6, ay6⟩ := rg_i2l ey6 h3
    refine lv_lconst (v := 1) hx hb dX9_planned_18 (by decide) ?_
    refine q_lsub hx hb dX9_planned_19 (fun y7 ey7 => ?_)
    obtain ⟨hy7, ay7⟩ := rgL_sub 0 4 ey7 hy6 (rgL_k (by decide) : rgL 1 1 1) (by decide)
    refine e_Si (As := [.long y5, .long 0, .long y7]) (rest := []) X Y hT hS (m_in y5 (0) y7) sk_X9_in gm_1496 hd_X9_in ⟨rfl, rfl⟩ ⟨Nat.le_of_ble_eq_true rfl, Nat.le_of_ble_eq_true rfl⟩ hl.1 rfl (Nat.le_of_ble_eq_true rfl) dX9_planned_20 ⟨Nat.zero_le _, Nat.zero_le _⟩ (fun r8 i8 g8 H locs hq hT hS => ?_)
    rcases hq with hq | hq
    ·
      obtain ⟨eh8, rfl, hf8_0⟩ := hq
      rw [(Prod.mk.inj eh8).1, (Prod.mk.inj eh8).2] at hT
      replace hf8_0 : 0 ≤ y5.toInt ∧ y5.toInt ≤ y7.toInt := hf8_0
      have h9 : rgL 0 4 y5 := ⟨by have := hy5.1; have := hy5.2; have := hy7.1; have := hy7.2; omega, by have := hy5.1; have := hy5.2; have := hy7.1; have := hy7.2; omega⟩
      have h10 : rg 0 4 a_b := ⟨by have := h9.1; have := (rg_top a_b).1; have := ay5; omega, by have := h9.2; have := (rg_top a_b).2; have := ay5; omega⟩
      refine lv_if_ne (tgt := 29) hx hb dX9_planned_23 (by decide) (fun c11 => ?_) (fun c11 => (x_eq (rg_k (by decide) : rg 1 1 1) (rg_k (by decide) : rg 0 0 0) (i_eq c11) (by decide)).elim)
      refine lv_aload_n hx hb dX9_planned_29 rfl (lv_at hl 0 rfl) ?_
      refine lv_iload_n hx hb dX9_planned_30 rfl (lv_at hl 1 rfl) ?_
      refine e_Vv (As := [.int a_a]) (rest := []) X Y hT hS (m_X9_laysPlan hR1 a_a h3) mk_X9_laysPlan gm_1923 rfl rfl (by decide) hd_X9_laysPlan ⟨rfl, rfl⟩ ⟨Nat.le_of_ble_eq_true rfl, Nat.le_of_ble_eq_true rfl⟩ hl.1 rfl (Nat.le_of_ble_eq_true rfl) dX9_planned_31 ⟨Nat.zero_le _, Nat.zero_le _⟩ (fun i12 g12 H locs hq hT hS => ?_)
      obtain ⟨hR12, hf12⟩ := hq
      have hF12 := Fr_tr hF1 hf12 (by decide)
      refine lv_aload_n hx hb dX9_planned_34 rfl (lv_at hl 0 rfl) ?_
      refine r_getr X hT 96 39 116 fk_9_74 rfl rfl (by decide) dX9_planned_35 ?_
      refine lv_iload_n hx hb dX9_planned_38 rfl (lv_at hl 2 rfl) ?_
      refine r_iald X hT 116 rfl (by decide) (v_in h10 (by decide)) dX9_planned_39 ?_
      exact hret (i12 116 a_b.toNatClampNeg) _ _ _ _ _ _ dX9_planned_40 hT hS ⟨hR12, hF12⟩
    ·
      obtain ⟨eh8, rfl, hf8_0⟩ := hq
      rw [(Prod.mk.inj eh8).1, (Prod.mk.inj eh8).2] at hT
      replace hf8_0 : y5.toInt < 0 ∨ y7.toInt < y5.toInt := hf8_0
      refine lv_if_ne (tgt := 29) hx hb dX9_planned_23 (by decide) (fun c13 => (x_ne (rg_k (by decide) : rg 0 0 0) (rg_k (by decide) : rg 0 0 0) (i_ne c13) (by decide)).elim) (fun c13 => ?_)
      refine lv_bipush (v := (-2)) hx hb dX9_planned_26 (by decide) ?_
      exact hret (-2) _ _ _ _ _ _ dX9_planned_28 hT hS ⟨hR1, hF1⟩
  ·
    obtain ⟨eh2, rfl⟩ := hq
    rw [(Prod.mk.inj eh2).1, (Prod.mk.inj eh2).2] at hT
    refine lv_if_eq (tgt := 26) hx hb dX9_planned_10 (by decide) (fun c14 => ?_) (fun c14 => (x_ne (rg_k (by decide) : rg 0 0 0) (rg_k (by decide) : rg 0 0 0) (i_ne c14) (by decide)).elim)
    refine lv_bipush (v := (-2)) hx hb dX9_planned_26 (by decide) ?_
    exact hret (-2) _ _ _ _ _ _ dX9_planned_28 hT hS ⟨hR1, hF1⟩
set_option maxRecDepth 100000 in
set_option maxHeartbeats 4000000 in
theorem m_X9_plans {l : Launch} {D : va_G} {h : Nat → Nat} {cz : Nat → ClassId} {z : EZ} {i : Nat → Nat → Int32} {g : Nat → Nat → Int64} (hR : Rg rA i) (a_a : Int32) : DtI l yX9_plans cX9_plans 2 (some .int) ({ frames := 13, cells := 0, slots := 0, locals := 299 } : Room) D h cz z i g [.ref (h 96), .int a_a] (fun r u => Rg rA u.1 ∧ Fr [96, 109, 110, 111, 112, 113, 114, 115, 116, 117] [] i g u) := by
  refine e_I pn_X9_plans (Nat.le_of_ble_eq_true rfl) ?_
  intro p e s m args below meth c ls Q X Y hret hT hl hS
  have hx := X.1
  have hb := X.2.1
  have hl : lv_has ls 2 [(0, .ref (h 96)), (1, .int a_a)] := hl
  have hF : Fr [96, 109, 110, 111, 112, 113, 114, 115, 116, 117] [] i g (i, g) := Fr_rf _ _ _ _
  refine lv_aload_n hx hb dX9_plans_0 rfl (lv_at hl 0 rfl) ?_
  refine lv_iconst (v := 0) hx hb dX9_plans_1 (by decide) ?_
  refine r_puti X hT hS 96 0 pk_9_83 rfl rfl rfl rfl (by decide) dX9_plans_2 (fun H locs i1 ei1 hT hS => ?_)
  have hR1 := Rg_put hR ei1 (-2147483648) 2147483647 rfl (rg_k (by decide) : rg 0 0 0) (by decide)
  have hF1 := Fr_puti hF ei1 (by decide)
  refine lv_aload_n hx hb dX9_plans_5 rfl (lv_at hl 0 rfl) ?_
  refine lv_iload_n hx hb dX9_plans_6 rfl (lv_at hl 1 rfl) ?_
  refine e_Vi (As := [.int a_a]) (rest := []) X Y hT hS (m_X9_isPlan hR1 a_a) mk_X9_isPlan gm_1919 rfl rfl (by decide) hd_X9_isPlan ⟨rfl, rfl⟩ ⟨Nat.le_of_ble_eq_true rfl, Nat.le_of_ble_eq_true rfl⟩ hl.1 rfl (Nat.le_of_ble_eq_true rfl) dX9_plans_7 ⟨Nat.zero_le _, Nat.zero_le _⟩ (fun r2 i2 g2 H locs hq hT hS => ?_)
  rcases hq with hq | hq
  ·
    obtain ⟨eh2, rfl, hf2_0⟩ := hq
    rw [(Prod.mk.inj eh2).1, (Prod.mk.inj eh2).2] at hT
    have h3 : rg 1 5 a_a := ⟨by have := (rg_top a_a).1; have := hf2_0.1; omega, by have := (rg_top a_a).2; have := hf2_0.2; omega⟩
    refine lv_if_ne (tgt := 16) hx hb dX9_plans_10 (by decide) (fun c4 => ?_) (fun c4 => (x_eq (rg_k (by decide) : rg 1 1 1) (rg_k (by decide) : rg 0 0 0) (i_eq c4) (by decide)).elim)
    refine lv_aload_n hx hb dX9_plans_16 rfl (lv_at hl 0 rfl) ?_
    refine lv_iload_n hx hb dX9_plans_17 rfl (lv_at hl 1 rfl) ?_
    refine e_Vv (As := [.int a_a]) (rest := []) X Y hT hS (m_X9_laysPlan hR1 a_a h3) mk_X9_laysPlan gm_1923 rfl rfl (by decide) hd_X9_laysPlan ⟨rfl, rfl⟩ ⟨Nat.le_of_ble_eq_true rfl, Nat.le_of_ble_eq_true rfl⟩ hl.1 rfl (Nat.le_of_ble_eq_true rfl) dX9_plans_18 ⟨Nat.zero_le _, Nat.zero_le _⟩ (fun i5 g5 H locs hq hT hS => ?_)
    obtain ⟨hR5, hf5⟩ := hq
    have hF5 := Fr_tr hF1 hf5 (by decide)
    refine lv_aload_n hx hb dX9_plans_21 rfl (lv_at hl 0 rfl) ?_
    refine r_geti X hT 96 38 fk_9_378 rfl rfl (by decide) dX9_plans_22 ?_
    exact hret (i5 96 38) _ _ _ _ _ _ dX9_plans_25 hT hS ⟨hR5, hF5⟩
  ·
    obtain ⟨eh2, rfl⟩ := hq
    rw [(Prod.mk.inj eh2).1, (Prod.mk.inj eh2).2] at hT
    refine lv_if_ne (tgt := 16) hx hb dX9_plans_10 (by decide) (fun c6 => (x_ne (rg_k (by decide) : rg 0 0 0) (rg_k (by decide) : rg 0 0 0) (i_ne c6) (by decide)).elim) (fun c6 => ?_)
    refine lv_bipush (v := (-2)) hx hb dX9_plans_13 (by decide) ?_
    exact hret (-2) _ _ _ _ _ _ dX9_plans_15 hT hS ⟨hR1, hF1⟩
set_option maxRecDepth 100000 in
set_option maxHeartbeats 4000000 in
theorem m_X9_isSlot {l : Launch} {D : va_G} {h : Nat → Nat} {cz : Nat → ClassId} {z : EZ} {i : Nat → Nat → Int32} {g : Nat → Nat → Int64} (a_a : Int32) : DtI l yX9_isSlot cX9_isSlot 1 (some .boolean) ({ frames := 1, cells := 0, slots := 0, locals := 25 } : Room) D h cz z i g [.int a_a] (fun r u => (u = (i, g) ∧ r = 1 ∧ rg 0 3 a_a) ∨ (u = (i, g) ∧ r = 0 ∧ (a_a.toInt < 0 ∨ 3 < a_a.toInt))) := by
  refine e_Z (fun v u hq => (hq.elim (fun hq => (Or.inr hq.2.1)) (fun hq => (Or.inl hq.2.1)))) pn_X9_isSlot (Nat.le_of_ble_eq_true rfl) ?_
  intro p e s m args below meth c ls Q X Y hret hT hl hS
  have hx := X.1
  have hb := X.2.1
  have hl : lv_has ls 1 [(0, .int a_a)] := hl
  refine lv_iload_n hx hb dX9_isSlot_0 rfl (lv_at hl 0 rfl) ?_
  refine q_i2l hx hb dX9_isSlot_1 (fun y1 ey1 => ?_)
  obtain ⟨hy1, ay1⟩ := rg_i2l ey1 (rg_top a_a)
  refine lv_lconst (v := 0) hx hb dX9_isSlot_2 (by decide) ?_
  refine lv_ldc2 (v := 3) hx hb X.2.2.2.1 (X.2.2.2.2.1 _ gm_1495) dX9_isSlot_3 ?_
  refine e_Si (As := [.long y1, .long 0, .long 3]) (rest := []) X Y hT hS (m_in y1 (0) (3)) sk_X9_in gm_1496 hd_X9_in ⟨rfl, rfl⟩ ⟨Nat.le_of_ble_eq_true rfl, Nat.le_of_ble_eq_true rfl⟩ hl.1 rfl (Nat.le_of_ble_eq_true rfl) dX9_isSlot_6 ⟨Nat.zero_le _, Nat.zero_le _⟩ (fun r2 i2 g2 H locs hq hT hS => ?_)
  rcases hq with hq | hq
  ·
    obtain ⟨eh2, rfl, hf2_0⟩ := hq
    rw [(Prod.mk.inj eh2).1, (Prod.mk.inj eh2).2] at hT
    replace hf2_0 : 0 ≤ y1.toInt ∧ y1.toInt ≤ 3 := hf2_0
    have h3 : rgL 0 3 y1 := ⟨by have := hy1.1; have := hy1.2; omega, by have := hy1.1; have := hy1.2; omega⟩
    have h4 : rg 0 3 a_a := ⟨by have := h3.1; have := (rg_top a_a).1; have := ay1; omega, by have := h3.2; have := (rg_top a_a).2; have := ay1; omega⟩
    exact hret 1 _ _ _ _ _ _ dX9_isSlot_9 hT hS (Or.inl ⟨rfl, rfl, h4⟩)
  ·
    obtain ⟨eh2, rfl, hf2_0⟩ := hq
    rw [(Prod.mk.inj eh2).1, (Prod.mk.inj eh2).2] at hT
    replace hf2_0 : y1.toInt < 0 ∨ 3 < y1.toInt := hf2_0
    exact hret 0 _ _ _ _ _ _ dX9_isSlot_9 hT hS (Or.inr ⟨rfl, rfl, (by omega)⟩)
set_option maxRecDepth 100000 in
set_option maxHeartbeats 4000000 in
theorem m_X9_whyNot {l : Launch} {D : va_G} {h : Nat → Nat} {cz : Nat → ClassId} {z : EZ} {i : Nat → Nat → Int32} {g : Nat → Nat → Int64} (hR : Rg rA i) (a_a : Int32) (a_b : Int32) (ha_b : rg 0 1 a_b) : DtI l yX9_whyNot cX9_whyNot 5 (some .int) ({ frames := 2, cells := 0, slots := 0, locals := 47 } : Room) D h cz z i g [.ref (h 96), .int a_a, .int a_b] (fun r u => (u = (i, g) ∧ r = 0 ∧ (seenM u.1 u.2 a_a) ∧ rg 0 3 a_a ∧ rg 1 1 a_b) ∨ (u = (i, g) ∧ rg (-6) (-2) r)) := by
  refine e_I pn_X9_whyNot (Nat.le_of_ble_eq_true rfl) ?_
  intro p e s m args below meth c ls Q X Y hret hT hl hS
  have hx := X.1
  have hb := X.2.1
  have hl : lv_has ls 5 [(0, .ref (h 96)), (1, .int a_a), (2, .int a_b)] := hl
  refine lv_iload_n hx hb dX9_whyNot_0 rfl (lv_at hl 1 rfl) ?_
  refine e_Si (As := [.int a_a]) (rest := []) X Y hT hS (m_X9_isSlot a_a) sk_X9_isSlot gm_1492 hd_X9_isSlot ⟨rfl, rfl⟩ ⟨Nat.le_of_ble_eq_true rfl, Nat.le_of_ble_eq_true rfl⟩ hl.1 rfl (Nat.le_of_ble_eq_true rfl) dX9_whyNot_1 ⟨Nat.zero_le _, Nat.zero_le _⟩ (fun r1 i1 g1 H locs hq hT hS => ?_)
  rcases hq with hq | hq
  ·
    obtain ⟨eh1, rfl, hf1_0⟩ := hq
    rw [(Prod.mk.inj eh1).1, (Prod.mk.inj eh1).2] at hT
    have h2 : rg 0 3 a_a := ⟨by have := (rg_top a_a).1; have := hf1_0.1; omega, by have := (rg_top a_a).2; have := hf1_0.2; omega⟩
    refine lv_if_eq (tgt := 18) hx hb dX9_whyNot_4 (by decide) (fun c3 => (x_eq (rg_k (by decide) : rg 1 1 1) (rg_k (by decide) : rg 0 0 0) (i_eq c3) (by decide)).elim) (fun c3 => ?_)
    refine lv_aload_n hx hb dX9_whyNot_7 rfl (lv_at hl 0 rfl) ?_
    refine e_Vi (As := []) (rest := []) X Y hT hS (m_X9_isTale hR) mk_X9_isTale gm_1685 rfl rfl (by decide) hd_X9_isTale ⟨rfl, rfl⟩ ⟨Nat.le_of_ble_eq_true rfl, Nat.le_of_ble_eq_true rfl⟩ hl.1 rfl (Nat.le_of_ble_eq_true rfl) dX9_whyNot_8 ⟨Nat.zero_le _, Nat.zero_le _⟩ (fun r4 i4 g4 H locs hq hT hS => ?_)
    obtain ⟨eh4, hr4⟩ := hq
    rw [(Prod.mk.inj eh4).1, (Prod.mk.inj eh4).2] at hT
    refine lv_if_eq (tgt := 18) hx hb dX9_whyNot_11 (by decide) (fun c5 => ?_) (fun c5 => ?_)
    ·
      have q5 : r4.toInt = 0 := i_eq c5
      have h6 : rg 0 0 r4 := t_eqx 0 0 hr4 (rg_k (by decide) : rg 0 0 0) (i_eq c5) (by decide)
      refine lv_bipush (v := (-2)) hx hb dX9_whyNot_18 (by decide) ?_
      exact hret (-2) _ _ _ _ _ _ dX9_whyNot_20 hT hS (Or.inr ⟨rfl, (rg_w (rg_k (by decide) : rg (-2) (-2) (-2)) (by decide) : rg (-6) (-2) (-2))⟩)
    ·
      have q5 : ¬ r4.toInt = 0 := i_ne c5
      have h7 : rg 1 1 r4 := t_nelo 1 hr4 (rg_k (by decide) : rg 0 0 0) (i_ne c5) (by decide)
      refine lv_iload_n hx hb dX9_whyNot_14 rfl (lv_at hl 2 rfl) ?_
      refine lv_if_ne (tgt := 21) hx hb dX9_whyNot_15 (by decide) (fun c8 => ?_) (fun c8 => ?_)
      ·
        have q8 : ¬ a_b.toInt = 0 := i_ne c8
        have h9 : rg 1 1 a_b := t_nelo 1 ha_b (rg_k (by decide) : rg 0 0 0) (i_ne c8) (by decide)
        refine lv_aload_n hx hb dX9_whyNot_21 rfl (lv_at hl 0 rfl) ?_
        refine r_getr X hT 96 1 97 fk_9_7 rfl rfl (by decide) dX9_whyNot_22 ?_
        refine lv_iload_n hx hb dX9_whyNot_25 rfl (lv_at hl 1 rfl) ?_
        refine r_iald X hT 97 rfl (by decide) (v_in h2 (by decide)) dX9_whyNot_26 ?_
        refine lv_iconst (v := (-1)) hx hb dX9_whyNot_27 (by decide) ?_
        refine lv_icmp_ne (tgt := 34) hx hb dX9_whyNot_28 (by decide) (fun c10 => ?_) (fun c10 => ?_)
        ·
          have q10 : ¬ (i 97 a_a.toNatClampNeg).toInt = (-1) := i_ne c10
          have h11 : rg 0 3 (i 97 a_a.toNatClampNeg) := t_nelo 0 (Rg_at hR 97 a_a.toNatClampNeg (-1) 3 (v_lt (v_in h2 (by decide))) rfl) (rg_k (by decide) : rg (-1) (-1) (-1)) (i_ne c10) (by decide)
          refine lv_aload_n hx hb dX9_whyNot_34 rfl (lv_at hl 0 rfl) ?_
          refine r_getr X hT 96 2 98 fk_9_13 rfl rfl (by decide) dX9_whyNot_35 ?_
          refine lv_iload_n hx hb dX9_whyNot_38 rfl (lv_at hl 1 rfl) ?_
          refine r_iald X hT 98 rfl (by decide) (v_in h2 (by decide)) dX9_whyNot_39 ?_
          refine lv_iconst (v := 3) hx hb dX9_whyNot_40 (by decide) ?_
          refine q_irem hx hb dX9_whyNot_41 (nz_I (rg_k (by decide) : rg 3 3 3) (by decide)) (fun x12 ex12 => ?_)
          obtain ⟨hx12, ax12⟩ := rg_rem (hi := 2) ex12 (Rg_at hR 98 a_a.toNatClampNeg 0 60 (v_lt (v_in h2 (by decide))) rfl) (rg_k (by decide) : rg 3 3 3) (by decide)
          replace ax12 : x12.toInt = (i 98 a_a.toNatClampNeg).toInt % 3 := ax12
          refine lv_if_eq (tgt := 48) hx hb dX9_whyNot_42 (by decide) (fun c13 => ?_) (fun c13 => ?_)
          ·
            have q13 : x12.toInt = 0 := i_eq c13
            have h14 : rg 0 0 x12 := t_eqx 0 0 hx12 (rg_k (by decide) : rg 0 0 0) (i_eq c13) (by decide)
            refine lv_iconst (v := 0) hx hb dX9_whyNot_48 (by decide) ?_
            refine lv_istore_n (lv' := [(3, .int 0), (0, .ref (h 96)), (1, .int a_a), (2, .int a_b)]) hx hb dX9_whyNot_49 rfl hl (by decide) rfl (fun ls hl => ?_)
            have L50_15 : ∀ (n16_ : Nat) (x50_3 : Int32) (H : Heap) (locs : List Loc) (ls : Array Slot), rg 0 63 x50_3 → (x50_3.toInt % 3 = 0) → (∀ q : Nat, 3 * (q : Int) < x50_3.toInt → goodM g a_a q) → TH D h cz i g H → va_S (hA h) s.heap H locs → lv_has ls 5 [(0, .ref (h 96)), (1, .int a_a), (3, .int x50_3)] → (63 - x50_3.toInt).toNat < n16_ → W p l e ({ frames := 2, cells := 0, slots := 0, locals := 47 } : Room) s m args below meth c H locs 0 0 Q (F0 m 50 ls []) := by
              intro n16_
              induction n16_ with
              | zero => intro x50_3 H locs ls hhx50_3 hm3 hgd hT hS hl hm16_; exact absurd hm16_ (Nat.not_lt_zero _)
              | succ n16_ ih16_ =>
                intro x50_3 H locs ls hhx50_3 hm3 hgd hT hS hl hm16_
                refine lv_iload_n hx hb dX9_whyNot_50 rfl (lv_at hl 2 rfl) ?_
                refine lv_aload_n hx hb dX9_whyNot_51 rfl (lv_at hl 0 rfl) ?_
                refine r_getr X hT 96 2 98 fk_9_13 rfl rfl (by decide) dX9_whyNot_52 ?_
                refine lv_iload_n hx hb dX9_whyNot_55 rfl (lv_at hl 1 rfl) ?_
                refine r_iald X hT 98 rfl (by decide) (v_in h2 (by decide)) dX9_whyNot_56 ?_
                refine lv_icmp_ge (tgt := 126) hx hb dX9_whyNot_57 (by decide) (fun c17 => ?_) (fun c17 => ?_)
                ·
                  have q17 : (i 98 a_a.toNatClampNeg).toInt ≤ x50_3.toInt := i_le c17
                  refine lv_iconst (v := 0) hx hb dX9_whyNot_126 (by decide) ?_
                  exact hret 0 _ _ _ _ _ _ dX9_whyNot_127 hT hS (Or.inl ⟨rfl, rfl, (seenM_end hgd hm3 hhx50_3 q17 ax12 q13), h2, h9⟩)
                ·
                  have q17 : x50_3.toInt < (i 98 a_a.toNatClampNeg).toInt := i_nle c17
                  have h18 : rg 0 59 x50_3 := t_ltx 0 59 hhx50_3 (Rg_at hR 98 a_a.toNatClampNeg 0 60 (v_lt (v_in h2 (by decide))) rfl) (i_nle c17) (by decide)
                  have h19 : rg 1 60 (i 98 a_a.toNatClampNeg) := t_lty 1 60 hhx50_3 (Rg_at hR 98 a_a.toNatClampNeg 0 60 (v_lt (v_in h2 (by decide))) rfl) (i_nle c17) (by decide)
                  refine lv_bipush (v := 60) hx hb dX9_whyNot_60 (by decide) ?_
                  refine lv_iload_n hx hb dX9_whyNot_62 rfl (lv_at hl 1 rfl) ?_
                  refine q_imul hx hb dX9_whyNot_63 (fun x20 ex20 => ?_)
                  obtain ⟨hx20, ax20⟩ := rg_mul 0 180 ex20 (rg_k (by decide) : rg 60 60 60) h2 (by decide)
                  replace ax20 : x20.toInt = 60 * a_a.toInt := ax20
                  refine lv_iload_n hx hb dX9_whyNot_64 rfl (lv_at hl 2 rfl) ?_
                  refine q_iadd hx hb dX9_whyNot_65 (fun x21 ex21 => ?_)
                  obtain ⟨hx21, ax21⟩ := rg_add 0 239 ex21 hx20 h18 (by decide)
                  replace ax21 : x21.toInt = x20.toInt + x50_3.toInt := ax21
                  refine lv_istore (lv' := [(4, .int x21), (0, .ref (h 96)), (1, .int a_a), (3, .int x50_3)]) hx hb dX9_whyNot_66 hl (by decide) rfl (fun ls hl => ?_)
                  refine lv_aload_n hx hb dX9_whyNot_68 rfl (lv_at hl 1 rfl) ?_
                  refine lv_aload_n hx hb dX9_whyNot_69 rfl (lv_at hl 1 rfl) ?_
                  refine r_getr X hT 96 3 99 fk_9_16 rfl rfl (by decide) dX9_whyNot_70 ?_
                  refine lv_iload hx hb dX9_whyNot_73 (lv_at hl 0 rfl) ?_
                  have h22 : rg 0 239 x21 := ⟨by have := ax21; have := ax20; have := h2.1; have := h18.1; omega, by have := ax21; have := ax20; have := h2.2; have := h19.2; have := q17; have := hm3; omega⟩
                  refine r_lald X hT 99 rfl (by decide) (v_in h22 (by decide)) dX9_whyNot_75 ?_
                  refine e_Vi (As := [.long (g 99 x21.toNatClampNeg)]) (rest := []) X Y hT hS (m_X9_isPart hR (g 99 x21.toNatClampNeg)) mk_X9_isPart gm_1645 rfl rfl (by decide) hd_X9_isPart ⟨rfl, rfl⟩ ⟨Nat.le_of_ble_eq_true rfl, Nat.le_of_ble_eq_true rfl⟩ hl.1 rfl (Nat.le_of_ble_eq_true rfl) dX9_whyNot_76 ⟨Nat.zero_le _, Nat.zero_le _⟩ (fun r23 i23 g23 H locs hq hT hS => ?_)
                  rcases hq with hq | hq
                  ·
                    obtain ⟨eh23, rfl, hf23_0⟩ := hq
                    rw [(Prod.mk.inj eh23).1, (Prod.mk.inj eh23).2] at hT
                    have h24 : rgL 0 5 (g 99 x21.toNatClampNeg) := ⟨by have := (rgL_top (g 99 x21.toNatClampNeg)).1; have := hf23_0.1; omega, by have := (rgL_top (g 99 x21.toNatClampNeg)).2; have := hf23_0.2; omega⟩
                    refine lv_if_eq (tgt := 117) hx hb dX9_whyNot_79 (by decide) (fun c25 => (x_eq (rg_k (by decide) : rg 1 1 1) (rg_k (by decide) : rg 0 0 0) (i_eq c25) (by decide)).elim) (fun c25 => ?_)
                    refine lv_aload_n hx hb dX9_whyNot_82 rfl (lv_at hl 1 rfl) ?_
                    refine lv_aload_n hx hb dX9_whyNot_83 rfl (lv_at hl 1 rfl) ?_
                    refine r_getr X hT 96 3 99 fk_9_16 rfl rfl (by decide) dX9_whyNot_84 ?_
                    refine lv_iload hx hb dX9_whyNot_87 (lv_at hl 0 rfl) ?_
                    refine lv_iconst (v := 1) hx hb dX9_whyNot_89 (by decide) ?_
                    refine q_iadd hx hb dX9_whyNot_90 (fun x26 ex26 => ?_)
                    obtain ⟨hx26, ax26⟩ := rg_add 1 240 ex26 h22 (rg_k (by decide) : rg 1 1 1) (by decide)
                    replace ax26 : x26.toInt = x21.toInt + 1 := ax26
                    have h27 : rg 0 239 x26 := ⟨by have := ax26; have := ax21; have := ax20; have := h2.1; have := h18.1; omega, by have := ax26; have := ax21; have := ax20; have := h2.2; have := h19.2; have := q17; have := hm3; omega⟩
                    refine r_lald X hT 99 rfl (by decide) (v_in h27 (by decide)) dX9_whyNot_91 ?_
                    refine e_Vi (As := [.long (g 99 x26.toNatClampNeg)]) (rest := []) X Y hT hS (m_X9_isYear hR (g 99 x26.toNatClampNeg)) mk_X9_isYear gm_1681 rfl rfl (by decide) hd_X9_isYear ⟨rfl, rfl⟩ ⟨Nat.le_of_ble_eq_true rfl, Nat.le_of_ble_eq_true rfl⟩ hl.1 rfl (Nat.le_of_ble_eq_true rfl) dX9_whyNot_92 ⟨Nat.zero_le _, Nat.zero_le _⟩ (fun r28 i28 g28 H locs hq hT hS => ?_)
                    rcases hq with hq | hq
                    ·
                      obtain ⟨eh28, rfl, hf28_0⟩ := hq
                      rw [(Prod.mk.inj eh28).1, (Prod.mk.inj eh28).2] at hT
                      have h29 : rgL 0 12 (g 99 x26.toNatClampNeg) := ⟨by have := (rgL_top (g 99 x26.toNatClampNeg)).1; have := hf28_0.1; omega, by have := (rgL_top (g 99 x26.toNatClampNeg)).2; have := hf28_0.2; omega⟩
                      refine lv_if_eq (tgt := 117) hx hb dX9_whyNot_95 (by decide) (fun c30 => (x_eq (rg_k (by decide) : rg 1 1 1) (rg_k (by decide) : rg 0 0 0) (i_eq c30) (by decide)).elim) (fun c30 => ?_)
                      refine lv_aload_n hx hb dX9_whyNot_98 rfl (lv_at hl 1 rfl) ?_
                      refine r_getr X hT 96 3 99 fk_9_16 rfl rfl (by decide) dX9_whyNot_99 ?_
                      refine lv_iload hx hb dX9_whyNot_102 (lv_at hl 0 rfl) ?_
                      refine lv_iconst (v := 2) hx hb dX9_whyNot_104 (by decide) ?_
                      refine q_iadd hx hb dX9_whyNot_105 (fun x31 ex31 => ?_)
                      obtain ⟨hx31, ax31⟩ := rg_add 2 241 ex31 h22 (rg_k (by decide) : rg 2 2 2) (by decide)
                      replace ax31 : x31.toInt = x21.toInt + 2 := ax31
                      have h32 : rg 0 239 x31 := ⟨by have := ax31; have := ax21; have := ax20; have := h2.1; have := h18.1; omega, by have := ax31; have := ax21; have := ax20; have := h2.2; have := h19.2; have := q17; have := hm3; omega⟩
                      refine r_lald X hT 99 rfl (by decide) (v_in h32 (by decide)) dX9_whyNot_106 ?_
                      refine lv_lconst (v := 0) hx hb dX9_whyNot_107 (by decide) ?_
                      refine lv_ldc2 (v := 99) hx hb X.2.2.2.1 (X.2.2.2.2.1 _ gm_1951) dX9_whyNot_108 ?_
                      refine e_Si (As := [.long (g 99 x31.toNatClampNeg), .long 0, .long 99]) (rest := []) X Y hT hS (m_in (g 99 x31.toNatClampNeg) (0) (99)) sk_X9_in gm_1496 hd_X9_in ⟨rfl, rfl⟩ ⟨Nat.le_of_ble_eq_true rfl, Nat.le_of_ble_eq_true rfl⟩ hl.1 rfl (Nat.le_of_ble_eq_true rfl) dX9_whyNot_111 ⟨Nat.zero_le _, Nat.zero_le _⟩ (fun r33 i33 g33 H locs hq hT hS => ?_)
                      rcases hq with hq | hq
                      ·
                        obtain ⟨eh33, rfl, hf33_0⟩ := hq
                        rw [(Prod.mk.inj eh33).1, (Prod.mk.inj eh33).2] at hT
                        replace hf33_0 : 0 ≤ (g 99 x31.toNatClampNeg).toInt ∧ (g 99 x31.toNatClampNeg).toInt ≤ 99 := hf33_0
                        have h34 : rgL 0 99 (g 99 x31.toNatClampNeg) := ⟨by have := (rgL_top (g 99 x31.toNatClampNeg)).1; have := (rgL_top (g 99 x31.toNatClampNeg)).2; omega, by have := (rgL_top (g 99 x31.toNatClampNeg)).1; have := (rgL_top (g 99 x31.toNatClampNeg)).2; omega⟩
                        refine lv_if_ne (tgt := 120) hx hb dX9_whyNot_114 (by decide) (fun c35 => ?_) (fun c35 => (x_eq (rg_k (by decide) : rg 1 1 1) (rg_k (by decide) : rg 0 0 0) (i_eq c35) (by decide)).elim)
                        obtain ⟨x36, ex36⟩ : ∃ y : Int32, y = x50_3 + 3 := ⟨_, rfl⟩
                        refine lv_iinc (v := x36) (lv' := [(3, .int x36), (4, .int x21), (0, .ref (h 96)), (1, .int a_a)]) hx hb dX9_whyNot_120 hl (k := 3) rfl (by rw [ex36]; rfl) (by decide) rfl (fun ls hl => ?_)
                        obtain ⟨hx36, ax36⟩ := rg_add 3 62 ex36 h18 (rg_k (by decide) : rg 3 3 3) (by decide)
                        replace ax36 : x36.toInt = x50_3.toInt + 3 := ax36
                        refine lv_goto (tgt := 50) hx hb dX9_whyNot_123 (by decide) ?_
                        exact ih16_ x36 _ _ _ (rg_w hx36 (by decide) : rg 0 63 x36) (by have := ax36; omega) (seenM_st hgd hm3 hhx50_3 h2 ax36 ax20 ax21 h24 ax26 h29 ax31 h34) hT hS (lv_sub hl [2, 3, 0] rfl) (m_up ax36 hx36 (by decide) hm16_)
                      ·
                        obtain ⟨eh33, rfl, hf33_0⟩ := hq
                        rw [(Prod.mk.inj eh33).1, (Prod.mk.inj eh33).2] at hT
                        replace hf33_0 : (g 99 x31.toNatClampNeg).toInt < 0 ∨ 99 < (g 99 x31.toNatClampNeg).toInt := hf33_0
                        refine lv_if_ne (tgt := 120) hx hb dX9_whyNot_114 (by decide) (fun c37 => (x_ne (rg_k (by decide) : rg 0 0 0) (rg_k (by decide) : rg 0 0 0) (i_ne c37) (by decide)).elim) (fun c37 => ?_)
                        refine lv_bipush (v := (-2)) hx hb dX9_whyNot_117 (by decide) ?_
                        exact hret (-2) _ _ _ _ _ _ dX9_whyNot_119 hT hS (Or.inr ⟨rfl, (rg_w (rg_k (by decide) : rg (-2) (-2) (-2)) (by decide) : rg (-6) (-2) (-2))⟩)
                    ·
                      obtain ⟨eh28, rfl⟩ := hq
                      rw [(Prod.mk.inj eh28).1, (Prod.mk.inj eh28).2] at hT
                      refine lv_if_eq (tgt := 117) hx hb dX9_whyNot_95 (by decide) (fun c38 => ?_) (fun c38 => (x_ne (rg_k (by decide) : rg 0 0 0) (rg_k (by decide) : rg 0 0 0) (i_ne c38) (by decide)).elim)
                      refine lv_bipush (v := (-2)) hx hb dX9_whyNot_117 (by decide) ?_
                      exact hret (-2) _ _ _ _ _ _ dX9_whyNot_119 hT hS (Or.inr ⟨rfl, (rg_w (rg_k (by decide) : rg (-2) (-2) (-2)) (by decide) : rg (-6) (-2) (-2))⟩)
                  ·
                    obtain ⟨eh23, rfl⟩ := hq
                    rw [(Prod.mk.inj eh23).1, (Prod.mk.inj eh23).2] at hT
                    refine lv_if_eq (tgt := 117) hx hb dX9_whyNot_79 (by decide) (fun c39 => ?_) (fun c39 => (x_ne (rg_k (by decide) : rg 0 0 0) (rg_k (by decide) : rg 0 0 0) (i_ne c39) (by decide)).elim)
                    refine lv_bipush (v := (-2)) hx hb dX9_whyNot_117 (by decide) ?_
                    exact hret (-2) _ _ _ _ _ _ dX9_whyNot_119 hT hS (Or.inr ⟨rfl, (rg_w (rg_k (by decide) : rg (-2) (-2) (-2)) (by decide) : rg (-6) (-2) (-2))⟩)
            exact L50_15 _ (0) _ _ _ (rg_w (rg_k (by decide) : rg 0 0 0) (by decide) : rg 0 63 0) (by decide) (fun q hq => absurd hq (by have : (0 : Int32).toInt = 0 := rfl; omega)) hT hS (lv_sub hl [1, 2, 0] rfl) (Nat.lt_succ_self _)
          ·
            have q13 : ¬ x12.toInt = 0 := i_ne c13
            have h40 : rg 1 2 x12 := t_nelo 1 hx12 (rg_k (by decide) : rg 0 0 0) (i_ne c13) (by decide)
            refine lv_bipush (v := (-2)) hx hb dX9_whyNot_45 (by decide) ?_
            exact hret (-2) _ _ _ _ _ _ dX9_whyNot_47 hT hS (Or.inr ⟨rfl, (rg_w (rg_k (by decide) : rg (-2) (-2) (-2)) (by decide) : rg (-6) (-2) (-2))⟩)
        ·
          have q10 : (i 97 a_a.toNatClampNeg).toInt = (-1) := i_eq c10
          have h41 : rg (-1) (-1) (i 97 a_a.toNatClampNeg) := t_eqx (-1) (-1) (Rg_at hR 97 a_a.toNatClampNeg (-1) 3 (v_lt (v_in h2 (by decide))) rfl) (rg_k (by decide) : rg (-1) (-1) (-1)) (i_eq c10) (by decide)
          refine lv_bipush (v := (-6)) hx hb dX9_whyNot_31 (by decide) ?_
          exact hret (-6) _ _ _ _ _ _ dX9_whyNot_33 hT hS (Or.inr ⟨rfl, (rg_w (rg_k (by decide) : rg (-6) (-6) (-6)) (by decide) : rg (-6) (-2) (-6))⟩)
      ·
        have q8 : a_b.toInt = 0 := i_eq c8
        have h42 : rg 0 0 a_b := t_eqx 0 0 ha_b (rg_k (by decide) : rg 0 0 0) (i_eq c8) (by decide)
        refine lv_bipush (v := (-2)) hx hb dX9_whyNot_18 (by decide) ?_
        exact hret (-2) _ _ _ _ _ _ dX9_whyNot_20 hT hS (Or.inr ⟨rfl, (rg_w (rg_k (by decide) : rg (-2) (-2) (-2)) (by decide) : rg (-6) (-2) (-2))⟩)
  ·
    obtain ⟨eh1, rfl, hf1_0⟩ := hq
    rw [(Prod.mk.inj eh1).1, (Prod.mk.inj eh1).2] at hT
    refine lv_if_eq (tgt := 18) hx hb dX9_whyNot_4 (by decide) (fun c43 => ?_) (fun c43 => (x_ne (rg_k (by decide) : rg 0 0 0) (rg_k (by decide) : rg 0 0 0) (i_ne c43) (by decide)).elim)
    refine lv_bipush (v := (-2)) hx hb dX9_whyNot_18 (by decide) ?_
    exact hret (-2) _ _ _ _ _ _ dX9_whyNot_20 hT hS (Or.inr ⟨rfl, (rg_w (rg_k (by decide) : rg (-2) (-2) (-2)) (by decide) : rg (-6) (-2) (-2))⟩)
set_option maxRecDepth 100000 in
set_option maxHeartbeats 4000000 in
theorem m_X9_isSo {l : Launch} {D : va_G} {h : Nat → Nat} {cz : Nat → ClassId} {z : EZ} {i : Nat → Nat → Int32} {g : Nat → Nat → Int64} (hR : Rg rA i) (a_a : Int32) (ha_a : rg 0 3 a_a) (hp0 : seenM i g a_a) : DtI l yX9_isSo cX9_isSo 4 (some .boolean) ({ frames := 1, cells := 0, slots := 0, locals := 22 } : Room) D h cz z i g [.ref (h 96), .int a_a] (fun r u => u = (i, g) ∧ rg 0 1 r) := by
  refine e_Z (fun v u hq => (z01 hq.2)) pn_X9_isSo (Nat.le_of_ble_eq_true rfl) ?_
  intro p e s m args below meth c ls Q X Y hret hT hl hS
  have hx := X.1
  have hb := X.2.1
  have hl : lv_has ls 4 [(0, .ref (h 96)), (1, .int a_a)] := hl
  refine lv_iconst (v := 0) hx hb dX9_isSo_0 (by decide) ?_
  refine lv_istore_n (lv' := [(2, .int 0), (0, .ref (h 96)), (1, .int a_a)]) hx hb dX9_isSo_1 rfl hl (by decide) rfl (fun ls hl => ?_)
  have L2_1 : ∀ (n2_ : Nat) (x2_2 : Int32) (H : Heap) (locs : List Loc) (ls : Array Slot), rg 0 63 x2_2 → (x2_2.toInt % 3 = 0) → TH D h cz i g H → va_S (hA h) s.heap H locs → lv_has ls 4 [(0, .ref (h 96)), (1, .int a_a), (2, .int x2_2)] → (63 - x2_2.toInt).toNat < n2_ → W p l e ({ frames := 1, cells := 0, slots := 0, locals := 22 } : Room) s m args below meth c H locs 0 0 Q (F0 m 2 ls []) := by
    intro n2_
    induction n2_ with
    | zero => intro x2_2 H locs ls hhx2_2 hm3 hT hS hl hm2_; exact absurd hm2_ (Nat.not_lt_zero _)
    | succ n2_ ih2_ =>
      intro x2_2 H locs ls hhx2_2 hm3 hT hS hl hm2_
      refine lv_iload_n hx hb dX9_isSo_2 rfl (lv_at hl 2 rfl) ?_
      refine lv_aload_n hx hb dX9_isSo_3 rfl (lv_at hl 0 rfl) ?_
      refine r_getr X hT 96 2 98 fk_9_13 rfl rfl (by decide) dX9_isSo_4 ?_
      refine lv_iload_n hx hb dX9_isSo_7 rfl (lv_at hl 1 rfl) ?_
      refine r_iald X hT 98 rfl (by decide) (v_in ha_a (by decide)) dX9_isSo_8 ?_
      refine lv_icmp_ge (tgt := 60) hx hb dX9_isSo_9 (by decide) (fun c3 => ?_) (fun c3 => ?_)
      ·
        have q3 : (i 98 a_a.toNatClampNeg).toInt ≤ x2_2.toInt := i_le c3
        refine lv_iconst (v := 1) hx hb dX9_isSo_60 (by decide) ?_
        exact hret 1 _ _ _ _ _ _ dX9_isSo_61 hT hS ⟨rfl, (rg_w (rg_k (by decide) : rg 1 1 1) (by decide) : rg 0 1 1)⟩
      ·
        have q3 : x2_2.toInt < (i 98 a_a.toNatClampNeg).toInt := i_nle c3
        have h4 : rg 0 59 x2_2 := t_ltx 0 59 hhx2_2 (Rg_at hR 98 a_a.toNatClampNeg 0 60 (v_lt (v_in ha_a (by decide))) rfl) (i_nle c3) (by decide)
        have h5 : rg 1 60 (i 98 a_a.toNatClampNeg) := t_lty 1 60 hhx2_2 (Rg_at hR 98 a_a.toNatClampNeg 0 60 (v_lt (v_in ha_a (by decide))) rfl) (i_nle c3) (by decide)
        refine lv_bipush (v := 60) hx hb dX9_isSo_12 (by decide) ?_
        refine lv_iload_n hx hb dX9_isSo_14 rfl (lv_at hl 1 rfl) ?_
        refine q_imul hx hb dX9_isSo_15 (fun x6 ex6 => ?_)
        obtain ⟨hx6, ax6⟩ := rg_mul 0 180 ex6 (rg_k (by decide) : rg 60 60 60) ha_a (by decide)
        replace ax6 : x6.toInt = 60 * a_a.toInt := ax6
        refine lv_iload_n hx hb dX9_isSo_16 rfl (lv_at hl 2 rfl) ?_
        refine q_iadd hx hb dX9_isSo_17 (fun x7 ex7 => ?_)
        obtain ⟨hx7, ax7⟩ := rg_add 0 239 ex7 hx6 h4 (by decide)
        replace ax7 : x7.toInt = x6.toInt + x2_2.toInt := ax7
        refine lv_istore_n (lv' := [(3, .int x7), (0, .ref (h 96)), (1, .int a_a), (2, .int x2_2)]) hx hb dX9_isSo_18 rfl hl (by decide) rfl (fun ls hl => ?_)
        refine lv_aload_n hx hb dX9_isSo_19 rfl (lv_at hl 1 rfl) ?_
        refine lv_aload_n hx hb dX9_isSo_20 rfl (lv_at hl 1 rfl) ?_
        refine r_getr X hT 96 3 99 fk_9_16 rfl rfl (by decide) dX9_isSo_21 ?_
        refine lv_iload_n hx hb dX9_isSo_24 rfl (lv_at hl 0 rfl) ?_
        have h8 : rg 0 239 x7 := ⟨by have := ax7; have := ax6; have := ha_a.1; have := h4.1; omega, by have := ax7; have := ax6; have := ha_a.2; have := h5.2; have := q3; have := hm3; have := hp0.1; omega⟩
        refine r_lald X hT 99 rfl (by decide) (v_in h8 (by decide)) dX9_isSo_25 ?_
        have h9 : rgL 0 5 (g 99 x7.toNatClampNeg) := seenM_0 hp0 hm3 h4 ha_a q3 ax6 ax7
        refine q_l2i hx hb dX9_isSo_26 (fun x10 ex10 => ?_)
        have h11 : rg 0 5 x10 := rg_l2i ex10 h9 (by decide)
        refine lv_aload_n hx hb dX9_isSo_27 rfl (lv_at hl 1 rfl) ?_
        refine r_getr X hT 96 3 99 fk_9_16 rfl rfl (by decide) dX9_isSo_28 ?_
        refine lv_iload_n hx hb dX9_isSo_31 rfl (lv_at hl 0 rfl) ?_
        refine lv_iconst (v := 1) hx hb dX9_isSo_32 (by decide) ?_
        refine q_iadd hx hb dX9_isSo_33 (fun x12 ex12 => ?_)
        obtain ⟨hx12, ax12⟩ := rg_add 1 240 ex12 h8 (rg_k (by decide) : rg 1 1 1) (by decide)
        replace ax12 : x12.toInt = x7.toInt + 1 := ax12
        have h13 : rg 0 239 x12 := ⟨by have := ax12; have := ax7; have := ax6; have := ha_a.1; have := h4.1; omega, by have := ax12; have := ax7; have := ax6; have := ha_a.2; have := h5.2; have := q3; have := hm3; have := hp0.1; omega⟩
        refine r_lald X hT 99 rfl (by decide) (v_in h13 (by decide)) dX9_isSo_34 ?_
        have h14 : rgL 0 12 (g 99 x12.toNatClampNeg) := seenM_1 hp0 hm3 h4 ha_a q3 ax6 ax7 ax12
        refine q_l2i hx hb dX9_isSo_35 (fun x15 ex15 => ?_)
        have h16 : rg 0 12 x15 := rg_l2i ex15 h14 (by decide)
        refine e_Vi (As := [.int x10, .int x15]) (rest := []) X Y hT hS (m_X9_stiffAt hR x10 x15 h11 h16) mk_X9_stiffAt gm_1701 rfl rfl (by decide) hd_X9_stiffAt ⟨rfl, rfl⟩ ⟨Nat.le_of_ble_eq_true rfl, Nat.le_of_ble_eq_true rfl⟩ hl.1 rfl (Nat.le_of_ble_eq_true rfl) dX9_isSo_36 ⟨Nat.zero_le _, Nat.zero_le _⟩ (fun r17 i17 g17 H locs hq hT hS => ?_)
        obtain ⟨eh17, hr17⟩ := hq
        rw [(Prod.mk.inj eh17).1, (Prod.mk.inj eh17).2] at hT
        refine q_i2l hx hb dX9_isSo_39 (fun y18 ey18 => ?_)
        obtain ⟨hy18, ay18⟩ := rg_i2l ey18 hr17
        refine lv_aload_n hx hb dX9_isSo_40 rfl (lv_at hl 1 rfl) ?_
        refine r_getr X hT 96 3 99 fk_9_16 rfl rfl (by decide) dX9_isSo_41 ?_
        refine lv_iload_n hx hb dX9_isSo_44 rfl (lv_at hl 0 rfl) ?_
        refine lv_iconst (v := 2) hx hb dX9_isSo_45 (by decide) ?_
        refine q_iadd hx hb dX9_isSo_46 (fun x19 ex19 => ?_)
        obtain ⟨hx19, ax19⟩ := rg_add 2 241 ex19 h8 (rg_k (by decide) : rg 2 2 2) (by decide)
        replace ax19 : x19.toInt = x7.toInt + 2 := ax19
        have h20 : rg 0 239 x19 := ⟨by have := ax19; have := ax7; have := ax6; have := ha_a.1; have := h4.1; omega, by have := ax19; have := ax7; have := ax6; have := ha_a.2; have := h5.2; have := q3; have := hm3; have := hp0.1; omega⟩
        refine r_lald X hT 99 rfl (by decide) (v_in h20 (by decide)) dX9_isSo_47 ?_
        refine W.lcmp hx hb dX9_isSo_48 ?_
        refine lv_if_eq (tgt := 54) hx hb dX9_isSo_49 (by decide) (fun c21 => ?_) (fun c21 => ?_)
        ·
          have q21 : y18.toInt = (g 99 x19.toNatClampNeg).toInt := c_eq c21
          have h22 : rgL 0 99 (g 99 x19.toNatClampNeg) := tL_eqy 0 99 hy18 (rgL_top (g 99 x19.toNatClampNeg)) (c_eq c21) (by decide)
          obtain ⟨x23, ex23⟩ : ∃ y : Int32, y = x2_2 + 3 := ⟨_, rfl⟩
          refine lv_iinc (v := x23) (lv' := [(2, .int x23), (3, .int x7), (0, .ref (h 96)), (1, .int a_a)]) hx hb dX9_isSo_54 hl (k := 3) rfl (by rw [ex23]; rfl) (by decide) rfl (fun ls hl => ?_)
          obtain ⟨hx23, ax23⟩ := rg_add 3 62 ex23 h4 (rg_k (by decide) : rg 3 3 3) (by decide)
          replace ax23 : x23.toInt = x2_2.toInt + 3 := ax23
          refine lv_goto (tgt := 2) hx hb dX9_isSo_57 (by decide) ?_
          exact ih2_ x23 _ _ _ (rg_w hx23 (by decide) : rg 0 63 x23) (by have := ax23; omega) hT hS (lv_sub hl [2, 3, 0] rfl) (m_up ax23 hx23 (by decide) hm2_)
        ·
          have q21 : ¬ y18.toInt = (g 99 x19.toNatClampNeg).toInt := c_ne c21
          refine lv_iconst (v := 0) hx hb dX9_isSo_52 (by decide) ?_
          exact hret 0 _ _ _ _ _ _ dX9_isSo_53 hT hS ⟨rfl, (rg_w (rg_k (by decide) : rg 0 0 0) (by decide) : rg 0 1 0)⟩
  exact L2_1 _ (0) _ _ _ (rg_w (rg_k (by decide) : rg 0 0 0) (by decide) : rg 0 63 0) (by decide) hT hS (lv_sub hl [1, 2, 0] rfl) (Nat.lt_succ_self _)
set_option maxRecDepth 100000 in
set_option maxHeartbeats 4000000 in
theorem m_X9_moreOf_0t0_f {l : Launch} {D : va_G} {h : Nat → Nat} {cz : Nat → ClassId} {z : EZ} {i : Nat → Nat → Int32} {g : Nat → Nat → Int64} (a_a : Int32) (a_b : Int32) (ha_a : rg 0 0 a_a) : DtI l yX9_moreOf cX9_moreOf 2 (some .int) ({ frames := 0, cells := 0, slots := 0, locals := 0 } : Room) D h cz z i g [.int a_a, .int a_b] (fun r u => u = (i, g) ∧ rg 0 2147483647 r) := by
  refine e_I pn_X9_moreOf (Nat.le_of_ble_eq_true rfl) ?_
  intro p e s m args below meth c ls Q X Y hret hT hl hS
  have hx := X.1
  have hb := X.2.1
  have hl : lv_has ls 2 [(0, .int a_a), (1, .int a_b)] := hl
  refine lv_iload_n hx hb dX9_moreOf_0 rfl (lv_at hl 0 rfl) ?_
  refine lv_iload_n hx hb dX9_moreOf_1 rfl (lv_at hl 1 rfl) ?_
  refine lv_icmp_le (tgt := 9) hx hb dX9_moreOf_2 (by decide) (fun c1 => ?_) (fun c1 => ?_)
  ·
    have q1 : a_a.toInt ≤ a_b.toInt := i_le c1
    have h2 : rg 0 2147483647 a_b := t_ley 0 2147483647 ha_a (rg_top a_b) (i_le c1) (by decide)
    refine lv_iload_n hx hb dX9_moreOf_9 rfl (lv_at hl 1 rfl) ?_
    exact hret a_b _ _ _ _ _ _ dX9_moreOf_10 hT hS ⟨rfl, h2⟩
  ·
    have q1 : a_b.toInt < a_a.toInt := i_nle c1
    have h3 : rg (-2147483648) (-1) a_b := t_ltx (-2147483648) (-1) (rg_top a_b) ha_a (i_nle c1) (by decide)
    refine lv_iload_n hx hb dX9_moreOf_5 rfl (lv_at hl 0 rfl) ?_
    refine lv_goto (tgt := 10) hx hb dX9_moreOf_6 (by decide) ?_
    exact hret a_a _ _ _ _ _ _ dX9_moreOf_10 hT hS ⟨rfl, (rg_w ha_a (by decide) : rg 0 2147483647 a_a)⟩
set_option maxRecDepth 100000 in
set_option maxHeartbeats 4000000 in
theorem m_X9_moreOf_0t2147483647_f {l : Launch} {D : va_G} {h : Nat → Nat} {cz : Nat → ClassId} {z : EZ} {i : Nat → Nat → Int32} {g : Nat → Nat → Int64} (a_a : Int32) (a_b : Int32) (ha_a : rg 0 2147483647 a_a) : DtI l yX9_moreOf cX9_moreOf 2 (some .int) ({ frames := 0, cells := 0, slots := 0, locals := 0 } : Room) D h cz z i g [.int a_a, .int a_b] (fun r u => u = (i, g) ∧ rg 0 2147483647 r) := by
  refine e_I pn_X9_moreOf (Nat.le_of_ble_eq_true rfl) ?_
  intro p e s m args below meth c ls Q X Y hret hT hl hS
  have hx := X.1
  have hb := X.2.1
  have hl : lv_has ls 2 [(0, .int a_a), (1, .int a_b)] := hl
  refine lv_iload_n hx hb dX9_moreOf_0 rfl (lv_at hl 0 rfl) ?_
  refine lv_iload_n hx hb dX9_moreOf_1 rfl (lv_at hl 1 rfl) ?_
  refine lv_icmp_le (tgt := 9) hx hb dX9_moreOf_2 (by decide) (fun c1 => ?_) (fun c1 => ?_)
  ·
    have q1 : a_a.toInt ≤ a_b.toInt := i_le c1
    have h2 : rg 0 2147483647 a_b := t_ley 0 2147483647 ha_a (rg_top a_b) (i_le c1) (by decide)
    refine lv_iload_n hx hb dX9_moreOf_9 rfl (lv_at hl 1 rfl) ?_
    exact hret a_b _ _ _ _ _ _ dX9_moreOf_10 hT hS ⟨rfl, h2⟩
  ·
    have q1 : a_b.toInt < a_a.toInt := i_nle c1
    have h3 : rg (-2147483648) 2147483646 a_b := t_ltx (-2147483648) 2147483646 (rg_top a_b) ha_a (i_nle c1) (by decide)
    refine lv_iload_n hx hb dX9_moreOf_5 rfl (lv_at hl 0 rfl) ?_
    refine lv_goto (tgt := 10) hx hb dX9_moreOf_6 (by decide) ?_
    exact hret a_a _ _ _ _ _ _ dX9_moreOf_10 hT hS ⟨rfl, ha_a⟩
set_option maxRecDepth 100000 in
set_option maxHeartbeats 4000000 in
theorem m_X9_laysSeen {l : Launch} {D : va_G} {h : Nat → Nat} {cz : Nat → ClassId} {z : EZ} {i : Nat → Nat → Int32} {g : Nat → Nat → Int64} (hR : Rg rA i) (a_a : Int32) (a_b : Int32) (ha_a : rg 0 3 a_a) (ha_b : rg 0 5 a_b) (hp0 : seenM i g a_a) : DtV l yX9_laysSeen cX9_laysSeen 6 none ({ frames := 5, cells := 0, slots := 0, locals := 112 } : Room) D h cz z i g [.ref (h 96), .int a_a, .int a_b] (fun u => Rg rA u.1 ∧ Fr [96, 109, 110, 111, 112, 113, 114, 115, 118] [] i g u) := by
  refine e_V pn_X9_laysSeen (Nat.le_of_ble_eq_true rfl) ?_
  intro p e s m args below meth c ls Q X Y hret hT hl hS
  have hx := X.1
  have hb := X.2.1
  have hl : lv_has ls 6 [(0, .ref (h 96)), (1, .int a_a), (2, .int a_b)] := hl
  have hF : Fr [96, 109, 110, 111, 112, 113, 114, 115, 118] [] i g (i, g) := Fr_rf _ _ _ _
  refine lv_aload_n hx hb dX9_laysSeen_0 rfl (lv_at hl 0 rfl) ?_
  refine lv_iconst (v := 0) hx hb dX9_laysSeen_1 (by decide) ?_
  refine r_puti X hT hS 96 41 pk_9_392 rfl rfl rfl rfl (by decide) dX9_laysSeen_2 (fun H locs i1 ei1 hT hS => ?_)
  have hR1 := Rg_put hR ei1 (-2147483648) 2147483647 rfl (rg_k (by decide) : rg 0 0 0) (by decide)
  have hF1 := Fr_puti hF ei1 (by decide)
  have hN1 : seenM i1 g a_a := seenM_j hp0 ei1 (by decide)
  refine lv_aload_n hx hb dX9_laysSeen_5 rfl (lv_at hl 0 rfl) ?_
  refine lv_iconst (v := (-1)) hx hb dX9_laysSeen_6 (by decide) ?_
  refine r_puti X hT hS 96 42 pk_9_395 rfl rfl rfl rfl (by decide) dX9_laysSeen_7 (fun H locs i2 ei2 hT hS => ?_)
  have hR2 := Rg_put hR1 ei2 (-2147483648) 2147483647 rfl (rg_k (by decide) : rg (-1) (-1) (-1)) (by decide)
  have hF2 := Fr_puti hF1 ei2 (by decide)
  have hN2 : seenM i2 g a_a := seenM_j hN1 ei2 (by decide)
  refine lv_aload_n hx hb dX9_laysSeen_10 rfl (lv_at hl 0 rfl) ?_
  refine lv_iconst (v := (-1)) hx hb dX9_laysSeen_11 (by decide) ?_
  refine r_puti X hT hS 96 43 pk_9_398 rfl rfl rfl rfl (by decide) dX9_laysSeen_12 (fun H locs i3 ei3 hT hS => ?_)
  have hR3 := Rg_put hR2 ei3 (-2147483648) 2147483647 rfl (rg_k (by decide) : rg (-1) (-1) (-1)) (by decide)
  have hF3 := Fr_puti hF2 ei3 (by decide)
  have hN3 : seenM i3 g a_a := seenM_j hN2 ei3 (by decide)
  refine lv_iconst (v := 0) hx hb dX9_laysSeen_15 (by decide) ?_
  refine lv_istore_n (lv' := [(3, .int 0), (0, .ref (h 96)), (1, .int a_a), (2, .int a_b)]) hx hb dX9_laysSeen_16 rfl hl (by decide) rfl (fun ls hl => ?_)
  have L17_4 : ∀ (n6_ : Nat) (x17_3 : Int32) (i5 : Nat → Nat → Int32) (g5 : Nat → Nat → Int64) (H : Heap) (locs : List Loc) (ls : Array Slot), rg 0 1300 x17_3 → Rg rA i5 → Fr [96, 109, 110, 111, 112, 113, 114, 115, 118] [] i g (i5, g5) → (seenM i5 g5 a_a) → TH D h cz i5 g5 H → va_S (hA h) s.heap H locs → lv_has ls 6 [(0, .ref (h 96)), (1, .int a_a), (2, .int a_b), (3, .int x17_3)] → (1300 - x17_3.toInt).toNat < n6_ → W p l e ({ frames := 5, cells := 0, slots := 0, locals := 112 } : Room) s m args below meth c H locs 0 0 Q (F0 m 17 ls []) := by
    intro n6_
    induction n6_ with
    | zero => intro x17_3 i5 g5 H locs ls hhx17_3 hR5 hF5 hP5_0 hT hS hl hm6_; exact absurd hm6_ (Nat.not_lt_zero _)
    | succ n6_ ih6_ =>
      intro x17_3 i5 g5 H locs ls hhx17_3 hR5 hF5 hP5_0 hT hS hl hm6_
      refine lv_iload_n hx hb dX9_laysSeen_17 rfl (lv_at hl 3 rfl) ?_
      refine lv_sipush (v := 1300) hx hb dX9_laysSeen_18 (by decide) ?_
      refine lv_icmp_ge (tgt := 37) hx hb dX9_laysSeen_21 (by decide) (fun c7 => ?_) (fun c7 => ?_)
      ·
        have q7 : 1300 ≤ x17_3.toInt := i_le c7
        have h8 : rg 1300 1300 x17_3 := t_ley 1300 1300 (rg_k (by decide) : rg 1300 1300 1300) hhx17_3 (i_le c7) (by decide)
        refine lv_iconst (v := 0) hx hb dX9_laysSeen_37 (by decide) ?_
        refine lv_istore_n (lv' := [(3, .int 0), (0, .ref (h 96)), (1, .int a_a), (2, .int a_b)]) hx hb dX9_laysSeen_38 rfl hl (by decide) rfl (fun ls hl => ?_)
        have L39_9 : ∀ (n11_ : Nat) (x39_1_3 : Int32) (i10 : Nat → Nat → Int32) (g10 : Nat → Nat → Int64) (H : Heap) (locs : List Loc) (ls : Array Slot), rg 0 61 x39_1_3 → Rg rA i10 → Fr [96, 109, 110, 111, 112, 113, 114, 115, 118] [] i g (i10, g10) → (seenM i10 g10 a_a) → TH D h cz i10 g10 H → va_S (hA h) s.heap H locs → lv_has ls 6 [(0, .ref (h 96)), (1, .int a_a), (2, .int a_b), (3, .int x39_1_3)] → (61 - x39_1_3.toInt).toNat < n11_ → W p l e ({ frames := 5, cells := 0, slots := 0, locals := 112 } : Room) s m args below meth c H locs 0 0 Q (F0 m 39 ls []) := by
          intro n11_
          induction n11_ with
          | zero => intro x39_1_3 i10 g10 H locs ls hhx39_1_3 hR10 hF10 hP10_0 hT hS hl hm11_; exact absurd hm11_ (Nat.not_lt_zero _)
          | succ n11_ ih11_ =>
            intro x39_1_3 i10 g10 H locs ls hhx39_1_3 hR10 hF10 hP10_0 hT hS hl hm11_
            refine lv_iload_n hx hb dX9_laysSeen_39 rfl (lv_at hl 3 rfl) ?_
            refine lv_bipush (v := 60) hx hb dX9_laysSeen_40 (by decide) ?_
            refine lv_icmp_gt (tgt := 152) hx hb dX9_laysSeen_42 (by decide) (fun c12 => ?_) (fun c12 => ?_)
            ·
              have q12 : 60 < x39_1_3.toInt := i_lt c12
              have h13 : rg 61 61 x39_1_3 := t_lty 61 61 (rg_k (by decide) : rg 60 60 60) hhx39_1_3 (i_lt c12) (by decide)
              refine lv_aload_n hx hb dX9_laysSeen_152 rfl (lv_at hl 0 rfl) ?_
              refine lv_iconst (v := (-1)) hx hb dX9_laysSeen_153 (by decide) ?_
              refine r_puti X hT hS 96 44 pk_9_404 rfl rfl rfl rfl (by decide) dX9_laysSeen_154 (fun H locs i14 ei14 hT hS => ?_)
              have hR14 := Rg_put hR10 ei14 (-2147483648) 2147483647 rfl (rg_k (by decide) : rg (-1) (-1) (-1)) (by decide)
              have hF14 := Fr_puti hF10 ei14 (by decide)
              have hN14 : seenM i14 g10 a_a := seenM_j hP10_0 ei14 (by decide)
              refine lv_aload_n hx hb dX9_laysSeen_157 rfl (lv_at hl 0 rfl) ?_
              refine lv_aload_n hx hb dX9_laysSeen_158 rfl (lv_at hl 0 rfl) ?_
              refine r_geti X hT 96 41 fk_9_392 rfl rfl (by decide) dX9_laysSeen_159 ?_
              refine r_puti X hT hS 96 45 pk_9_407 rfl rfl rfl rfl (by decide) dX9_laysSeen_162 (fun H locs i15 ei15 hT hS => ?_)
              have hR15 := Rg_put hR14 ei15 (-2147483648) 2147483647 rfl (rg_top (i14 96 41)) (by decide)
              have hF15 := Fr_puti hF14 ei15 (by decide)
              have hN15 : seenM i15 g10 a_a := seenM_j hN14 ei15 (by decide)
              refine lv_iconst (v := 0) hx hb dX9_laysSeen_165 (by decide) ?_
              refine lv_istore_n (lv' := [(3, .int 0), (0, .ref (h 96)), (1, .int a_a), (2, .int a_b)]) hx hb dX9_laysSeen_166 rfl hl (by decide) rfl (fun ls hl => ?_)
              have L167_16 : ∀ (n18_ : Nat) (x167_2_3 : Int32) (i17 : Nat → Nat → Int32) (g17 : Nat → Nat → Int64) (H : Heap) (locs : List Loc) (ls : Array Slot), rg 0 13 x167_2_3 → Rg rA i17 → Fr [96, 109, 110, 111, 112, 113, 114, 115, 118] [] i g (i17, g17) → (seenM i17 g17 a_a) → TH D h cz i17 g17 H → va_S (hA h) s.heap H locs → lv_has ls 6 [(0, .ref (h 96)), (3, .int x167_2_3)] → (13 - x167_2_3.toInt).toNat < n18_ → W p l e ({ frames := 5, cells := 0, slots := 0, locals := 112 } : Room) s m args below meth c H locs 0 0 Q (F0 m 167 ls []) := by
                intro n18_
                induction n18_ with
                | zero => intro x167_2_3 i17 g17 H locs ls hhx167_2_3 hR17 hF17 hP17_0 hT hS hl hm18_; exact absurd hm18_ (Nat.not_lt_zero _)
                | succ n18_ ih18_ =>
                  intro x167_2_3 i17 g17 H locs ls hhx167_2_3 hR17 hF17 hP17_0 hT hS hl hm18_
                  refine lv_iload_n hx hb dX9_laysSeen_167 rfl (lv_at hl 1 rfl) ?_
                  refine lv_aload_n hx hb dX9_laysSeen_168 rfl (lv_at hl 0 rfl) ?_
                  refine e_Vi (As := []) (rest := [.int x167_2_3]) X Y hT hS (m_X9_years hR17) mk_X9_years gm_1689 rfl rfl (by decide) hd_X9_years ⟨rfl, rfl⟩ ⟨Nat.le_of_ble_eq_true rfl, Nat.le_of_ble_eq_true rfl⟩ hl.1 rfl (Nat.le_of_ble_eq_true rfl) dX9_laysSeen_169 ⟨Nat.zero_le _, Nat.zero_le _⟩ (fun r19 i19 g19 H locs hq hT hS => ?_)
                  obtain ⟨eh19, hr19⟩ := hq
                  rw [(Prod.mk.inj eh19).1, (Prod.mk.inj eh19).2] at hT
                  refine lv_icmp_gt (tgt := 242) hx hb dX9_laysSeen_172 (by decide) (fun c20 => ?_) (fun c20 => ?_)
                  ·
                    have q20 : r19.toInt < x167_2_3.toInt := i_lt c20
                    have h21 : rg 1 13 x167_2_3 := t_lty 1 13 hr19 hhx167_2_3 (i_lt c20) (by decide)
                    exact hret _ _ _ _ _ _ dX9_laysSeen_242 hT hS ⟨hR17, hF17⟩
                  ·
                    have q20 : x167_2_3.toInt ≤ r19.toInt := i_nlt c20
                    have h22 : rg 0 12 x167_2_3 := t_lex 0 12 hhx167_2_3 hr19 (i_nlt c20) (by decide)
                    refine lv_iconst (v := 0) hx hb dX9_laysSeen_175 (by decide) ?_
                    refine lv_istore (lv' := [(4, .int 0), (0, .ref (h 96)), (3, .int x167_2_3)]) hx hb dX9_laysSeen_176 hl (by decide) rfl (fun ls hl => ?_)
                    refine lv_iconst (v := 0) hx hb dX9_laysSeen_178 (by decide) ?_
                    refine lv_istore (lv' := [(5, .int 0), (4, .int 0), (0, .ref (h 96)), (3, .int x167_2_3)]) hx hb dX9_laysSeen_179 hl (by decide) rfl (fun ls hl => ?_)
                    have L181_23 : ∀ (n24_ : Nat) (x181_3_4 : Int32) (x181_3_5 : Int32) (H : Heap) (locs : List Loc) (ls : Array Slot), rg 0 2147483647 x181_3_4 → rg 0 100 x181_3_5 → TH D h cz i17 g17 H → va_S (hA h) s.heap H locs → lv_has ls 6 [(0, .ref (h 96)), (3, .int x167_2_3), (4, .int x181_3_4), (5, .int x181_3_5)] → (100 - x181_3_5.toInt).toNat < n24_ → W p l e ({ frames := 5, cells := 0, slots := 0, locals := 112 } : Room) s m args below meth c H locs 0 0 Q (F0 m 181 ls []) := by
                      intro n24_
                      induction n24_ with
                      | zero => intro x181_3_4 x181_3_5 H locs ls hhx181_3_4 hhx181_3_5 hT hS hl hm24_; exact absurd hm24_ (Nat.not_lt_zero _)
                      | succ n24_ ih24_ =>
                        intro x181_3_4 x181_3_5 H locs ls hhx181_3_4 hhx181_3_5 hT hS hl hm24_
                        refine lv_iload hx hb dX9_laysSeen_181 (lv_at hl 3 rfl) ?_
                        refine lv_bipush (v := 100) hx hb dX9_laysSeen_183 (by decide) ?_
                        refine lv_icmp_ge (tgt := 213) hx hb dX9_laysSeen_185 (by decide) (fun c25 => ?_) (fun c25 => ?_)
                        ·
                          have q25 : 100 ≤ x181_3_5.toInt := i_le c25
                          have h26 : rg 100 100 x181_3_5 := t_ley 100 100 (rg_k (by decide) : rg 100 100 100) hhx181_3_5 (i_le c25) (by decide)
                          refine lv_iload hx hb dX9_laysSeen_213 (lv_at hl 2 rfl) ?_
                          refine lv_aload_n hx hb dX9_laysSeen_215 rfl (lv_at hl 0 rfl) ?_
                          refine r_geti X hT 96 45 fk_9_407 rfl rfl (by decide) dX9_laysSeen_216 ?_
                          refine lv_icmp_lt (tgt := 225) hx hb dX9_laysSeen_219 (by decide) (fun c27 => ?_) (fun c27 => ?_)
                          ·
                            have q27 : x181_3_4.toInt < (i17 96 45).toInt := i_lt c27
                            have h28 : rg 0 2147483646 x181_3_4 := t_ltx 0 2147483646 hhx181_3_4 (rg_top (i17 96 45)) (i_lt c27) (by decide)
                            have h29 : rg 1 2147483647 (i17 96 45) := t_lty 1 2147483647 hhx181_3_4 (rg_top (i17 96 45)) (i_lt c27) (by decide)
                            refine lv_aload_n hx hb dX9_laysSeen_225 rfl (lv_at hl 0 rfl) ?_
                            refine lv_iload_n hx hb dX9_laysSeen_226 rfl (lv_at hl 1 rfl) ?_
                            refine r_puti X hT hS 96 44 pk_9_404 rfl rfl rfl rfl (by decide) dX9_laysSeen_227 (fun H locs i30 ei30 hT hS => ?_)
                            have hR30 := Rg_put hR17 ei30 (-2147483648) 2147483647 rfl h22 (by decide)
                            have hF30 := Fr_puti hF17 ei30 (by decide)
                            have hN30 : seenM i30 g17 a_a := seenM_j hP17_0 ei30 (by decide)
                            refine lv_aload_n hx hb dX9_laysSeen_230 rfl (lv_at hl 0 rfl) ?_
                            refine lv_iload hx hb dX9_laysSeen_231 (lv_at hl 2 rfl) ?_
                            refine r_puti X hT hS 96 45 pk_9_407 rfl rfl rfl rfl (by decide) dX9_laysSeen_233 (fun H locs i31 ei31 hT hS => ?_)
                            have hR31 := Rg_put hR30 ei31 (-2147483648) 2147483647 rfl h28 (by decide)
                            have hF31 := Fr_puti hF30 ei31 (by decide)
                            have hN31 : seenM i31 g17 a_a := seenM_j hN30 ei31 (by decide)
                            obtain ⟨x32, ex32⟩ : ∃ y : Int32, y = x167_2_3 + 1 := ⟨_, rfl⟩
                            refine lv_iinc (v := x32) (lv' := [(3, .int x32), (0, .ref (h 96)), (4, .int x181_3_4), (5, .int x181_3_5)]) hx hb dX9_laysSeen_236 hl (k := 1) rfl (by rw [ex32]; rfl) (by decide) rfl (fun ls hl => ?_)
                            obtain ⟨hx32, ax32⟩ := rg_add 1 13 ex32 h22 (rg_k (by decide) : rg 1 1 1) (by decide)
                            replace ax32 : x32.toInt = x167_2_3.toInt + 1 := ax32
                            refine lv_goto (tgt := 167) hx hb dX9_laysSeen_239 (by decide) ?_
                            exact ih18_ x32 i31 g17 _ _ _ (rg_w hx32 (by decide) : rg 0 13 x32) hR31 hF31 hN31 hT hS (lv_sub hl [1, 0] rfl) (m_up ax32 hx32 (by decide) hm18_)
                          ·
                            have q27 : (i17 96 45).toInt ≤ x181_3_4.toInt := i_nlt c27
                            refine lv_goto (tgt := 236) hx hb dX9_laysSeen_222 (by decide) ?_
                            obtain ⟨x33, ex33⟩ : ∃ y : Int32, y = x167_2_3 + 1 := ⟨_, rfl⟩
                            refine lv_iinc (v := x33) (lv' := [(3, .int x33), (0, .ref (h 96)), (4, .int x181_3_4), (5, .int x181_3_5)]) hx hb dX9_laysSeen_236 hl (k := 1) rfl (by rw [ex33]; rfl) (by decide) rfl (fun ls hl => ?_)
                            obtain ⟨hx33, ax33⟩ := rg_add 1 13 ex33 h22 (rg_k (by decide) : rg 1 1 1) (by decide)
                            replace ax33 : x33.toInt = x167_2_3.toInt + 1 := ax33
                            refine lv_goto (tgt := 167) hx hb dX9_laysSeen_239 (by decide) ?_
                            exact ih18_ x33 i17 g17 _ _ _ (rg_w hx33 (by decide) : rg 0 13 x33) hR17 hF17 hP17_0 hT hS (lv_sub hl [1, 0] rfl) (m_up ax33 hx33 (by decide) hm18_)
                        ·
                          have q25 : x181_3_5.toInt < 100 := i_nle c25
                          have h34 : rg 0 99 x181_3_5 := t_ltx 0 99 hhx181_3_5 (rg_k (by decide) : rg 100 100 100) (i_nle c25) (by decide)
                          refine lv_iload hx hb dX9_laysSeen_188 (lv_at hl 2 rfl) ?_
                          refine lv_aload_n hx hb dX9_laysSeen_190 rfl (lv_at hl 0 rfl) ?_
                          refine r_getr X hT 96 46 118 fk_9_80 rfl rfl (by decide) dX9_laysSeen_191 ?_
                          refine lv_bipush (v := 100) hx hb dX9_laysSeen_194 (by decide) ?_
                          refine lv_iload_n hx hb dX9_laysSeen_196 rfl (lv_at hl 1 rfl) ?_
                          refine q_imul hx hb dX9_laysSeen_197 (fun x35 ex35 => ?_)
                          obtain ⟨hx35, ax35⟩ := rg_mul 0 1200 ex35 (rg_k (by decide) : rg 100 100 100) h22 (by decide)
                          replace ax35 : x35.toInt = 100 * x167_2_3.toInt := ax35
                          refine lv_iload hx hb dX9_laysSeen_198 (lv_at hl 3 rfl) ?_
                          refine q_iadd hx hb dX9_laysSeen_200 (fun x36 ex36 => ?_)
                          obtain ⟨hx36, ax36⟩ := rg_add 0 1299 ex36 hx35 h34 (by decide)
                          replace ax36 : x36.toInt = x35.toInt + x181_3_5.toInt := ax36
                          refine r_iald X hT 118 rfl (by decide) (v_in hx36 (by decide)) dX9_laysSeen_201 ?_
                          refine e_Si (As := [.int x181_3_4, .int (i17 118 x36.toNatClampNeg)]) (rest := []) X Y hT hS (m_X9_moreOf_0t2147483647_f x181_3_4 (i17 118 x36.toNatClampNeg) hhx181_3_4) sk_X9_moreOf gm_1709 hd_X9_moreOf ⟨rfl, rfl⟩ ⟨Nat.le_of_ble_eq_true rfl, Nat.le_of_ble_eq_true rfl⟩ hl.1 rfl (Nat.le_of_ble_eq_true rfl) dX9_laysSeen_202 ⟨Nat.zero_le _, Nat.zero_le _⟩ (fun r37 i37 g37 H locs hq hT hS => ?_)
                          obtain ⟨eh37, hr37⟩ := hq
                          rw [(Prod.mk.inj eh37).1, (Prod.mk.inj eh37).2] at hT
                          refine lv_istore (lv' := [(4, .int r37), (0, .ref (h 96)), (3, .int x167_2_3), (5, .int x181_3_5)]) hx hb dX9_laysSeen_205 hl (by decide) rfl (fun ls hl => ?_)
                          obtain ⟨x38, ex38⟩ : ∃ y : Int32, y = x181_3_5 + 1 := ⟨_, rfl⟩
                          refine lv_iinc (v := x38) (lv' := [(5, .int x38), (4, .int r37), (0, .ref (h 96)), (3, .int x167_2_3)]) hx hb dX9_laysSeen_207 hl (k := 3) rfl (by rw [ex38]; rfl) (by decide) rfl (fun ls hl => ?_)
                          obtain ⟨hx38, ax38⟩ := rg_add 1 100 ex38 h34 (rg_k (by decide) : rg 1 1 1) (by decide)
                          replace ax38 : x38.toInt = x181_3_5.toInt + 1 := ax38
                          refine lv_goto (tgt := 181) hx hb dX9_laysSeen_210 (by decide) ?_
                          exact ih24_ r37 x38 _ _ _ hr37 (rg_w hx38 (by decide) : rg 0 100 x38) hT hS (lv_sub hl [2, 3, 1, 0] rfl) (m_up ax38 hx38 (by decide) hm24_)
                    exact L181_23 _ (0) (0) _ _ _ (rg_w (rg_k (by decide) : rg 0 0 0) (by decide) : rg 0 2147483647 0) (rg_w (rg_k (by decide) : rg 0 0 0) (by decide) : rg 0 100 0) hT hS (lv_sub hl [2, 3, 1, 0] rfl) (Nat.lt_succ_self _)
              exact L167_16 _ (0) i15 g10 _ _ _ (rg_w (rg_k (by decide) : rg 0 0 0) (by decide) : rg 0 13 0) hR15 hF15 hN15 hT hS (lv_sub hl [1, 0] rfl) (Nat.lt_succ_self _)
            ·
              have q12 : x39_1_3.toInt ≤ 60 := i_nlt c12
              have h39 : rg 0 60 x39_1_3 := t_lex 0 60 hhx39_1_3 (rg_k (by decide) : rg 60 60 60) (i_nlt c12) (by decide)
              refine lv_aload_n hx hb dX9_laysSeen_45 rfl (lv_at hl 0 rfl) ?_
              refine e_Vv (As := []) (rest := []) X Y hT hS (m_X9_lays hR10) mk_X9_lays gm_1658 rfl rfl (by decide) hd_X9_lays ⟨rfl, rfl⟩ ⟨Nat.le_of_ble_eq_true rfl, Nat.le_of_ble_eq_true rfl⟩ hl.1 rfl (Nat.le_of_ble_eq_true rfl) dX9_laysSeen_46 ⟨Nat.zero_le _, Nat.zero_le _⟩ (fun i40 g40 H locs hq hT hS => ?_)
              obtain ⟨hR40, hf40⟩ := hq
              have hF40 := Fr_tr hF10 hf40 (by decide)
              have hN40 : seenM i40 g40 a_a := seenM_f hP10_0 hf40 (by decide) (by decide)
              refine lv_aload_n hx hb dX9_laysSeen_49 rfl (lv_at hl 0 rfl) ?_
              refine r_getr X hT 96 28 109 fk_9_53 rfl rfl (by decide) dX9_laysSeen_50 ?_
              refine lv_iload_n hx hb dX9_laysSeen_53 rfl (lv_at hl 2 rfl) ?_
              refine lv_iload_n hx hb dX9_laysSeen_54 rfl (lv_at hl 3 rfl) ?_
              refine r_iast X hT hS 109 rfl (by decide) (v_in ha_b (by decide)) dX9_laysSeen_55 (fun H locs i41 ei41 hT hS => ?_)
              have hR41 := Rg_put hR40 ei41 0 60 rfl h39 (by decide)
              have hF41 := Fr_puti hF40 ei41 (by decide)
              have hN41 : seenM i41 g40 a_a := seenM_j hN40 ei41 (by decide)
              refine lv_aload_n hx hb dX9_laysSeen_56 rfl (lv_at hl 0 rfl) ?_
              refine e_Vv (As := []) (rest := []) X Y hT hS (m_X9_runs hR41) mk_X9_runs gm_1697 rfl rfl (by decide) hd_X9_runs ⟨rfl, rfl⟩ ⟨Nat.le_of_ble_eq_true rfl, Nat.le_of_ble_eq_true rfl⟩ hl.1 rfl (Nat.le_of_ble_eq_true rfl) dX9_laysSeen_57 ⟨Nat.zero_le _, Nat.zero_le _⟩ (fun i42 g42 H locs hq hT hS => ?_)
              obtain ⟨hR42, hf42⟩ := hq
              have hF42 := Fr_tr hF41 hf42 (by decide)
              have hN42 : seenM i42 g42 a_a := seenM_f hN41 hf42 (by decide) (by decide)
              refine lv_aload_n hx hb dX9_laysSeen_60 rfl (lv_at hl 0 rfl) ?_
              refine lv_iload_n hx hb dX9_laysSeen_61 rfl (lv_at hl 1 rfl) ?_
              refine e_Vi (As := [.int a_a]) (rest := []) X Y hT hS (m_X9_isSo hR42 a_a ha_a hN42) mk_X9_isSo gm_1956 rfl rfl (by decide) hd_X9_isSo ⟨rfl, rfl⟩ ⟨Nat.le_of_ble_eq_true rfl, Nat.le_of_ble_eq_true rfl⟩ hl.1 rfl (Nat.le_of_ble_eq_true rfl) dX9_laysSeen_62 ⟨Nat.zero_le _, Nat.zero_le _⟩ (fun r43 i43 g43 H locs hq hT hS => ?_)
              obtain ⟨eh43, hr43⟩ := hq
              rw [(Prod.mk.inj eh43).1, (Prod.mk.inj eh43).2] at hT
              refine lv_if_ne (tgt := 71) hx hb dX9_laysSeen_65 (by decide) (fun c44 => ?_) (fun c44 => ?_)
              ·
                have q44 : ¬ r43.toInt = 0 := i_ne c44
                have h45 : rg 1 1 r43 := t_nelo 1 hr43 (rg_k (by decide) : rg 0 0 0) (i_ne c44) (by decide)
                refine lv_aload_n hx hb dX9_laysSeen_71 rfl (lv_at hl 0 rfl) ?_
                refine lv_dup hx hb dX9_laysSeen_72 rfl ?_
                refine r_geti X hT 96 41 fk_9_392 rfl rfl (by decide) dX9_laysSeen_73 ?_
                refine lv_iconst (v := 1) hx hb dX9_laysSeen_76 (by decide) ?_
                refine q_iadd hx hb dX9_laysSeen_77 (fun x46 ex46 => ?_)
                refine r_puti X hT hS 96 41 pk_9_392 rfl rfl rfl rfl (by decide) dX9_laysSeen_78 (fun H locs i47 ei47 hT hS => ?_)
                have hR47 := Rg_put hR42 ei47 (-2147483648) 2147483647 rfl (rg_top x46) (by decide)
                have hF47 := Fr_puti hF42 ei47 (by decide)
                have hN47 : seenM i47 g42 a_a := seenM_j hN42 ei47 (by decide)
                refine lv_aload_n hx hb dX9_laysSeen_81 rfl (lv_at hl 0 rfl) ?_
                refine lv_aload_n hx hb dX9_laysSeen_82 rfl (lv_at hl 0 rfl) ?_
                refine r_geti X hT 96 42 fk_9_395 rfl rfl (by decide) dX9_laysSeen_83 ?_
                refine lv_iconst (v := (-1)) hx hb dX9_laysSeen_86 (by decide) ?_
                have J98_49 : ∀ (x98_49_s0 : Int32) (H : Heap) (locs : List Loc) (ls : Array Slot), TH D h cz i47 g42 H → va_S (hA h) s.heap H locs → lv_has ls 6 [(0, .ref (h 96)), (1, .int a_a), (2, .int a_b), (3, .int x39_1_3)] → W p l e ({ frames := 5, cells := 0, slots := 0, locals := 112 } : Room) s m args below meth c H locs 0 0 Q (F0 m 98 ls [.int x98_49_s0, .ref (h 96)]) := by
                  intro x98_49_s0 H locs ls hT hS hl
                  refine r_puti X hT hS 96 42 pk_9_395 rfl rfl rfl rfl (by decide) dX9_laysSeen_98 (fun H locs i50 ei50 hT hS => ?_)
                  have hR50 := Rg_put hR47 ei50 (-2147483648) 2147483647 rfl (rg_top x98_49_s0) (by decide)
                  have hF50 := Fr_puti hF47 ei50 (by decide)
                  have hN50 : seenM i50 g42 a_a := seenM_j hN47 ei50 (by decide)
                  refine lv_aload_n hx hb dX9_laysSeen_101 rfl (lv_at hl 0 rfl) ?_
                  refine lv_iload_n hx hb dX9_laysSeen_102 rfl (lv_at hl 3 rfl) ?_
                  refine r_puti X hT hS 96 43 pk_9_398 rfl rfl rfl rfl (by decide) dX9_laysSeen_103 (fun H locs i51 ei51 hT hS => ?_)
                  have hR51 := Rg_put hR50 ei51 (-2147483648) 2147483647 rfl h39 (by decide)
                  have hF51 := Fr_puti hF50 ei51 (by decide)
                  have hN51 : seenM i51 g42 a_a := seenM_j hN50 ei51 (by decide)
                  refine lv_iconst (v := 0) hx hb dX9_laysSeen_106 (by decide) ?_
                  refine lv_istore (lv' := [(4, .int 0), (0, .ref (h 96)), (1, .int a_a), (2, .int a_b), (3, .int x39_1_3)]) hx hb dX9_laysSeen_107 hl (by decide) rfl (fun ls hl => ?_)
                  have L109_52 : ∀ (n54_ : Nat) (x109_2_4 : Int32) (i53 : Nat → Nat → Int32) (g53 : Nat → Nat → Int64) (H : Heap) (locs : List Loc) (ls : Array Slot), rg 0 13 x109_2_4 → Rg rA i53 → Fr [96, 109, 110, 111, 112, 113, 114, 115, 118] [] i g (i53, g53) → (seenM i53 g53 a_a) → TH D h cz i53 g53 H → va_S (hA h) s.heap H locs → lv_has ls 6 [(0, .ref (h 96)), (1, .int a_a), (2, .int a_b), (3, .int x39_1_3), (4, .int x109_2_4)] → (13 - x109_2_4.toInt).toNat < n54_ → W p l e ({ frames := 5, cells := 0, slots := 0, locals := 112 } : Room) s m args below meth c H locs 0 0 Q (F0 m 109 ls []) := by
                    intro n54_
                    induction n54_ with
                    | zero => intro x109_2_4 i53 g53 H locs ls hhx109_2_4 hR53 hF53 hP53_0 hT hS hl hm54_; exact absurd hm54_ (Nat.not_lt_zero _)
                    | succ n54_ ih54_ =>
                      intro x109_2_4 i53 g53 H locs ls hhx109_2_4 hR53 hF53 hP53_0 hT hS hl hm54_
                      refine lv_iload hx hb dX9_laysSeen_109 (lv_at hl 4 rfl) ?_
                      refine lv_aload_n hx hb dX9_laysSeen_111 rfl (lv_at hl 0 rfl) ?_
                      refine e_Vi (As := []) (rest := [.int x109_2_4]) X Y hT hS (m_X9_years hR53) mk_X9_years gm_1689 rfl rfl (by decide) hd_X9_years ⟨rfl, rfl⟩ ⟨Nat.le_of_ble_eq_true rfl, Nat.le_of_ble_eq_true rfl⟩ hl.1 rfl (Nat.le_of_ble_eq_true rfl) dX9_laysSeen_112 ⟨Nat.zero_le _, Nat.zero_le _⟩ (fun r55 i55 g55 H locs hq hT hS => ?_)
                      obtain ⟨eh55, hr55⟩ := hq
                      rw [(Prod.mk.inj eh55).1, (Prod.mk.inj eh55).2] at hT
                      refine lv_icmp_gt (tgt := 146) hx hb dX9_laysSeen_115 (by decide) (fun c56 => ?_) (fun c56 => ?_)
                      ·
                        have q56 : r55.toInt < x109_2_4.toInt := i_lt c56
                        have h57 : rg 1 13 x109_2_4 := t_lty 1 13 hr55 hhx109_2_4 (i_lt c56) (by decide)
                        obtain ⟨x58, ex58⟩ : ∃ y : Int32, y = x39_1_3 + 1 := ⟨_, rfl⟩
                        refine lv_iinc (v := x58) (lv' := [(3, .int x58), (0, .ref (h 96)), (1, .int a_a), (2, .int a_b), (4, .int x109_2_4)]) hx hb dX9_laysSeen_146 hl (k := 3) rfl (by rw [ex58]; rfl) (by decide) rfl (fun ls hl => ?_)
                        obtain ⟨hx58, ax58⟩ := rg_add 1 61 ex58 h39 (rg_k (by decide) : rg 1 1 1) (by decide)
                        replace ax58 : x58.toInt = x39_1_3.toInt + 1 := ax58
                        refine lv_goto (tgt := 39) hx hb dX9_laysSeen_149 (by decide) ?_
                        exact ih11_ x58 i53 g53 _ _ _ (rg_w hx58 (by decide) : rg 0 61 x58) hR53 hF53 hP53_0 hT hS (lv_sub hl [1, 2, 3, 0] rfl) (m_up ax58 hx58 (by decide) hm11_)
                      ·
                        have q56 : x109_2_4.toInt ≤ r55.toInt := i_nlt c56
                        have h59 : rg 0 12 x109_2_4 := t_lex 0 12 hhx109_2_4 hr55 (i_nlt c56) (by decide)
                        refine lv_aload_n hx hb dX9_laysSeen_118 rfl (lv_at hl 0 rfl) ?_
                        refine r_getr X hT 96 46 118 fk_9_80 rfl rfl (by decide) dX9_laysSeen_119 ?_
                        refine lv_bipush (v := 100) hx hb dX9_laysSeen_122 (by decide) ?_
                        refine lv_iload hx hb dX9_laysSeen_124 (lv_at hl 4 rfl) ?_
                        refine q_imul hx hb dX9_laysSeen_126 (fun x60 ex60 => ?_)
                        obtain ⟨hx60, ax60⟩ := rg_mul 0 1200 ex60 (rg_k (by decide) : rg 100 100 100) h59 (by decide)
                        replace ax60 : x60.toInt = 100 * x109_2_4.toInt := ax60
                        refine lv_aload_n hx hb dX9_laysSeen_127 rfl (lv_at hl 0 rfl) ?_
                        refine lv_iload_n hx hb dX9_laysSeen_128 rfl (lv_at hl 2 rfl) ?_
                        refine lv_iload hx hb dX9_laysSeen_129 (lv_at hl 4 rfl) ?_
                        refine e_Vi (As := [.int a_b, .int x109_2_4]) (rest := [.int x60, .ref (h 118)]) X Y hT hS (m_X9_stiffAt hR53 a_b x109_2_4 ha_b h59) mk_X9_stiffAt gm_1701 rfl rfl (by decide) hd_X9_stiffAt ⟨rfl, rfl⟩ ⟨Nat.le_of_ble_eq_true rfl, Nat.le_of_ble_eq_true rfl⟩ hl.1 rfl (Nat.le_of_ble_eq_true rfl) dX9_laysSeen_131 ⟨Nat.zero_le _, Nat.zero_le _⟩ (fun r61 i61 g61 H locs hq hT hS => ?_)
                        obtain ⟨eh61, hr61⟩ := hq
                        rw [(Prod.mk.inj eh61).1, (Prod.mk.inj eh61).2] at hT
                        refine q_iadd hx hb dX9_laysSeen_134 (fun x62 ex62 => ?_)
                        obtain ⟨hx62, ax62⟩ := rg_add 0 1299 ex62 hx60 hr61 (by decide)
                        replace ax62 : x62.toInt = x60.toInt + r61.toInt := ax62
                        refine lv_dup2_11 hx hb dX9_laysSeen_135 rfl rfl ?_
                        refine r_iald X hT 118 rfl (by decide) (v_in hx62 (by decide)) dX9_laysSeen_136 ?_
                        refine lv_iconst (v := 1) hx hb dX9_laysSeen_137 (by decide) ?_
                        refine q_iadd hx hb dX9_laysSeen_138 (fun x63 ex63 => ?_)
                        refine r_iast X hT hS 118 rfl (by decide) (v_in hx62 (by decide)) dX9_laysSeen_139 (fun H locs i64 ei64 hT hS => ?_)
                        have hR64 := Rg_put hR53 ei64 (-2147483648) 2147483647 rfl (rg_top x63) (by decide)
                        have hF64 := Fr_puti hF53 ei64 (by decide)
                        have hN64 : seenM i64 g53 a_a := seenM_j hP53_0 ei64 (by decide)
                        obtain ⟨x65, ex65⟩ : ∃ y : Int32, y = x109_2_4 + 1 := ⟨_, rfl⟩
                        refine lv_iinc (v := x65) (lv' := [(4, .int x65), (0, .ref (h 96)), (1, .int a_a), (2, .int a_b), (3, .int x39_1_3)]) hx hb dX9_laysSeen_140 hl (k := 4) rfl (by rw [ex65]; rfl) (by decide) rfl (fun ls hl => ?_)
                        obtain ⟨hx65, ax65⟩ := rg_add 1 13 ex65 h59 (rg_k (by decide) : rg 1 1 1) (by decide)
                        replace ax65 : x65.toInt = x109_2_4.toInt + 1 := ax65
                        refine lv_goto (tgt := 109) hx hb dX9_laysSeen_143 (by decide) ?_
                        exact ih54_ x65 i64 g53 _ _ _ (rg_w hx65 (by decide) : rg 0 13 x65) hR64 hF64 hN64 hT hS (lv_sub hl [1, 2, 3, 4, 0] rfl) (m_up ax65 hx65 (by decide) hm54_)
                  exact L109_52 _ (0) i51 g42 _ _ _ (rg_w (rg_k (by decide) : rg 0 0 0) (by decide) : rg 0 13 0) hR51 hF51 hN51 hT hS (lv_sub hl [1, 2, 3, 4, 0] rfl) (Nat.lt_succ_self _)
                refine lv_icmp_ne (tgt := 94) hx hb dX9_laysSeen_87 (by decide) (fun c48 => ?_) (fun c48 => ?_)
                ·
                  have q48 : ¬ (i47 96 42).toInt = (-1) := i_ne c48
                  refine lv_aload_n hx hb dX9_laysSeen_94 rfl (lv_at hl 0 rfl) ?_
                  refine r_geti X hT 96 42 fk_9_395 rfl rfl (by decide) dX9_laysSeen_95 ?_
                  exact J98_49 (i47 96 42) _ _ _ hT hS (lv_sub hl [0, 1, 2, 3] rfl)
                ·
                  have q48 : (i47 96 42).toInt = (-1) := i_eq c48
                  have h66 : rg (-1) (-1) (i47 96 42) := t_eqx (-1) (-1) (rg_top (i47 96 42)) (rg_k (by decide) : rg (-1) (-1) (-1)) (i_eq c48) (by decide)
                  refine lv_iload_n hx hb dX9_laysSeen_90 rfl (lv_at hl 3 rfl) ?_
                  refine lv_goto (tgt := 98) hx hb dX9_laysSeen_91 (by decide) ?_
                  exact J98_49 x39_1_3 _ _ _ hT hS (lv_sub hl [0, 1, 2, 3] rfl)
              ·
                have q44 : r43.toInt = 0 := i_eq c44
                have h67 : rg 0 0 r43 := t_eqx 0 0 hr43 (rg_k (by decide) : rg 0 0 0) (i_eq c44) (by decide)
                refine lv_goto (tgt := 146) hx hb dX9_laysSeen_68 (by decide) ?_
                obtain ⟨x68, ex68⟩ : ∃ y : Int32, y = x39_1_3 + 1 := ⟨_, rfl⟩
                refine lv_iinc (v := x68) (lv' := [(3, .int x68), (0, .ref (h 96)), (1, .int a_a), (2, .int a_b)]) hx hb dX9_laysSeen_146 hl (k := 3) rfl (by rw [ex68]; rfl) (by decide) rfl (fun ls hl => ?_)
                obtain ⟨hx68, ax68⟩ := rg_add 1 61 ex68 h39 (rg_k (by decide) : rg 1 1 1) (by decide)
                replace ax68 : x68.toInt = x39_1_3.toInt + 1 := ax68
                refine lv_goto (tgt := 39) hx hb dX9_laysSeen_149 (by decide) ?_
                exact ih11_ x68 i42 g42 _ _ _ (rg_w hx68 (by decide) : rg 0 61 x68) hR42 hF42 hN42 hT hS (lv_sub hl [1, 2, 3, 0] rfl) (m_up ax68 hx68 (by decide) hm11_)
        exact L39_9 _ (0) i5 g5 _ _ _ (rg_w (rg_k (by decide) : rg 0 0 0) (by decide) : rg 0 61 0) hR5 hF5 hP5_0 hT hS (lv_sub hl [1, 2, 3, 0] rfl) (Nat.lt_succ_self _)
      ·
        have q7 : x17_3.toInt < 1300 := i_nle c7
        have h69 : rg 0 1299 x17_3 := t_ltx 0 1299 hhx17_3 (rg_k (by decide) : rg 1300 1300 1300) (i_nle c7) (by decide)
        refine lv_aload_n hx hb dX9_laysSeen_24 rfl (lv_at hl 0 rfl) ?_
        refine r_getr X hT 96 46 118 fk_9_80 rfl rfl (by decide) dX9_laysSeen_25 ?_
        refine lv_iload_n hx hb dX9_laysSeen_28 rfl (lv_at hl 3 rfl) ?_
        refine lv_iconst (v := 0) hx hb dX9_laysSeen_29 (by decide) ?_
        refine r_iast X hT hS 118 rfl (by decide) (v_in h69 (by decide)) dX9_laysSeen_30 (fun H locs i70 ei70 hT hS => ?_)
        have hR70 := Rg_put hR5 ei70 (-2147483648) 2147483647 rfl (rg_k (by decide) : rg 0 0 0) (by decide)
        have hF70 := Fr_puti hF5 ei70 (by decide)
        have hN70 : seenM i70 g5 a_a := seenM_j hP5_0 ei70 (by decide)
        obtain ⟨x71, ex71⟩ : ∃ y : Int32, y = x17_3 + 1 := ⟨_, rfl⟩
        refine lv_iinc (v := x71) (lv' := [(3, .int x71), (0, .ref (h 96)), (1, .int a_a), (2, .int a_b)]) hx hb dX9_laysSeen_31 hl (k := 3) rfl (by rw [ex71]; rfl) (by decide) rfl (fun ls hl => ?_)
        obtain ⟨hx71, ax71⟩ := rg_add 1 1300 ex71 h69 (rg_k (by decide) : rg 1 1 1) (by decide)
        replace ax71 : x71.toInt = x17_3.toInt + 1 := ax71
        refine lv_goto (tgt := 17) hx hb dX9_laysSeen_34 (by decide) ?_
        exact ih6_ x71 i70 g5 _ _ _ (rg_w hx71 (by decide) : rg 0 1300 x71) hR70 hF70 hN70 hT hS (lv_sub hl [1, 2, 3, 0] rfl) (m_up ax71 hx71 (by decide) hm6_)
  exact L17_4 _ (0) i3 g _ _ _ (rg_w (rg_k (by decide) : rg 0 0 0) (by decide) : rg 0 1300 0) hR3 hF3 hN3 hT hS (lv_sub hl [1, 2, 3, 0] rfl) (Nat.lt_succ_self _)
set_option maxRecDepth 100000 in
set_option maxHeartbeats 4000000 in
theorem m_X9_stiffs {l : Launch} {D : va_G} {h : Nat → Nat} {cz : Nat → ClassId} {z : EZ} {i : Nat → Nat → Int32} {g : Nat → Nat → Int64} (hR : Rg rA i) (a_a : Int32) (a_b : Int32) : DtI l yX9_stiffs cX9_stiffs 4 (some .int) ({ frames := 6, cells := 0, slots := 0, locals := 137 } : Room) D h cz z i g [.ref (h 96), .int a_a, .int a_b] (fun r u => Rg rA u.1 ∧ Fr [96, 109, 110, 111, 112, 113, 114, 115, 118] [] i g u) := by
  refine e_I pn_X9_stiffs (Nat.le_of_ble_eq_true rfl) ?_
  intro p e s m args below meth c ls Q X Y hret hT hl hS
  have hx := X.1
  have hb := X.2.1
  have hl : lv_has ls 4 [(0, .ref (h 96)), (1, .int a_a), (2, .int a_b)] := hl
  have hF : Fr [96, 109, 110, 111, 112, 113, 114, 115, 118] [] i g (i, g) := Fr_rf _ _ _ _
  refine lv_aload_n hx hb dX9_stiffs_0 rfl (lv_at hl 0 rfl) ?_
  refine lv_iconst (v := 0) hx hb dX9_stiffs_1 (by decide) ?_
  refine r_puti X hT hS 96 0 pk_9_83 rfl rfl rfl rfl (by decide) dX9_stiffs_2 (fun H locs i1 ei1 hT hS => ?_)
  have hR1 := Rg_put hR ei1 (-2147483648) 2147483647 rfl (rg_k (by decide) : rg 0 0 0) (by decide)
  have hF1 := Fr_puti hF ei1 (by decide)
  refine lv_aload_n hx hb dX9_stiffs_5 rfl (lv_at hl 0 rfl) ?_
  refine lv_iload_n hx hb dX9_stiffs_6 rfl (lv_at hl 1 rfl) ?_
  refine lv_aload_n hx hb dX9_stiffs_7 rfl (lv_at hl 0 rfl) ?_
  refine lv_iload_n hx hb dX9_stiffs_8 rfl (lv_at hl 2 rfl) ?_
  refine q_i2l hx hb dX9_stiffs_9 (fun y2 ey2 => ?_)
  obtain ⟨hy2, ay2⟩ := rg_i2l ey2 (rg_top a_b)
  refine e_Vi (As := [.long y2]) (rest := [.int a_a, .ref (h 96)]) X Y hT hS (m_X9_isPart hR1 y2) mk_X9_isPart gm_1645 rfl rfl (by decide) hd_X9_isPart ⟨rfl, rfl⟩ ⟨Nat.le_of_ble_eq_true rfl, Nat.le_of_ble_eq_true rfl⟩ hl.1 rfl (Nat.le_of_ble_eq_true rfl) dX9_stiffs_10 ⟨Nat.zero_le _, Nat.zero_le _⟩ (fun r3 i3 g3 H locs hq hT hS => ?_)
  rcases hq with hq | hq
  ·
    obtain ⟨eh3, rfl, hf3_0⟩ := hq
    rw [(Prod.mk.inj eh3).1, (Prod.mk.inj eh3).2] at hT
    have h4 : rgL 0 5 y2 := ⟨by have := hy2.1; have := hf3_0.1; omega, by have := hy2.2; have := hf3_0.2; omega⟩
    have h5 : rg 0 5 a_b := ⟨by have := h4.1; have := (rg_top a_b).1; have := ay2; omega, by have := h4.2; have := (rg_top a_b).2; have := ay2; omega⟩
    refine e_Vi (As := [.int a_a, .int 1]) (rest := []) X Y hT hS (m_X9_whyNot hR1 a_a (1) (rg_w (rg_k (by decide) : rg 1 1 1) (by decide) : rg 0 1 1)) mk_X9_whyNot gm_1947 rfl rfl (by decide) hd_X9_whyNot ⟨rfl, rfl⟩ ⟨Nat.le_of_ble_eq_true rfl, Nat.le_of_ble_eq_true rfl⟩ hl.1 rfl (Nat.le_of_ble_eq_true rfl) dX9_stiffs_13 ⟨Nat.zero_le _, Nat.zero_le _⟩ (fun r6 i6 g6 H locs hq hT hS => ?_)
    rcases hq with hq | hq
    ·
      obtain ⟨eh6, rfl, hp6_0, hf6_0, hf6_1⟩ := hq
      rw [(Prod.mk.inj eh6).1, (Prod.mk.inj eh6).2] at hT
      replace hp6_0 : seenM i1 g a_a := by rw [eh6] at hp6_0; exact hp6_0
      have h7 : rg 0 3 a_a := ⟨by have := (rg_top a_a).1; have := hf6_0.1; omega, by have := (rg_top a_a).2; have := hf6_0.2; omega⟩
      refine lv_istore_n (lv' := [(3, .int 0), (0, .ref (h 96)), (1, .int a_a), (2, .int a_b)]) hx hb dX9_stiffs_16 rfl hl (by decide) rfl (fun ls hl => ?_)
      refine lv_iload_n hx hb dX9_stiffs_17 rfl (lv_at hl 0 rfl) ?_
      refine lv_if_eq (tgt := 23) hx hb dX9_stiffs_18 (by decide) (fun c8 => ?_) (fun c8 => (x_ne (rg_k (by decide) : rg 0 0 0) (rg_k (by decide) : rg 0 0 0) (i_ne c8) (by decide)).elim)
      refine lv_aload_n hx hb dX9_stiffs_23 rfl (lv_at hl 1 rfl) ?_
      refine lv_iload_n hx hb dX9_stiffs_24 rfl (lv_at hl 2 rfl) ?_
      refine lv_iload_n hx hb dX9_stiffs_25 rfl (lv_at hl 3 rfl) ?_
      refine e_Vv (As := [.int a_a, .int a_b]) (rest := []) X Y hT hS (m_X9_laysSeen hR1 a_a a_b h7 h5 hp6_0) mk_X9_laysSeen gm_1952 rfl rfl (by decide) hd_X9_laysSeen ⟨rfl, rfl⟩ ⟨Nat.le_of_ble_eq_true rfl, Nat.le_of_ble_eq_true rfl⟩ hl.1 rfl (Nat.le_of_ble_eq_true rfl) dX9_stiffs_26 ⟨Nat.zero_le _, Nat.zero_le _⟩ (fun i9 g9 H locs hq hT hS => ?_)
      obtain ⟨hR9, hf9⟩ := hq
      have hF9 := Fr_tr hF1 hf9 (by decide)
      have hN9 : seenM i9 g9 a_a := seenM_f hp6_0 hf9 (by decide) (by decide)
      refine lv_aload_n hx hb dX9_stiffs_29 rfl (lv_at hl 1 rfl) ?_
      refine r_geti X hT 96 41 fk_9_392 rfl rfl (by decide) dX9_stiffs_30 ?_
      exact hret (i9 96 41) _ _ _ _ _ _ dX9_stiffs_33 hT hS ⟨hR9, hF9⟩
    ·
      obtain ⟨eh6, hr6⟩ := hq
      rw [(Prod.mk.inj eh6).1, (Prod.mk.inj eh6).2] at hT
      refine lv_istore_n (lv' := [(3, .int r6), (0, .ref (h 96)), (1, .int a_a), (2, .int a_b)]) hx hb dX9_stiffs_16 rfl hl (by decide) rfl (fun ls hl => ?_)
      refine lv_iload_n hx hb dX9_stiffs_17 rfl (lv_at hl 0 rfl) ?_
      refine lv_if_eq (tgt := 23) hx hb dX9_stiffs_18 (by decide) (fun c10 => (x_eq hr6 (rg_k (by decide) : rg 0 0 0) (i_eq c10) (by decide)).elim) (fun c10 => ?_)
      have q10 : ¬ r6.toInt = 0 := i_ne c10
      refine lv_iload_n hx hb dX9_stiffs_21 rfl (lv_at hl 0 rfl) ?_
      exact hret r6 _ _ _ _ _ _ dX9_stiffs_22 hT hS ⟨hR1, hF1⟩
  ·
    obtain ⟨eh3, rfl⟩ := hq
    rw [(Prod.mk.inj eh3).1, (Prod.mk.inj eh3).2] at hT
    refine e_Vi (As := [.int a_a, .int 0]) (rest := []) X Y hT hS (m_X9_whyNot hR1 a_a (0) (rg_w (rg_k (by decide) : rg 0 0 0) (by decide) : rg 0 1 0)) mk_X9_whyNot gm_1947 rfl rfl (by decide) hd_X9_whyNot ⟨rfl, rfl⟩ ⟨Nat.le_of_ble_eq_true rfl, Nat.le_of_ble_eq_true rfl⟩ hl.1 rfl (Nat.le_of_ble_eq_true rfl) dX9_stiffs_13 ⟨Nat.zero_le _, Nat.zero_le _⟩ (fun r11 i11 g11 H locs hq hT hS => ?_)
    rcases hq with hq | hq
    ·
      obtain ⟨eh11, rfl, hp11_0, hf11_0, hf11_1⟩ := hq
      rw [(Prod.mk.inj eh11).1, (Prod.mk.inj eh11).2] at hT
      replace hp11_0 : seenM i1 g a_a := by rw [eh11] at hp11_0; exact hp11_0
      have h12 : rg 0 3 a_a := ⟨by have := (rg_top a_a).1; have := hf11_0.1; omega, by have := (rg_top a_a).2; have := hf11_0.2; omega⟩
      exact (x_eq (rg_k (by decide) : rg 0 0 0) hf11_1 rfl (by decide)).elim
    ·
      obtain ⟨eh11, hr11⟩ := hq
      rw [(Prod.mk.inj eh11).1, (Prod.mk.inj eh11).2] at hT
      refine lv_istore_n (lv' := [(3, .int r11), (0, .ref (h 96)), (1, .int a_a), (2, .int a_b)]) hx hb dX9_stiffs_16 rfl hl (by decide) rfl (fun ls hl => ?_)
      refine lv_iload_n hx hb dX9_stiffs_17 rfl (lv_at hl 0 rfl) ?_
      refine lv_if_eq (tgt := 23) hx hb dX9_stiffs_18 (by decide) (fun c13 => (x_eq hr11 (rg_k (by decide) : rg 0 0 0) (i_eq c13) (by decide)).elim) (fun c13 => ?_)
      have q13 : ¬ r11.toInt = 0 := i_ne c13
      refine lv_iload_n hx hb dX9_stiffs_21 rfl (lv_at hl 0 rfl) ?_
      exact hret r11 _ _ _ _ _ _ dX9_stiffs_22 hT hS ⟨hR1, hF1⟩
set_option maxRecDepth 100000 in
set_option maxHeartbeats 4000000 in
theorem m_X9_low {l : Launch} {D : va_G} {h : Nat → Nat} {cz : Nat → ClassId} {z : EZ} {i : Nat → Nat → Int32} {g : Nat → Nat → Int64} (hR : Rg rA i) (a_a : Int32) (a_b : Int32) : DtI l yX9_low cX9_low 4 (some .int) ({ frames := 6, cells := 0, slots := 0, locals := 137 } : Room) D h cz z i g [.ref (h 96), .int a_a, .int a_b] (fun r u => Rg rA u.1 ∧ Fr [96, 109, 110, 111, 112, 113, 114, 115, 118] [] i g u) := by
  refine e_I pn_X9_low (Nat.le_of_ble_eq_true rfl) ?_
  intro p e s m args below meth c ls Q X Y hret hT hl hS
  have hx := X.1
  have hb := X.2.1
  have hl : lv_has ls 4 [(0, .ref (h 96)), (1, .int a_a), (2, .int a_b)] := hl
  have hF : Fr [96, 109, 110, 111, 112, 113, 114, 115, 118] [] i g (i, g) := Fr_rf _ _ _ _
  refine lv_aload_n hx hb dX9_low_0 rfl (lv_at hl 0 rfl) ?_
  refine lv_iconst (v := 0) hx hb dX9_low_1 (by decide) ?_
  refine r_puti X hT hS 96 0 pk_9_83 rfl rfl rfl rfl (by decide) dX9_low_2 (fun H locs i1 ei1 hT hS => ?_)
  have hR1 := Rg_put hR ei1 (-2147483648) 2147483647 rfl (rg_k (by decide) : rg 0 0 0) (by decide)
  have hF1 := Fr_puti hF ei1 (by decide)
  refine lv_aload_n hx hb dX9_low_5 rfl (lv_at hl 0 rfl) ?_
  refine lv_iload_n hx hb dX9_low_6 rfl (lv_at hl 1 rfl) ?_
  refine lv_aload_n hx hb dX9_low_7 rfl (lv_at hl 0 rfl) ?_
  refine lv_iload_n hx hb dX9_low_8 rfl (lv_at hl 2 rfl) ?_
  refine q_i2l hx hb dX9_low_9 (fun y2 ey2 => ?_)
  obtain ⟨hy2, ay2⟩ := rg_i2l ey2 (rg_top a_b)
  refine e_Vi (As := [.long y2]) (rest := [.int a_a, .ref (h 96)]) X Y hT hS (m_X9_isPart hR1 y2) mk_X9_isPart gm_1645 rfl rfl (by decide) hd_X9_isPart ⟨rfl, rfl⟩ ⟨Nat.le_of_ble_eq_true rfl, Nat.le_of_ble_eq_true rfl⟩ hl.1 rfl (Nat.le_of_ble_eq_true rfl) dX9_low_10 ⟨Nat.zero_le _, Nat.zero_le _⟩ (fun r3 i3 g3 H locs hq hT hS => ?_)
  rcases hq with hq | hq
  ·
    obtain ⟨eh3, rfl, hf3_0⟩ := hq
    rw [(Prod.mk.inj eh3).1, (Prod.mk.inj eh3).2] at hT
    have h4 : rgL 0 5 y2 := ⟨by have := hy2.1; have := hf3_0.1; omega, by have := hy2.2; have := hf3_0.2; omega⟩
    have h5 : rg 0 5 a_b := ⟨by have := h4.1; have := (rg_top a_b).1; have := ay2; omega, by have := h4.2; have := (rg_top a_b).2; have := ay2; omega⟩
    refine e_Vi (As := [.int a_a, .int 1]) (rest := []) X Y hT hS (m_X9_whyNot hR1 a_a (1) (rg_w (rg_k (by decide) : rg 1 1 1) (by decide) : rg 0 1 1)) mk_X9_whyNot gm_1947 rfl rfl (by decide) hd_X9_whyNot ⟨rfl, rfl⟩ ⟨Nat.le_of_ble_eq_true rfl, Nat.le_of_ble_eq_true rfl⟩ hl.1 rfl (Nat.le_of_ble_eq_true rfl) dX9_low_13 ⟨Nat.zero_le _, Nat.zero_le _⟩ (fun r6 i6 g6 H locs hq hT hS => ?_)
    rcases hq with hq | hq
    ·
      obtain ⟨eh6, rfl, hp6_0, hf6_0, hf6_1⟩ := hq
      rw [(Prod.mk.inj eh6).1, (Prod.mk.inj eh6).2] at hT
      replace hp6_0 : seenM i1 g a_a := by rw [eh6] at hp6_0; exact hp6_0
      have h7 : rg 0 3 a_a := ⟨by have := (rg_top a_a).1; have := hf6_0.1; omega, by have := (rg_top a_a).2; have := hf6_0.2; omega⟩
      refine lv_istore_n (lv' := [(3, .int 0), (0, .ref (h 96)), (1, .int a_a), (2, .int a_b)]) hx hb dX9_low_16 rfl hl (by decide) rfl (fun ls hl => ?_)
      refine lv_iload_n hx hb dX9_low_17 rfl (lv_at hl 0 rfl) ?_
      refine lv_if_eq (tgt := 23) hx hb dX9_low_18 (by decide) (fun c8 => ?_) (fun c8 => (x_ne (rg_k (by decide) : rg 0 0 0) (rg_k (by decide) : rg 0 0 0) (i_ne c8) (by decide)).elim)
      refine lv_aload_n hx hb dX9_low_23 rfl (lv_at hl 1 rfl) ?_
      refine lv_iload_n hx hb dX9_low_24 rfl (lv_at hl 2 rfl) ?_
      refine lv_iload_n hx hb dX9_low_25 rfl (lv_at hl 3 rfl) ?_
      refine e_Vv (As := [.int a_a, .int a_b]) (rest := []) X Y hT hS (m_X9_laysSeen hR1 a_a a_b h7 h5 hp6_0) mk_X9_laysSeen gm_1952 rfl rfl (by decide) hd_X9_laysSeen ⟨rfl, rfl⟩ ⟨Nat.le_of_ble_eq_true rfl, Nat.le_of_ble_eq_true rfl⟩ hl.1 rfl (Nat.le_of_ble_eq_true rfl) dX9_low_26 ⟨Nat.zero_le _, Nat.zero_le _⟩ (fun i9 g9 H locs hq hT hS => ?_)
      obtain ⟨hR9, hf9⟩ := hq
      have hF9 := Fr_tr hF1 hf9 (by decide)
      have hN9 : seenM i9 g9 a_a := seenM_f hp6_0 hf9 (by decide) (by decide)
      refine lv_aload_n hx hb dX9_low_29 rfl (lv_at hl 1 rfl) ?_
      refine r_geti X hT 96 42 fk_9_395 rfl rfl (by decide) dX9_low_30 ?_
      exact hret (i9 96 42) _ _ _ _ _ _ dX9_low_33 hT hS ⟨hR9, hF9⟩
    ·
      obtain ⟨eh6, hr6⟩ := hq
      rw [(Prod.mk.inj eh6).1, (Prod.mk.inj eh6).2] at hT
      refine lv_istore_n (lv' := [(3, .int r6), (0, .ref (h 96)), (1, .int a_a), (2, .int a_b)]) hx hb dX9_low_16 rfl hl (by decide) rfl (fun ls hl => ?_)
      refine lv_iload_n hx hb dX9_low_17 rfl (lv_at hl 0 rfl) ?_
      refine lv_if_eq (tgt := 23) hx hb dX9_low_18 (by decide) (fun c10 => (x_eq hr6 (rg_k (by decide) : rg 0 0 0) (i_eq c10) (by decide)).elim) (fun c10 => ?_)
      have q10 : ¬ r6.toInt = 0 := i_ne c10
      refine lv_iload_n hx hb dX9_low_21 rfl (lv_at hl 0 rfl) ?_
      exact hret r6 _ _ _ _ _ _ dX9_low_22 hT hS ⟨hR1, hF1⟩
  ·
    obtain ⟨eh3, rfl⟩ := hq
    rw [(Prod.mk.inj eh3).1, (Prod.mk.inj eh3).2] at hT
    refine e_Vi (As := [.int a_a, .int 0]) (rest := []) X Y hT hS (m_X9_whyNot hR1 a_a (0) (rg_w (rg_k (by decide) : rg 0 0 0) (by decide) : rg 0 1 0)) mk_X9_whyNot gm_1947 rfl rfl (by decide) hd_X9_whyNot ⟨rfl, rfl⟩ ⟨Nat.le_of_ble_eq_true rfl, Nat.le_of_ble_eq_true rfl⟩ hl.1 rfl (Nat.le_of_ble_eq_true rfl) dX9_low_13 ⟨Nat.zero_le _, Nat.zero_le _⟩ (fun r11 i11 g11 H locs hq hT hS => ?_)
    rcases hq with hq | hq
    ·
      obtain ⟨eh11, rfl, hp11_0, hf11_0, hf11_1⟩ := hq
      rw [(Prod.mk.inj eh11).1, (Prod.mk.inj eh11).2] at hT
      replace hp11_0 : seenM i1 g a_a := by rw [eh11] at hp11_0; exact hp11_0
      have h12 : rg 0 3 a_a := ⟨by have := (rg_top a_a).1; have := hf11_0.1; omega, by have := (rg_top a_a).2; have := hf11_0.2; omega⟩
      exact (x_eq (rg_k (by decide) : rg 0 0 0) hf11_1 rfl (by decide)).elim
    ·
      obtain ⟨eh11, hr11⟩ := hq
      rw [(Prod.mk.inj eh11).1, (Prod.mk.inj eh11).2] at hT
      refine lv_istore_n (lv' := [(3, .int r11), (0, .ref (h 96)), (1, .int a_a), (2, .int a_b)]) hx hb dX9_low_16 rfl hl (by decide) rfl (fun ls hl => ?_)
      refine lv_iload_n hx hb dX9_low_17 rfl (lv_at hl 0 rfl) ?_
      refine lv_if_eq (tgt := 23) hx hb dX9_low_18 (by decide) (fun c13 => (x_eq hr11 (rg_k (by decide) : rg 0 0 0) (i_eq c13) (by decide)).elim) (fun c13 => ?_)
      have q13 : ¬ r11.toInt = 0 := i_ne c13
      refine lv_iload_n hx hb dX9_low_21 rfl (lv_at hl 0 rfl) ?_
      exact hret r11 _ _ _ _ _ _ dX9_low_22 hT hS ⟨hR1, hF1⟩
set_option maxRecDepth 100000 in
set_option maxHeartbeats 4000000 in
theorem m_X9_high {l : Launch} {D : va_G} {h : Nat → Nat} {cz : Nat → ClassId} {z : EZ} {i : Nat → Nat → Int32} {g : Nat → Nat → Int64} (hR : Rg rA i) (a_a : Int32) (a_b : Int32) : DtI l yX9_high cX9_high 4 (some .int) ({ frames := 6, cells := 0, slots := 0, locals := 137 } : Room) D h cz z i g [.ref (h 96), .int a_a, .int a_b] (fun r u => Rg rA u.1 ∧ Fr [96, 109, 110, 111, 112, 113, 114, 115, 118] [] i g u) := by
  refine e_I pn_X9_high (Nat.le_of_ble_eq_true rfl) ?_
  intro p e s m args below meth c ls Q X Y hret hT hl hS
  have hx := X.1
  have hb := X.2.1
  have hl : lv_has ls 4 [(0, .ref (h 96)), (1, .int a_a), (2, .int a_b)] := hl
  have hF : Fr [96, 109, 110, 111, 112, 113, 114, 115, 118] [] i g (i, g) := Fr_rf _ _ _ _
  refine lv_aload_n hx hb dX9_high_0 rfl (lv_at hl 0 rfl) ?_
  refine lv_iconst (v := 0) hx hb dX9_high_1 (by decide) ?_
  refine r_puti X hT hS 96 0 pk_9_83 rfl rfl rfl rfl (by decide) dX9_high_2 (fun H locs i1 ei1 hT hS => ?_)
  have hR1 := Rg_put hR ei1 (-2147483648) 2147483647 rfl (rg_k (by decide) : rg 0 0 0) (by decide)
  have hF1 := Fr_puti hF ei1 (by decide)
  refine lv_aload_n hx hb dX9_high_5 rfl (lv_at hl 0 rfl) ?_
  refine lv_iload_n hx hb dX9_high_6 rfl (lv_at hl 1 rfl) ?_
  refine lv_aload_n hx hb dX9_high_7 rfl (lv_at hl 0 rfl) ?_
  refine lv_iload_n hx hb dX9_high_8 rfl (lv_at hl 2 rfl) ?_
  refine q_i2l hx hb dX9_high_9 (fun y2 ey2 => ?_)
  obtain ⟨hy2, ay2⟩ := rg_i2l ey2 (rg_top a_b)
  refine e_Vi (As := [.long y2]) (rest := [.int a_a, .ref (h 96)]) X Y hT hS (m_X9_isPart hR1 y2) mk_X9_isPart gm_1645 rfl rfl (by decide) hd_X9_isPart ⟨rfl, rfl⟩ ⟨Nat.le_of_ble_eq_true rfl, Nat.le_of_ble_eq_true rfl⟩ hl.1 rfl (Nat.le_of_ble_eq_true rfl) dX9_high_10 ⟨Nat.zero_le _, Nat.zero_le _⟩ (fun r3 i3 g3 H locs hq hT hS => ?_)
  rcases hq with hq | hq
  ·
    obtain ⟨eh3, rfl, hf3_0⟩ := hq
    rw [(Prod.mk.inj eh3).1, (Prod.mk.inj eh3).2] at hT
    have h4 : rgL 0 5 y2 := ⟨by have := hy2.1; have := hf3_0.1; omega, by have := hy2.2; have := hf3_0.2; omega⟩
    have h5 : rg 0 5 a_b := ⟨by have := h4.1; have := (rg_top a_b).1; have := ay2; omega, by have := h4.2; have := (rg_top a_b).2; have := ay2; omega⟩
    refine e_Vi (As := [.int a_a, .int 1]) (rest := []) X Y hT hS (m_X9_whyNot hR1 a_a (1) (rg_w (rg_k (by decide) : rg 1 1 1) (by decide) : rg 0 1 1)) mk_X9_whyNot gm_1947 rfl rfl (by decide) hd_X9_whyNot ⟨rfl, rfl⟩ ⟨Nat.le_of_ble_eq_true rfl, Nat.le_of_ble_eq_true rfl⟩ hl.1 rfl (Nat.le_of_ble_eq_true rfl) dX9_high_13 ⟨Nat.zero_le _, Nat.zero_le _⟩ (fun r6 i6 g6 H locs hq hT hS => ?_)
    rcases hq with hq | hq
    ·
      obtain ⟨eh6, rfl, hp6_0, hf6_0, hf6_1⟩ := hq
      rw [(Prod.mk.inj eh6).1, (Prod.mk.inj eh6).2] at hT
      replace hp6_0 : seenM i1 g a_a := by rw [eh6] at hp6_0; exact hp6_0
      have h7 : rg 0 3 a_a := ⟨by have := (rg_top a_a).1; have := hf6_0.1; omega, by have := (rg_top a_a).2; have := hf6_0.2; omega⟩
      refine lv_istore_n (lv' := [(3, .int 0), (0, .ref (h 96)), (1, .int a_a), (2, .int a_b)]) hx hb dX9_high_16 rfl hl (by decide) rfl (fun ls hl => ?_)
      refine lv_iload_n hx hb dX9_high_17 rfl (lv_at hl 0 rfl) ?_
      refine lv_if_eq (tgt := 23) hx hb dX9_high_18 (by decide) (fun c8 => ?_) (fun c8 => (x_ne (rg_k (by decide) : rg 0 0 0) (rg_k (by decide) : rg 0 0 0) (i_ne c8) (by decide)).elim)
      refine lv_aload_n hx hb dX9_high_23 rfl (lv_at hl 1 rfl) ?_
      refine lv_iload_n hx hb dX9_high_24 rfl (lv_at hl 2 rfl) ?_
      refine lv_iload_n hx hb dX9_high_25 rfl (lv_at hl 3 rfl) ?_
      refine e_Vv (As := [.int a_a, .int a_b]) (rest := []) X Y hT hS (m_X9_laysSeen hR1 a_a a_b h7 h5 hp6_0) mk_X9_laysSeen gm_1952 rfl rfl (by decide) hd_X9_laysSeen ⟨rfl, rfl⟩ ⟨Nat.le_of_ble_eq_true rfl, Nat.le_of_ble_eq_true rfl⟩ hl.1 rfl (Nat.le_of_ble_eq_true rfl) dX9_high_26 ⟨Nat.zero_le _, Nat.zero_le _⟩ (fun i9 g9 H locs hq hT hS => ?_)
      obtain ⟨hR9, hf9⟩ := hq
      have hF9 := Fr_tr hF1 hf9 (by decide)
      have hN9 : seenM i9 g9 a_a := seenM_f hp6_0 hf9 (by decide) (by decide)
      refine lv_aload_n hx hb dX9_high_29 rfl (lv_at hl 1 rfl) ?_
      refine r_geti X hT 96 43 fk_9_398 rfl rfl (by decide) dX9_high_30 ?_
      exact hret (i9 96 43) _ _ _ _ _ _ dX9_high_33 hT hS ⟨hR9, hF9⟩
    ·
      obtain ⟨eh6, hr6⟩ := hq
      rw [(Prod.mk.inj eh6).1, (Prod.mk.inj eh6).2] at hT
      refine lv_istore_n (lv' := [(3, .int r6), (0, .ref (h 96)), (1, .int a_a), (2, .int a_b)]) hx hb dX9_high_16 rfl hl (by decide) rfl (fun ls hl => ?_)
      refine lv_iload_n hx hb dX9_high_17 rfl (lv_at hl 0 rfl) ?_
      refine lv_if_eq (tgt := 23) hx hb dX9_high_18 (by decide) (fun c10 => (x_eq hr6 (rg_k (by decide) : rg 0 0 0) (i_eq c10) (by decide)).elim) (fun c10 => ?_)
      have q10 : ¬ r6.toInt = 0 := i_ne c10
      refine lv_iload_n hx hb dX9_high_21 rfl (lv_at hl 0 rfl) ?_
      exact hret r6 _ _ _ _ _ _ dX9_high_22 hT hS ⟨hR1, hF1⟩
  ·
    obtain ⟨eh3, rfl⟩ := hq
    rw [(Prod.mk.inj eh3).1, (Prod.mk.inj eh3).2] at hT
    refine e_Vi (As := [.int a_a, .int 0]) (rest := []) X Y hT hS (m_X9_whyNot hR1 a_a (0) (rg_w (rg_k (by decide) : rg 0 0 0) (by decide) : rg 0 1 0)) mk_X9_whyNot gm_1947 rfl rfl (by decide) hd_X9_whyNot ⟨rfl, rfl⟩ ⟨Nat.le_of_ble_eq_true rfl, Nat.le_of_ble_eq_true rfl⟩ hl.1 rfl (Nat.le_of_ble_eq_true rfl) dX9_high_13 ⟨Nat.zero_le _, Nat.zero_le _⟩ (fun r11 i11 g11 H locs hq hT hS => ?_)
    rcases hq with hq | hq
    ·
      obtain ⟨eh11, rfl, hp11_0, hf11_0, hf11_1⟩ := hq
      rw [(Prod.mk.inj eh11).1, (Prod.mk.inj eh11).2] at hT
      replace hp11_0 : seenM i1 g a_a := by rw [eh11] at hp11_0; exact hp11_0
      have h12 : rg 0 3 a_a := ⟨by have := (rg_top a_a).1; have := hf11_0.1; omega, by have := (rg_top a_a).2; have := hf11_0.2; omega⟩
      exact (x_eq (rg_k (by decide) : rg 0 0 0) hf11_1 rfl (by decide)).elim
    ·
      obtain ⟨eh11, hr11⟩ := hq
      rw [(Prod.mk.inj eh11).1, (Prod.mk.inj eh11).2] at hT
      refine lv_istore_n (lv' := [(3, .int r11), (0, .ref (h 96)), (1, .int a_a), (2, .int a_b)]) hx hb dX9_high_16 rfl hl (by decide) rfl (fun ls hl => ?_)
      refine lv_iload_n hx hb dX9_high_17 rfl (lv_at hl 0 rfl) ?_
      refine lv_if_eq (tgt := 23) hx hb dX9_high_18 (by decide) (fun c13 => (x_eq hr11 (rg_k (by decide) : rg 0 0 0) (i_eq c13) (by decide)).elim) (fun c13 => ?_)
      have q13 : ¬ r11.toInt = 0 := i_ne c13
      refine lv_iload_n hx hb dX9_high_21 rfl (lv_at hl 0 rfl) ?_
      exact hret r11 _ _ _ _ _ _ dX9_high_22 hT hS ⟨hR1, hF1⟩
set_option maxRecDepth 100000 in
set_option maxHeartbeats 4000000 in
theorem m_X9_ask {l : Launch} {D : va_G} {h : Nat → Nat} {cz : Nat → ClassId} {z : EZ} {i : Nat → Nat → Int32} {g : Nat → Nat → Int64} (hR : Rg rA i) (a_a : Int32) (a_b : Int32) : DtI l yX9_ask cX9_ask 4 (some .int) ({ frames := 6, cells := 0, slots := 0, locals := 137 } : Room) D h cz z i g [.ref (h 96), .int a_a, .int a_b] (fun r u => Rg rA u.1 ∧ Fr [96, 109, 110, 111, 112, 113, 114, 115, 118] [] i g u) := by
  refine e_I pn_X9_ask (Nat.le_of_ble_eq_true rfl) ?_
  intro p e s m args below meth c ls Q X Y hret hT hl hS
  have hx := X.1
  have hb := X.2.1
  have hl : lv_has ls 4 [(0, .ref (h 96)), (1, .int a_a), (2, .int a_b)] := hl
  have hF : Fr [96, 109, 110, 111, 112, 113, 114, 115, 118] [] i g (i, g) := Fr_rf _ _ _ _
  refine lv_aload_n hx hb dX9_ask_0 rfl (lv_at hl 0 rfl) ?_
  refine lv_iconst (v := 0) hx hb dX9_ask_1 (by decide) ?_
  refine r_puti X hT hS 96 0 pk_9_83 rfl rfl rfl rfl (by decide) dX9_ask_2 (fun H locs i1 ei1 hT hS => ?_)
  have hR1 := Rg_put hR ei1 (-2147483648) 2147483647 rfl (rg_k (by decide) : rg 0 0 0) (by decide)
  have hF1 := Fr_puti hF ei1 (by decide)
  refine lv_aload_n hx hb dX9_ask_5 rfl (lv_at hl 0 rfl) ?_
  refine lv_iload_n hx hb dX9_ask_6 rfl (lv_at hl 1 rfl) ?_
  refine lv_aload_n hx hb dX9_ask_7 rfl (lv_at hl 0 rfl) ?_
  refine lv_iload_n hx hb dX9_ask_8 rfl (lv_at hl 2 rfl) ?_
  refine q_i2l hx hb dX9_ask_9 (fun y2 ey2 => ?_)
  obtain ⟨hy2, ay2⟩ := rg_i2l ey2 (rg_top a_b)
  refine e_Vi (As := [.long y2]) (rest := [.int a_a, .ref (h 96)]) X Y hT hS (m_X9_isPart hR1 y2) mk_X9_isPart gm_1645 rfl rfl (by decide) hd_X9_isPart ⟨rfl, rfl⟩ ⟨Nat.le_of_ble_eq_true rfl, Nat.le_of_ble_eq_true rfl⟩ hl.1 rfl (Nat.le_of_ble_eq_true rfl) dX9_ask_10 ⟨Nat.zero_le _, Nat.zero_le _⟩ (fun r3 i3 g3 H locs hq hT hS => ?_)
  rcases hq with hq | hq
  ·
    obtain ⟨eh3, rfl, hf3_0⟩ := hq
    rw [(Prod.mk.inj eh3).1, (Prod.mk.inj eh3).2] at hT
    have h4 : rgL 0 5 y2 := ⟨by have := hy2.1; have := hf3_0.1; omega, by have := hy2.2; have := hf3_0.2; omega⟩
    have h5 : rg 0 5 a_b := ⟨by have := h4.1; have := (rg_top a_b).1; have := ay2; omega, by have := h4.2; have := (rg_top a_b).2; have := ay2; omega⟩
    refine e_Vi (As := [.int a_a, .int 1]) (rest := []) X Y hT hS (m_X9_whyNot hR1 a_a (1) (rg_w (rg_k (by decide) : rg 1 1 1) (by decide) : rg 0 1 1)) mk_X9_whyNot gm_1947 rfl rfl (by decide) hd_X9_whyNot ⟨rfl, rfl⟩ ⟨Nat.le_of_ble_eq_true rfl, Nat.le_of_ble_eq_true rfl⟩ hl.1 rfl (Nat.le_of_ble_eq_true rfl) dX9_ask_13 ⟨Nat.zero_le _, Nat.zero_le _⟩ (fun r6 i6 g6 H locs hq hT hS => ?_)
    rcases hq with hq | hq
    ·
      obtain ⟨eh6, rfl, hp6_0, hf6_0, hf6_1⟩ := hq
      rw [(Prod.mk.inj eh6).1, (Prod.mk.inj eh6).2] at hT
      replace hp6_0 : seenM i1 g a_a := by rw [eh6] at hp6_0; exact hp6_0
      have h7 : rg 0 3 a_a := ⟨by have := (rg_top a_a).1; have := hf6_0.1; omega, by have := (rg_top a_a).2; have := hf6_0.2; omega⟩
      refine lv_istore_n (lv' := [(3, .int 0), (0, .ref (h 96)), (1, .int a_a), (2, .int a_b)]) hx hb dX9_ask_16 rfl hl (by decide) rfl (fun ls hl => ?_)
      refine lv_iload_n hx hb dX9_ask_17 rfl (lv_at hl 0 rfl) ?_
      refine lv_if_eq (tgt := 23) hx hb dX9_ask_18 (by decide) (fun c8 => ?_) (fun c8 => (x_ne (rg_k (by decide) : rg 0 0 0) (rg_k (by decide) : rg 0 0 0) (i_ne c8) (by decide)).elim)
      refine lv_aload_n hx hb dX9_ask_23 rfl (lv_at hl 1 rfl) ?_
      refine lv_iload_n hx hb dX9_ask_24 rfl (lv_at hl 2 rfl) ?_
      refine lv_iload_n hx hb dX9_ask_25 rfl (lv_at hl 3 rfl) ?_
      refine e_Vv (As := [.int a_a, .int a_b]) (rest := []) X Y hT hS (m_X9_laysSeen hR1 a_a a_b h7 h5 hp6_0) mk_X9_laysSeen gm_1952 rfl rfl (by decide) hd_X9_laysSeen ⟨rfl, rfl⟩ ⟨Nat.le_of_ble_eq_true rfl, Nat.le_of_ble_eq_true rfl⟩ hl.1 rfl (Nat.le_of_ble_eq_true rfl) dX9_ask_26 ⟨Nat.zero_le _, Nat.zero_le _⟩ (fun i9 g9 H locs hq hT hS => ?_)
      obtain ⟨hR9, hf9⟩ := hq
      have hF9 := Fr_tr hF1 hf9 (by decide)
      have hN9 : seenM i9 g9 a_a := seenM_f hp6_0 hf9 (by decide) (by decide)
      refine lv_aload_n hx hb dX9_ask_29 rfl (lv_at hl 1 rfl) ?_
      refine r_geti X hT 96 44 fk_9_404 rfl rfl (by decide) dX9_ask_30 ?_
      exact hret (i9 96 44) _ _ _ _ _ _ dX9_ask_33 hT hS ⟨hR9, hF9⟩
    ·
      obtain ⟨eh6, hr6⟩ := hq
      rw [(Prod.mk.inj eh6).1, (Prod.mk.inj eh6).2] at hT
      refine lv_istore_n (lv' := [(3, .int r6), (0, .ref (h 96)), (1, .int a_a), (2, .int a_b)]) hx hb dX9_ask_16 rfl hl (by decide) rfl (fun ls hl => ?_)
      refine lv_iload_n hx hb dX9_ask_17 rfl (lv_at hl 0 rfl) ?_
      refine lv_if_eq (tgt := 23) hx hb dX9_ask_18 (by decide) (fun c10 => (x_eq hr6 (rg_k (by decide) : rg 0 0 0) (i_eq c10) (by decide)).elim) (fun c10 => ?_)
      have q10 : ¬ r6.toInt = 0 := i_ne c10
      refine lv_iload_n hx hb dX9_ask_21 rfl (lv_at hl 0 rfl) ?_
      exact hret r6 _ _ _ _ _ _ dX9_ask_22 hT hS ⟨hR1, hF1⟩
  ·
    obtain ⟨eh3, rfl⟩ := hq
    rw [(Prod.mk.inj eh3).1, (Prod.mk.inj eh3).2] at hT
    refine e_Vi (As := [.int a_a, .int 0]) (rest := []) X Y hT hS (m_X9_whyNot hR1 a_a (0) (rg_w (rg_k (by decide) : rg 0 0 0) (by decide) : rg 0 1 0)) mk_X9_whyNot gm_1947 rfl rfl (by decide) hd_X9_whyNot ⟨rfl, rfl⟩ ⟨Nat.le_of_ble_eq_true rfl, Nat.le_of_ble_eq_true rfl⟩ hl.1 rfl (Nat.le_of_ble_eq_true rfl) dX9_ask_13 ⟨Nat.zero_le _, Nat.zero_le _⟩ (fun r11 i11 g11 H locs hq hT hS => ?_)
    rcases hq with hq | hq
    ·
      obtain ⟨eh11, rfl, hp11_0, hf11_0, hf11_1⟩ := hq
      rw [(Prod.mk.inj eh11).1, (Prod.mk.inj eh11).2] at hT
      replace hp11_0 : seenM i1 g a_a := by rw [eh11] at hp11_0; exact hp11_0
      have h12 : rg 0 3 a_a := ⟨by have := (rg_top a_a).1; have := hf11_0.1; omega, by have := (rg_top a_a).2; have := hf11_0.2; omega⟩
      exact (x_eq (rg_k (by decide) : rg 0 0 0) hf11_1 rfl (by decide)).elim
    ·
      obtain ⟨eh11, hr11⟩ := hq
      rw [(Prod.mk.inj eh11).1, (Prod.mk.inj eh11).2] at hT
      refine lv_istore_n (lv' := [(3, .int r11), (0, .ref (h 96)), (1, .int a_a), (2, .int a_b)]) hx hb dX9_ask_16 rfl hl (by decide) rfl (fun ls hl => ?_)
      refine lv_iload_n hx hb dX9_ask_17 rfl (lv_at hl 0 rfl) ?_
      refine lv_if_eq (tgt := 23) hx hb dX9_ask_18 (by decide) (fun c13 => (x_eq hr11 (rg_k (by decide) : rg 0 0 0) (i_eq c13) (by decide)).elim) (fun c13 => ?_)
      have q13 : ¬ r11.toInt = 0 := i_ne c13
      refine lv_iload_n hx hb dX9_ask_21 rfl (lv_at hl 0 rfl) ?_
      exact hret r11 _ _ _ _ _ _ dX9_ask_22 hT hS ⟨hR1, hF1⟩
set_option maxRecDepth 100000 in
set_option maxHeartbeats 4000000 in
theorem m_X9_leaves {l : Launch} {D : va_G} {h : Nat → Nat} {cz : Nat → ClassId} {z : EZ} {i : Nat → Nat → Int32} {g : Nat → Nat → Int64} (hR : Rg rA i) (a_a : Int32) (a_b : Int32) : DtI l yX9_leaves cX9_leaves 4 (some .int) ({ frames := 6, cells := 0, slots := 0, locals := 137 } : Room) D h cz z i g [.ref (h 96), .int a_a, .int a_b] (fun r u => Rg rA u.1 ∧ Fr [96, 109, 110, 111, 112, 113, 114, 115, 118] [] i g u) := by
  refine e_I pn_X9_leaves (Nat.le_of_ble_eq_true rfl) ?_
  intro p e s m args below meth c ls Q X Y hret hT hl hS
  have hx := X.1
  have hb := X.2.1
  have hl : lv_has ls 4 [(0, .ref (h 96)), (1, .int a_a), (2, .int a_b)] := hl
  have hF : Fr [96, 109, 110, 111, 112, 113, 114, 115, 118] [] i g (i, g) := Fr_rf _ _ _ _
  refine lv_aload_n hx hb dX9_leaves_0 rfl (lv_at hl 0 rfl) ?_
  refine lv_iconst (v := 0) hx hb dX9_leaves_1 (by decide) ?_
  refine r_puti X hT hS 96 0 pk_9_83 rfl rfl rfl rfl (by decide) dX9_leaves_2 (fun H locs i1 ei1 hT hS => ?_)
  have hR1 := Rg_put hR ei1 (-2147483648) 2147483647 rfl (rg_k (by decide) : rg 0 0 0) (by decide)
  have hF1 := Fr_puti hF ei1 (by decide)
  refine lv_aload_n hx hb dX9_leaves_5 rfl (lv_at hl 0 rfl) ?_
  refine lv_iload_n hx hb dX9_leaves_6 rfl (lv_at hl 1 rfl) ?_
  refine lv_aload_n hx hb dX9_leaves_7 rfl (lv_at hl 0 rfl) ?_
  refine lv_iload_n hx hb dX9_leaves_8 rfl (lv_at hl 2 rfl) ?_
  refine q_i2l hx hb dX9_leaves_9 (fun y2 ey2 => ?_)
  obtain ⟨hy2, ay2⟩ := rg_i2l ey2 (rg_top a_b)
  refine e_Vi (As := [.long y2]) (rest := [.int a_a, .ref (h 96)]) X Y hT hS (m_X9_isPart hR1 y2) mk_X9_isPart gm_1645 rfl rfl (by decide) hd_X9_isPart ⟨rfl, rfl⟩ ⟨Nat.le_of_ble_eq_true rfl, Nat.le_of_ble_eq_true rfl⟩ hl.1 rfl (Nat.le_of_ble_eq_true rfl) dX9_leaves_10 ⟨Nat.zero_le _, Nat.zero_le _⟩ (fun r3 i3 g3 H locs hq hT hS => ?_)
  rcases hq with hq | hq
  ·
    obtain ⟨eh3, rfl, hf3_0⟩ := hq
    rw [(Prod.mk.inj eh3).1, (Prod.mk.inj eh3).2] at hT
    have h4 : rgL 0 5 y2 := ⟨by have := hy2.1; have := hf3_0.1; omega, by have := hy2.2; have := hf3_0.2; omega⟩
    have h5 : rg 0 5 a_b := ⟨by have := h4.1; have := (rg_top a_b).1; have := ay2; omega, by have := h4.2; have := (rg_top a_b).2; have := ay2; omega⟩
    refine e_Vi (As := [.int a_a, .int 1]) (rest := []) X Y hT hS (m_X9_whyNot hR1 a_a (1) (rg_w (rg_k (by decide) : rg 1 1 1) (by decide) : rg 0 1 1)) mk_X9_whyNot gm_1947 rfl rfl (by decide) hd_X9_whyNot ⟨rfl, rfl⟩ ⟨Nat.le_of_ble_eq_true rfl, Nat.le_of_ble_eq_true rfl⟩ hl.1 rfl (Nat.le_of_ble_eq_true rfl) dX9_leaves_13 ⟨Nat.zero_le _, Nat.zero_le _⟩ (fun r6 i6 g6 H locs hq hT hS => ?_)
    rcases hq with hq | hq
    ·
      obtain ⟨eh6, rfl, hp6_0, hf6_0, hf6_1⟩ := hq
      rw [(Prod.mk.inj eh6).1, (Prod.mk.inj eh6).2] at hT
      replace hp6_0 : seenM i1 g a_a := by rw [eh6] at hp6_0; exact hp6_0
      have h7 : rg 0 3 a_a := ⟨by have := (rg_top a_a).1; have := hf6_0.1; omega, by have := (rg_top a_a).2; have := hf6_0.2; omega⟩
      refine lv_istore_n (lv' := [(3, .int 0), (0, .ref (h 96)), (1, .int a_a), (2, .int a_b)]) hx hb dX9_leaves_16 rfl hl (by decide) rfl (fun ls hl => ?_)
      refine lv_iload_n hx hb dX9_leaves_17 rfl (lv_at hl 0 rfl) ?_
      refine lv_if_eq (tgt := 23) hx hb dX9_leaves_18 (by decide) (fun c8 => ?_) (fun c8 => (x_ne (rg_k (by decide) : rg 0 0 0) (rg_k (by decide) : rg 0 0 0) (i_ne c8) (by decide)).elim)
      refine lv_aload_n hx hb dX9_leaves_23 rfl (lv_at hl 1 rfl) ?_
      refine lv_iload_n hx hb dX9_leaves_24 rfl (lv_at hl 2 rfl) ?_
      refine lv_iload_n hx hb dX9_leaves_25 rfl (lv_at hl 3 rfl) ?_
      refine e_Vv (As := [.int a_a, .int a_b]) (rest := []) X Y hT hS (m_X9_laysSeen hR1 a_a a_b h7 h5 hp6_0) mk_X9_laysSeen gm_1952 rfl rfl (by decide) hd_X9_laysSeen ⟨rfl, rfl⟩ ⟨Nat.le_of_ble_eq_true rfl, Nat.le_of_ble_eq_true rfl⟩ hl.1 rfl (Nat.le_of_ble_eq_true rfl) dX9_leaves_26 ⟨Nat.zero_le _, Nat.zero_le _⟩ (fun i9 g9 H locs hq hT hS => ?_)
      obtain ⟨hR9, hf9⟩ := hq
      have hF9 := Fr_tr hF1 hf9 (by decide)
      have hN9 : seenM i9 g9 a_a := seenM_f hp6_0 hf9 (by decide) (by decide)
      refine lv_aload_n hx hb dX9_leaves_29 rfl (lv_at hl 1 rfl) ?_
      refine r_geti X hT 96 45 fk_9_407 rfl rfl (by decide) dX9_leaves_30 ?_
      exact hret (i9 96 45) _ _ _ _ _ _ dX9_leaves_33 hT hS ⟨hR9, hF9⟩
    ·
      obtain ⟨eh6, hr6⟩ := hq
      rw [(Prod.mk.inj eh6).1, (Prod.mk.inj eh6).2] at hT
      refine lv_istore_n (lv' := [(3, .int r6), (0, .ref (h 96)), (1, .int a_a), (2, .int a_b)]) hx hb dX9_leaves_16 rfl hl (by decide) rfl (fun ls hl => ?_)
      refine lv_iload_n hx hb dX9_leaves_17 rfl (lv_at hl 0 rfl) ?_
      refine lv_if_eq (tgt := 23) hx hb dX9_leaves_18 (by decide) (fun c10 => (x_eq hr6 (rg_k (by decide) : rg 0 0 0) (i_eq c10) (by decide)).elim) (fun c10 => ?_)
      have q10 : ¬ r6.toInt = 0 := i_ne c10
      refine lv_iload_n hx hb dX9_leaves_21 rfl (lv_at hl 0 rfl) ?_
      exact hret r6 _ _ _ _ _ _ dX9_leaves_22 hT hS ⟨hR1, hF1⟩
  ·
    obtain ⟨eh3, rfl⟩ := hq
    rw [(Prod.mk.inj eh3).1, (Prod.mk.inj eh3).2] at hT
    refine e_Vi (As := [.int a_a, .int 0]) (rest := []) X Y hT hS (m_X9_whyNot hR1 a_a (0) (rg_w (rg_k (by decide) : rg 0 0 0) (by decide) : rg 0 1 0)) mk_X9_whyNot gm_1947 rfl rfl (by decide) hd_X9_whyNot ⟨rfl, rfl⟩ ⟨Nat.le_of_ble_eq_true rfl, Nat.le_of_ble_eq_true rfl⟩ hl.1 rfl (Nat.le_of_ble_eq_true rfl) dX9_leaves_13 ⟨Nat.zero_le _, Nat.zero_le _⟩ (fun r11 i11 g11 H locs hq hT hS => ?_)
    rcases hq with hq | hq
    ·
      obtain ⟨eh11, rfl, hp11_0, hf11_0, hf11_1⟩ := hq
      rw [(Prod.mk.inj eh11).1, (Prod.mk.inj eh11).2] at hT
      replace hp11_0 : seenM i1 g a_a := by rw [eh11] at hp11_0; exact hp11_0
      have h12 : rg 0 3 a_a := ⟨by have := (rg_top a_a).1; have := hf11_0.1; omega, by have := (rg_top a_a).2; have := hf11_0.2; omega⟩
      exact (x_eq (rg_k (by decide) : rg 0 0 0) hf11_1 rfl (by decide)).elim
    ·
      obtain ⟨eh11, hr11⟩ := hq
      rw [(Prod.mk.inj eh11).1, (Prod.mk.inj eh11).2] at hT
      refine lv_istore_n (lv' := [(3, .int r11), (0, .ref (h 96)), (1, .int a_a), (2, .int a_b)]) hx hb dX9_leaves_16 rfl hl (by decide) rfl (fun ls hl => ?_)
      refine lv_iload_n hx hb dX9_leaves_17 rfl (lv_at hl 0 rfl) ?_
      refine lv_if_eq (tgt := 23) hx hb dX9_leaves_18 (by decide) (fun c13 => (x_eq hr11 (rg_k (by decide) : rg 0 0 0) (i_eq c13) (by decide)).elim) (fun c13 => ?_)
      have q13 : ¬ r11.toInt = 0 := i_ne c13
      refine lv_iload_n hx hb dX9_leaves_21 rfl (lv_at hl 0 rfl) ?_
      exact hret r11 _ _ _ _ _ _ dX9_leaves_22 hT hS ⟨hR1, hF1⟩
set_option maxRecDepth 100000 in
set_option maxHeartbeats 4000000 in
theorem m_X9_allBy {l : Launch} {D : va_G} {h : Nat → Nat} {cz : Nat → ClassId} {z : EZ} {i : Nat → Nat → Int32} {g : Nat → Nat → Int64} (hR : Rg rA i) (a_a : Int32) : DtI l yX9_allBy cX9_allBy 2 (some .int) ({ frames := 5, cells := 0, slots := 0, locals := 112 } : Room) D h cz z i g [.ref (h 96), .int a_a] (fun r u => Rg rA u.1 ∧ Fr [96, 109, 110, 111, 112, 113, 114, 115] [] i g u) := by
  refine e_I pn_X9_allBy (Nat.le_of_ble_eq_true rfl) ?_
  intro p e s m args below meth c ls Q X Y hret hT hl hS
  have hx := X.1
  have hb := X.2.1
  have hl : lv_has ls 2 [(0, .ref (h 96)), (1, .int a_a)] := hl
  have hF : Fr [96, 109, 110, 111, 112, 113, 114, 115] [] i g (i, g) := Fr_rf _ _ _ _
  refine lv_aload_n hx hb dX9_allBy_0 rfl (lv_at hl 0 rfl) ?_
  refine e_Vv (As := []) (rest := []) X Y hT hS (m_X9_lays hR) mk_X9_lays gm_1658 rfl rfl (by decide) hd_X9_lays ⟨rfl, rfl⟩ ⟨Nat.le_of_ble_eq_true rfl, Nat.le_of_ble_eq_true rfl⟩ hl.1 rfl (Nat.le_of_ble_eq_true rfl) dX9_allBy_1 ⟨Nat.zero_le _, Nat.zero_le _⟩ (fun i1 g1 H locs hq hT hS => ?_)
  obtain ⟨hR1, hf1⟩ := hq
  have hF1 := Fr_tr hF hf1 (by decide)
  refine lv_aload_n hx hb dX9_allBy_4 rfl (lv_at hl 0 rfl) ?_
  refine lv_iload_n hx hb dX9_allBy_5 rfl (lv_at hl 1 rfl) ?_
  refine r_puti X hT hS 96 23 pk_9_260 rfl rfl rfl rfl (by decide) dX9_allBy_6 (fun H locs i2 ei2 hT hS => ?_)
  have hR2 := Rg_put hR1 ei2 (-2147483648) 2147483647 rfl (rg_top a_a) (by decide)
  have hF2 := Fr_puti hF1 ei2 (by decide)
  refine lv_aload_n hx hb dX9_allBy_9 rfl (lv_at hl 0 rfl) ?_
  refine e_Vv (As := []) (rest := []) X Y hT hS (m_X9_runs hR2) mk_X9_runs gm_1697 rfl rfl (by decide) hd_X9_runs ⟨rfl, rfl⟩ ⟨Nat.le_of_ble_eq_true rfl, Nat.le_of_ble_eq_true rfl⟩ hl.1 rfl (Nat.le_of_ble_eq_true rfl) dX9_allBy_10 ⟨Nat.zero_le _, Nat.zero_le _⟩ (fun i3 g3 H locs hq hT hS => ?_)
  obtain ⟨hR3, hf3⟩ := hq
  have hF3 := Fr_tr hF2 hf3 (by decide)
  refine lv_aload_n hx hb dX9_allBy_13 rfl (lv_at hl 0 rfl) ?_
  refine e_Vi (As := []) (rest := []) X Y hT hS (m_X9_readAll hR3) mk_X9_readAll gm_1770 rfl rfl (by decide) hd_X9_readAll ⟨rfl, rfl⟩ ⟨Nat.le_of_ble_eq_true rfl, Nat.le_of_ble_eq_true rfl⟩ hl.1 rfl (Nat.le_of_ble_eq_true rfl) dX9_allBy_14 ⟨Nat.zero_le _, Nat.zero_le _⟩ (fun r4 i4 g4 H locs hq hT hS => ?_)
  have eh4 := hq
  rw [(Prod.mk.inj eh4).1, (Prod.mk.inj eh4).2] at hT
  exact hret r4 _ _ _ _ _ _ dX9_allBy_17 hT hS ⟨hR3, hF3⟩
set_option maxRecDepth 100000 in
set_option maxHeartbeats 4000000 in
theorem m_X9_laws {l : Launch} {D : va_G} {h : Nat → Nat} {cz : Nat → ClassId} {z : EZ} {i : Nat → Nat → Int32} {g : Nat → Nat → Int64} (hR : Rg rA i) (a_a : Int32) : DtI l yX9_laws cX9_laws 5 (some .int) ({ frames := 6, cells := 0, slots := 0, locals := 133 } : Room) D h cz z i g [.ref (h 96), .int a_a] (fun r u => Rg rA u.1 ∧ Fr [96, 109, 110, 111, 112, 113, 114, 115] [] i g u ∧ rg (-6) 255 r) := by
  refine e_I pn_X9_laws (Nat.le_of_ble_eq_true rfl) ?_
  intro p e s m args below meth c ls Q X Y hret hT hl hS
  have hx := X.1
  have hb := X.2.1
  have hl : lv_has ls 5 [(0, .ref (h 96)), (1, .int a_a)] := hl
  have hF : Fr [96, 109, 110, 111, 112, 113, 114, 115] [] i g (i, g) := Fr_rf _ _ _ _
  refine lv_aload_n hx hb dX9_laws_0 rfl (lv_at hl 0 rfl) ?_
  refine lv_iconst (v := 0) hx hb dX9_laws_1 (by decide) ?_
  refine r_puti X hT hS 96 0 pk_9_83 rfl rfl rfl rfl (by decide) dX9_laws_2 (fun H locs i1 ei1 hT hS => ?_)
  have hR1 := Rg_put hR ei1 (-2147483648) 2147483647 rfl (rg_k (by decide) : rg 0 0 0) (by decide)
  have hF1 := Fr_puti hF ei1 (by decide)
  refine lv_aload_n hx hb dX9_laws_5 rfl (lv_at hl 0 rfl) ?_
  refine lv_iload_n hx hb dX9_laws_6 rfl (lv_at hl 1 rfl) ?_
  refine lv_iconst (v := 1) hx hb dX9_laws_7 (by decide) ?_
  refine e_Vi (As := [.int a_a, .int 1]) (rest := []) X Y hT hS (m_X9_whyNot hR1 a_a (1) (rg_w (rg_k (by decide) : rg 1 1 1) (by decide) : rg 0 1 1)) mk_X9_whyNot gm_1947 rfl rfl (by decide) hd_X9_whyNot ⟨rfl, rfl⟩ ⟨Nat.le_of_ble_eq_true rfl, Nat.le_of_ble_eq_true rfl⟩ hl.1 rfl (Nat.le_of_ble_eq_true rfl) dX9_laws_8 ⟨Nat.zero_le _, Nat.zero_le _⟩ (fun r2 i2 g2 H locs hq hT hS => ?_)
  rcases hq with hq | hq
  ·
    obtain ⟨eh2, rfl, hp2_0, hf2_0, hf2_1⟩ := hq
    rw [(Prod.mk.inj eh2).1, (Prod.mk.inj eh2).2] at hT
    replace hp2_0 : seenM i1 g a_a := by rw [eh2] at hp2_0; exact hp2_0
    have h3 : rg 0 3 a_a := ⟨by have := (rg_top a_a).1; have := hf2_0.1; omega, by have := (rg_top a_a).2; have := hf2_0.2; omega⟩
    refine lv_istore_n (lv' := [(2, .int 0), (0, .ref (h 96)), (1, .int a_a)]) hx hb dX9_laws_11 rfl hl (by decide) rfl (fun ls hl => ?_)
    refine lv_iload_n hx hb dX9_laws_12 rfl (lv_at hl 0 rfl) ?_
    refine lv_if_eq (tgt := 18) hx hb dX9_laws_13 (by decide) (fun c4 => ?_) (fun c4 => (x_ne (rg_k (by decide) : rg 0 0 0) (rg_k (by decide) : rg 0 0 0) (i_ne c4) (by decide)).elim)
    refine lv_iconst (v := 0) hx hb dX9_laws_18 (by decide) ?_
    refine lv_istore_n (lv' := [(3, .int 0), (2, .int 0), (0, .ref (h 96)), (1, .int a_a)]) hx hb dX9_laws_19 rfl hl (by decide) rfl (fun ls hl => ?_)
    refine lv_iconst (v := 0) hx hb dX9_laws_20 (by decide) ?_
    refine lv_istore (lv' := [(4, .int 0), (3, .int 0), (2, .int 0), (0, .ref (h 96)), (1, .int a_a)]) hx hb dX9_laws_21 hl (by decide) rfl (fun ls hl => ?_)
    have L23_5 : ∀ (n7_ : Nat) (x23_3 : Int32) (x23_4 : Int32) (i6 : Nat → Nat → Int32) (g6 : Nat → Nat → Int64) (H : Heap) (locs : List Loc) (ls : Array Slot), rg 0 255 x23_3 → rg 0 4 x23_4 → Rg rA i6 → Fr [96, 109, 110, 111, 112, 113, 114, 115] [] i g (i6, g6) → (seenM i6 g6 a_a) → TH D h cz i6 g6 H → va_S (hA h) s.heap H locs → lv_has ls 5 [(0, .ref (h 96)), (1, .int a_a), (3, .int x23_3), (4, .int x23_4)] → (4 - x23_4.toInt).toNat < n7_ → W p l e ({ frames := 6, cells := 0, slots := 0, locals := 133 } : Room) s m args below meth c H locs 0 0 Q (F0 m 23 ls []) := by
      intro n7_
      induction n7_ with
      | zero => intro x23_3 x23_4 i6 g6 H locs ls hhx23_3 hhx23_4 hR6 hF6 hP6_0 hT hS hl hm7_; exact absurd hm7_ (Nat.not_lt_zero _)
      | succ n7_ ih7_ =>
        intro x23_3 x23_4 i6 g6 H locs ls hhx23_3 hhx23_4 hR6 hF6 hP6_0 hT hS hl hm7_
        refine lv_iload hx hb dX9_laws_23 (lv_at hl 3 rfl) ?_
        refine lv_iconst (v := 4) hx hb dX9_laws_25 (by decide) ?_
        refine lv_icmp_ge (tgt := 61) hx hb dX9_laws_26 (by decide) (fun c8 => ?_) (fun c8 => ?_)
        ·
          have q8 : 4 ≤ x23_4.toInt := i_le c8
          have h9 : rg 4 4 x23_4 := t_ley 4 4 (rg_k (by decide) : rg 4 4 4) hhx23_4 (i_le c8) (by decide)
          refine lv_iload_n hx hb dX9_laws_61 rfl (lv_at hl 2 rfl) ?_
          exact hret x23_3 _ _ _ _ _ _ dX9_laws_62 hT hS ⟨hR6, hF6, (rg_w hhx23_3 (by decide) : rg (-6) 255 x23_3)⟩
        ·
          have q8 : x23_4.toInt < 4 := i_nle c8
          have h10 : rg 0 3 x23_4 := t_ltx 0 3 hhx23_4 (rg_k (by decide) : rg 4 4 4) (i_nle c8) (by decide)
          refine lv_aload_n hx hb dX9_laws_29 rfl (lv_at hl 0 rfl) ?_
          refine lv_iload hx hb dX9_laws_30 (lv_at hl 3 rfl) ?_
          refine e_Vi (As := [.int x23_4]) (rest := []) X Y hT hS (m_X9_allBy hR6 x23_4) mk_X9_allBy gm_1980 rfl rfl (by decide) hd_X9_allBy ⟨rfl, rfl⟩ ⟨Nat.le_of_ble_eq_true rfl, Nat.le_of_ble_eq_true rfl⟩ hl.1 rfl (Nat.le_of_ble_eq_true rfl) dX9_laws_32 ⟨Nat.zero_le _, Nat.zero_le _⟩ (fun r11 i11 g11 H locs hq hT hS => ?_)
          obtain ⟨hR11, hf11⟩ := hq
          have hF11 := Fr_tr hF6 hf11 (by decide)
          have hN11 : seenM i11 g11 a_a := seenM_f hP6_0 hf11 (by decide) (by decide)
          refine lv_pop hx hb dX9_laws_35 rfl ?_
          refine lv_iload_n hx hb dX9_laws_36 rfl (lv_at hl 2 rfl) ?_
          refine lv_aload_n hx hb dX9_laws_37 rfl (lv_at hl 0 rfl) ?_
          refine lv_iload_n hx hb dX9_laws_38 rfl (lv_at hl 1 rfl) ?_
          refine e_Vi (As := [.int a_a]) (rest := [.int x23_3]) X Y hT hS (m_X9_isSo hR11 a_a h3 hN11) mk_X9_isSo gm_1956 rfl rfl (by decide) hd_X9_isSo ⟨rfl, rfl⟩ ⟨Nat.le_of_ble_eq_true rfl, Nat.le_of_ble_eq_true rfl⟩ hl.1 rfl (Nat.le_of_ble_eq_true rfl) dX9_laws_39 ⟨Nat.zero_le _, Nat.zero_le _⟩ (fun r12 i12 g12 H locs hq hT hS => ?_)
          obtain ⟨eh12, hr12⟩ := hq
          rw [(Prod.mk.inj eh12).1, (Prod.mk.inj eh12).2] at hT
          refine lv_if_eq (tgt := 52) hx hb dX9_laws_42 (by decide) (fun c13 => ?_) (fun c13 => ?_)
          ·
            have q13 : r12.toInt = 0 := i_eq c13
            have h14 : rg 0 0 r12 := t_eqx 0 0 hr12 (rg_k (by decide) : rg 0 0 0) (i_eq c13) (by decide)
            refine lv_iconst (v := 0) hx hb dX9_laws_52 (by decide) ?_
            refine q_ior hx hb dX9_laws_53 (fun x15 ex15 => ?_)
            have h16 : rg 0 255 x15 := rg_or8 ex15 hhx23_3 (rg_k (by decide) : rg 0 0 0) (by decide)
            refine lv_istore_n (lv' := [(3, .int x15), (0, .ref (h 96)), (1, .int a_a), (4, .int x23_4)]) hx hb dX9_laws_54 rfl hl (by decide) rfl (fun ls hl => ?_)
            obtain ⟨x17, ex17⟩ : ∃ y : Int32, y = x23_4 + 1 := ⟨_, rfl⟩
            refine lv_iinc (v := x17) (lv' := [(4, .int x17), (3, .int x15), (0, .ref (h 96)), (1, .int a_a)]) hx hb dX9_laws_55 hl (k := 3) rfl (by rw [ex17]; rfl) (by decide) rfl (fun ls hl => ?_)
            obtain ⟨hx17, ax17⟩ := rg_add 1 4 ex17 h10 (rg_k (by decide) : rg 1 1 1) (by decide)
            replace ax17 : x17.toInt = x23_4.toInt + 1 := ax17
            refine lv_goto (tgt := 23) hx hb dX9_laws_58 (by decide) ?_
            exact ih7_ x15 x17 i11 g11 _ _ _ h16 (rg_w hx17 (by decide) : rg 0 4 x17) hR11 hF11 hN11 hT hS (lv_sub hl [2, 3, 1, 0] rfl) (m_up ax17 hx17 (by decide) hm7_)
          ·
            have q13 : ¬ r12.toInt = 0 := i_ne c13
            have h18 : rg 1 1 r12 := t_nelo 1 hr12 (rg_k (by decide) : rg 0 0 0) (i_ne c13) (by decide)
            refine lv_iconst (v := 1) hx hb dX9_laws_45 (by decide) ?_
            refine lv_iload hx hb dX9_laws_46 (lv_at hl 3 rfl) ?_
            refine q_ishl hx hb dX9_laws_48 (fun x19 ex19 => ?_)
            have h20 : rg 1 8 x19 := rg_shl1 ex19 h10 (by decide)
            refine lv_goto (tgt := 53) hx hb dX9_laws_49 (by decide) ?_
            refine q_ior hx hb dX9_laws_53 (fun x21 ex21 => ?_)
            have h22 : rg 0 255 x21 := rg_or8 ex21 hhx23_3 h20 (by decide)
            refine lv_istore_n (lv' := [(3, .int x21), (0, .ref (h 96)), (1, .int a_a), (4, .int x23_4)]) hx hb dX9_laws_54 rfl hl (by decide) rfl (fun ls hl => ?_)
            obtain ⟨x23, ex23⟩ : ∃ y : Int32, y = x23_4 + 1 := ⟨_, rfl⟩
            refine lv_iinc (v := x23) (lv' := [(4, .int x23), (3, .int x21), (0, .ref (h 96)), (1, .int a_a)]) hx hb dX9_laws_55 hl (k := 3) rfl (by rw [ex23]; rfl) (by decide) rfl (fun ls hl => ?_)
            obtain ⟨hx23, ax23⟩ := rg_add 1 4 ex23 h10 (rg_k (by decide) : rg 1 1 1) (by decide)
            replace ax23 : x23.toInt = x23_4.toInt + 1 := ax23
            refine lv_goto (tgt := 23) hx hb dX9_laws_58 (by decide) ?_
            exact ih7_ x21 x23 i11 g11 _ _ _ h22 (rg_w hx23 (by decide) : rg 0 4 x23) hR11 hF11 hN11 hT hS (lv_sub hl [2, 3, 1, 0] rfl) (m_up ax23 hx23 (by decide) hm7_)
    exact L23_5 _ (0) (0) i1 g _ _ _ (rg_w (rg_k (by decide) : rg 0 0 0) (by decide) : rg 0 255 0) (rg_w (rg_k (by decide) : rg 0 0 0) (by decide) : rg 0 4 0) hR1 hF1 hp2_0 hT hS (lv_sub hl [3, 4, 1, 0] rfl) (Nat.lt_succ_self _)
  ·
    obtain ⟨eh2, hr2⟩ := hq
    rw [(Prod.mk.inj eh2).1, (Prod.mk.inj eh2).2] at hT
    refine lv_istore_n (lv' := [(2, .int r2), (0, .ref (h 96)), (1, .int a_a)]) hx hb dX9_laws_11 rfl hl (by decide) rfl (fun ls hl => ?_)
    refine lv_iload_n hx hb dX9_laws_12 rfl (lv_at hl 0 rfl) ?_
    refine lv_if_eq (tgt := 18) hx hb dX9_laws_13 (by decide) (fun c24 => (x_eq hr2 (rg_k (by decide) : rg 0 0 0) (i_eq c24) (by decide)).elim) (fun c24 => ?_)
    have q24 : ¬ r2.toInt = 0 := i_ne c24
    refine lv_iload_n hx hb dX9_laws_16 rfl (lv_at hl 0 rfl) ?_
    exact hret r2 _ _ _ _ _ _ dX9_laws_17 hT hS ⟨hR1, hF1, (rg_w hr2 (by decide) : rg (-6) 255 r2)⟩
set_option maxRecDepth 100000 in
set_option maxHeartbeats 4000000 in
theorem m_X9_by {l : Launch} {D : va_G} {h : Nat → Nat} {cz : Nat → ClassId} {z : EZ} {i : Nat → Nat → Int32} {g : Nat → Nat → Int64} (hR : Rg rA i) (a_a : Int32) : DtI l yX9_by cX9_by 2 (some .int) ({ frames := 6, cells := 0, slots := 0, locals := 133 } : Room) D h cz z i g [.ref (h 96), .int a_a] (fun r u => Rg rA u.1 ∧ Fr [96, 109, 110, 111, 112, 113, 114, 115] [] i g u) := by
  refine e_I pn_X9_by (Nat.le_of_ble_eq_true rfl) ?_
  intro p e s m args below meth c ls Q X Y hret hT hl hS
  have hx := X.1
  have hb := X.2.1
  have hl : lv_has ls 2 [(0, .ref (h 96)), (1, .int a_a)] := hl
  have hF : Fr [96, 109, 110, 111, 112, 113, 114, 115] [] i g (i, g) := Fr_rf _ _ _ _
  refine lv_aload_n hx hb dX9_by_0 rfl (lv_at hl 0 rfl) ?_
  refine lv_iconst (v := 0) hx hb dX9_by_1 (by decide) ?_
  refine r_puti X hT hS 96 0 pk_9_83 rfl rfl rfl rfl (by decide) dX9_by_2 (fun H locs i1 ei1 hT hS => ?_)
  have hR1 := Rg_put hR ei1 (-2147483648) 2147483647 rfl (rg_k (by decide) : rg 0 0 0) (by decide)
  have hF1 := Fr_puti hF ei1 (by decide)
  refine lv_aload_n hx hb dX9_by_5 rfl (lv_at hl 0 rfl) ?_
  refine e_Vi (As := []) (rest := []) X Y hT hS (m_X9_isTale hR1) mk_X9_isTale gm_1685 rfl rfl (by decide) hd_X9_isTale ⟨rfl, rfl⟩ ⟨Nat.le_of_ble_eq_true rfl, Nat.le_of_ble_eq_true rfl⟩ hl.1 rfl (Nat.le_of_ble_eq_true rfl) dX9_by_6 ⟨Nat.zero_le _, Nat.zero_le _⟩ (fun r2 i2 g2 H locs hq hT hS => ?_)
  obtain ⟨eh2, hr2⟩ := hq
  rw [(Prod.mk.inj eh2).1, (Prod.mk.inj eh2).2] at hT
  refine lv_if_eq (tgt := 32) hx hb dX9_by_9 (by decide) (fun c3 => ?_) (fun c3 => ?_)
  ·
    have q3 : r2.toInt = 0 := i_eq c3
    have h4 : rg 0 0 r2 := t_eqx 0 0 hr2 (rg_k (by decide) : rg 0 0 0) (i_eq c3) (by decide)
    refine lv_bipush (v := (-2)) hx hb dX9_by_32 (by decide) ?_
    exact hret (-2) _ _ _ _ _ _ dX9_by_34 hT hS ⟨hR1, hF1⟩
  ·
    have q3 : ¬ r2.toInt = 0 := i_ne c3
    have h5 : rg 1 1 r2 := t_nelo 1 hr2 (rg_k (by decide) : rg 0 0 0) (i_ne c3) (by decide)
    refine lv_iload_n hx hb dX9_by_12 rfl (lv_at hl 1 rfl) ?_
    refine q_i2l hx hb dX9_by_13 (fun y6 ey6 => ?_)
    obtain ⟨hy6, ay6⟩ := rg_i2l ey6 (rg_top a_a)
    refine lv_lconst (v := 0) hx hb dX9_by_14 (by decide) ?_
    refine lv_ldc2 (v := 3) hx hb X.2.2.2.1 (X.2.2.2.2.1 _ gm_1495) dX9_by_15 ?_
    refine e_Si (As := [.long y6, .long 0, .long 3]) (rest := []) X Y hT hS (m_in y6 (0) (3)) sk_X9_in gm_1496 hd_X9_in ⟨rfl, rfl⟩ ⟨Nat.le_of_ble_eq_true rfl, Nat.le_of_ble_eq_true rfl⟩ hl.1 rfl (Nat.le_of_ble_eq_true rfl) dX9_by_18 ⟨Nat.zero_le _, Nat.zero_le _⟩ (fun r7 i7 g7 H locs hq hT hS => ?_)
    rcases hq with hq | hq
    ·
      obtain ⟨eh7, rfl, hf7_0⟩ := hq
      rw [(Prod.mk.inj eh7).1, (Prod.mk.inj eh7).2] at hT
      replace hf7_0 : 0 ≤ y6.toInt ∧ y6.toInt ≤ 3 := hf7_0
      have h8 : rgL 0 3 y6 := ⟨by have := hy6.1; have := hy6.2; omega, by have := hy6.1; have := hy6.2; omega⟩
      have h9 : rg 0 3 a_a := ⟨by have := h8.1; have := (rg_top a_a).1; have := ay6; omega, by have := h8.2; have := (rg_top a_a).2; have := ay6; omega⟩
      refine lv_if_eq (tgt := 32) hx hb dX9_by_21 (by decide) (fun c10 => (x_eq (rg_k (by decide) : rg 1 1 1) (rg_k (by decide) : rg 0 0 0) (i_eq c10) (by decide)).elim) (fun c10 => ?_)
      refine lv_aload_n hx hb dX9_by_24 rfl (lv_at hl 0 rfl) ?_
      refine lv_iload_n hx hb dX9_by_25 rfl (lv_at hl 1 rfl) ?_
      refine e_Vi (As := [.int a_a]) (rest := []) X Y hT hS (m_X9_allBy hR1 a_a) mk_X9_allBy gm_1980 rfl rfl (by decide) hd_X9_allBy ⟨rfl, rfl⟩ ⟨Nat.le_of_ble_eq_true rfl, Nat.le_of_ble_eq_true rfl⟩ hl.1 rfl (Nat.le_of_ble_eq_true rfl) dX9_by_26 ⟨Nat.zero_le _, Nat.zero_le _⟩ (fun r11 i11 g11 H locs hq hT hS => ?_)
      obtain ⟨hR11, hf11⟩ := hq
      have hF11 := Fr_tr hF1 hf11 (by decide)
      refine lv_goto (tgt := 34) hx hb dX9_by_29 (by decide) ?_
      exact hret r11 _ _ _ _ _ _ dX9_by_34 hT hS ⟨hR11, hF11⟩
    ·
      obtain ⟨eh7, rfl, hf7_0⟩ := hq
      rw [(Prod.mk.inj eh7).1, (Prod.mk.inj eh7).2] at hT
      replace hf7_0 : y6.toInt < 0 ∨ 3 < y6.toInt := hf7_0
      refine lv_if_eq (tgt := 32) hx hb dX9_by_21 (by decide) (fun c12 => ?_) (fun c12 => (x_ne (rg_k (by decide) : rg 0 0 0) (rg_k (by decide) : rg 0 0 0) (i_ne c12) (by decide)).elim)
      refine lv_bipush (v := (-2)) hx hb dX9_by_32 (by decide) ?_
      exact hret (-2) _ _ _ _ _ _ dX9_by_34 hT hS ⟨hR1, hF1⟩
