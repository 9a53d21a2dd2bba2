set_option maxRecDepth 100000 in
set_option maxHeartbeats 4000000 in
theorem m_X9_law {l : Launch} {D : va_G} {h : Nat → Nat} {cz : Nat → ClassId} {z : EZ} {i : Nat → Nat → Int32} {g : Nat → Nat → Int64} (hR : Rg rA i) : DtI l yX9_law cX9_law 3 (some .int) ({ frames := 6, cells := 0, slots := 0, locals := 133 } : Room) D h cz z i g [.ref (h 96)] (fun r u => Rg rA u.1 ∧ Fr [96, 109, 110, 111, 112, 113, 114, 115] [] i g u ∧ rg (-2) 3 r) := by
  refine e_I pn_X9_law (Nat.le_of_ble_eq_true rfl) ?_
  intro p e s m args below meth c ls Q X Y hret hT hl hS
  have hx := X.1
  have hb := X.2.1
  have hl : lv_has ls 3 [(0, .ref (h 96))] := hl
  have hF : Fr [96, 109, 110, 111, 112, 113, 114, 115] [] i g (i, g) := Fr_rf _ _ _ _
  refine lv_aload_n hx hb dX9_law_0 rfl (lv_at hl 0 rfl) ?_
  refine lv_iconst (v := 0) hx hb dX9_law_1 (by decide) ?_
  refine r_puti X hT hS 96 0 pk_9_83 rfl rfl rfl rfl (by decide) dX9_law_2 (fun H locs i1 ei1 hT hS => ?_)
  have hR1 := Rg_put hR ei1 (-2147483648) 2147483647 rfl (rg_k (by decide) : rg 0 0 0) (by decide)
  have hF1 := Fr_puti hF ei1 (by decide)
  refine lv_aload_n hx hb dX9_law_5 rfl (lv_at hl 0 rfl) ?_
  refine e_Vi (As := []) (rest := []) X Y hT hS (m_X9_isTale hR1) mk_X9_isTale gm_1685 rfl rfl (by decide) hd_X9_isTale ⟨rfl, rfl⟩ ⟨Nat.le_of_ble_eq_true rfl, Nat.le_of_ble_eq_true rfl⟩ hl.1 rfl (Nat.le_of_ble_eq_true rfl) dX9_law_6 ⟨Nat.zero_le _, Nat.zero_le _⟩ (fun r2 i2 g2 H locs hq hT hS => ?_)
  obtain ⟨eh2, hr2⟩ := hq
  rw [(Prod.mk.inj eh2).1, (Prod.mk.inj eh2).2] at hT
  refine lv_if_ne (tgt := 15) hx hb dX9_law_9 (by decide) (fun c3 => ?_) (fun c3 => ?_)
  ·
    have q3 : ¬ r2.toInt = 0 := i_ne c3
    have h4 : rg 1 1 r2 := t_nelo 1 hr2 (rg_k (by decide) : rg 0 0 0) (i_ne c3) (by decide)
    refine lv_iconst (v := 0) hx hb dX9_law_15 (by decide) ?_
    refine lv_istore_n (lv' := [(1, .int 0), (0, .ref (h 96))]) hx hb dX9_law_16 rfl hl (by decide) rfl (fun ls hl => ?_)
    refine lv_iconst (v := 1) hx hb dX9_law_17 (by decide) ?_
    refine lv_istore_n (lv' := [(2, .int 1), (1, .int 0), (0, .ref (h 96))]) hx hb dX9_law_18 rfl hl (by decide) rfl (fun ls hl => ?_)
    have L19_5 : ∀ (n7_ : Nat) (x19_1 : Int32) (x19_2 : Int32) (i6 : Nat → Nat → Int32) (g6 : Nat → Nat → Int64) (H : Heap) (locs : List Loc) (ls : Array Slot), rg 0 3 x19_1 → rg 1 4 x19_2 → Rg rA i6 → Fr [96, 109, 110, 111, 112, 113, 114, 115] [] i g (i6, g6) → TH D h cz i6 g6 H → va_S (hA h) s.heap H locs → lv_has ls 3 [(0, .ref (h 96)), (1, .int x19_1), (2, .int x19_2)] → (4 - x19_2.toInt).toNat < n7_ → W p l e ({ frames := 6, cells := 0, slots := 0, locals := 133 } : Room) s m args below meth c H locs 0 0 Q (F0 m 19 ls []) := by
      intro n7_
      induction n7_ with
      | zero => intro x19_1 x19_2 i6 g6 H locs ls hhx19_1 hhx19_2 hR6 hF6 hT hS hl hm7_; exact absurd hm7_ (Nat.not_lt_zero _)
      | succ n7_ ih7_ =>
        intro x19_1 x19_2 i6 g6 H locs ls hhx19_1 hhx19_2 hR6 hF6 hT hS hl hm7_
        refine lv_iload_n hx hb dX9_law_19 rfl (lv_at hl 2 rfl) ?_
        refine lv_iconst (v := 4) hx hb dX9_law_20 (by decide) ?_
        refine lv_icmp_ge (tgt := 45) hx hb dX9_law_21 (by decide) (fun c8 => ?_) (fun c8 => ?_)
        ·
          have q8 : 4 ≤ x19_2.toInt := i_le c8
          have h9 : rg 4 4 x19_2 := t_ley 4 4 (rg_k (by decide) : rg 4 4 4) hhx19_2 (i_le c8) (by decide)
          refine lv_iload_n hx hb dX9_law_45 rfl (lv_at hl 1 rfl) ?_
          exact hret x19_1 _ _ _ _ _ _ dX9_law_46 hT hS ⟨hR6, hF6, (rg_w hhx19_1 (by decide) : rg (-2) 3 x19_1)⟩
        ·
          have q8 : x19_2.toInt < 4 := i_nle c8
          have h10 : rg 1 3 x19_2 := t_ltx 1 3 hhx19_2 (rg_k (by decide) : rg 4 4 4) (i_nle c8) (by decide)
          refine lv_aload_n hx hb dX9_law_24 rfl (lv_at hl 0 rfl) ?_
          refine lv_iload_n hx hb dX9_law_25 rfl (lv_at hl 2 rfl) ?_
          refine e_Vi (As := [.int x19_2]) (rest := []) X Y hT hS (m_X9_allBy hR6 x19_2) mk_X9_allBy gm_1980 rfl rfl (by decide) hd_X9_allBy ⟨rfl, rfl⟩ ⟨Nat.le_of_ble_eq_true rfl, Nat.le_of_ble_eq_true rfl⟩ hl.1 rfl (Nat.le_of_ble_eq_true rfl) dX9_law_26 ⟨Nat.zero_le _, Nat.zero_le _⟩ (fun r11 i11 g11 H locs hq hT hS => ?_)
          obtain ⟨hR11, hf11⟩ := hq
          have hF11 := Fr_tr hF6 hf11 (by decide)
          refine lv_aload_n hx hb dX9_law_29 rfl (lv_at hl 0 rfl) ?_
          refine lv_iload_n hx hb dX9_law_30 rfl (lv_at hl 1 rfl) ?_
          refine e_Vi (As := [.int x19_1]) (rest := [.int r11]) X Y hT hS (m_X9_allBy hR11 x19_1) mk_X9_allBy gm_1980 rfl rfl (by decide) hd_X9_allBy ⟨rfl, rfl⟩ ⟨Nat.le_of_ble_eq_true rfl, Nat.le_of_ble_eq_true rfl⟩ hl.1 rfl (Nat.le_of_ble_eq_true rfl) dX9_law_31 ⟨Nat.zero_le _, Nat.zero_le _⟩ (fun r12 i12 g12 H locs hq hT hS => ?_)
          obtain ⟨hR12, hf12⟩ := hq
          have hF12 := Fr_tr hF11 hf12 (by decide)
          refine lv_icmp_le (tgt := 39) hx hb dX9_law_34 (by decide) (fun c13 => ?_) (fun c13 => ?_)
          ·
            have q13 : r11.toInt ≤ r12.toInt := i_le c13
            obtain ⟨x14, ex14⟩ : ∃ y : Int32, y = x19_2 + 1 := ⟨_, rfl⟩
            refine lv_iinc (v := x14) (lv' := [(2, .int x14), (0, .ref (h 96)), (1, .int x19_1)]) hx hb dX9_law_39 hl (k := 2) rfl (by rw [ex14]; rfl) (by decide) rfl (fun ls hl => ?_)
            obtain ⟨hx14, ax14⟩ := rg_add 2 4 ex14 h10 (rg_k (by decide) : rg 1 1 1) (by decide)
            replace ax14 : x14.toInt = x19_2.toInt + 1 := ax14
            refine lv_goto (tgt := 19) hx hb dX9_law_42 (by decide) ?_
            exact ih7_ x19_1 x14 i12 g12 _ _ _ hhx19_1 (rg_w hx14 (by decide) : rg 1 4 x14) hR12 hF12 hT hS (lv_sub hl [1, 2, 0] rfl) (m_up ax14 hx14 (by decide) hm7_)
          ·
            have q13 : r12.toInt < r11.toInt := i_nle c13
            have h15 : rg (-2147483648) 2147483646 r12 := t_ltx (-2147483648) 2147483646 (rg_top r12) (rg_top r11) (i_nle c13) (by decide)
            have h16 : rg (-2147483647) 2147483647 r11 := t_lty (-2147483647) 2147483647 (rg_top r12) (rg_top r11) (i_nle c13) (by decide)
            refine lv_iload_n hx hb dX9_law_37 rfl (lv_at hl 2 rfl) ?_
            refine lv_istore_n (lv' := [(1, .int x19_2), (0, .ref (h 96)), (2, .int x19_2)]) hx hb dX9_law_38 rfl hl (by decide) rfl (fun ls hl => ?_)
            obtain ⟨x17, ex17⟩ : ∃ y : Int32, y = x19_2 + 1 := ⟨_, rfl⟩
            refine lv_iinc (v := x17) (lv' := [(2, .int x17), (1, .int x19_2), (0, .ref (h 96))]) hx hb dX9_law_39 hl (k := 2) rfl (by rw [ex17]; rfl) (by decide) rfl (fun ls hl => ?_)
            obtain ⟨hx17, ax17⟩ := rg_add 2 4 ex17 h10 (rg_k (by decide) : rg 1 1 1) (by decide)
            replace ax17 : x17.toInt = x19_2.toInt + 1 := ax17
            refine lv_goto (tgt := 19) hx hb dX9_law_42 (by decide) ?_
            exact ih7_ x19_2 x17 i12 g12 _ _ _ (rg_w h10 (by decide) : rg 0 3 x19_2) (rg_w hx17 (by decide) : rg 1 4 x17) hR12 hF12 hT hS (lv_sub hl [2, 1, 0] rfl) (m_up ax17 hx17 (by decide) hm7_)
    exact L19_5 _ (0) (1) i1 g _ _ _ (rg_w (rg_k (by decide) : rg 0 0 0) (by decide) : rg 0 3 0) (rg_w (rg_k (by decide) : rg 1 1 1) (by decide) : rg 1 4 1) hR1 hF1 hT hS (lv_sub hl [2, 1, 0] rfl) (Nat.lt_succ_self _)
  ·
    have q3 : r2.toInt = 0 := i_eq c3
    have h18 : rg 0 0 r2 := t_eqx 0 0 hr2 (rg_k (by decide) : rg 0 0 0) (i_eq c3) (by decide)
    refine lv_bipush (v := (-2)) hx hb dX9_law_12 (by decide) ?_
    exact hret (-2) _ _ _ _ _ _ dX9_law_14 hT hS ⟨hR1, hF1, (rg_w (rg_k (by decide) : rg (-2) (-2) (-2)) (by decide) : rg (-2) 3 (-2))⟩
set_option maxRecDepth 100000 in
set_option maxHeartbeats 4000000 in
theorem m_X9_blunt {l : Launch} {D : va_G} {h : Nat → Nat} {cz : Nat → ClassId} {z : EZ} {i : Nat → Nat → Int32} {g : Nat → Nat → Int64} (hR : Rg rA i) : DtI l yX9_blunt cX9_blunt 4 (some .int) ({ frames := 6, cells := 0, slots := 0, locals := 132 } : Room) D h cz z i g [.ref (h 96)] (fun r u => Rg rA u.1 ∧ Fr [96, 109, 110, 111, 112, 113, 114, 115] [] i g u ∧ rg (-2) 8 r) := by
  refine e_I pn_X9_blunt (Nat.le_of_ble_eq_true rfl) ?_
  intro p e s m args below meth c ls Q X Y hret hT hl hS
  have hx := X.1
  have hb := X.2.1
  have hl : lv_has ls 4 [(0, .ref (h 96))] := hl
  have hF : Fr [96, 109, 110, 111, 112, 113, 114, 115] [] i g (i, g) := Fr_rf _ _ _ _
  refine lv_aload_n hx hb dX9_blunt_0 rfl (lv_at hl 0 rfl) ?_
  refine lv_iconst (v := 0) hx hb dX9_blunt_1 (by decide) ?_
  refine r_puti X hT hS 96 0 pk_9_83 rfl rfl rfl rfl (by decide) dX9_blunt_2 (fun H locs i1 ei1 hT hS => ?_)
  have hR1 := Rg_put hR ei1 (-2147483648) 2147483647 rfl (rg_k (by decide) : rg 0 0 0) (by decide)
  have hF1 := Fr_puti hF ei1 (by decide)
  refine lv_aload_n hx hb dX9_blunt_5 rfl (lv_at hl 0 rfl) ?_
  refine e_Vi (As := []) (rest := []) X Y hT hS (m_X9_isTale hR1) mk_X9_isTale gm_1685 rfl rfl (by decide) hd_X9_isTale ⟨rfl, rfl⟩ ⟨Nat.le_of_ble_eq_true rfl, Nat.le_of_ble_eq_true rfl⟩ hl.1 rfl (Nat.le_of_ble_eq_true rfl) dX9_blunt_6 ⟨Nat.zero_le _, Nat.zero_le _⟩ (fun r2 i2 g2 H locs hq hT hS => ?_)
  obtain ⟨eh2, hr2⟩ := hq
  rw [(Prod.mk.inj eh2).1, (Prod.mk.inj eh2).2] at hT
  refine lv_if_ne (tgt := 15) hx hb dX9_blunt_9 (by decide) (fun c3 => ?_) (fun c3 => ?_)
  ·
    have q3 : ¬ r2.toInt = 0 := i_ne c3
    have h4 : rg 1 1 r2 := t_nelo 1 hr2 (rg_k (by decide) : rg 0 0 0) (i_ne c3) (by decide)
    refine lv_aload_n hx hb dX9_blunt_15 rfl (lv_at hl 0 rfl) ?_
    refine e_Vv (As := []) (rest := []) X Y hT hS (m_X9_laysNow hR1) mk_X9_laysNow gm_1693 rfl rfl (by decide) hd_X9_laysNow ⟨rfl, rfl⟩ ⟨Nat.le_of_ble_eq_true rfl, Nat.le_of_ble_eq_true rfl⟩ hl.1 rfl (Nat.le_of_ble_eq_true rfl) dX9_blunt_16 ⟨Nat.zero_le _, Nat.zero_le _⟩ (fun i5 g5 H locs hq hT hS => ?_)
    obtain ⟨hR5, hf5⟩ := hq
    have hF5 := Fr_tr hF1 hf5 (by decide)
    refine lv_iconst (v := (-1)) hx hb dX9_blunt_19 (by decide) ?_
    refine lv_istore_n (lv' := [(1, .int (-1)), (0, .ref (h 96))]) hx hb dX9_blunt_20 rfl hl (by decide) rfl (fun ls hl => ?_)
    refine lv_aload_n hx hb dX9_blunt_21 rfl (lv_at hl 1 rfl) ?_
    refine e_Vi (As := []) (rest := []) X Y hT hS (m_X9_readAll hR5) mk_X9_readAll gm_1770 rfl rfl (by decide) hd_X9_readAll ⟨rfl, rfl⟩ ⟨Nat.le_of_ble_eq_true rfl, Nat.le_of_ble_eq_true rfl⟩ hl.1 rfl (Nat.le_of_ble_eq_true rfl) dX9_blunt_22 ⟨Nat.zero_le _, Nat.zero_le _⟩ (fun r6 i6 g6 H locs hq hT hS => ?_)
    have eh6 := hq
    rw [(Prod.mk.inj eh6).1, (Prod.mk.inj eh6).2] at hT
    refine lv_istore_n (lv' := [(2, .int r6), (1, .int (-1)), (0, .ref (h 96))]) hx hb dX9_blunt_25 rfl hl (by decide) rfl (fun ls hl => ?_)
    refine lv_iconst (v := 0) hx hb dX9_blunt_26 (by decide) ?_
    refine lv_istore_n (lv' := [(3, .int 0), (2, .int r6), (1, .int (-1)), (0, .ref (h 96))]) hx hb dX9_blunt_27 rfl hl (by decide) rfl (fun ls hl => ?_)
    have L28_7 : ∀ (n9_ : Nat) (x28_1 : Int32) (x28_2 : Int32) (x28_3 : Int32) (i8 : Nat → Nat → Int32) (g8 : Nat → Nat → Int64) (H : Heap) (locs : List Loc) (ls : Array Slot), rg (-1) 8 x28_1 → rg 0 8 x28_3 → Rg rA i8 → Fr [96, 109, 110, 111, 112, 113, 114, 115] [] i g (i8, g8) → TH D h cz i8 g8 H → va_S (hA h) s.heap H locs → lv_has ls 4 [(0, .ref (h 96)), (1, .int x28_1), (2, .int x28_2), (3, .int x28_3)] → (8 - x28_3.toInt).toNat < n9_ → W p l e ({ frames := 6, cells := 0, slots := 0, locals := 132 } : Room) s m args below meth c H locs 0 0 Q (F0 m 28 ls []) := by
      intro n9_
      induction n9_ with
      | zero => intro x28_1 x28_2 x28_3 i8 g8 H locs ls hhx28_1 hhx28_3 hR8 hF8 hT hS hl hm9_; exact absurd hm9_ (Nat.not_lt_zero _)
      | succ n9_ ih9_ =>
        intro x28_1 x28_2 x28_3 i8 g8 H locs ls hhx28_1 hhx28_3 hR8 hF8 hT hS hl hm9_
        refine lv_iload_n hx hb dX9_blunt_28 rfl (lv_at hl 3 rfl) ?_
        refine lv_aload_n hx hb dX9_blunt_29 rfl (lv_at hl 0 rfl) ?_
        refine r_getr X hT 96 17 103 fk_9_34 rfl rfl (by decide) dX9_blunt_30 ?_
        refine lv_iconst (v := 5) hx hb dX9_blunt_33 (by decide) ?_
        refine r_ialdc X hT 103 5 rfl (by decide) (v_in (rg_k (by decide) : rg 5 5 5) (by decide)) (by decide) dX9_blunt_34 ?_
        refine lv_icmp_ge (tgt := 77) hx hb dX9_blunt_35 (by decide) (fun c10 => ?_) (fun c10 => ?_)
        ·
          have q10 : (i8 103 5).toInt ≤ x28_3.toInt := i_le c10
          refine lv_iload_n hx hb dX9_blunt_77 rfl (lv_at hl 1 rfl) ?_
          exact hret x28_1 _ _ _ _ _ _ dX9_blunt_78 hT hS ⟨hR8, hF8, (rg_w hhx28_1 (by decide) : rg (-2) 8 x28_1)⟩
        ·
          have q10 : x28_3.toInt < (i8 103 5).toInt := i_nle c10
          have h11 : rg 0 7 x28_3 := t_ltx 0 7 hhx28_3 (Rg_at hR8 103 5 0 8 (by decide) rfl) (i_nle c10) (by decide)
          have h12 : rg 1 8 (i8 103 5) := t_lty 1 8 hhx28_3 (Rg_at hR8 103 5 0 8 (by decide) rfl) (i_nle c10) (by decide)
          refine lv_aload_n hx hb dX9_blunt_38 rfl (lv_at hl 0 rfl) ?_
          refine e_Vv (As := []) (rest := []) X Y hT hS (m_X9_lays hR8) mk_X9_lays gm_1658 rfl rfl (by decide) hd_X9_lays ⟨rfl, rfl⟩ ⟨Nat.le_of_ble_eq_true rfl, Nat.le_of_ble_eq_true rfl⟩ hl.1 rfl (Nat.le_of_ble_eq_true rfl) dX9_blunt_39 ⟨Nat.zero_le _, Nat.zero_le _⟩ (fun i13 g13 H locs hq hT hS => ?_)
          obtain ⟨hR13, hf13⟩ := hq
          have hF13 := Fr_tr hF8 hf13 (by decide)
          refine lv_aload_n hx hb dX9_blunt_42 rfl (lv_at hl 0 rfl) ?_
          refine lv_iconst (v := 1) hx hb dX9_blunt_43 (by decide) ?_
          refine lv_iload_n hx hb dX9_blunt_44 rfl (lv_at hl 3 rfl) ?_
          refine q_ishl hx hb dX9_blunt_45 (fun x14 ex14 => ?_)
          have h15 : rg 1 128 x14 := rg_shl1 ex14 h11 (by decide)
          refine r_puti X hT hS 96 26 pk_9_269 rfl rfl rfl rfl (by decide) dX9_blunt_46 (fun H locs i16 ei16 hT hS => ?_)
          have hR16 := Rg_put hR13 ei16 (-2147483648) 2147483647 rfl h15 (by decide)
          have hF16 := Fr_puti hF13 ei16 (by decide)
          refine lv_aload_n hx hb dX9_blunt_49 rfl (lv_at hl 0 rfl) ?_
          refine e_Vv (As := []) (rest := []) X Y hT hS (m_X9_runs hR16) mk_X9_runs gm_1697 rfl rfl (by decide) hd_X9_runs ⟨rfl, rfl⟩ ⟨Nat.le_of_ble_eq_true rfl, Nat.le_of_ble_eq_true rfl⟩ hl.1 rfl (Nat.le_of_ble_eq_true rfl) dX9_blunt_50 ⟨Nat.zero_le _, Nat.zero_le _⟩ (fun i17 g17 H locs hq hT hS => ?_)
          obtain ⟨hR17, hf17⟩ := hq
          have hF17 := Fr_tr hF16 hf17 (by decide)
          refine lv_aload_n hx hb dX9_blunt_53 rfl (lv_at hl 0 rfl) ?_
          refine e_Vi (As := []) (rest := []) X Y hT hS (m_X9_readAll hR17) mk_X9_readAll gm_1770 rfl rfl (by decide) hd_X9_readAll ⟨rfl, rfl⟩ ⟨Nat.le_of_ble_eq_true rfl, Nat.le_of_ble_eq_true rfl⟩ hl.1 rfl (Nat.le_of_ble_eq_true rfl) dX9_blunt_54 ⟨Nat.zero_le _, Nat.zero_le _⟩ (fun r18 i18 g18 H locs hq hT hS => ?_)
          have eh18 := hq
          rw [(Prod.mk.inj eh18).1, (Prod.mk.inj eh18).2] at hT
          refine lv_iload_n hx hb dX9_blunt_57 rfl (lv_at hl 2 rfl) ?_
          refine lv_icmp_gt (tgt := 64) hx hb dX9_blunt_58 (by decide) (fun c19 => ?_) (fun c19 => ?_)
          ·
            have q19 : x28_2.toInt < r18.toInt := i_lt c19
            have h20 : rg (-2147483648) 2147483646 x28_2 := t_ltx (-2147483648) 2147483646 (rg_top x28_2) (rg_top r18) (i_lt c19) (by decide)
            have h21 : rg (-2147483647) 2147483647 r18 := t_lty (-2147483647) 2147483647 (rg_top x28_2) (rg_top r18) (i_lt c19) (by decide)
            refine lv_iload_n hx hb dX9_blunt_64 rfl (lv_at hl 3 rfl) ?_
            refine lv_istore_n (lv' := [(1, .int x28_3), (0, .ref (h 96)), (2, .int x28_2), (3, .int x28_3)]) hx hb dX9_blunt_65 rfl hl (by decide) rfl (fun ls hl => ?_)
            refine lv_aload_n hx hb dX9_blunt_66 rfl (lv_at hl 1 rfl) ?_
            refine e_Vi (As := []) (rest := []) X Y hT hS (m_X9_readAll hR17) mk_X9_readAll gm_1770 rfl rfl (by decide) hd_X9_readAll ⟨rfl, rfl⟩ ⟨Nat.le_of_ble_eq_true rfl, Nat.le_of_ble_eq_true rfl⟩ hl.1 rfl (Nat.le_of_ble_eq_true rfl) dX9_blunt_67 ⟨Nat.zero_le _, Nat.zero_le _⟩ (fun r22 i22 g22 H locs hq hT hS => ?_)
            have eh22 := hq
            rw [(Prod.mk.inj eh22).1, (Prod.mk.inj eh22).2] at hT
            refine lv_istore_n (lv' := [(2, .int r22), (1, .int x28_3), (0, .ref (h 96)), (3, .int x28_3)]) hx hb dX9_blunt_70 rfl hl (by decide) rfl (fun ls hl => ?_)
            obtain ⟨x23, ex23⟩ : ∃ y : Int32, y = x28_3 + 1 := ⟨_, rfl⟩
            refine lv_iinc (v := x23) (lv' := [(3, .int x23), (2, .int r22), (1, .int x28_3), (0, .ref (h 96))]) hx hb dX9_blunt_71 hl (k := 3) rfl (by rw [ex23]; rfl) (by decide) rfl (fun ls hl => ?_)
            obtain ⟨hx23, ax23⟩ := rg_add 1 8 ex23 h11 (rg_k (by decide) : rg 1 1 1) (by decide)
            replace ax23 : x23.toInt = x28_3.toInt + 1 := ax23
            refine lv_goto (tgt := 28) hx hb dX9_blunt_74 (by decide) ?_
            exact ih9_ x28_3 r22 x23 i17 g17 _ _ _ (rg_w h11 (by decide) : rg (-1) 8 x28_3) (rg_w hx23 (by decide) : rg 0 8 x23) hR17 hF17 hT hS (lv_sub hl [3, 2, 1, 0] rfl) (m_up ax23 hx23 (by decide) hm9_)
          ·
            have q19 : r18.toInt ≤ x28_2.toInt := i_nlt c19
            refine lv_goto (tgt := 71) hx hb dX9_blunt_61 (by decide) ?_
            obtain ⟨x24, ex24⟩ : ∃ y : Int32, y = x28_3 + 1 := ⟨_, rfl⟩
            refine lv_iinc (v := x24) (lv' := [(3, .int x24), (0, .ref (h 96)), (1, .int x28_1), (2, .int x28_2)]) hx hb dX9_blunt_71 hl (k := 3) rfl (by rw [ex24]; rfl) (by decide) rfl (fun ls hl => ?_)
            obtain ⟨hx24, ax24⟩ := rg_add 1 8 ex24 h11 (rg_k (by decide) : rg 1 1 1) (by decide)
            replace ax24 : x24.toInt = x28_3.toInt + 1 := ax24
            refine lv_goto (tgt := 28) hx hb dX9_blunt_74 (by decide) ?_
            exact ih9_ x28_1 x28_2 x24 i17 g17 _ _ _ hhx28_1 (rg_w hx24 (by decide) : rg 0 8 x24) hR17 hF17 hT hS (lv_sub hl [1, 2, 3, 0] rfl) (m_up ax24 hx24 (by decide) hm9_)
    exact L28_7 _ ((-1)) r6 (0) i5 g5 _ _ _ (rg_w (rg_k (by decide) : rg (-1) (-1) (-1)) (by decide) : rg (-1) 8 (-1)) (rg_w (rg_k (by decide) : rg 0 0 0) (by decide) : rg 0 8 0) hR5 hF5 hT hS (lv_sub hl [3, 2, 1, 0] rfl) (Nat.lt_succ_self _)
  ·
    have q3 : r2.toInt = 0 := i_eq c3
    have h25 : rg 0 0 r2 := t_eqx 0 0 hr2 (rg_k (by decide) : rg 0 0 0) (i_eq c3) (by decide)
    refine lv_bipush (v := (-2)) hx hb dX9_blunt_12 (by decide) ?_
    exact hret (-2) _ _ _ _ _ _ dX9_blunt_14 hT hS ⟨hR1, hF1, (rg_w (rg_k (by decide) : rg (-2) (-2) (-2)) (by decide) : rg (-2) 8 (-2))⟩
set_option maxRecDepth 100000 in
set_option maxHeartbeats 4000000 in
theorem m_X9_slit {l : Launch} {D : va_G} {h : Nat → Nat} {cz : Nat → ClassId} {z : EZ} {i : Nat → Nat → Int32} {g : Nat → Nat → Int64} (hR : Rg rA i) : DtI l yX9_slit cX9_slit 4 (some .int) ({ frames := 6, cells := 0, slots := 0, locals := 132 } : Room) D h cz z i g [.ref (h 96)] (fun r u => Rg rA u.1 ∧ Fr [96, 109, 110, 111, 112, 113, 114, 115] [] i g u ∧ rg (-2) 10 r) := by
  refine e_I pn_X9_slit (Nat.le_of_ble_eq_true rfl) ?_
  intro p e s m args below meth c ls Q X Y hret hT hl hS
  have hx := X.1
  have hb := X.2.1
  have hl : lv_has ls 4 [(0, .ref (h 96))] := hl
  have hF : Fr [96, 109, 110, 111, 112, 113, 114, 115] [] i g (i, g) := Fr_rf _ _ _ _
  refine lv_aload_n hx hb dX9_slit_0 rfl (lv_at hl 0 rfl) ?_
  refine lv_iconst (v := 0) hx hb dX9_slit_1 (by decide) ?_
  refine r_puti X hT hS 96 0 pk_9_83 rfl rfl rfl rfl (by decide) dX9_slit_2 (fun H locs i1 ei1 hT hS => ?_)
  have hR1 := Rg_put hR ei1 (-2147483648) 2147483647 rfl (rg_k (by decide) : rg 0 0 0) (by decide)
  have hF1 := Fr_puti hF ei1 (by decide)
  refine lv_aload_n hx hb dX9_slit_5 rfl (lv_at hl 0 rfl) ?_
  refine e_Vi (As := []) (rest := []) X Y hT hS (m_X9_isTale hR1) mk_X9_isTale gm_1685 rfl rfl (by decide) hd_X9_isTale ⟨rfl, rfl⟩ ⟨Nat.le_of_ble_eq_true rfl, Nat.le_of_ble_eq_true rfl⟩ hl.1 rfl (Nat.le_of_ble_eq_true rfl) dX9_slit_6 ⟨Nat.zero_le _, Nat.zero_le _⟩ (fun r2 i2 g2 H locs hq hT hS => ?_)
  obtain ⟨eh2, hr2⟩ := hq
  rw [(Prod.mk.inj eh2).1, (Prod.mk.inj eh2).2] at hT
  refine lv_if_ne (tgt := 15) hx hb dX9_slit_9 (by decide) (fun c3 => ?_) (fun c3 => ?_)
  ·
    have q3 : ¬ r2.toInt = 0 := i_ne c3
    have h4 : rg 1 1 r2 := t_nelo 1 hr2 (rg_k (by decide) : rg 0 0 0) (i_ne c3) (by decide)
    refine lv_aload_n hx hb dX9_slit_15 rfl (lv_at hl 0 rfl) ?_
    refine e_Vv (As := []) (rest := []) X Y hT hS (m_X9_laysNow hR1) mk_X9_laysNow gm_1693 rfl rfl (by decide) hd_X9_laysNow ⟨rfl, rfl⟩ ⟨Nat.le_of_ble_eq_true rfl, Nat.le_of_ble_eq_true rfl⟩ hl.1 rfl (Nat.le_of_ble_eq_true rfl) dX9_slit_16 ⟨Nat.zero_le _, Nat.zero_le _⟩ (fun i5 g5 H locs hq hT hS => ?_)
    obtain ⟨hR5, hf5⟩ := hq
    have hF5 := Fr_tr hF1 hf5 (by decide)
    refine lv_iconst (v := (-1)) hx hb dX9_slit_19 (by decide) ?_
    refine lv_istore_n (lv' := [(1, .int (-1)), (0, .ref (h 96))]) hx hb dX9_slit_20 rfl hl (by decide) rfl (fun ls hl => ?_)
    refine lv_aload_n hx hb dX9_slit_21 rfl (lv_at hl 1 rfl) ?_
    refine e_Vi (As := []) (rest := []) X Y hT hS (m_X9_readAll hR5) mk_X9_readAll gm_1770 rfl rfl (by decide) hd_X9_readAll ⟨rfl, rfl⟩ ⟨Nat.le_of_ble_eq_true rfl, Nat.le_of_ble_eq_true rfl⟩ hl.1 rfl (Nat.le_of_ble_eq_true rfl) dX9_slit_22 ⟨Nat.zero_le _, Nat.zero_le _⟩ (fun r6 i6 g6 H locs hq hT hS => ?_)
    have eh6 := hq
    rw [(Prod.mk.inj eh6).1, (Prod.mk.inj eh6).2] at hT
    refine lv_istore_n (lv' := [(2, .int r6), (1, .int (-1)), (0, .ref (h 96))]) hx hb dX9_slit_25 rfl hl (by decide) rfl (fun ls hl => ?_)
    refine lv_iconst (v := 0) hx hb dX9_slit_26 (by decide) ?_
    refine lv_istore_n (lv' := [(3, .int 0), (2, .int r6), (1, .int (-1)), (0, .ref (h 96))]) hx hb dX9_slit_27 rfl hl (by decide) rfl (fun ls hl => ?_)
    have L28_7 : ∀ (n9_ : Nat) (x28_1 : Int32) (x28_2 : Int32) (x28_3 : Int32) (i8 : Nat → Nat → Int32) (g8 : Nat → Nat → Int64) (H : Heap) (locs : List Loc) (ls : Array Slot), rg (-1) 10 x28_1 → rg 0 10 x28_3 → Rg rA i8 → Fr [96, 109, 110, 111, 112, 113, 114, 115] [] i g (i8, g8) → TH D h cz i8 g8 H → va_S (hA h) s.heap H locs → lv_has ls 4 [(0, .ref (h 96)), (1, .int x28_1), (2, .int x28_2), (3, .int x28_3)] → (10 - x28_3.toInt).toNat < n9_ → W p l e ({ frames := 6, cells := 0, slots := 0, locals := 132 } : Room) s m args below meth c H locs 0 0 Q (F0 m 28 ls []) := by
      intro n9_
      induction n9_ with
      | zero => intro x28_1 x28_2 x28_3 i8 g8 H locs ls hhx28_1 hhx28_3 hR8 hF8 hT hS hl hm9_; exact absurd hm9_ (Nat.not_lt_zero _)
      | succ n9_ ih9_ =>
        intro x28_1 x28_2 x28_3 i8 g8 H locs ls hhx28_1 hhx28_3 hR8 hF8 hT hS hl hm9_
        refine lv_iload_n hx hb dX9_slit_28 rfl (lv_at hl 3 rfl) ?_
        refine lv_aload_n hx hb dX9_slit_29 rfl (lv_at hl 0 rfl) ?_
        refine r_getr X hT 96 17 103 fk_9_34 rfl rfl (by decide) dX9_slit_30 ?_
        refine lv_iconst (v := 4) hx hb dX9_slit_33 (by decide) ?_
        refine r_ialdc X hT 103 4 rfl (by decide) (v_in (rg_k (by decide) : rg 4 4 4) (by decide)) (by decide) dX9_slit_34 ?_
        refine lv_icmp_ge (tgt := 75) hx hb dX9_slit_35 (by decide) (fun c10 => ?_) (fun c10 => ?_)
        ·
          have q10 : (i8 103 4).toInt ≤ x28_3.toInt := i_le c10
          refine lv_iload_n hx hb dX9_slit_75 rfl (lv_at hl 1 rfl) ?_
          exact hret x28_1 _ _ _ _ _ _ dX9_slit_76 hT hS ⟨hR8, hF8, (rg_w hhx28_1 (by decide) : rg (-2) 10 x28_1)⟩
        ·
          have q10 : x28_3.toInt < (i8 103 4).toInt := i_nle c10
          have h11 : rg 0 9 x28_3 := t_ltx 0 9 hhx28_3 (Rg_at hR8 103 4 0 10 (by decide) rfl) (i_nle c10) (by decide)
          have h12 : rg 1 10 (i8 103 4) := t_lty 1 10 hhx28_3 (Rg_at hR8 103 4 0 10 (by decide) rfl) (i_nle c10) (by decide)
          refine lv_aload_n hx hb dX9_slit_38 rfl (lv_at hl 0 rfl) ?_
          refine e_Vv (As := []) (rest := []) X Y hT hS (m_X9_lays hR8) mk_X9_lays gm_1658 rfl rfl (by decide) hd_X9_lays ⟨rfl, rfl⟩ ⟨Nat.le_of_ble_eq_true rfl, Nat.le_of_ble_eq_true rfl⟩ hl.1 rfl (Nat.le_of_ble_eq_true rfl) dX9_slit_39 ⟨Nat.zero_le _, Nat.zero_le _⟩ (fun i13 g13 H locs hq hT hS => ?_)
          obtain ⟨hR13, hf13⟩ := hq
          have hF13 := Fr_tr hF8 hf13 (by decide)
          refine lv_aload_n hx hb dX9_slit_42 rfl (lv_at hl 0 rfl) ?_
          refine lv_iload_n hx hb dX9_slit_43 rfl (lv_at hl 3 rfl) ?_
          refine r_puti X hT hS 96 25 pk_9_266 rfl rfl rfl rfl (by decide) dX9_slit_44 (fun H locs i14 ei14 hT hS => ?_)
          have hR14 := Rg_put hR13 ei14 (-2147483648) 2147483647 rfl h11 (by decide)
          have hF14 := Fr_puti hF13 ei14 (by decide)
          refine lv_aload_n hx hb dX9_slit_47 rfl (lv_at hl 0 rfl) ?_
          refine e_Vv (As := []) (rest := []) X Y hT hS (m_X9_runs hR14) mk_X9_runs gm_1697 rfl rfl (by decide) hd_X9_runs ⟨rfl, rfl⟩ ⟨Nat.le_of_ble_eq_true rfl, Nat.le_of_ble_eq_true rfl⟩ hl.1 rfl (Nat.le_of_ble_eq_true rfl) dX9_slit_48 ⟨Nat.zero_le _, Nat.zero_le _⟩ (fun i15 g15 H locs hq hT hS => ?_)
          obtain ⟨hR15, hf15⟩ := hq
          have hF15 := Fr_tr hF14 hf15 (by decide)
          refine lv_aload_n hx hb dX9_slit_51 rfl (lv_at hl 0 rfl) ?_
          refine e_Vi (As := []) (rest := []) X Y hT hS (m_X9_readAll hR15) mk_X9_readAll gm_1770 rfl rfl (by decide) hd_X9_readAll ⟨rfl, rfl⟩ ⟨Nat.le_of_ble_eq_true rfl, Nat.le_of_ble_eq_true rfl⟩ hl.1 rfl (Nat.le_of_ble_eq_true rfl) dX9_slit_52 ⟨Nat.zero_le _, Nat.zero_le _⟩ (fun r16 i16 g16 H locs hq hT hS => ?_)
          have eh16 := hq
          rw [(Prod.mk.inj eh16).1, (Prod.mk.inj eh16).2] at hT
          refine lv_iload_n hx hb dX9_slit_55 rfl (lv_at hl 2 rfl) ?_
          refine lv_icmp_gt (tgt := 62) hx hb dX9_slit_56 (by decide) (fun c17 => ?_) (fun c17 => ?_)
          ·
            have q17 : x28_2.toInt < r16.toInt := i_lt c17
            have h18 : rg (-2147483648) 2147483646 x28_2 := t_ltx (-2147483648) 2147483646 (rg_top x28_2) (rg_top r16) (i_lt c17) (by decide)
            have h19 : rg (-2147483647) 2147483647 r16 := t_lty (-2147483647) 2147483647 (rg_top x28_2) (rg_top r16) (i_lt c17) (by decide)
            refine lv_iload_n hx hb dX9_slit_62 rfl (lv_at hl 3 rfl) ?_
            refine lv_istore_n (lv' := [(1, .int x28_3), (0, .ref (h 96)), (2, .int x28_2), (3, .int x28_3)]) hx hb dX9_slit_63 rfl hl (by decide) rfl (fun ls hl => ?_)
            refine lv_aload_n hx hb dX9_slit_64 rfl (lv_at hl 1 rfl) ?_
            refine e_Vi (As := []) (rest := []) X Y hT hS (m_X9_readAll hR15) mk_X9_readAll gm_1770 rfl rfl (by decide) hd_X9_readAll ⟨rfl, rfl⟩ ⟨Nat.le_of_ble_eq_true rfl, Nat.le_of_ble_eq_true rfl⟩ hl.1 rfl (Nat.le_of_ble_eq_true rfl) dX9_slit_65 ⟨Nat.zero_le _, Nat.zero_le _⟩ (fun r20 i20 g20 H locs hq hT hS => ?_)
            have eh20 := hq
            rw [(Prod.mk.inj eh20).1, (Prod.mk.inj eh20).2] at hT
            refine lv_istore_n (lv' := [(2, .int r20), (1, .int x28_3), (0, .ref (h 96)), (3, .int x28_3)]) hx hb dX9_slit_68 rfl hl (by decide) rfl (fun ls hl => ?_)
            obtain ⟨x21, ex21⟩ : ∃ y : Int32, y = x28_3 + 1 := ⟨_, rfl⟩
            refine lv_iinc (v := x21) (lv' := [(3, .int x21), (2, .int r20), (1, .int x28_3), (0, .ref (h 96))]) hx hb dX9_slit_69 hl (k := 3) rfl (by rw [ex21]; rfl) (by decide) rfl (fun ls hl => ?_)
            obtain ⟨hx21, ax21⟩ := rg_add 1 10 ex21 h11 (rg_k (by decide) : rg 1 1 1) (by decide)
            replace ax21 : x21.toInt = x28_3.toInt + 1 := ax21
            refine lv_goto (tgt := 28) hx hb dX9_slit_72 (by decide) ?_
            exact ih9_ x28_3 r20 x21 i15 g15 _ _ _ (rg_w h11 (by decide) : rg (-1) 10 x28_3) (rg_w hx21 (by decide) : rg 0 10 x21) hR15 hF15 hT hS (lv_sub hl [3, 2, 1, 0] rfl) (m_up ax21 hx21 (by decide) hm9_)
          ·
            have q17 : r16.toInt ≤ x28_2.toInt := i_nlt c17
            refine lv_goto (tgt := 69) hx hb dX9_slit_59 (by decide) ?_
            obtain ⟨x22, ex22⟩ : ∃ y : Int32, y = x28_3 + 1 := ⟨_, rfl⟩
            refine lv_iinc (v := x22) (lv' := [(3, .int x22), (0, .ref (h 96)), (1, .int x28_1), (2, .int x28_2)]) hx hb dX9_slit_69 hl (k := 3) rfl (by rw [ex22]; rfl) (by decide) rfl (fun ls hl => ?_)
            obtain ⟨hx22, ax22⟩ := rg_add 1 10 ex22 h11 (rg_k (by decide) : rg 1 1 1) (by decide)
            replace ax22 : x22.toInt = x28_3.toInt + 1 := ax22
            refine lv_goto (tgt := 28) hx hb dX9_slit_72 (by decide) ?_
            exact ih9_ x28_1 x28_2 x22 i15 g15 _ _ _ hhx28_1 (rg_w hx22 (by decide) : rg 0 10 x22) hR15 hF15 hT hS (lv_sub hl [1, 2, 3, 0] rfl) (m_up ax22 hx22 (by decide) hm9_)
    exact L28_7 _ ((-1)) r6 (0) i5 g5 _ _ _ (rg_w (rg_k (by decide) : rg (-1) (-1) (-1)) (by decide) : rg (-1) 10 (-1)) (rg_w (rg_k (by decide) : rg 0 0 0) (by decide) : rg 0 10 0) hR5 hF5 hT hS (lv_sub hl [3, 2, 1, 0] rfl) (Nat.lt_succ_self _)
  ·
    have q3 : r2.toInt = 0 := i_eq c3
    have h23 : rg 0 0 r2 := t_eqx 0 0 hr2 (rg_k (by decide) : rg 0 0 0) (i_eq c3) (by decide)
    refine lv_bipush (v := (-2)) hx hb dX9_slit_12 (by decide) ?_
    exact hret (-2) _ _ _ _ _ _ dX9_slit_14 hT hS ⟨hR1, hF1, (rg_w (rg_k (by decide) : rg (-2) (-2) (-2)) (by decide) : rg (-2) 10 (-2))⟩
set_option maxRecDepth 100000 in
set_option maxHeartbeats 4000000 in
theorem m_X9_laysEar {l : Launch} {D : va_G} {h : Nat → Nat} {cz : Nat → ClassId} {z : EZ} {i : Nat → Nat → Int32} {g : Nat → Nat → Int64} (hR : Rg rA i) (a_a : Int32) : DtV l yX9_laysEar cX9_laysEar 5 none ({ frames := 6, cells := 0, slots := 0, locals := 134 } : Room) D h cz z i g [.ref (h 96), .int a_a] (fun u => Rg rA u.1 ∧ Fr [96, 109, 110, 111, 112, 113, 114, 115, 117] [] i g u) := by
  refine e_V pn_X9_laysEar (Nat.le_of_ble_eq_true rfl) ?_
  intro p e s m args below meth c ls Q X Y hret hT hl hS
  have hx := X.1
  have hb := X.2.1
  have hl : lv_has ls 5 [(0, .ref (h 96)), (1, .int a_a)] := hl
  have hF : Fr [96, 109, 110, 111, 112, 113, 114, 115, 117] [] i g (i, g) := Fr_rf _ _ _ _
  refine lv_aload_n hx hb dX9_laysEar_0 rfl (lv_at hl 0 rfl) ?_
  refine r_getr X hT 96 40 117 fk_9_77 rfl rfl (by decide) dX9_laysEar_1 ?_
  refine lv_iconst (v := 0) hx hb dX9_laysEar_4 (by decide) ?_
  refine lv_iload_n hx hb dX9_laysEar_5 rfl (lv_at hl 1 rfl) ?_
  refine r_iastc X hT hS 117 0 rfl (by decide) (v_in (rg_k (by decide) : rg 0 0 0) (by decide)) (by decide) dX9_laysEar_6 (fun H locs i1 ei1 hT hS => ?_)
  have hR1 := Rg_put hR ei1 (-2147483648) 2147483647 rfl (rg_top a_a) (by decide)
  have hF1 := Fr_puti hF ei1 (by decide)
  refine lv_aload_n hx hb dX9_laysEar_7 rfl (lv_at hl 0 rfl) ?_
  refine lv_iconst (v := 1) hx hb dX9_laysEar_8 (by decide) ?_
  refine e_Vv (As := [.int 1]) (rest := []) X Y hT hS (m_X9_runsPlan hR1 (1) (rg_w (rg_k (by decide) : rg 1 1 1) (by decide) : rg 0 5 1)) mk_X9_runsPlan gm_1931 rfl rfl (by decide) hd_X9_runsPlan ⟨rfl, rfl⟩ ⟨Nat.le_of_ble_eq_true rfl, Nat.le_of_ble_eq_true rfl⟩ hl.1 rfl (Nat.le_of_ble_eq_true rfl) dX9_laysEar_9 ⟨Nat.zero_le _, Nat.zero_le _⟩ (fun i2 g2 H locs hq hT hS => ?_)
  obtain ⟨hR2, hf2⟩ := hq
  have hF2 := Fr_tr hF1 hf2 (by decide)
  refine lv_aload_n hx hb dX9_laysEar_12 rfl (lv_at hl 0 rfl) ?_
  refine lv_iconst (v := (-1)) hx hb dX9_laysEar_13 (by decide) ?_
  refine r_puti X hT hS 96 47 pk_9_420 rfl rfl rfl rfl (by decide) dX9_laysEar_14 (fun H locs i3 ei3 hT hS => ?_)
  have hR3 := Rg_put hR2 ei3 (-2147483648) 2147483647 rfl (rg_k (by decide) : rg (-1) (-1) (-1)) (by decide)
  have hF3 := Fr_puti hF2 ei3 (by decide)
  refine lv_aload_n hx hb dX9_laysEar_17 rfl (lv_at hl 0 rfl) ?_
  refine lv_aload_n hx hb dX9_laysEar_18 rfl (lv_at hl 0 rfl) ?_
  refine lv_iconst (v := 0) hx hb dX9_laysEar_19 (by decide) ?_
  refine e_Vi (As := [.int 0]) (rest := [.ref (h 96)]) X Y hT hS (m_X9_readIn hR3 (0)) mk_X9_readIn gm_1762 rfl rfl (by decide) hd_X9_readIn ⟨rfl, rfl⟩ ⟨Nat.le_of_ble_eq_true rfl, Nat.le_of_ble_eq_true rfl⟩ hl.1 rfl (Nat.le_of_ble_eq_true rfl) dX9_laysEar_20 ⟨Nat.zero_le _, Nat.zero_le _⟩ (fun r4 i4 g4 H locs hq hT hS => ?_)
  have eh4 := hq
  rw [(Prod.mk.inj eh4).1, (Prod.mk.inj eh4).2] at hT
  refine r_puti X hT hS 96 48 pk_9_423 rfl rfl rfl rfl (by decide) dX9_laysEar_23 (fun H locs i5 ei5 hT hS => ?_)
  have hR5 := Rg_put hR3 ei5 (-2147483648) 2147483647 rfl (rg_top r4) (by decide)
  have hF5 := Fr_puti hF3 ei5 (by decide)
  refine lv_aload_n hx hb dX9_laysEar_26 rfl (lv_at hl 0 rfl) ?_
  refine e_Vi (As := []) (rest := []) X Y hT hS (m_X9_years hR5) mk_X9_years gm_1689 rfl rfl (by decide) hd_X9_years ⟨rfl, rfl⟩ ⟨Nat.le_of_ble_eq_true rfl, Nat.le_of_ble_eq_true rfl⟩ hl.1 rfl (Nat.le_of_ble_eq_true rfl) dX9_laysEar_27 ⟨Nat.zero_le _, Nat.zero_le _⟩ (fun r6 i6 g6 H locs hq hT hS => ?_)
  obtain ⟨eh6, hr6⟩ := hq
  rw [(Prod.mk.inj eh6).1, (Prod.mk.inj eh6).2] at hT
  refine lv_iconst (v := 1) hx hb dX9_laysEar_30 (by decide) ?_
  have J51_8 : ∀ (x51_8_s0 : Int32) (H : Heap) (locs : List Loc) (ls : Array Slot), rg 0 63 x51_8_s0 → TH D h cz i5 g2 H → va_S (hA h) s.heap H locs → lv_has ls 5 [(0, .ref (h 96))] → W p l e ({ frames := 6, cells := 0, slots := 0, locals := 134 } : Room) s m args below meth c H locs 0 0 Q (F0 m 51 ls [.int x51_8_s0]) := by
    intro x51_8_s0 H locs ls hhx51_8_s0 hT hS hl
    refine lv_istore_n (lv' := [(2, .int x51_8_s0), (0, .ref (h 96))]) hx hb dX9_laysEar_51 rfl hl (by decide) rfl (fun ls hl => ?_)
    refine lv_iconst (v := 0) hx hb dX9_laysEar_52 (by decide) ?_
    refine lv_istore_n (lv' := [(3, .int 0), (2, .int x51_8_s0), (0, .ref (h 96))]) hx hb dX9_laysEar_53 rfl hl (by decide) rfl (fun ls hl => ?_)
    have L54_9 : ∀ (n11_ : Nat) (x54_3 : Int32) (i10 : Nat → Nat → Int32) (g10 : Nat → Nat → Int64) (H : Heap) (locs : List Loc) (ls : Array Slot), rg 0 6 x54_3 → Rg rA i10 → Fr [96, 109, 110, 111, 112, 113, 114, 115, 117] [] i g (i10, g10) → TH D h cz i10 g10 H → va_S (hA h) s.heap H locs → lv_has ls 5 [(0, .ref (h 96)), (2, .int x51_8_s0), (3, .int x54_3)] → (6 - x54_3.toInt).toNat < n11_ → W p l e ({ frames := 6, cells := 0, slots := 0, locals := 134 } : Room) s m args below meth c H locs 0 0 Q (F0 m 54 ls []) := by
      intro n11_
      induction n11_ with
      | zero => intro x54_3 i10 g10 H locs ls hhx54_3 hR10 hF10 hT hS hl hm11_; exact absurd hm11_ (Nat.not_lt_zero _)
      | succ n11_ ih11_ =>
        intro x54_3 i10 g10 H locs ls hhx54_3 hR10 hF10 hT hS hl hm11_
        refine lv_iload_n hx hb dX9_laysEar_54 rfl (lv_at hl 2 rfl) ?_
        refine lv_aload_n hx hb dX9_laysEar_55 rfl (lv_at hl 0 rfl) ?_
        refine e_Vi (As := []) (rest := [.int x54_3]) X Y hT hS (m_X9_parts hR10) mk_X9_parts gm_1649 rfl rfl (by decide) hd_X9_parts ⟨rfl, rfl⟩ ⟨Nat.le_of_ble_eq_true rfl, Nat.le_of_ble_eq_true rfl⟩ hl.1 rfl (Nat.le_of_ble_eq_true rfl) dX9_laysEar_56 ⟨Nat.zero_le _, Nat.zero_le _⟩ (fun r12 i12 g12 H locs hq hT hS => ?_)
        obtain ⟨eh12, hr12⟩ := hq
        rw [(Prod.mk.inj eh12).1, (Prod.mk.inj eh12).2] at hT
        refine lv_icmp_ge (tgt := 135) hx hb dX9_laysEar_59 (by decide) (fun c13 => ?_) (fun c13 => ?_)
        ·
          have q13 : r12.toInt ≤ x54_3.toInt := i_le c13
          exact hret _ _ _ _ _ _ dX9_laysEar_135 hT hS ⟨hR10, hF10⟩
        ·
          have q13 : x54_3.toInt < r12.toInt := i_nle c13
          have h14 : rg 0 5 x54_3 := t_ltx 0 5 hhx54_3 hr12 (i_nle c13) (by decide)
          have h15 : rg 1 6 r12 := t_lty 1 6 hhx54_3 hr12 (i_nle c13) (by decide)
          refine lv_iload_n hx hb dX9_laysEar_62 rfl (lv_at hl 1 rfl) ?_
          refine lv_iload_n hx hb dX9_laysEar_63 rfl (lv_at hl 2 rfl) ?_
          refine e_Si (As := [.int x51_8_s0, .int x54_3]) (rest := []) X Y hT hS (m_X9_isBit x51_8_s0 x54_3) sk_X9_isBit gm_1670 hd_X9_isBit ⟨rfl, rfl⟩ ⟨Nat.le_of_ble_eq_true rfl, Nat.le_of_ble_eq_true rfl⟩ hl.1 rfl (Nat.le_of_ble_eq_true rfl) dX9_laysEar_64 ⟨Nat.zero_le _, Nat.zero_le _⟩ (fun r16 i16 g16 H locs hq hT hS => ?_)
          rcases hq with hq | hq
          ·
            obtain ⟨eh16, rfl, hf16_0⟩ := hq
            rw [(Prod.mk.inj eh16).1, (Prod.mk.inj eh16).2] at hT
            replace hf16_0 : (((x51_8_s0 : Int32) >>> ((x54_3 : Int32) &&& 31)) &&& 1 = 1) := hf16_0
            refine lv_if_ne (tgt := 73) hx hb dX9_laysEar_67 (by decide) (fun c17 => ?_) (fun c17 => (x_eq (rg_k (by decide) : rg 1 1 1) (rg_k (by decide) : rg 0 0 0) (i_eq c17) (by decide)).elim)
            refine lv_aload_n hx hb dX9_laysEar_73 rfl (lv_at hl 0 rfl) ?_
            refine r_getr X hT 96 40 117 fk_9_77 rfl rfl (by decide) dX9_laysEar_74 ?_
            refine lv_iconst (v := 1) hx hb dX9_laysEar_77 (by decide) ?_
            refine lv_iload_n hx hb dX9_laysEar_78 rfl (lv_at hl 2 rfl) ?_
            refine r_iastc X hT hS 117 1 rfl (by decide) (v_in (rg_k (by decide) : rg 1 1 1) (by decide)) (by decide) dX9_laysEar_79 (fun H locs i18 ei18 hT hS => ?_)
            have hR18 := Rg_put hR10 ei18 (-2147483648) 2147483647 rfl h14 (by decide)
            have hF18 := Fr_puti hF10 ei18 (by decide)
            refine lv_aload_n hx hb dX9_laysEar_80 rfl (lv_at hl 0 rfl) ?_
            refine lv_iconst (v := 2) hx hb dX9_laysEar_81 (by decide) ?_
            refine e_Vv (As := [.int 2]) (rest := []) X Y hT hS (m_X9_runsPlan hR18 (2) (rg_w (rg_k (by decide) : rg 2 2 2) (by decide) : rg 0 5 2)) mk_X9_runsPlan gm_1931 rfl rfl (by decide) hd_X9_runsPlan ⟨rfl, rfl⟩ ⟨Nat.le_of_ble_eq_true rfl, Nat.le_of_ble_eq_true rfl⟩ hl.1 rfl (Nat.le_of_ble_eq_true rfl) dX9_laysEar_82 ⟨Nat.zero_le _, Nat.zero_le _⟩ (fun i19 g19 H locs hq hT hS => ?_)
            obtain ⟨hR19, hf19⟩ := hq
            have hF19 := Fr_tr hF18 hf19 (by decide)
            refine lv_aload_n hx hb dX9_laysEar_85 rfl (lv_at hl 0 rfl) ?_
            refine lv_iconst (v := 0) hx hb dX9_laysEar_86 (by decide) ?_
            refine e_Vi (As := [.int 0]) (rest := []) X Y hT hS (m_X9_readIn hR19 (0)) mk_X9_readIn gm_1762 rfl rfl (by decide) hd_X9_readIn ⟨rfl, rfl⟩ ⟨Nat.le_of_ble_eq_true rfl, Nat.le_of_ble_eq_true rfl⟩ hl.1 rfl (Nat.le_of_ble_eq_true rfl) dX9_laysEar_87 ⟨Nat.zero_le _, Nat.zero_le _⟩ (fun r20 i20 g20 H locs hq hT hS => ?_)
            have eh20 := hq
            rw [(Prod.mk.inj eh20).1, (Prod.mk.inj eh20).2] at hT
            refine lv_aload_n hx hb dX9_laysEar_90 rfl (lv_at hl 0 rfl) ?_
            refine lv_iconst (v := 1) hx hb dX9_laysEar_91 (by decide) ?_
            refine e_Vi (As := [.int 1]) (rest := [.int r20]) X Y hT hS (m_X9_readIn hR19 (1)) mk_X9_readIn gm_1762 rfl rfl (by decide) hd_X9_readIn ⟨rfl, rfl⟩ ⟨Nat.le_of_ble_eq_true rfl, Nat.le_of_ble_eq_true rfl⟩ hl.1 rfl (Nat.le_of_ble_eq_true rfl) dX9_laysEar_92 ⟨Nat.zero_le _, Nat.zero_le _⟩ (fun r21 i21 g21 H locs hq hT hS => ?_)
            have eh21 := hq
            rw [(Prod.mk.inj eh21).1, (Prod.mk.inj eh21).2] at hT
            refine q_isub hx hb dX9_laysEar_95 (fun x22 ex22 => ?_)
            refine lv_istore (lv' := [(4, .int x22), (0, .ref (h 96)), (2, .int x51_8_s0), (3, .int x54_3)]) hx hb dX9_laysEar_96 hl (by decide) rfl (fun ls hl => ?_)
            refine lv_aload_n hx hb dX9_laysEar_98 rfl (lv_at hl 1 rfl) ?_
            refine r_geti X hT 96 47 fk_9_420 rfl rfl (by decide) dX9_laysEar_99 ?_
            refine lv_iconst (v := (-1)) hx hb dX9_laysEar_102 (by decide) ?_
            refine lv_icmp_eq (tgt := 118) hx hb dX9_laysEar_103 (by decide) (fun c23 => ?_) (fun c23 => ?_)
            ·
              have q23 : (i19 96 47).toInt = (-1) := i_eq c23
              have h24 : rg (-1) (-1) (i19 96 47) := t_eqx (-1) (-1) (rg_top (i19 96 47)) (rg_k (by decide) : rg (-1) (-1) (-1)) (i_eq c23) (by decide)
              refine lv_aload_n hx hb dX9_laysEar_118 rfl (lv_at hl 1 rfl) ?_
              refine lv_iload_n hx hb dX9_laysEar_119 rfl (lv_at hl 3 rfl) ?_
              refine r_puti X hT hS 96 47 pk_9_420 rfl rfl rfl rfl (by decide) dX9_laysEar_120 (fun H locs i25 ei25 hT hS => ?_)
              have hR25 := Rg_put hR19 ei25 (-2147483648) 2147483647 rfl h14 (by decide)
              have hF25 := Fr_puti hF19 ei25 (by decide)
              refine lv_aload_n hx hb dX9_laysEar_123 rfl (lv_at hl 1 rfl) ?_
              refine lv_iload hx hb dX9_laysEar_124 (lv_at hl 0 rfl) ?_
              refine r_puti X hT hS 96 48 pk_9_423 rfl rfl rfl rfl (by decide) dX9_laysEar_126 (fun H locs i26 ei26 hT hS => ?_)
              have hR26 := Rg_put hR25 ei26 (-2147483648) 2147483647 rfl (rg_top x22) (by decide)
              have hF26 := Fr_puti hF25 ei26 (by decide)
              obtain ⟨x27, ex27⟩ : ∃ y : Int32, y = x54_3 + 1 := ⟨_, rfl⟩
              refine lv_iinc (v := x27) (lv' := [(3, .int x27), (4, .int x22), (0, .ref (h 96)), (2, .int x51_8_s0)]) hx hb dX9_laysEar_129 hl (k := 3) rfl (by rw [ex27]; rfl) (by decide) rfl (fun ls hl => ?_)
              obtain ⟨hx27, ax27⟩ := rg_add 1 6 ex27 h14 (rg_k (by decide) : rg 1 1 1) (by decide)
              replace ax27 : x27.toInt = x54_3.toInt + 1 := ax27
              refine lv_goto (tgt := 54) hx hb dX9_laysEar_132 (by decide) ?_
              exact ih11_ x27 i26 g19 _ _ _ (rg_w hx27 (by decide) : rg 0 6 x27) hR26 hF26 hT hS (lv_sub hl [2, 3, 0] rfl) (m_up ax27 hx27 (by decide) hm11_)
            ·
              have q23 : ¬ (i19 96 47).toInt = (-1) := i_ne c23
              refine lv_iload hx hb dX9_laysEar_106 (lv_at hl 0 rfl) ?_
              refine lv_aload_n hx hb dX9_laysEar_108 rfl (lv_at hl 1 rfl) ?_
              refine r_geti X hT 96 48 fk_9_423 rfl rfl (by decide) dX9_laysEar_109 ?_
              refine lv_icmp_lt (tgt := 118) hx hb dX9_laysEar_112 (by decide) (fun c28 => ?_) (fun c28 => ?_)
              ·
                have q28 : x22.toInt < (i19 96 48).toInt := i_lt c28
                have h29 : rg (-2147483648) 2147483646 x22 := t_ltx (-2147483648) 2147483646 (rg_top x22) (rg_top (i19 96 48)) (i_lt c28) (by decide)
                have h30 : rg (-2147483647) 2147483647 (i19 96 48) := t_lty (-2147483647) 2147483647 (rg_top x22) (rg_top (i19 96 48)) (i_lt c28) (by decide)
                refine lv_aload_n hx hb dX9_laysEar_118 rfl (lv_at hl 1 rfl) ?_
                refine lv_iload_n hx hb dX9_laysEar_119 rfl (lv_at hl 3 rfl) ?_
                refine r_puti X hT hS 96 47 pk_9_420 rfl rfl rfl rfl (by decide) dX9_laysEar_120 (fun H locs i31 ei31 hT hS => ?_)
                have hR31 := Rg_put hR19 ei31 (-2147483648) 2147483647 rfl h14 (by decide)
                have hF31 := Fr_puti hF19 ei31 (by decide)
                refine lv_aload_n hx hb dX9_laysEar_123 rfl (lv_at hl 1 rfl) ?_
                refine lv_iload hx hb dX9_laysEar_124 (lv_at hl 0 rfl) ?_
                refine r_puti X hT hS 96 48 pk_9_423 rfl rfl rfl rfl (by decide) dX9_laysEar_126 (fun H locs i32 ei32 hT hS => ?_)
                have hR32 := Rg_put hR31 ei32 (-2147483648) 2147483647 rfl h29 (by decide)
                have hF32 := Fr_puti hF31 ei32 (by decide)
                obtain ⟨x33, ex33⟩ : ∃ y : Int32, y = x54_3 + 1 := ⟨_, rfl⟩
                refine lv_iinc (v := x33) (lv' := [(3, .int x33), (4, .int x22), (0, .ref (h 96)), (2, .int x51_8_s0)]) hx hb dX9_laysEar_129 hl (k := 3) rfl (by rw [ex33]; rfl) (by decide) rfl (fun ls hl => ?_)
                obtain ⟨hx33, ax33⟩ := rg_add 1 6 ex33 h14 (rg_k (by decide) : rg 1 1 1) (by decide)
                replace ax33 : x33.toInt = x54_3.toInt + 1 := ax33
                refine lv_goto (tgt := 54) hx hb dX9_laysEar_132 (by decide) ?_
                exact ih11_ x33 i32 g19 _ _ _ (rg_w hx33 (by decide) : rg 0 6 x33) hR32 hF32 hT hS (lv_sub hl [2, 3, 0] rfl) (m_up ax33 hx33 (by decide) hm11_)
              ·
                have q28 : (i19 96 48).toInt ≤ x22.toInt := i_nlt c28
                refine lv_goto (tgt := 129) hx hb dX9_laysEar_115 (by decide) ?_
                obtain ⟨x34, ex34⟩ : ∃ y : Int32, y = x54_3 + 1 := ⟨_, rfl⟩
                refine lv_iinc (v := x34) (lv' := [(3, .int x34), (4, .int x22), (0, .ref (h 96)), (2, .int x51_8_s0)]) hx hb dX9_laysEar_129 hl (k := 3) rfl (by rw [ex34]; rfl) (by decide) rfl (fun ls hl => ?_)
                obtain ⟨hx34, ax34⟩ := rg_add 1 6 ex34 h14 (rg_k (by decide) : rg 1 1 1) (by decide)
                replace ax34 : x34.toInt = x54_3.toInt + 1 := ax34
                refine lv_goto (tgt := 54) hx hb dX9_laysEar_132 (by decide) ?_
                exact ih11_ x34 i19 g19 _ _ _ (rg_w hx34 (by decide) : rg 0 6 x34) hR19 hF19 hT hS (lv_sub hl [2, 3, 0] rfl) (m_up ax34 hx34 (by decide) hm11_)
          ·
            obtain ⟨eh16, rfl, hf16_0⟩ := hq
            rw [(Prod.mk.inj eh16).1, (Prod.mk.inj eh16).2] at hT
            replace hf16_0 : ¬ (((x51_8_s0 : Int32) >>> ((x54_3 : Int32) &&& 31)) &&& 1 = 1) := hf16_0
            refine lv_if_ne (tgt := 73) hx hb dX9_laysEar_67 (by decide) (fun c35 => (x_ne (rg_k (by decide) : rg 0 0 0) (rg_k (by decide) : rg 0 0 0) (i_ne c35) (by decide)).elim) (fun c35 => ?_)
            refine lv_goto (tgt := 129) hx hb dX9_laysEar_70 (by decide) ?_
            obtain ⟨x36, ex36⟩ : ∃ y : Int32, y = x54_3 + 1 := ⟨_, rfl⟩
            refine lv_iinc (v := x36) (lv' := [(3, .int x36), (0, .ref (h 96)), (2, .int x51_8_s0)]) hx hb dX9_laysEar_129 hl (k := 2) rfl (by rw [ex36]; rfl) (by decide) rfl (fun ls hl => ?_)
            obtain ⟨hx36, ax36⟩ := rg_add 1 6 ex36 h14 (rg_k (by decide) : rg 1 1 1) (by decide)
            replace ax36 : x36.toInt = x54_3.toInt + 1 := ax36
            refine lv_goto (tgt := 54) hx hb dX9_laysEar_132 (by decide) ?_
            exact ih11_ x36 i10 g10 _ _ _ (rg_w hx36 (by decide) : rg 0 6 x36) hR10 hF10 hT hS (lv_sub hl [1, 2, 0] rfl) (m_up ax36 hx36 (by decide) hm11_)
    exact L54_9 _ (0) i5 g2 _ _ _ (rg_w (rg_k (by decide) : rg 0 0 0) (by decide) : rg 0 6 0) hR5 hF5 hT hS (lv_sub hl [2, 1, 0] rfl) (Nat.lt_succ_self _)
  refine lv_icmp_ne (tgt := 38) hx hb dX9_laysEar_31 (by decide) (fun c7 => ?_) (fun c7 => ?_)
  ·
    have q7 : ¬ r6.toInt = 1 := i_ne c7
    refine lv_aload_n hx hb dX9_laysEar_38 rfl (lv_at hl 0 rfl) ?_
    refine e_Vi (As := []) (rest := []) X Y hT hS (m_X9_every hR5) mk_X9_every gm_1814 rfl rfl (by decide) hd_X9_every ⟨rfl, rfl⟩ ⟨Nat.le_of_ble_eq_true rfl, Nat.le_of_ble_eq_true rfl⟩ hl.1 rfl (Nat.le_of_ble_eq_true rfl) dX9_laysEar_39 ⟨Nat.zero_le _, Nat.zero_le _⟩ (fun r37 i37 g37 H locs hq hT hS => ?_)
    obtain ⟨eh37, hr37⟩ := hq
    rw [(Prod.mk.inj eh37).1, (Prod.mk.inj eh37).2] at hT
    refine lv_aload_n hx hb dX9_laysEar_42 rfl (lv_at hl 0 rfl) ?_
    refine r_getr X hT 96 31 112 fk_9_62 rfl rfl (by decide) dX9_laysEar_43 ?_
    refine lv_iconst (v := 1) hx hb dX9_laysEar_46 (by decide) ?_
    refine r_ialdc X hT 112 1 rfl (by decide) (v_in (rg_k (by decide) : rg 1 1 1) (by decide)) (by decide) dX9_laysEar_47 ?_
    refine lv_iconst (v := (-1)) hx hb dX9_laysEar_48 (by decide) ?_
    refine q_ixor hx hb dX9_laysEar_49 (fun x38 ex38 => ?_)
    refine q_iand hx hb dX9_laysEar_50 (fun x39 ex39 => ?_)
    have h40 : rg 0 63 x39 := rg_andl ex39 hr37 (by decide)
    exact J51_8 x39 _ _ _ h40 hT hS (lv_sub hl [0] rfl)
  ·
    have q7 : r6.toInt = 1 := i_eq c7
    have h41 : rg 1 1 r6 := t_eqx 1 1 hr6 (rg_k (by decide) : rg 1 1 1) (i_eq c7) (by decide)
    refine lv_iconst (v := 0) hx hb dX9_laysEar_34 (by decide) ?_
    refine lv_goto (tgt := 51) hx hb dX9_laysEar_35 (by decide) ?_
    exact J51_8 (0) _ _ _ (rg_w (rg_k (by decide) : rg 0 0 0) (by decide) : rg 0 63 0) hT hS (lv_sub hl [0] rfl)
set_option maxRecDepth 100000 in
set_option maxHeartbeats 4000000 in
theorem m_X9_laysUncle {l : Launch} {D : va_G} {h : Nat → Nat} {cz : Nat → ClassId} {z : EZ} {i : Nat → Nat → Int32} {g : Nat → Nat → Int64} (hR : Rg rA i) : DtV l yX9_laysUncle cX9_laysUncle 2 none ({ frames := 7, cells := 0, slots := 0, locals := 158 } : Room) D h cz z i g [.ref (h 96)] (fun u => Rg rA u.1 ∧ Fr [96, 109, 110, 111, 112, 113, 114, 115, 117] [] i g u) := by
  refine e_V pn_X9_laysUncle (Nat.le_of_ble_eq_true rfl) ?_
  intro p e s m args below meth c ls Q X Y hret hT hl hS
  have hx := X.1
  have hb := X.2.1
  have hl : lv_has ls 2 [(0, .ref (h 96))] := hl
  have hF : Fr [96, 109, 110, 111, 112, 113, 114, 115, 117] [] i g (i, g) := Fr_rf _ _ _ _
  refine lv_aload_n hx hb dX9_laysUncle_0 rfl (lv_at hl 0 rfl) ?_
  refine lv_iconst (v := (-1)) hx hb dX9_laysUncle_1 (by decide) ?_
  refine r_puti X hT hS 96 49 pk_9_426 rfl rfl rfl rfl (by decide) dX9_laysUncle_2 (fun H locs i1 ei1 hT hS => ?_)
  have hR1 := Rg_put hR ei1 (-2147483648) 2147483647 rfl (rg_k (by decide) : rg (-1) (-1) (-1)) (by decide)
  have hF1 := Fr_puti hF ei1 (by decide)
  refine lv_aload_n hx hb dX9_laysUncle_5 rfl (lv_at hl 0 rfl) ?_
  refine lv_sipush (v := (-1000)) hx hb dX9_laysUncle_6 (by decide) ?_
  refine r_puti X hT hS 96 50 pk_9_429 rfl rfl rfl rfl (by decide) dX9_laysUncle_9 (fun H locs i2 ei2 hT hS => ?_)
  have hR2 := Rg_put hR1 ei2 (-2147483648) 2147483647 rfl (rg_k (by decide) : rg (-1000) (-1000) (-1000)) (by decide)
  have hF2 := Fr_puti hF1 ei2 (by decide)
  refine lv_iconst (v := 0) hx hb dX9_laysUncle_12 (by decide) ?_
  refine lv_istore_n (lv' := [(1, .int 0), (0, .ref (h 96))]) hx hb dX9_laysUncle_13 rfl hl (by decide) rfl (fun ls hl => ?_)
  have L14_3 : ∀ (n5_ : Nat) (x14_1 : Int32) (i4 : Nat → Nat → Int32) (g4 : Nat → Nat → Int64) (H : Heap) (locs : List Loc) (ls : Array Slot), rg 0 6 x14_1 → Rg rA i4 → Fr [96, 109, 110, 111, 112, 113, 114, 115, 117] [] i g (i4, g4) → TH D h cz i4 g4 H → va_S (hA h) s.heap H locs → lv_has ls 2 [(0, .ref (h 96)), (1, .int x14_1)] → (6 - x14_1.toInt).toNat < n5_ → W p l e ({ frames := 7, cells := 0, slots := 0, locals := 158 } : Room) s m args below meth c H locs 0 0 Q (F0 m 14 ls []) := by
    intro n5_
    induction n5_ with
    | zero => intro x14_1 i4 g4 H locs ls hhx14_1 hR4 hF4 hT hS hl hm5_; exact absurd hm5_ (Nat.not_lt_zero _)
    | succ n5_ ih5_ =>
      intro x14_1 i4 g4 H locs ls hhx14_1 hR4 hF4 hT hS hl hm5_
      refine lv_iload_n hx hb dX9_laysUncle_14 rfl (lv_at hl 1 rfl) ?_
      refine lv_aload_n hx hb dX9_laysUncle_15 rfl (lv_at hl 0 rfl) ?_
      refine e_Vi (As := []) (rest := [.int x14_1]) X Y hT hS (m_X9_parts hR4) mk_X9_parts gm_1649 rfl rfl (by decide) hd_X9_parts ⟨rfl, rfl⟩ ⟨Nat.le_of_ble_eq_true rfl, Nat.le_of_ble_eq_true rfl⟩ hl.1 rfl (Nat.le_of_ble_eq_true rfl) dX9_laysUncle_16 ⟨Nat.zero_le _, Nat.zero_le _⟩ (fun r6 i6 g6 H locs hq hT hS => ?_)
      obtain ⟨eh6, hr6⟩ := hq
      rw [(Prod.mk.inj eh6).1, (Prod.mk.inj eh6).2] at hT
      refine lv_icmp_ge (tgt := 68) hx hb dX9_laysUncle_19 (by decide) (fun c7 => ?_) (fun c7 => ?_)
      ·
        have q7 : r6.toInt ≤ x14_1.toInt := i_le c7
        exact hret _ _ _ _ _ _ dX9_laysUncle_68 hT hS ⟨hR4, hF4⟩
      ·
        have q7 : x14_1.toInt < r6.toInt := i_nle c7
        have h8 : rg 0 5 x14_1 := t_ltx 0 5 hhx14_1 hr6 (i_nle c7) (by decide)
        have h9 : rg 1 6 r6 := t_lty 1 6 hhx14_1 hr6 (i_nle c7) (by decide)
        refine lv_aload_n hx hb dX9_laysUncle_22 rfl (lv_at hl 0 rfl) ?_
        refine lv_iload_n hx hb dX9_laysUncle_23 rfl (lv_at hl 1 rfl) ?_
        refine e_Vv (As := [.int x14_1]) (rest := []) X Y hT hS (m_X9_laysEar hR4 x14_1) mk_X9_laysEar gm_2008 rfl rfl (by decide) hd_X9_laysEar ⟨rfl, rfl⟩ ⟨Nat.le_of_ble_eq_true rfl, Nat.le_of_ble_eq_true rfl⟩ hl.1 rfl (Nat.le_of_ble_eq_true rfl) dX9_laysUncle_24 ⟨Nat.zero_le _, Nat.zero_le _⟩ (fun i10 g10 H locs hq hT hS => ?_)
        obtain ⟨hR10, hf10⟩ := hq
        have hF10 := Fr_tr hF4 hf10 (by decide)
        refine lv_aload_n hx hb dX9_laysUncle_27 rfl (lv_at hl 0 rfl) ?_
        refine r_geti X hT 96 49 fk_9_426 rfl rfl (by decide) dX9_laysUncle_28 ?_
        refine lv_iconst (v := (-1)) hx hb dX9_laysUncle_31 (by decide) ?_
        refine lv_icmp_eq (tgt := 49) hx hb dX9_laysUncle_32 (by decide) (fun c11 => ?_) (fun c11 => ?_)
        ·
          have q11 : (i10 96 49).toInt = (-1) := i_eq c11
          have h12 : rg (-1) (-1) (i10 96 49) := t_eqx (-1) (-1) (rg_top (i10 96 49)) (rg_k (by decide) : rg (-1) (-1) (-1)) (i_eq c11) (by decide)
          refine lv_aload_n hx hb dX9_laysUncle_49 rfl (lv_at hl 0 rfl) ?_
          refine lv_iload_n hx hb dX9_laysUncle_50 rfl (lv_at hl 1 rfl) ?_
          refine r_puti X hT hS 96 49 pk_9_426 rfl rfl rfl rfl (by decide) dX9_laysUncle_51 (fun H locs i13 ei13 hT hS => ?_)
          have hR13 := Rg_put hR10 ei13 (-2147483648) 2147483647 rfl h8 (by decide)
          have hF13 := Fr_puti hF10 ei13 (by decide)
          refine lv_aload_n hx hb dX9_laysUncle_54 rfl (lv_at hl 0 rfl) ?_
          refine lv_aload_n hx hb dX9_laysUncle_55 rfl (lv_at hl 0 rfl) ?_
          refine r_geti X hT 96 48 fk_9_423 rfl rfl (by decide) dX9_laysUncle_56 ?_
          refine r_puti X hT hS 96 50 pk_9_429 rfl rfl rfl rfl (by decide) dX9_laysUncle_59 (fun H locs i14 ei14 hT hS => ?_)
          have hR14 := Rg_put hR13 ei14 (-2147483648) 2147483647 rfl (rg_top (i13 96 48)) (by decide)
          have hF14 := Fr_puti hF13 ei14 (by decide)
          obtain ⟨x15, ex15⟩ : ∃ y : Int32, y = x14_1 + 1 := ⟨_, rfl⟩
          refine lv_iinc (v := x15) (lv' := [(1, .int x15), (0, .ref (h 96))]) hx hb dX9_laysUncle_62 hl (k := 1) rfl (by rw [ex15]; rfl) (by decide) rfl (fun ls hl => ?_)
          obtain ⟨hx15, ax15⟩ := rg_add 1 6 ex15 h8 (rg_k (by decide) : rg 1 1 1) (by decide)
          replace ax15 : x15.toInt = x14_1.toInt + 1 := ax15
          refine lv_goto (tgt := 14) hx hb dX9_laysUncle_65 (by decide) ?_
          exact ih5_ x15 i14 g10 _ _ _ (rg_w hx15 (by decide) : rg 0 6 x15) hR14 hF14 hT hS (lv_sub hl [1, 0] rfl) (m_up ax15 hx15 (by decide) hm5_)
        ·
          have q11 : ¬ (i10 96 49).toInt = (-1) := i_ne c11
          refine lv_aload_n hx hb dX9_laysUncle_35 rfl (lv_at hl 0 rfl) ?_
          refine r_geti X hT 96 48 fk_9_423 rfl rfl (by decide) dX9_laysUncle_36 ?_
          refine lv_aload_n hx hb dX9_laysUncle_39 rfl (lv_at hl 0 rfl) ?_
          refine r_geti X hT 96 50 fk_9_429 rfl rfl (by decide) dX9_laysUncle_40 ?_
          refine lv_icmp_gt (tgt := 49) hx hb dX9_laysUncle_43 (by decide) (fun c16 => ?_) (fun c16 => ?_)
          ·
            have q16 : (i10 96 50).toInt < (i10 96 48).toInt := i_lt c16
            have h17 : rg (-2147483648) 2147483646 (i10 96 50) := t_ltx (-2147483648) 2147483646 (rg_top (i10 96 50)) (rg_top (i10 96 48)) (i_lt c16) (by decide)
            have h18 : rg (-2147483647) 2147483647 (i10 96 48) := t_lty (-2147483647) 2147483647 (rg_top (i10 96 50)) (rg_top (i10 96 48)) (i_lt c16) (by decide)
            refine lv_aload_n hx hb dX9_laysUncle_49 rfl (lv_at hl 0 rfl) ?_
            refine lv_iload_n hx hb dX9_laysUncle_50 rfl (lv_at hl 1 rfl) ?_
            refine r_puti X hT hS 96 49 pk_9_426 rfl rfl rfl rfl (by decide) dX9_laysUncle_51 (fun H locs i19 ei19 hT hS => ?_)
            have hR19 := Rg_put hR10 ei19 (-2147483648) 2147483647 rfl h8 (by decide)
            have hF19 := Fr_puti hF10 ei19 (by decide)
            refine lv_aload_n hx hb dX9_laysUncle_54 rfl (lv_at hl 0 rfl) ?_
            refine lv_aload_n hx hb dX9_laysUncle_55 rfl (lv_at hl 0 rfl) ?_
            refine r_geti X hT 96 48 fk_9_423 rfl rfl (by decide) dX9_laysUncle_56 ?_
            have e20 : (i19 96 48) = (i10 96 48) := (z_k ei19 rfl (by decide))
            have h21 : rg (-2147483647) 2147483647 (i19 96 48) := rg_of e20 h18
            refine r_puti X hT hS 96 50 pk_9_429 rfl rfl rfl rfl (by decide) dX9_laysUncle_59 (fun H locs i22 ei22 hT hS => ?_)
            have hR22 := Rg_put hR19 ei22 (-2147483648) 2147483647 rfl h21 (by decide)
            have hF22 := Fr_puti hF19 ei22 (by decide)
            obtain ⟨x23, ex23⟩ : ∃ y : Int32, y = x14_1 + 1 := ⟨_, rfl⟩
            refine lv_iinc (v := x23) (lv' := [(1, .int x23), (0, .ref (h 96))]) hx hb dX9_laysUncle_62 hl (k := 1) rfl (by rw [ex23]; rfl) (by decide) rfl (fun ls hl => ?_)
            obtain ⟨hx23, ax23⟩ := rg_add 1 6 ex23 h8 (rg_k (by decide) : rg 1 1 1) (by decide)
            replace ax23 : x23.toInt = x14_1.toInt + 1 := ax23
            refine lv_goto (tgt := 14) hx hb dX9_laysUncle_65 (by decide) ?_
            exact ih5_ x23 i22 g10 _ _ _ (rg_w hx23 (by decide) : rg 0 6 x23) hR22 hF22 hT hS (lv_sub hl [1, 0] rfl) (m_up ax23 hx23 (by decide) hm5_)
          ·
            have q16 : (i10 96 48).toInt ≤ (i10 96 50).toInt := i_nlt c16
            refine lv_goto (tgt := 62) hx hb dX9_laysUncle_46 (by decide) ?_
            obtain ⟨x24, ex24⟩ : ∃ y : Int32, y = x14_1 + 1 := ⟨_, rfl⟩
            refine lv_iinc (v := x24) (lv' := [(1, .int x24), (0, .ref (h 96))]) hx hb dX9_laysUncle_62 hl (k := 1) rfl (by rw [ex24]; rfl) (by decide) rfl (fun ls hl => ?_)
            obtain ⟨hx24, ax24⟩ := rg_add 1 6 ex24 h8 (rg_k (by decide) : rg 1 1 1) (by decide)
            replace ax24 : x24.toInt = x14_1.toInt + 1 := ax24
            refine lv_goto (tgt := 14) hx hb dX9_laysUncle_65 (by decide) ?_
            exact ih5_ x24 i10 g10 _ _ _ (rg_w hx24 (by decide) : rg 0 6 x24) hR10 hF10 hT hS (lv_sub hl [1, 0] rfl) (m_up ax24 hx24 (by decide) hm5_)
  exact L14_3 _ (0) i2 g _ _ _ (rg_w (rg_k (by decide) : rg 0 0 0) (by decide) : rg 0 6 0) hR2 hF2 hT hS (lv_sub hl [1, 0] rfl) (Nat.lt_succ_self _)
set_option maxRecDepth 100000 in
set_option maxHeartbeats 4000000 in
theorem m_X9_uncle {l : Launch} {D : va_G} {h : Nat → Nat} {cz : Nat → ClassId} {z : EZ} {i : Nat → Nat → Int32} {g : Nat → Nat → Int64} (hR : Rg rA i) : DtI l yX9_uncle cX9_uncle 1 (some .int) ({ frames := 8, cells := 0, slots := 0, locals := 179 } : Room) D h cz z i g [.ref (h 96)] (fun r u => Rg rA u.1 ∧ Fr [96, 109, 110, 111, 112, 113, 114, 115, 117] [] i g u) := by
  refine e_I pn_X9_uncle (Nat.le_of_ble_eq_true rfl) ?_
  intro p e s m args below meth c ls Q X Y hret hT hl hS
  have hx := X.1
  have hb := X.2.1
  have hl : lv_has ls 1 [(0, .ref (h 96))] := hl
  have hF : Fr [96, 109, 110, 111, 112, 113, 114, 115, 117] [] i g (i, g) := Fr_rf _ _ _ _
  refine lv_aload_n hx hb dX9_uncle_0 rfl (lv_at hl 0 rfl) ?_
  refine lv_iconst (v := 0) hx hb dX9_uncle_1 (by decide) ?_
  refine r_puti X hT hS 96 0 pk_9_83 rfl rfl rfl rfl (by decide) dX9_uncle_2 (fun H locs i1 ei1 hT hS => ?_)
  have hR1 := Rg_put hR ei1 (-2147483648) 2147483647 rfl (rg_k (by decide) : rg 0 0 0) (by decide)
  have hF1 := Fr_puti hF ei1 (by decide)
  refine lv_aload_n hx hb dX9_uncle_5 rfl (lv_at hl 0 rfl) ?_
  refine e_Vv (As := []) (rest := []) X Y hT hS (m_X9_laysUncle hR1) mk_X9_laysUncle gm_2004 rfl rfl (by decide) hd_X9_laysUncle ⟨rfl, rfl⟩ ⟨Nat.le_of_ble_eq_true rfl, Nat.le_of_ble_eq_true rfl⟩ hl.1 rfl (Nat.le_of_ble_eq_true rfl) dX9_uncle_6 ⟨Nat.zero_le _, Nat.zero_le _⟩ (fun i2 g2 H locs hq hT hS => ?_)
  obtain ⟨hR2, hf2⟩ := hq
  have hF2 := Fr_tr hF1 hf2 (by decide)
  refine lv_aload_n hx hb dX9_uncle_9 rfl (lv_at hl 0 rfl) ?_
  refine r_geti X hT 96 50 fk_9_429 rfl rfl (by decide) dX9_uncle_10 ?_
  exact hret (i2 96 50) _ _ _ _ _ _ dX9_uncle_13 hT hS ⟨hR2, hF2⟩
set_option maxRecDepth 100000 in
set_option maxHeartbeats 4000000 in
theorem m_X9_opens {l : Launch} {D : va_G} {h : Nat → Nat} {cz : Nat → ClassId} {z : EZ} {i : Nat → Nat → Int32} {g : Nat → Nat → Int64} (hR : Rg rA i) : DtI l yX9_opens cX9_opens 1 (some .int) ({ frames := 8, cells := 0, slots := 0, locals := 179 } : Room) D h cz z i g [.ref (h 96)] (fun r u => Rg rA u.1 ∧ Fr [96, 109, 110, 111, 112, 113, 114, 115, 117] [] i g u) := by
  refine e_I pn_X9_opens (Nat.le_of_ble_eq_true rfl) ?_
  intro p e s m args below meth c ls Q X Y hret hT hl hS
  have hx := X.1
  have hb := X.2.1
  have hl : lv_has ls 1 [(0, .ref (h 96))] := hl
  have hF : Fr [96, 109, 110, 111, 112, 113, 114, 115, 117] [] i g (i, g) := Fr_rf _ _ _ _
  refine lv_aload_n hx hb dX9_opens_0 rfl (lv_at hl 0 rfl) ?_
  refine lv_iconst (v := 0) hx hb dX9_opens_1 (by decide) ?_
  refine r_puti X hT hS 96 0 pk_9_83 rfl rfl rfl rfl (by decide) dX9_opens_2 (fun H locs i1 ei1 hT hS => ?_)
  have hR1 := Rg_put hR ei1 (-2147483648) 2147483647 rfl (rg_k (by decide) : rg 0 0 0) (by decide)
  have hF1 := Fr_puti hF ei1 (by decide)
  refine lv_aload_n hx hb dX9_opens_5 rfl (lv_at hl 0 rfl) ?_
  refine e_Vi (As := []) (rest := []) X Y hT hS (m_X9_isTale hR1) mk_X9_isTale gm_1685 rfl rfl (by decide) hd_X9_isTale ⟨rfl, rfl⟩ ⟨Nat.le_of_ble_eq_true rfl, Nat.le_of_ble_eq_true rfl⟩ hl.1 rfl (Nat.le_of_ble_eq_true rfl) dX9_opens_6 ⟨Nat.zero_le _, Nat.zero_le _⟩ (fun r2 i2 g2 H locs hq hT hS => ?_)
  obtain ⟨eh2, hr2⟩ := hq
  rw [(Prod.mk.inj eh2).1, (Prod.mk.inj eh2).2] at hT
  refine lv_if_ne (tgt := 15) hx hb dX9_opens_9 (by decide) (fun c3 => ?_) (fun c3 => ?_)
  ·
    have q3 : ¬ r2.toInt = 0 := i_ne c3
    have h4 : rg 1 1 r2 := t_nelo 1 hr2 (rg_k (by decide) : rg 0 0 0) (i_ne c3) (by decide)
    refine lv_aload_n hx hb dX9_opens_15 rfl (lv_at hl 0 rfl) ?_
    refine e_Vv (As := []) (rest := []) X Y hT hS (m_X9_laysUncle hR1) mk_X9_laysUncle gm_2004 rfl rfl (by decide) hd_X9_laysUncle ⟨rfl, rfl⟩ ⟨Nat.le_of_ble_eq_true rfl, Nat.le_of_ble_eq_true rfl⟩ hl.1 rfl (Nat.le_of_ble_eq_true rfl) dX9_opens_16 ⟨Nat.zero_le _, Nat.zero_le _⟩ (fun i5 g5 H locs hq hT hS => ?_)
    obtain ⟨hR5, hf5⟩ := hq
    have hF5 := Fr_tr hF1 hf5 (by decide)
    refine lv_aload_n hx hb dX9_opens_19 rfl (lv_at hl 0 rfl) ?_
    refine r_geti X hT 96 49 fk_9_426 rfl rfl (by decide) dX9_opens_20 ?_
    exact hret (i5 96 49) _ _ _ _ _ _ dX9_opens_23 hT hS ⟨hR5, hF5⟩
  ·
    have q3 : r2.toInt = 0 := i_eq c3
    have h6 : rg 0 0 r2 := t_eqx 0 0 hr2 (rg_k (by decide) : rg 0 0 0) (i_eq c3) (by decide)
    refine lv_bipush (v := (-2)) hx hb dX9_opens_12 (by decide) ?_
    exact hret (-2) _ _ _ _ _ _ dX9_opens_14 hT hS ⟨hR1, hF1⟩
set_option maxRecDepth 100000 in
set_option maxHeartbeats 4000000 in
theorem m_X9_replies {l : Launch} {D : va_G} {h : Nat → Nat} {cz : Nat → ClassId} {z : EZ} {i : Nat → Nat → Int32} {g : Nat → Nat → Int64} (hR : Rg rA i) (a_a : Int32) : DtI l yX9_replies cX9_replies 2 (some .int) ({ frames := 7, cells := 0, slots := 0, locals := 158 } : Room) D h cz z i g [.ref (h 96), .int a_a] (fun r u => Rg rA u.1 ∧ Fr [96, 109, 110, 111, 112, 113, 114, 115, 117] [] i g u) := by
  refine e_I pn_X9_replies (Nat.le_of_ble_eq_true rfl) ?_
  intro p e s m args below meth c ls Q X Y hret hT hl hS
  have hx := X.1
  have hb := X.2.1
  have hl : lv_has ls 2 [(0, .ref (h 96)), (1, .int a_a)] := hl
  have hF : Fr [96, 109, 110, 111, 112, 113, 114, 115, 117] [] i g (i, g) := Fr_rf _ _ _ _
  refine lv_aload_n hx hb dX9_replies_0 rfl (lv_at hl 0 rfl) ?_
  refine lv_iconst (v := 0) hx hb dX9_replies_1 (by decide) ?_
  refine r_puti X hT hS 96 0 pk_9_83 rfl rfl rfl rfl (by decide) dX9_replies_2 (fun H locs i1 ei1 hT hS => ?_)
  have hR1 := Rg_put hR ei1 (-2147483648) 2147483647 rfl (rg_k (by decide) : rg 0 0 0) (by decide)
  have hF1 := Fr_puti hF ei1 (by decide)
  refine lv_aload_n hx hb dX9_replies_5 rfl (lv_at hl 0 rfl) ?_
  refine lv_iload_n hx hb dX9_replies_6 rfl (lv_at hl 1 rfl) ?_
  refine q_i2l hx hb dX9_replies_7 (fun y2 ey2 => ?_)
  obtain ⟨hy2, ay2⟩ := rg_i2l ey2 (rg_top a_a)
  refine e_Vi (As := [.long y2]) (rest := []) X Y hT hS (m_X9_isPart hR1 y2) mk_X9_isPart gm_1645 rfl rfl (by decide) hd_X9_isPart ⟨rfl, rfl⟩ ⟨Nat.le_of_ble_eq_true rfl, Nat.le_of_ble_eq_true rfl⟩ hl.1 rfl (Nat.le_of_ble_eq_true rfl) dX9_replies_8 ⟨Nat.zero_le _, Nat.zero_le _⟩ (fun r3 i3 g3 H locs hq hT hS => ?_)
  rcases hq with hq | hq
  ·
    obtain ⟨eh3, rfl, hf3_0⟩ := hq
    rw [(Prod.mk.inj eh3).1, (Prod.mk.inj eh3).2] at hT
    have h4 : rgL 0 5 y2 := ⟨by have := hy2.1; have := hf3_0.1; omega, by have := hy2.2; have := hf3_0.2; omega⟩
    have h5 : rg 0 5 a_a := ⟨by have := h4.1; have := (rg_top a_a).1; have := ay2; omega, by have := h4.2; have := (rg_top a_a).2; have := ay2; omega⟩
    refine lv_if_ne (tgt := 17) hx hb dX9_replies_11 (by decide) (fun c6 => ?_) (fun c6 => (x_eq (rg_k (by decide) : rg 1 1 1) (rg_k (by decide) : rg 0 0 0) (i_eq c6) (by decide)).elim)
    refine lv_aload_n hx hb dX9_replies_17 rfl (lv_at hl 0 rfl) ?_
    refine lv_iload_n hx hb dX9_replies_18 rfl (lv_at hl 1 rfl) ?_
    refine e_Vv (As := [.int a_a]) (rest := []) X Y hT hS (m_X9_laysEar hR1 a_a) mk_X9_laysEar gm_2008 rfl rfl (by decide) hd_X9_laysEar ⟨rfl, rfl⟩ ⟨Nat.le_of_ble_eq_true rfl, Nat.le_of_ble_eq_true rfl⟩ hl.1 rfl (Nat.le_of_ble_eq_true rfl) dX9_replies_19 ⟨Nat.zero_le _, Nat.zero_le _⟩ (fun i7 g7 H locs hq hT hS => ?_)
    obtain ⟨hR7, hf7⟩ := hq
    have hF7 := Fr_tr hF1 hf7 (by decide)
    refine lv_aload_n hx hb dX9_replies_22 rfl (lv_at hl 0 rfl) ?_
    refine r_geti X hT 96 47 fk_9_420 rfl rfl (by decide) dX9_replies_23 ?_
    exact hret (i7 96 47) _ _ _ _ _ _ dX9_replies_26 hT hS ⟨hR7, hF7⟩
  ·
    obtain ⟨eh3, rfl⟩ := hq
    rw [(Prod.mk.inj eh3).1, (Prod.mk.inj eh3).2] at hT
    refine lv_if_ne (tgt := 17) hx hb dX9_replies_11 (by decide) (fun c8 => (x_ne (rg_k (by decide) : rg 0 0 0) (rg_k (by decide) : rg 0 0 0) (i_ne c8) (by decide)).elim) (fun c8 => ?_)
    refine lv_bipush (v := (-2)) hx hb dX9_replies_14 (by decide) ?_
    exact hret (-2) _ _ _ _ _ _ dX9_replies_16 hT hS ⟨hR1, hF1⟩
set_option maxRecDepth 100000 in
set_option maxHeartbeats 4000000 in
theorem m_X9_areTwo {l : Launch} {D : va_G} {h : Nat → Nat} {cz : Nat → ClassId} {z : EZ} {i : Nat → Nat → Int32} {g : Nat → Nat → Int64} (hR : Rg rA i) (a_a : Int32) (a_b : Int32) : DtI l yX9_areTwo cX9_areTwo 3 (some .boolean) ({ frames := 2, cells := 0, slots := 0, locals := 47 } : Room) D h cz z i g [.ref (h 96), .int a_a, .int a_b] (fun r u => (u = (i, g) ∧ r = 1 ∧ rg 0 5 a_a ∧ rg 0 5 a_b) ∨ (u = (i, g) ∧ r = 0)) := by
  refine e_Z (fun v u hq => (hq.elim (fun hq => (Or.inr hq.2.1)) (fun hq => (Or.inl hq.2)))) pn_X9_areTwo (Nat.le_of_ble_eq_true rfl) ?_
  intro p e s m args below meth c ls Q X Y hret hT hl hS
  have hx := X.1
  have hb := X.2.1
  have hl : lv_has ls 3 [(0, .ref (h 96)), (1, .int a_a), (2, .int a_b)] := hl
  refine lv_aload_n hx hb dX9_areTwo_0 rfl (lv_at hl 0 rfl) ?_
  refine lv_iload_n hx hb dX9_areTwo_1 rfl (lv_at hl 1 rfl) ?_
  refine q_i2l hx hb dX9_areTwo_2 (fun y1 ey1 => ?_)
  obtain ⟨hy1, ay1⟩ := rg_i2l ey1 (rg_top a_a)
  refine e_Vi (As := [.long y1]) (rest := []) X Y hT hS (m_X9_isPart hR y1) mk_X9_isPart gm_1645 rfl rfl (by decide) hd_X9_isPart ⟨rfl, rfl⟩ ⟨Nat.le_of_ble_eq_true rfl, Nat.le_of_ble_eq_true rfl⟩ hl.1 rfl (Nat.le_of_ble_eq_true rfl) dX9_areTwo_3 ⟨Nat.zero_le _, Nat.zero_le _⟩ (fun r2 i2 g2 H locs hq hT hS => ?_)
  rcases hq with hq | hq
  ·
    obtain ⟨eh2, rfl, hf2_0⟩ := hq
    rw [(Prod.mk.inj eh2).1, (Prod.mk.inj eh2).2] at hT
    have h3 : rgL 0 5 y1 := ⟨by have := hy1.1; have := hf2_0.1; omega, by have := hy1.2; have := hf2_0.2; omega⟩
    have h4 : rg 0 5 a_a := ⟨by have := h3.1; have := (rg_top a_a).1; have := ay1; omega, by have := h3.2; have := (rg_top a_a).2; have := ay1; omega⟩
    refine lv_if_eq (tgt := 27) hx hb dX9_areTwo_6 (by decide) (fun c5 => (x_eq (rg_k (by decide) : rg 1 1 1) (rg_k (by decide) : rg 0 0 0) (i_eq c5) (by decide)).elim) (fun c5 => ?_)
    refine lv_aload_n hx hb dX9_areTwo_9 rfl (lv_at hl 0 rfl) ?_
    refine lv_iload_n hx hb dX9_areTwo_10 rfl (lv_at hl 2 rfl) ?_
    refine q_i2l hx hb dX9_areTwo_11 (fun y6 ey6 => ?_)
    obtain ⟨hy6, ay6⟩ := rg_i2l ey6 (rg_top a_b)
    refine e_Vi (As := [.long y6]) (rest := []) X Y hT hS (m_X9_isPart hR y6) mk_X9_isPart gm_1645 rfl rfl (by decide) hd_X9_isPart ⟨rfl, rfl⟩ ⟨Nat.le_of_ble_eq_true rfl, Nat.le_of_ble_eq_true rfl⟩ hl.1 rfl (Nat.le_of_ble_eq_true rfl) dX9_areTwo_12 ⟨Nat.zero_le _, Nat.zero_le _⟩ (fun r7 i7 g7 H locs hq hT hS => ?_)
    rcases hq with hq | hq
    ·
      obtain ⟨eh7, rfl, hf7_0⟩ := hq
      rw [(Prod.mk.inj eh7).1, (Prod.mk.inj eh7).2] at hT
      have h8 : rgL 0 5 y6 := ⟨by have := hy6.1; have := hf7_0.1; omega, by have := hy6.2; have := hf7_0.2; omega⟩
      have h9 : rg 0 5 a_b := ⟨by have := h8.1; have := (rg_top a_b).1; have := ay6; omega, by have := h8.2; have := (rg_top a_b).2; have := ay6; omega⟩
      refine lv_if_eq (tgt := 27) hx hb dX9_areTwo_15 (by decide) (fun c10 => (x_eq (rg_k (by decide) : rg 1 1 1) (rg_k (by decide) : rg 0 0 0) (i_eq c10) (by decide)).elim) (fun c10 => ?_)
      refine lv_iload_n hx hb dX9_areTwo_18 rfl (lv_at hl 1 rfl) ?_
      refine lv_iload_n hx hb dX9_areTwo_19 rfl (lv_at hl 2 rfl) ?_
      refine lv_icmp_eq (tgt := 27) hx hb dX9_areTwo_20 (by decide) (fun c11 => ?_) (fun c11 => ?_)
      ·
        have q11 : a_a.toInt = a_b.toInt := i_eq c11
        refine lv_iconst (v := 0) hx hb dX9_areTwo_27 (by decide) ?_
        exact hret 0 _ _ _ _ _ _ dX9_areTwo_28 hT hS (Or.inr ⟨rfl, rfl⟩)
      ·
        have q11 : ¬ a_a.toInt = a_b.toInt := i_ne c11
        refine lv_iconst (v := 1) hx hb dX9_areTwo_23 (by decide) ?_
        refine lv_goto (tgt := 28) hx hb dX9_areTwo_24 (by decide) ?_
        exact hret 1 _ _ _ _ _ _ dX9_areTwo_28 hT hS (Or.inl ⟨rfl, rfl, h4, h9⟩)
    ·
      obtain ⟨eh7, rfl⟩ := hq
      rw [(Prod.mk.inj eh7).1, (Prod.mk.inj eh7).2] at hT
      refine lv_if_eq (tgt := 27) hx hb dX9_areTwo_15 (by decide) (fun c12 => ?_) (fun c12 => (x_ne (rg_k (by decide) : rg 0 0 0) (rg_k (by decide) : rg 0 0 0) (i_ne c12) (by decide)).elim)
      refine lv_iconst (v := 0) hx hb dX9_areTwo_27 (by decide) ?_
      exact hret 0 _ _ _ _ _ _ dX9_areTwo_28 hT hS (Or.inr ⟨rfl, rfl⟩)
  ·
    obtain ⟨eh2, rfl⟩ := hq
    rw [(Prod.mk.inj eh2).1, (Prod.mk.inj eh2).2] at hT
    refine lv_if_eq (tgt := 27) hx hb dX9_areTwo_6 (by decide) (fun c13 => ?_) (fun c13 => (x_ne (rg_k (by decide) : rg 0 0 0) (rg_k (by decide) : rg 0 0 0) (i_ne c13) (by decide)).elim)
    refine lv_iconst (v := 0) hx hb dX9_areTwo_27 (by decide) ?_
    exact hret 0 _ _ _ _ _ _ dX9_areTwo_28 hT hS (Or.inr ⟨rfl, rfl⟩)
set_option maxRecDepth 100000 in
set_option maxHeartbeats 4000000 in
theorem m_X9_getsBy {l : Launch} {D : va_G} {h : Nat → Nat} {cz : Nat → ClassId} {z : EZ} {i : Nat → Nat → Int32} {g : Nat → Nat → Int64} (hR : Rg rA i) (a_a : Int32) (a_b : Int32) (a_c : Int32) (a_d : Int32) (a_e : Int32) (ha_a : rg 0 5 a_a) : DtI l yX9_getsBy cX9_getsBy 6 (some .int) ({ frames := 5, cells := 0, slots := 0, locals := 112 } : Room) D h cz z i g [.ref (h 96), .int a_a, .int a_b, .int a_c, .int a_d, .int a_e] (fun r u => Rg rA u.1 ∧ Fr [96, 109, 110, 111, 112, 113, 114, 115] [] i g u) := by
  refine e_I pn_X9_getsBy (Nat.le_of_ble_eq_true rfl) ?_
  intro p e s m args below meth c ls Q X Y hret hT hl hS
  have hx := X.1
  have hb := X.2.1
  have hl : lv_has ls 6 [(0, .ref (h 96)), (1, .int a_a), (2, .int a_b), (3, .int a_c), (4, .int a_d), (5, .int a_e)] := hl
  have hF : Fr [96, 109, 110, 111, 112, 113, 114, 115] [] i g (i, g) := Fr_rf _ _ _ _
  refine lv_aload_n hx hb dX9_getsBy_0 rfl (lv_at hl 0 rfl) ?_
  refine e_Vv (As := []) (rest := []) X Y hT hS (m_X9_lays hR) mk_X9_lays gm_1658 rfl rfl (by decide) hd_X9_lays ⟨rfl, rfl⟩ ⟨Nat.le_of_ble_eq_true rfl, Nat.le_of_ble_eq_true rfl⟩ hl.1 rfl (Nat.le_of_ble_eq_true rfl) dX9_getsBy_1 ⟨Nat.zero_le _, Nat.zero_le _⟩ (fun i1 g1 H locs hq hT hS => ?_)
  obtain ⟨hR1, hf1⟩ := hq
  have hF1 := Fr_tr hF hf1 (by decide)
  refine lv_aload_n hx hb dX9_getsBy_4 rfl (lv_at hl 0 rfl) ?_
  refine lv_iload hx hb dX9_getsBy_5 (lv_at hl 4 rfl) ?_
  refine lv_iload_n hx hb dX9_getsBy_7 rfl (lv_at hl 2 rfl) ?_
  refine q_ishl hx hb dX9_getsBy_8 (fun x2 ex2 => ?_)
  refine lv_iload hx hb dX9_getsBy_9 (lv_at hl 5 rfl) ?_
  refine lv_iload_n hx hb dX9_getsBy_11 rfl (lv_at hl 3 rfl) ?_
  refine q_ishl hx hb dX9_getsBy_12 (fun x3 ex3 => ?_)
  refine q_ior hx hb dX9_getsBy_13 (fun x4 ex4 => ?_)
  refine r_puti X hT hS 96 24 pk_9_263 rfl rfl rfl rfl (by decide) dX9_getsBy_14 (fun H locs i5 ei5 hT hS => ?_)
  have hR5 := Rg_put hR1 ei5 (-2147483648) 2147483647 rfl (rg_top x4) (by decide)
  have hF5 := Fr_puti hF1 ei5 (by decide)
  refine lv_aload_n hx hb dX9_getsBy_17 rfl (lv_at hl 0 rfl) ?_
  refine e_Vv (As := []) (rest := []) X Y hT hS (m_X9_runs hR5) mk_X9_runs gm_1697 rfl rfl (by decide) hd_X9_runs ⟨rfl, rfl⟩ ⟨Nat.le_of_ble_eq_true rfl, Nat.le_of_ble_eq_true rfl⟩ hl.1 rfl (Nat.le_of_ble_eq_true rfl) dX9_getsBy_18 ⟨Nat.zero_le _, Nat.zero_le _⟩ (fun i6 g6 H locs hq hT hS => ?_)
  obtain ⟨hR6, hf6⟩ := hq
  have hF6 := Fr_tr hF5 hf6 (by decide)
  refine lv_iconst (v := 0) hx hb dX9_getsBy_21 (by decide) ?_
  refine lv_aload_n hx hb dX9_getsBy_22 rfl (lv_at hl 0 rfl) ?_
  refine r_getr X hT 96 34 115 fk_9_71 rfl rfl (by decide) dX9_getsBy_23 ?_
  refine lv_iload_n hx hb dX9_getsBy_26 rfl (lv_at hl 1 rfl) ?_
  refine r_iald X hT 115 rfl (by decide) (v_in ha_a (by decide)) dX9_getsBy_27 ?_
  refine e_Si (As := [.int 0, .int (i6 115 a_a.toNatClampNeg)]) (rest := []) X Y hT hS (m_X9_moreOf_0t0_f (0) (i6 115 a_a.toNatClampNeg) (rg_k (by decide) : rg 0 0 0)) sk_X9_moreOf gm_1709 hd_X9_moreOf ⟨rfl, rfl⟩ ⟨Nat.le_of_ble_eq_true rfl, Nat.le_of_ble_eq_true rfl⟩ hl.1 rfl (Nat.le_of_ble_eq_true rfl) dX9_getsBy_28 ⟨Nat.zero_le _, Nat.zero_le _⟩ (fun r7 i7 g7 H locs hq hT hS => ?_)
  obtain ⟨eh7, hr7⟩ := hq
  rw [(Prod.mk.inj eh7).1, (Prod.mk.inj eh7).2] at hT
  refine lv_iconst (v := 4) hx hb dX9_getsBy_31 (by decide) ?_
  refine lv_iload_n hx hb dX9_getsBy_32 rfl (lv_at hl 1 rfl) ?_
  refine lv_iload_n hx hb dX9_getsBy_33 rfl (lv_at hl 2 rfl) ?_
  refine lv_icmp_ne (tgt := 42) hx hb dX9_getsBy_34 (by decide) (fun c8 => ?_) (fun c8 => ?_)
  ·
    have q8 : ¬ a_a.toInt = a_b.toInt := i_ne c8
    refine lv_iload hx hb dX9_getsBy_42 (lv_at hl 5 rfl) ?_
    refine q_imul hx hb dX9_getsBy_44 (fun x9 ex9 => ?_)
    refine q_iadd hx hb dX9_getsBy_45 (fun x10 ex10 => ?_)
    exact hret x10 _ _ _ _ _ _ dX9_getsBy_46 hT hS ⟨hR6, hF6⟩
  ·
    have q8 : a_a.toInt = a_b.toInt := i_eq c8
    have h11 : rg 0 5 a_b := t_eqy 0 5 ha_a (rg_top a_b) (i_eq c8) (by decide)
    refine lv_iload hx hb dX9_getsBy_37 (lv_at hl 4 rfl) ?_
    refine lv_goto (tgt := 44) hx hb dX9_getsBy_39 (by decide) ?_
    refine q_imul hx hb dX9_getsBy_44 (fun x12 ex12 => ?_)
    refine q_iadd hx hb dX9_getsBy_45 (fun x13 ex13 => ?_)
    exact hret x13 _ _ _ _ _ _ dX9_getsBy_46 hT hS ⟨hR6, hF6⟩
set_option maxRecDepth 100000 in
set_option maxHeartbeats 4000000 in
theorem m_X9_rests {l : Launch} {D : va_G} {h : Nat → Nat} {cz : Nat → ClassId} {z : EZ} {i : Nat → Nat → Int32} {g : Nat → Nat → Int64} (hR : Rg rA i) (a_a : Int32) (a_b : Int32) : DtI l yX9_rests cX9_rests 8 (some .int) ({ frames := 6, cells := 0, slots := 0, locals := 137 } : Room) D h cz z i g [.ref (h 96), .int a_a, .int a_b] (fun r u => Rg rA u.1 ∧ Fr [96, 109, 110, 111, 112, 113, 114, 115] [] i g u ∧ rg (-2) 255 r) := by
  refine e_I pn_X9_rests (Nat.le_of_ble_eq_true rfl) ?_
  intro p e s m args below meth c ls Q X Y hret hT hl hS
  have hx := X.1
  have hb := X.2.1
  have hl : lv_has ls 8 [(0, .ref (h 96)), (1, .int a_a), (2, .int a_b)] := hl
  have hF : Fr [96, 109, 110, 111, 112, 113, 114, 115] [] i g (i, g) := Fr_rf _ _ _ _
  refine lv_aload_n hx hb dX9_rests_0 rfl (lv_at hl 0 rfl) ?_
  refine lv_iconst (v := 0) hx hb dX9_rests_1 (by decide) ?_
  refine r_puti X hT hS 96 0 pk_9_83 rfl rfl rfl rfl (by decide) dX9_rests_2 (fun H locs i1 ei1 hT hS => ?_)
  have hR1 := Rg_put hR ei1 (-2147483648) 2147483647 rfl (rg_k (by decide) : rg 0 0 0) (by decide)
  have hF1 := Fr_puti hF ei1 (by decide)
  refine lv_aload_n hx hb dX9_rests_5 rfl (lv_at hl 0 rfl) ?_
  refine lv_iload_n hx hb dX9_rests_6 rfl (lv_at hl 1 rfl) ?_
  refine lv_iload_n hx hb dX9_rests_7 rfl (lv_at hl 2 rfl) ?_
  refine e_Vi (As := [.int a_a, .int a_b]) (rest := []) X Y hT hS (m_X9_areTwo hR1 a_a a_b) mk_X9_areTwo gm_2024 rfl rfl (by decide) hd_X9_areTwo ⟨rfl, rfl⟩ ⟨Nat.le_of_ble_eq_true rfl, Nat.le_of_ble_eq_true rfl⟩ hl.1 rfl (Nat.le_of_ble_eq_true rfl) dX9_rests_8 ⟨Nat.zero_le _, Nat.zero_le _⟩ (fun r2 i2 g2 H locs hq hT hS => ?_)
  rcases hq with hq | hq
  ·
    obtain ⟨eh2, rfl, hf2_0, hf2_1⟩ := hq
    rw [(Prod.mk.inj eh2).1, (Prod.mk.inj eh2).2] at hT
    have h3 : rg 0 5 a_a := ⟨by have := (rg_top a_a).1; have := hf2_0.1; omega, by have := (rg_top a_a).2; have := hf2_0.2; omega⟩
    have h4 : rg 0 5 a_b := ⟨by have := (rg_top a_b).1; have := hf2_1.1; omega, by have := (rg_top a_b).2; have := hf2_1.2; omega⟩
    refine lv_if_ne (tgt := 17) hx hb dX9_rests_11 (by decide) (fun c5 => ?_) (fun c5 => (x_eq (rg_k (by decide) : rg 1 1 1) (rg_k (by decide) : rg 0 0 0) (i_eq c5) (by decide)).elim)
    refine lv_iconst (v := 0) hx hb dX9_rests_17 (by decide) ?_
    refine lv_istore_n (lv' := [(3, .int 0), (0, .ref (h 96)), (1, .int a_a), (2, .int a_b)]) hx hb dX9_rests_18 rfl hl (by decide) rfl (fun ls hl => ?_)
    refine lv_iconst (v := 0) hx hb dX9_rests_19 (by decide) ?_
    refine lv_istore (lv' := [(4, .int 0), (3, .int 0), (0, .ref (h 96)), (1, .int a_a), (2, .int a_b)]) hx hb dX9_rests_20 hl (by decide) rfl (fun ls hl => ?_)
    have L22_6 : ∀ (n8_ : Nat) (x22_3 : Int32) (x22_4 : Int32) (i7 : Nat → Nat → Int32) (g7 : Nat → Nat → Int64) (H : Heap) (locs : List Loc) (ls : Array Slot), rg 0 255 x22_3 → rg 0 4 x22_4 → Rg rA i7 → Fr [96, 109, 110, 111, 112, 113, 114, 115] [] i g (i7, g7) → TH D h cz i7 g7 H → va_S (hA h) s.heap H locs → lv_has ls 8 [(0, .ref (h 96)), (1, .int a_a), (2, .int a_b), (3, .int x22_3), (4, .int x22_4)] → (4 - x22_4.toInt).toNat < n8_ → W p l e ({ frames := 6, cells := 0, slots := 0, locals := 137 } : Room) s m args below meth c H locs 0 0 Q (F0 m 22 ls []) := by
      intro n8_
      induction n8_ with
      | zero => intro x22_3 x22_4 i7 g7 H locs ls hhx22_3 hhx22_4 hR7 hF7 hT hS hl hm8_; exact absurd hm8_ (Nat.not_lt_zero _)
      | succ n8_ ih8_ =>
        intro x22_3 x22_4 i7 g7 H locs ls hhx22_3 hhx22_4 hR7 hF7 hT hS hl hm8_
        refine lv_iload hx hb dX9_rests_22 (lv_at hl 4 rfl) ?_
        refine lv_iconst (v := 4) hx hb dX9_rests_24 (by decide) ?_
        refine lv_icmp_ge (tgt := 123) hx hb dX9_rests_25 (by decide) (fun c9 => ?_) (fun c9 => ?_)
        ·
          have q9 : 4 ≤ x22_4.toInt := i_le c9
          have h10 : rg 4 4 x22_4 := t_ley 4 4 (rg_k (by decide) : rg 4 4 4) hhx22_4 (i_le c9) (by decide)
          refine lv_iload_n hx hb dX9_rests_123 rfl (lv_at hl 3 rfl) ?_
          exact hret x22_3 _ _ _ _ _ _ dX9_rests_124 hT hS ⟨hR7, hF7, (rg_w hhx22_3 (by decide) : rg (-2) 255 x22_3)⟩
        ·
          have q9 : x22_4.toInt < 4 := i_nle c9
          have h11 : rg 0 3 x22_4 := t_ltx 0 3 hhx22_4 (rg_k (by decide) : rg 4 4 4) (i_nle c9) (by decide)
          refine lv_iload hx hb dX9_rests_28 (lv_at hl 4 rfl) ?_
          refine lv_iconst (v := 2) hx hb dX9_rests_30 (by decide) ?_
          refine q_irem hx hb dX9_rests_31 (nz_I (rg_k (by decide) : rg 2 2 2) (by decide)) (fun x12 ex12 => ?_)
          obtain ⟨hx12, ax12⟩ := rg_rem (hi := 1) ex12 h11 (rg_k (by decide) : rg 2 2 2) (by decide)
          replace ax12 : x12.toInt = x22_4.toInt % 2 := ax12
          refine lv_istore (lv' := [(5, .int x12), (0, .ref (h 96)), (1, .int a_a), (2, .int a_b), (3, .int x22_3), (4, .int x22_4)]) hx hb dX9_rests_32 hl (by decide) rfl (fun ls hl => ?_)
          refine lv_iload hx hb dX9_rests_34 (lv_at hl 5 rfl) ?_
          refine lv_iconst (v := 2) hx hb dX9_rests_36 (by decide) ?_
          refine q_idiv hx hb dX9_rests_37 (nz_I (rg_k (by decide) : rg 2 2 2) (by decide)) (fun x13 ex13 => ?_)
          obtain ⟨hx13, ax13⟩ := rg_div ex13 h11 (rg_k (by decide) : rg 2 2 2) (by decide)
          refine lv_istore (lv' := [(6, .int x13), (5, .int x12), (0, .ref (h 96)), (1, .int a_a), (2, .int a_b), (3, .int x22_3), (4, .int x22_4)]) hx hb dX9_rests_38 hl (by decide) rfl (fun ls hl => ?_)
          refine lv_aload_n hx hb dX9_rests_40 rfl (lv_at hl 2 rfl) ?_
          refine lv_iload_n hx hb dX9_rests_41 rfl (lv_at hl 3 rfl) ?_
          refine lv_iload_n hx hb dX9_rests_42 rfl (lv_at hl 3 rfl) ?_
          refine lv_iload_n hx hb dX9_rests_43 rfl (lv_at hl 4 rfl) ?_
          refine lv_iconst (v := 1) hx hb dX9_rests_44 (by decide) ?_
          refine lv_iload hx hb dX9_rests_45 (lv_at hl 1 rfl) ?_
          refine q_isub hx hb dX9_rests_47 (fun x14 ex14 => ?_)
          obtain ⟨hx14, ax14⟩ := rg_sub 0 1 ex14 (rg_k (by decide) : rg 1 1 1) hx12 (by decide)
          replace ax14 : x14.toInt = 1 - x12.toInt := ax14
          refine lv_iload hx hb dX9_rests_48 (lv_at hl 0 rfl) ?_
          refine e_Vi (As := [.int a_a, .int a_a, .int a_b, .int x14, .int x13]) (rest := []) X Y hT hS (m_X9_getsBy hR7 a_a a_a a_b x14 x13 h3) mk_X9_getsBy gm_2028 rfl rfl (by decide) hd_X9_getsBy ⟨rfl, rfl⟩ ⟨Nat.le_of_ble_eq_true rfl, Nat.le_of_ble_eq_true rfl⟩ hl.1 rfl (Nat.le_of_ble_eq_true rfl) dX9_rests_50 ⟨Nat.zero_le _, Nat.zero_le _⟩ (fun r15 i15 g15 H locs hq hT hS => ?_)
          obtain ⟨hR15, hf15⟩ := hq
          have hF15 := Fr_tr hF7 hf15 (by decide)
          refine lv_aload_n hx hb dX9_rests_53 rfl (lv_at hl 2 rfl) ?_
          refine lv_iload_n hx hb dX9_rests_54 rfl (lv_at hl 3 rfl) ?_
          refine lv_iload_n hx hb dX9_rests_55 rfl (lv_at hl 3 rfl) ?_
          refine lv_iload_n hx hb dX9_rests_56 rfl (lv_at hl 4 rfl) ?_
          refine lv_iload hx hb dX9_rests_57 (lv_at hl 1 rfl) ?_
          refine lv_iload hx hb dX9_rests_59 (lv_at hl 0 rfl) ?_
          refine e_Vi (As := [.int a_a, .int a_a, .int a_b, .int x12, .int x13]) (rest := [.int r15]) X Y hT hS (m_X9_getsBy hR15 a_a a_a a_b x12 x13 h3) mk_X9_getsBy gm_2028 rfl rfl (by decide) hd_X9_getsBy ⟨rfl, rfl⟩ ⟨Nat.le_of_ble_eq_true rfl, Nat.le_of_ble_eq_true rfl⟩ hl.1 rfl (Nat.le_of_ble_eq_true rfl) dX9_rests_61 ⟨Nat.zero_le _, Nat.zero_le _⟩ (fun r16 i16 g16 H locs hq hT hS => ?_)
          obtain ⟨hR16, hf16⟩ := hq
          have hF16 := Fr_tr hF15 hf16 (by decide)
          have J99_18 : ∀ (x99_18_s0 : Int32) (i19 : Nat → Nat → Int32) (g19 : Nat → Nat → Int64) (H : Heap) (locs : List Loc) (ls : Array Slot), rg 0 1 x99_18_s0 → Rg rA i19 → Fr [96, 109, 110, 111, 112, 113, 114, 115] [] i g (i19, g19) → TH D h cz i19 g19 H → va_S (hA h) s.heap H locs → lv_has ls 8 [(0, .ref (h 96)), (1, .int a_a), (2, .int a_b), (3, .int x22_3), (4, .int x22_4)] → W p l e ({ frames := 6, cells := 0, slots := 0, locals := 137 } : Room) s m args below meth c H locs 0 0 Q (F0 m 99 ls [.int x99_18_s0]) := by
            intro x99_18_s0 i19 g19 H locs ls hhx99_18_s0 hR19 hF19 hT hS hl
            refine lv_istore (lv' := [(7, .int x99_18_s0), (0, .ref (h 96)), (1, .int a_a), (2, .int a_b), (3, .int x22_3), (4, .int x22_4)]) hx hb dX9_rests_99 hl (by decide) rfl (fun ls hl => ?_)
            refine lv_iload_n hx hb dX9_rests_101 rfl (lv_at hl 4 rfl) ?_
            refine lv_iload hx hb dX9_rests_102 (lv_at hl 0 rfl) ?_
            refine lv_if_eq (tgt := 114) hx hb dX9_rests_104 (by decide) (fun c20 => ?_) (fun c20 => ?_)
            ·
              have q20 : x99_18_s0.toInt = 0 := i_eq c20
              have h21 : rg 0 0 x99_18_s0 := t_eqx 0 0 hhx99_18_s0 (rg_k (by decide) : rg 0 0 0) (i_eq c20) (by decide)
              refine lv_iconst (v := 0) hx hb dX9_rests_114 (by decide) ?_
              refine q_ior hx hb dX9_rests_115 (fun x22 ex22 => ?_)
              have h23 : rg 0 255 x22 := rg_or8 ex22 hhx22_3 (rg_k (by decide) : rg 0 0 0) (by decide)
              refine lv_istore_n (lv' := [(3, .int x22), (7, .int x99_18_s0), (0, .ref (h 96)), (1, .int a_a), (2, .int a_b), (4, .int x22_4)]) hx hb dX9_rests_116 rfl hl (by decide) rfl (fun ls hl => ?_)
              obtain ⟨x24, ex24⟩ : ∃ y : Int32, y = x22_4 + 1 := ⟨_, rfl⟩
              refine lv_iinc (v := x24) (lv' := [(4, .int x24), (3, .int x22), (7, .int x99_18_s0), (0, .ref (h 96)), (1, .int a_a), (2, .int a_b)]) hx hb dX9_rests_117 hl (k := 5) rfl (by rw [ex24]; rfl) (by decide) rfl (fun ls hl => ?_)
              obtain ⟨hx24, ax24⟩ := rg_add 1 4 ex24 h11 (rg_k (by decide) : rg 1 1 1) (by decide)
              replace ax24 : x24.toInt = x22_4.toInt + 1 := ax24
              refine lv_goto (tgt := 22) hx hb dX9_rests_120 (by decide) ?_
              exact ih8_ x22 x24 i19 g19 _ _ _ h23 (rg_w hx24 (by decide) : rg 0 4 x24) hR19 hF19 hT hS (lv_sub hl [3, 4, 5, 1, 0] rfl) (m_up ax24 hx24 (by decide) hm8_)
            ·
              have q20 : ¬ x99_18_s0.toInt = 0 := i_ne c20
              have h25 : rg 1 1 x99_18_s0 := t_nelo 1 hhx99_18_s0 (rg_k (by decide) : rg 0 0 0) (i_ne c20) (by decide)
              refine lv_iconst (v := 1) hx hb dX9_rests_107 (by decide) ?_
              refine lv_iload hx hb dX9_rests_108 (lv_at hl 5 rfl) ?_
              refine q_ishl hx hb dX9_rests_110 (fun x26 ex26 => ?_)
              have h27 : rg 1 8 x26 := rg_shl1 ex26 h11 (by decide)
              refine lv_goto (tgt := 115) hx hb dX9_rests_111 (by decide) ?_
              refine q_ior hx hb dX9_rests_115 (fun x28 ex28 => ?_)
              have h29 : rg 0 255 x28 := rg_or8 ex28 hhx22_3 h27 (by decide)
              refine lv_istore_n (lv' := [(3, .int x28), (7, .int x99_18_s0), (0, .ref (h 96)), (1, .int a_a), (2, .int a_b), (4, .int x22_4)]) hx hb dX9_rests_116 rfl hl (by decide) rfl (fun ls hl => ?_)
              obtain ⟨x30, ex30⟩ : ∃ y : Int32, y = x22_4 + 1 := ⟨_, rfl⟩
              refine lv_iinc (v := x30) (lv' := [(4, .int x30), (3, .int x28), (7, .int x99_18_s0), (0, .ref (h 96)), (1, .int a_a), (2, .int a_b)]) hx hb dX9_rests_117 hl (k := 5) rfl (by rw [ex30]; rfl) (by decide) rfl (fun ls hl => ?_)
              obtain ⟨hx30, ax30⟩ := rg_add 1 4 ex30 h11 (rg_k (by decide) : rg 1 1 1) (by decide)
              replace ax30 : x30.toInt = x22_4.toInt + 1 := ax30
              refine lv_goto (tgt := 22) hx hb dX9_rests_120 (by decide) ?_
              exact ih8_ x28 x30 i19 g19 _ _ _ h29 (rg_w hx30 (by decide) : rg 0 4 x30) hR19 hF19 hT hS (lv_sub hl [3, 4, 5, 1, 0] rfl) (m_up ax30 hx30 (by decide) hm8_)
          refine lv_icmp_gt (tgt := 98) hx hb dX9_rests_64 (by decide) (fun c17 => ?_) (fun c17 => ?_)
          ·
            have q17 : r16.toInt < r15.toInt := i_lt c17
            have h31 : rg (-2147483648) 2147483646 r16 := t_ltx (-2147483648) 2147483646 (rg_top r16) (rg_top r15) (i_lt c17) (by decide)
            have h32 : rg (-2147483647) 2147483647 r15 := t_lty (-2147483647) 2147483647 (rg_top r16) (rg_top r15) (i_lt c17) (by decide)
            refine lv_iconst (v := 0) hx hb dX9_rests_98 (by decide) ?_
            exact J99_18 (0) i16 g16 _ _ _ (rg_w (rg_k (by decide) : rg 0 0 0) (by decide) : rg 0 1 0) hR16 hF16 hT hS (lv_sub hl [2, 3, 4, 5, 6] rfl)
          ·
            have q17 : r15.toInt ≤ r16.toInt := i_nlt c17
            refine lv_aload_n hx hb dX9_rests_67 rfl (lv_at hl 2 rfl) ?_
            refine lv_iload_n hx hb dX9_rests_68 rfl (lv_at hl 4 rfl) ?_
            refine lv_iload_n hx hb dX9_rests_69 rfl (lv_at hl 3 rfl) ?_
            refine lv_iload_n hx hb dX9_rests_70 rfl (lv_at hl 4 rfl) ?_
            refine lv_iload hx hb dX9_rests_71 (lv_at hl 1 rfl) ?_
            refine lv_iconst (v := 1) hx hb dX9_rests_73 (by decide) ?_
            refine lv_iload hx hb dX9_rests_74 (lv_at hl 0 rfl) ?_
            refine q_isub hx hb dX9_rests_76 (fun x33 ex33 => ?_)
            obtain ⟨hx33, ax33⟩ := rg_sub (-2) 1 ex33 (rg_k (by decide) : rg 1 1 1) hx13 (by decide)
            replace ax33 : x33.toInt = 1 - x13.toInt := ax33
            refine e_Vi (As := [.int a_b, .int a_a, .int a_b, .int x12, .int x33]) (rest := []) X Y hT hS (m_X9_getsBy hR16 a_b a_a a_b x12 x33 h4) mk_X9_getsBy gm_2028 rfl rfl (by decide) hd_X9_getsBy ⟨rfl, rfl⟩ ⟨Nat.le_of_ble_eq_true rfl, Nat.le_of_ble_eq_true rfl⟩ hl.1 rfl (Nat.le_of_ble_eq_true rfl) dX9_rests_77 ⟨Nat.zero_le _, Nat.zero_le _⟩ (fun r34 i34 g34 H locs hq hT hS => ?_)
            obtain ⟨hR34, hf34⟩ := hq
            have hF34 := Fr_tr hF16 hf34 (by decide)
            refine lv_aload_n hx hb dX9_rests_80 rfl (lv_at hl 2 rfl) ?_
            refine lv_iload_n hx hb dX9_rests_81 rfl (lv_at hl 4 rfl) ?_
            refine lv_iload_n hx hb dX9_rests_82 rfl (lv_at hl 3 rfl) ?_
            refine lv_iload_n hx hb dX9_rests_83 rfl (lv_at hl 4 rfl) ?_
            refine lv_iload hx hb dX9_rests_84 (lv_at hl 1 rfl) ?_
            refine lv_iload hx hb dX9_rests_86 (lv_at hl 0 rfl) ?_
            refine e_Vi (As := [.int a_b, .int a_a, .int a_b, .int x12, .int x13]) (rest := [.int r34]) X Y hT hS (m_X9_getsBy hR34 a_b a_a a_b x12 x13 h4) mk_X9_getsBy gm_2028 rfl rfl (by decide) hd_X9_getsBy ⟨rfl, rfl⟩ ⟨Nat.le_of_ble_eq_true rfl, Nat.le_of_ble_eq_true rfl⟩ hl.1 rfl (Nat.le_of_ble_eq_true rfl) dX9_rests_88 ⟨Nat.zero_le _, Nat.zero_le _⟩ (fun r35 i35 g35 H locs hq hT hS => ?_)
            obtain ⟨hR35, hf35⟩ := hq
            have hF35 := Fr_tr hF34 hf35 (by decide)
            refine lv_icmp_gt (tgt := 98) hx hb dX9_rests_91 (by decide) (fun c36 => ?_) (fun c36 => ?_)
            ·
              have q36 : r35.toInt < r34.toInt := i_lt c36
              have h37 : rg (-2147483648) 2147483646 r35 := t_ltx (-2147483648) 2147483646 (rg_top r35) (rg_top r34) (i_lt c36) (by decide)
              have h38 : rg (-2147483647) 2147483647 r34 := t_lty (-2147483647) 2147483647 (rg_top r35) (rg_top r34) (i_lt c36) (by decide)
              refine lv_iconst (v := 0) hx hb dX9_rests_98 (by decide) ?_
              exact J99_18 (0) i35 g35 _ _ _ (rg_w (rg_k (by decide) : rg 0 0 0) (by decide) : rg 0 1 0) hR35 hF35 hT hS (lv_sub hl [2, 3, 4, 5, 6] rfl)
            ·
              have q36 : r34.toInt ≤ r35.toInt := i_nlt c36
              refine lv_iconst (v := 1) hx hb dX9_rests_94 (by decide) ?_
              refine lv_goto (tgt := 99) hx hb dX9_rests_95 (by decide) ?_
              exact J99_18 (1) i35 g35 _ _ _ (rg_w (rg_k (by decide) : rg 1 1 1) (by decide) : rg 0 1 1) hR35 hF35 hT hS (lv_sub hl [2, 3, 4, 5, 6] rfl)
    exact L22_6 _ (0) (0) i1 g _ _ _ (rg_w (rg_k (by decide) : rg 0 0 0) (by decide) : rg 0 255 0) (rg_w (rg_k (by decide) : rg 0 0 0) (by decide) : rg 0 4 0) hR1 hF1 hT hS (lv_sub hl [2, 3, 4, 1, 0] rfl) (Nat.lt_succ_self _)
  ·
    obtain ⟨eh2, rfl⟩ := hq
    rw [(Prod.mk.inj eh2).1, (Prod.mk.inj eh2).2] at hT
    refine lv_if_ne (tgt := 17) hx hb dX9_rests_11 (by decide) (fun c39 => (x_ne (rg_k (by decide) : rg 0 0 0) (rg_k (by decide) : rg 0 0 0) (i_ne c39) (by decide)).elim) (fun c39 => ?_)
    refine lv_bipush (v := (-2)) hx hb dX9_rests_14 (by decide) ?_
    exact hret (-2) _ _ _ _ _ _ dX9_rests_16 hT hS ⟨hR1, hF1, (rg_w (rg_k (by decide) : rg (-2) (-2) (-2)) (by decide) : rg (-2) 255 (-2))⟩
set_option maxRecDepth 100000 in
set_option maxHeartbeats 4000000 in
theorem m_X9_gets {l : Launch} {D : va_G} {h : Nat → Nat} {cz : Nat → ClassId} {z : EZ} {i : Nat → Nat → Int32} {g : Nat → Nat → Int64} (hR : Rg rA i) (a_a : Int32) (a_b : Int32) (a_c : Int32) (a_d : Int32) : DtI l yX9_gets cX9_gets 5 (some .int) ({ frames := 6, cells := 0, slots := 0, locals := 137 } : Room) D h cz z i g [.ref (h 96), .int a_a, .int a_b, .int a_c, .int a_d] (fun r u => Rg rA u.1 ∧ Fr [96, 109, 110, 111, 112, 113, 114, 115] [] i g u) := by
  refine e_I pn_X9_gets (Nat.le_of_ble_eq_true rfl) ?_
  intro p e s m args below meth c ls Q X Y hret hT hl hS
  have hx := X.1
  have hb := X.2.1
  have hl : lv_has ls 5 [(0, .ref (h 96)), (1, .int a_a), (2, .int a_b), (3, .int a_c), (4, .int a_d)] := hl
  have hF : Fr [96, 109, 110, 111, 112, 113, 114, 115] [] i g (i, g) := Fr_rf _ _ _ _
  refine lv_aload_n hx hb dX9_gets_0 rfl (lv_at hl 0 rfl) ?_
  refine lv_iconst (v := 0) hx hb dX9_gets_1 (by decide) ?_
  refine r_puti X hT hS 96 0 pk_9_83 rfl rfl rfl rfl (by decide) dX9_gets_2 (fun H locs i1 ei1 hT hS => ?_)
  have hR1 := Rg_put hR ei1 (-2147483648) 2147483647 rfl (rg_k (by decide) : rg 0 0 0) (by decide)
  have hF1 := Fr_puti hF ei1 (by decide)
  refine lv_aload_n hx hb dX9_gets_5 rfl (lv_at hl 0 rfl) ?_
  refine lv_iload_n hx hb dX9_gets_6 rfl (lv_at hl 1 rfl) ?_
  refine lv_iload_n hx hb dX9_gets_7 rfl (lv_at hl 2 rfl) ?_
  refine e_Vi (As := [.int a_a, .int a_b]) (rest := []) X Y hT hS (m_X9_areTwo hR1 a_a a_b) mk_X9_areTwo gm_2024 rfl rfl (by decide) hd_X9_areTwo ⟨rfl, rfl⟩ ⟨Nat.le_of_ble_eq_true rfl, Nat.le_of_ble_eq_true rfl⟩ hl.1 rfl (Nat.le_of_ble_eq_true rfl) dX9_gets_8 ⟨Nat.zero_le _, Nat.zero_le _⟩ (fun r2 i2 g2 H locs hq hT hS => ?_)
  rcases hq with hq | hq
  ·
    obtain ⟨eh2, rfl, hf2_0, hf2_1⟩ := hq
    rw [(Prod.mk.inj eh2).1, (Prod.mk.inj eh2).2] at hT
    have h3 : rg 0 5 a_a := ⟨by have := (rg_top a_a).1; have := hf2_0.1; omega, by have := (rg_top a_a).2; have := hf2_0.2; omega⟩
    have h4 : rg 0 5 a_b := ⟨by have := (rg_top a_b).1; have := hf2_1.1; omega, by have := (rg_top a_b).2; have := hf2_1.2; omega⟩
    refine lv_if_eq (tgt := 42) hx hb dX9_gets_11 (by decide) (fun c5 => (x_eq (rg_k (by decide) : rg 1 1 1) (rg_k (by decide) : rg 0 0 0) (i_eq c5) (by decide)).elim) (fun c5 => ?_)
    refine lv_iload_n hx hb dX9_gets_14 rfl (lv_at hl 3 rfl) ?_
    refine e_Si (As := [.int a_c]) (rest := []) X Y hT hS (m_X9_isHalf a_c) sk_X9_isHalf gm_1902 hd_X9_isHalf ⟨rfl, rfl⟩ ⟨Nat.le_of_ble_eq_true rfl, Nat.le_of_ble_eq_true rfl⟩ hl.1 rfl (Nat.le_of_ble_eq_true rfl) dX9_gets_15 ⟨Nat.zero_le _, Nat.zero_le _⟩ (fun r6 i6 g6 H locs hq hT hS => ?_)
    rcases hq with hq | hq
    ·
      obtain ⟨eh6, rfl, hf6_0⟩ := hq
      rw [(Prod.mk.inj eh6).1, (Prod.mk.inj eh6).2] at hT
      have h7 : rg 0 1 a_c := ⟨by have := (rg_top a_c).1; have := hf6_0.1; omega, by have := (rg_top a_c).2; have := hf6_0.2; omega⟩
      refine lv_if_eq (tgt := 42) hx hb dX9_gets_18 (by decide) (fun c8 => (x_eq (rg_k (by decide) : rg 1 1 1) (rg_k (by decide) : rg 0 0 0) (i_eq c8) (by decide)).elim) (fun c8 => ?_)
      refine lv_iload hx hb dX9_gets_21 (lv_at hl 4 rfl) ?_
      refine e_Si (As := [.int a_d]) (rest := []) X Y hT hS (m_X9_isHalf a_d) sk_X9_isHalf gm_1902 hd_X9_isHalf ⟨rfl, rfl⟩ ⟨Nat.le_of_ble_eq_true rfl, Nat.le_of_ble_eq_true rfl⟩ hl.1 rfl (Nat.le_of_ble_eq_true rfl) dX9_gets_23 ⟨Nat.zero_le _, Nat.zero_le _⟩ (fun r9 i9 g9 H locs hq hT hS => ?_)
      rcases hq with hq | hq
      ·
        obtain ⟨eh9, rfl, hf9_0⟩ := hq
        rw [(Prod.mk.inj eh9).1, (Prod.mk.inj eh9).2] at hT
        have h10 : rg 0 1 a_d := ⟨by have := (rg_top a_d).1; have := hf9_0.1; omega, by have := (rg_top a_d).2; have := hf9_0.2; omega⟩
        refine lv_if_eq (tgt := 42) hx hb dX9_gets_26 (by decide) (fun c11 => (x_eq (rg_k (by decide) : rg 1 1 1) (rg_k (by decide) : rg 0 0 0) (i_eq c11) (by decide)).elim) (fun c11 => ?_)
        refine lv_aload_n hx hb dX9_gets_29 rfl (lv_at hl 0 rfl) ?_
        refine lv_iload_n hx hb dX9_gets_30 rfl (lv_at hl 1 rfl) ?_
        refine lv_iload_n hx hb dX9_gets_31 rfl (lv_at hl 1 rfl) ?_
        refine lv_iload_n hx hb dX9_gets_32 rfl (lv_at hl 2 rfl) ?_
        refine lv_iload_n hx hb dX9_gets_33 rfl (lv_at hl 3 rfl) ?_
        refine lv_iload hx hb dX9_gets_34 (lv_at hl 4 rfl) ?_
        refine e_Vi (As := [.int a_a, .int a_a, .int a_b, .int a_c, .int a_d]) (rest := []) X Y hT hS (m_X9_getsBy hR1 a_a a_a a_b a_c a_d h3) mk_X9_getsBy gm_2028 rfl rfl (by decide) hd_X9_getsBy ⟨rfl, rfl⟩ ⟨Nat.le_of_ble_eq_true rfl, Nat.le_of_ble_eq_true rfl⟩ hl.1 rfl (Nat.le_of_ble_eq_true rfl) dX9_gets_36 ⟨Nat.zero_le _, Nat.zero_le _⟩ (fun r12 i12 g12 H locs hq hT hS => ?_)
        obtain ⟨hR12, hf12⟩ := hq
        have hF12 := Fr_tr hF1 hf12 (by decide)
        refine lv_goto (tgt := 45) hx hb dX9_gets_39 (by decide) ?_
        exact hret r12 _ _ _ _ _ _ dX9_gets_45 hT hS ⟨hR12, hF12⟩
      ·
        obtain ⟨eh9, rfl⟩ := hq
        rw [(Prod.mk.inj eh9).1, (Prod.mk.inj eh9).2] at hT
        refine lv_if_eq (tgt := 42) hx hb dX9_gets_26 (by decide) (fun c13 => ?_) (fun c13 => (x_ne (rg_k (by decide) : rg 0 0 0) (rg_k (by decide) : rg 0 0 0) (i_ne c13) (by decide)).elim)
        refine lv_sipush (v := (-1000)) hx hb dX9_gets_42 (by decide) ?_
        exact hret (-1000) _ _ _ _ _ _ dX9_gets_45 hT hS ⟨hR1, hF1⟩
    ·
      obtain ⟨eh6, rfl⟩ := hq
      rw [(Prod.mk.inj eh6).1, (Prod.mk.inj eh6).2] at hT
      refine lv_if_eq (tgt := 42) hx hb dX9_gets_18 (by decide) (fun c14 => ?_) (fun c14 => (x_ne (rg_k (by decide) : rg 0 0 0) (rg_k (by decide) : rg 0 0 0) (i_ne c14) (by decide)).elim)
      refine lv_sipush (v := (-1000)) hx hb dX9_gets_42 (by decide) ?_
      exact hret (-1000) _ _ _ _ _ _ dX9_gets_45 hT hS ⟨hR1, hF1⟩
  ·
    obtain ⟨eh2, rfl⟩ := hq
    rw [(Prod.mk.inj eh2).1, (Prod.mk.inj eh2).2] at hT
    refine lv_if_eq (tgt := 42) hx hb dX9_gets_11 (by decide) (fun c15 => ?_) (fun c15 => (x_ne (rg_k (by decide) : rg 0 0 0) (rg_k (by decide) : rg 0 0 0) (i_ne c15) (by decide)).elim)
    refine lv_sipush (v := (-1000)) hx hb dX9_gets_42 (by decide) ?_
    exact hret (-1000) _ _ _ _ _ _ dX9_gets_45 hT hS ⟨hR1, hF1⟩
set_option maxRecDepth 100000 in
set_option maxHeartbeats 4000000 in
theorem m_X9_power_0 {l : Launch} {D : va_G} {h : Nat → Nat} {cz : Nat → ClassId} {z : EZ} {i : Nat → Nat → Int32} {g : Nat → Nat → Int64} (a_a : Int64) (a_b : Int32) (ha_b : rg 0 0 a_b) : DtL l yX9_power cX9_power 3 (some .long) ({ frames := 0, cells := 0, slots := 0, locals := 0 } : Room) D h cz z i g [.long a_a, .int a_b] (fun r u => u = (i, g) ∧ r = 1) := by
  refine e_L pn_X9_power (Nat.le_of_ble_eq_true rfl) ?_
  intro p e s m args below meth c ls Q X Y hret hT hl hS
  have hx := X.1
  have hb := X.2.1
  have hl : lv_has ls 3 [(0, .long a_a), (2, .int a_b)] := hl
  refine lv_iload_n hx hb dX9_power_0 rfl (lv_at hl 1 rfl) ?_
  refine lv_if_ne (tgt := 8) hx hb dX9_power_1 (by decide) (fun c1 => (x_ne ha_b (rg_k (by decide) : rg 0 0 0) (i_ne c1) (by decide)).elim) (fun c1 => ?_)
  have q1 : a_b.toInt = 0 := i_eq c1
  refine lv_lconst (v := 1) hx hb dX9_power_4 (by decide) ?_
  refine lv_goto (tgt := 17) hx hb dX9_power_5 (by decide) ?_
  exact hret 1 _ _ _ _ _ _ dX9_power_17 hT hS ⟨rfl, rfl⟩
set_option maxRecDepth 100000 in
set_option maxHeartbeats 4000000 in
theorem m_X9_power_1 {l : Launch} {D : va_G} {h : Nat → Nat} {cz : Nat → ClassId} {z : EZ} {i : Nat → Nat → Int32} {g : Nat → Nat → Int64} (a_a : Int64) (a_b : Int32) (ha_b : rg 1 1 a_b) : DtL l yX9_power cX9_power 3 (some .long) ({ frames := 1, cells := 0, slots := 0, locals := 22 } : Room) D h cz z i g [.long a_a, .int a_b] (fun r u => u = (i, g)) := by
  refine e_L pn_X9_power (Nat.le_of_ble_eq_true rfl) ?_
  intro p e s m args below meth c ls Q X Y hret hT hl hS
  have hx := X.1
  have hb := X.2.1
  have hl : lv_has ls 3 [(0, .long a_a), (2, .int a_b)] := hl
  refine lv_iload_n hx hb dX9_power_0 rfl (lv_at hl 1 rfl) ?_
  refine lv_if_ne (tgt := 8) hx hb dX9_power_1 (by decide) (fun c1 => ?_) (fun c1 => (x_eq ha_b (rg_k (by decide) : rg 0 0 0) (i_eq c1) (by decide)).elim)
  have q1 : ¬ a_b.toInt = 0 := i_ne c1
  refine lv_lload_n hx hb dX9_power_8 rfl (lv_at hl 0 rfl) ?_
  refine lv_lload_n hx hb dX9_power_9 rfl (lv_at hl 0 rfl) ?_
  refine lv_iload_n hx hb dX9_power_10 rfl (lv_at hl 1 rfl) ?_
  refine lv_iconst (v := 1) hx hb dX9_power_11 (by decide) ?_
  refine q_isub hx hb dX9_power_12 (fun x2 ex2 => ?_)
  obtain ⟨hx2, ax2⟩ := rg_sub 0 0 ex2 ha_b (rg_k (by decide) : rg 1 1 1) (by decide)
  replace ax2 : x2.toInt = a_b.toInt - 1 := ax2
  refine e_Sl (As := [.long a_a, .int x2]) (rest := [.long a_a]) X Y hT hS (m_X9_power_0 a_a x2 hx2) sk_X9_power gm_2045 hd_X9_power ⟨rfl, rfl⟩ ⟨Nat.le_of_ble_eq_true rfl, Nat.le_of_ble_eq_true rfl⟩ hl.1 rfl (Nat.le_of_ble_eq_true rfl) dX9_power_13 ⟨Nat.zero_le _, Nat.zero_le _⟩ (fun r3 i3 g3 H locs hq hT hS => ?_)
  obtain ⟨eh3, rfl⟩ := hq
  rw [(Prod.mk.inj eh3).1, (Prod.mk.inj eh3).2] at hT
  refine q_lmul hx hb dX9_power_16 (fun y4 ey4 => ?_)
  exact hret y4 _ _ _ _ _ _ dX9_power_17 hT hS rfl
set_option maxRecDepth 100000 in
set_option maxHeartbeats 4000000 in
theorem m_X9_power_2 {l : Launch} {D : va_G} {h : Nat → Nat} {cz : Nat → ClassId} {z : EZ} {i : Nat → Nat → Int32} {g : Nat → Nat → Int64} (a_a : Int64) (a_b : Int32) (ha_b : rg 2 2 a_b) : DtL l yX9_power cX9_power 3 (some .long) ({ frames := 2, cells := 0, slots := 0, locals := 44 } : Room) D h cz z i g [.long a_a, .int a_b] (fun r u => u = (i, g)) := by
  refine e_L pn_X9_power (Nat.le_of_ble_eq_true rfl) ?_
  intro p e s m args below meth c ls Q X Y hret hT hl hS
  have hx := X.1
  have hb := X.2.1
  have hl : lv_has ls 3 [(0, .long a_a), (2, .int a_b)] := hl
  refine lv_iload_n hx hb dX9_power_0 rfl (lv_at hl 1 rfl) ?_
  refine lv_if_ne (tgt := 8) hx hb dX9_power_1 (by decide) (fun c1 => ?_) (fun c1 => (x_eq ha_b (rg_k (by decide) : rg 0 0 0) (i_eq c1) (by decide)).elim)
  have q1 : ¬ a_b.toInt = 0 := i_ne c1
  refine lv_lload_n hx hb dX9_power_8 rfl (lv_at hl 0 rfl) ?_
  refine lv_lload_n hx hb dX9_power_9 rfl (lv_at hl 0 rfl) ?_
  refine lv_iload_n hx hb dX9_power_10 rfl (lv_at hl 1 rfl) ?_
  refine lv_iconst (v := 1) hx hb dX9_power_11 (by decide) ?_
  refine q_isub hx hb dX9_power_12 (fun x2 ex2 => ?_)
  obtain ⟨hx2, ax2⟩ := rg_sub 1 1 ex2 ha_b (rg_k (by decide) : rg 1 1 1) (by decide)
  replace ax2 : x2.toInt = a_b.toInt - 1 := ax2
  refine e_Sl (As := [.long a_a, .int x2]) (rest := [.long a_a]) X Y hT hS (m_X9_power_1 a_a x2 hx2) sk_X9_power gm_2045 hd_X9_power ⟨rfl, rfl⟩ ⟨Nat.le_of_ble_eq_true rfl, Nat.le_of_ble_eq_true rfl⟩ hl.1 rfl (Nat.le_of_ble_eq_true rfl) dX9_power_13 ⟨Nat.zero_le _, Nat.zero_le _⟩ (fun r3 i3 g3 H locs hq hT hS => ?_)
  have eh3 := hq
  rw [(Prod.mk.inj eh3).1, (Prod.mk.inj eh3).2] at hT
  refine q_lmul hx hb dX9_power_16 (fun y4 ey4 => ?_)
  exact hret y4 _ _ _ _ _ _ dX9_power_17 hT hS rfl
set_option maxRecDepth 100000 in
set_option maxHeartbeats 4000000 in
theorem m_X9_power_3 {l : Launch} {D : va_G} {h : Nat → Nat} {cz : Nat → ClassId} {z : EZ} {i : Nat → Nat → Int32} {g : Nat → Nat → Int64} (a_a : Int64) (a_b : Int32) (ha_b : rg 3 3 a_b) : DtL l yX9_power cX9_power 3 (some .long) ({ frames := 3, cells := 0, slots := 0, locals := 66 } : Room) D h cz z i g [.long a_a, .int a_b] (fun r u => u = (i, g)) := by
  refine e_L pn_X9_power (Nat.le_of_ble_eq_true rfl) ?_
  intro p e s m args below meth c ls Q X Y hret hT hl hS
  have hx := X.1
  have hb := X.2.1
  have hl : lv_has ls 3 [(0, .long a_a), (2, .int a_b)] := hl
  refine lv_iload_n hx hb dX9_power_0 rfl (lv_at hl 1 rfl) ?_
  refine lv_if_ne (tgt := 8) hx hb dX9_power_1 (by decide) (fun c1 => ?_) (fun c1 => (x_eq ha_b (rg_k (by decide) : rg 0 0 0) (i_eq c1) (by decide)).elim)
  have q1 : ¬ a_b.toInt = 0 := i_ne c1
  refine lv_lload_n hx hb dX9_power_8 rfl (lv_at hl 0 rfl) ?_
  refine lv_lload_n hx hb dX9_power_9 rfl (lv_at hl 0 rfl) ?_
  refine lv_iload_n hx hb dX9_power_10 rfl (lv_at hl 1 rfl) ?_
  refine lv_iconst (v := 1) hx hb dX9_power_11 (by decide) ?_
  refine q_isub hx hb dX9_power_12 (fun x2 ex2 => ?_)
  obtain ⟨hx2, ax2⟩ := rg_sub 2 2 ex2 ha_b (rg_k (by decide) : rg 1 1 1) (by decide)
  replace ax2 : x2.toInt = a_b.toInt - 1 := ax2
  refine e_Sl (As := [.long a_a, .int x2]) (rest := [.long a_a]) X Y hT hS (m_X9_power_2 a_a x2 hx2) sk_X9_power gm_2045 hd_X9_power ⟨rfl, rfl⟩ ⟨Nat.le_of_ble_eq_true rfl, Nat.le_of_ble_eq_true rfl⟩ hl.1 rfl (Nat.le_of_ble_eq_true rfl) dX9_power_13 ⟨Nat.zero_le _, Nat.zero_le _⟩ (fun r3 i3 g3 H locs hq hT hS => ?_)
  have eh3 := hq
  rw [(Prod.mk.inj eh3).1, (Prod.mk.inj eh3).2] at hT
  refine q_lmul hx hb dX9_power_16 (fun y4 ey4 => ?_)
  exact hret y4 _ _ _ _ _ _ dX9_power_17 hT hS rfl
set_option maxRecDepth 100000 in
set_option maxHeartbeats 4000000 in
theorem m_X9_power_4 {l : Launch} {D : va_G} {h : Nat → Nat} {cz : Nat → ClassId} {z : EZ} {i : Nat → Nat → Int32} {g : Nat → Nat → Int64} (a_a : Int64) (a_b : Int32) (ha_b : rg 4 4 a_b) : DtL l yX9_power cX9_power 3 (some .long) ({ frames := 4, cells := 0, slots := 0, locals := 88 } : Room) D h cz z i g [.long a_a, .int a_b] (fun r u => u = (i, g)) := by
  refine e_L pn_X9_power (Nat.le_of_ble_eq_true rfl) ?_
  intro p e s m args below meth c ls Q X Y hret hT hl hS
  have hx := X.1
  have hb := X.2.1
  have hl : lv_has ls 3 [(0, .long a_a), (2, .int a_b)] := hl
  refine lv_iload_n hx hb dX9_power_0 rfl (lv_at hl 1 rfl) ?_
  refine lv_if_ne (tgt := 8) hx hb dX9_power_1 (by decide) (fun c1 => ?_) (fun c1 => (x_eq ha_b (rg_k (by decide) : rg 0 0 0) (i_eq c1) (by decide)).elim)
  have q1 : ¬ a_b.toInt = 0 := i_ne c1
  refine lv_lload_n hx hb dX9_power_8 rfl (lv_at hl 0 rfl) ?_
  refine lv_lload_n hx hb dX9_power_9 rfl (lv_at hl 0 rfl) ?_
  refine lv_iload_n hx hb dX9_power_10 rfl (lv_at hl 1 rfl) ?_
  refine lv_iconst (v := 1) hx hb dX9_power_11 (by decide) ?_
  refine q_isub hx hb dX9_power_12 (fun x2 ex2 => ?_)
  obtain ⟨hx2, ax2⟩ := rg_sub 3 3 ex2 ha_b (rg_k (by decide) : rg 1 1 1) (by decide)
  replace ax2 : x2.toInt = a_b.toInt - 1 := ax2
  refine e_Sl (As := [.long a_a, .int x2]) (rest := [.long a_a]) X Y hT hS (m_X9_power_3 a_a x2 hx2) sk_X9_power gm_2045 hd_X9_power ⟨rfl, rfl⟩ ⟨Nat.le_of_ble_eq_true rfl, Nat.le_of_ble_eq_true rfl⟩ hl.1 rfl (Nat.le_of_ble_eq_true rfl) dX9_power_13 ⟨Nat.zero_le _, Nat.zero_le _⟩ (fun r3 i3 g3 H locs hq hT hS => ?_)
  have eh3 := hq
  rw [(Prod.mk.inj eh3).1, (Prod.mk.inj eh3).2] at hT
  refine q_lmul hx hb dX9_power_16 (fun y4 ey4 => ?_)
  exact hret y4 _ _ _ _ _ _ dX9_power_17 hT hS rfl
set_option maxRecDepth 100000 in
set_option maxHeartbeats 4000000 in
theorem m_X9_power_5 {l : Launch} {D : va_G} {h : Nat → Nat} {cz : Nat → ClassId} {z : EZ} {i : Nat → Nat → Int32} {g : Nat → Nat → Int64} (a_a : Int64) (a_b : Int32) (ha_b : rg 5 5 a_b) : DtL l yX9_power cX9_power 3 (some .long) ({ frames := 5, cells := 0, slots := 0, locals := 110 } : Room) D h cz z i g [.long a_a, .int a_b] (fun r u => u = (i, g)) := by
  refine e_L pn_X9_power (Nat.le_of_ble_eq_true rfl) ?_
  intro p e s m args below meth c ls Q X Y hret hT hl hS
  have hx := X.1
  have hb := X.2.1
  have hl : lv_has ls 3 [(0, .long a_a), (2, .int a_b)] := hl
  refine lv_iload_n hx hb dX9_power_0 rfl (lv_at hl 1 rfl) ?_
  refine lv_if_ne (tgt := 8) hx hb dX9_power_1 (by decide) (fun c1 => ?_) (fun c1 => (x_eq ha_b (rg_k (by decide) : rg 0 0 0) (i_eq c1) (by decide)).elim)
  have q1 : ¬ a_b.toInt = 0 := i_ne c1
  refine lv_lload_n hx hb dX9_power_8 rfl (lv_at hl 0 rfl) ?_
  refine lv_lload_n hx hb dX9_power_9 rfl (lv_at hl 0 rfl) ?_
  refine lv_iload_n hx hb dX9_power_10 rfl (lv_at hl 1 rfl) ?_
  refine lv_iconst (v := 1) hx hb dX9_power_11 (by decide) ?_
  refine q_isub hx hb dX9_power_12 (fun x2 ex2 => ?_)
  obtain ⟨hx2, ax2⟩ := rg_sub 4 4 ex2 ha_b (rg_k (by decide) : rg 1 1 1) (by decide)
  replace ax2 : x2.toInt = a_b.toInt - 1 := ax2
  refine e_Sl (As := [.long a_a, .int x2]) (rest := [.long a_a]) X Y hT hS (m_X9_power_4 a_a x2 hx2) sk_X9_power gm_2045 hd_X9_power ⟨rfl, rfl⟩ ⟨Nat.le_of_ble_eq_true rfl, Nat.le_of_ble_eq_true rfl⟩ hl.1 rfl (Nat.le_of_ble_eq_true rfl) dX9_power_13 ⟨Nat.zero_le _, Nat.zero_le _⟩ (fun r3 i3 g3 H locs hq hT hS => ?_)
  have eh3 := hq
  rw [(Prod.mk.inj eh3).1, (Prod.mk.inj eh3).2] at hT
  refine q_lmul hx hb dX9_power_16 (fun y4 ey4 => ?_)
  exact hret y4 _ _ _ _ _ _ dX9_power_17 hT hS rfl
set_option maxRecDepth 100000 in
set_option maxHeartbeats 4000000 in
theorem m_X9_power_6 {l : Launch} {D : va_G} {h : Nat → Nat} {cz : Nat → ClassId} {z : EZ} {i : Nat → Nat → Int32} {g : Nat → Nat → Int64} (a_a : Int64) (a_b : Int32) (ha_b : rg 6 6 a_b) : DtL l yX9_power cX9_power 3 (some .long) ({ frames := 6, cells := 0, slots := 0, locals := 132 } : Room) D h cz z i g [.long a_a, .int a_b] (fun r u => u = (i, g)) := by
  refine e_L pn_X9_power (Nat.le_of_ble_eq_true rfl) ?_
  intro p e s m args below meth c ls Q X Y hret hT hl hS
  have hx := X.1
  have hb := X.2.1
  have hl : lv_has ls 3 [(0, .long a_a), (2, .int a_b)] := hl
  refine lv_iload_n hx hb dX9_power_0 rfl (lv_at hl 1 rfl) ?_
  refine lv_if_ne (tgt := 8) hx hb dX9_power_1 (by decide) (fun c1 => ?_) (fun c1 => (x_eq ha_b (rg_k (by decide) : rg 0 0 0) (i_eq c1) (by decide)).elim)
  have q1 : ¬ a_b.toInt = 0 := i_ne c1
  refine lv_lload_n hx hb dX9_power_8 rfl (lv_at hl 0 rfl) ?_
  refine lv_lload_n hx hb dX9_power_9 rfl (lv_at hl 0 rfl) ?_
  refine lv_iload_n hx hb dX9_power_10 rfl (lv_at hl 1 rfl) ?_
  refine lv_iconst (v := 1) hx hb dX9_power_11 (by decide) ?_
  refine q_isub hx hb dX9_power_12 (fun x2 ex2 => ?_)
  obtain ⟨hx2, ax2⟩ := rg_sub 5 5 ex2 ha_b (rg_k (by decide) : rg 1 1 1) (by decide)
  replace ax2 : x2.toInt = a_b.toInt - 1 := ax2
  refine e_Sl (As := [.long a_a, .int x2]) (rest := [.long a_a]) X Y hT hS (m_X9_power_5 a_a x2 hx2) sk_X9_power gm_2045 hd_X9_power ⟨rfl, rfl⟩ ⟨Nat.le_of_ble_eq_true rfl, Nat.le_of_ble_eq_true rfl⟩ hl.1 rfl (Nat.le_of_ble_eq_true rfl) dX9_power_13 ⟨Nat.zero_le _, Nat.zero_le _⟩ (fun r3 i3 g3 H locs hq hT hS => ?_)
  have eh3 := hq
  rw [(Prod.mk.inj eh3).1, (Prod.mk.inj eh3).2] at hT
  refine q_lmul hx hb dX9_power_16 (fun y4 ey4 => ?_)
  exact hret y4 _ _ _ _ _ _ dX9_power_17 hT hS rfl
set_option maxRecDepth 100000 in
set_option maxHeartbeats 4000000 in
theorem m_X9_power_7 {l : Launch} {D : va_G} {h : Nat → Nat} {cz : Nat → ClassId} {z : EZ} {i : Nat → Nat → Int32} {g : Nat → Nat → Int64} (a_a : Int64) (a_b : Int32) (ha_b : rg 7 7 a_b) : DtL l yX9_power cX9_power 3 (some .long) ({ frames := 7, cells := 0, slots := 0, locals := 154 } : Room) D h cz z i g [.long a_a, .int a_b] (fun r u => u = (i, g)) := by
  refine e_L pn_X9_power (Nat.le_of_ble_eq_true rfl) ?_
  intro p e s m args below meth c ls Q X Y hret hT hl hS
  have hx := X.1
  have hb := X.2.1
  have hl : lv_has ls 3 [(0, .long a_a), (2, .int a_b)] := hl
  refine lv_iload_n hx hb dX9_power_0 rfl (lv_at hl 1 rfl) ?_
  refine lv_if_ne (tgt := 8) hx hb dX9_power_1 (by decide) (fun c1 => ?_) (fun c1 => (x_eq ha_b (rg_k (by decide) : rg 0 0 0) (i_eq c1) (by decide)).elim)
  have q1 : ¬ a_b.toInt = 0 := i_ne c1
  refine lv_lload_n hx hb dX9_power_8 rfl (lv_at hl 0 rfl) ?_
  refine lv_lload_n hx hb dX9_power_9 rfl (lv_at hl 0 rfl) ?_
  refine lv_iload_n hx hb dX9_power_10 rfl (lv_at hl 1 rfl) ?_
  refine lv_iconst (v := 1) hx hb dX9_power_11 (by decide) ?_
  refine q_isub hx hb dX9_power_12 (fun x2 ex2 => ?_)
  obtain ⟨hx2, ax2⟩ := rg_sub 6 6 ex2 ha_b (rg_k (by decide) : rg 1 1 1) (by decide)
  replace ax2 : x2.toInt = a_b.toInt - 1 := ax2
  refine e_Sl (As := [.long a_a, .int x2]) (rest := [.long a_a]) X Y hT hS (m_X9_power_6 a_a x2 hx2) sk_X9_power gm_2045 hd_X9_power ⟨rfl, rfl⟩ ⟨Nat.le_of_ble_eq_true rfl, Nat.le_of_ble_eq_true rfl⟩ hl.1 rfl (Nat.le_of_ble_eq_true rfl) dX9_power_13 ⟨Nat.zero_le _, Nat.zero_le _⟩ (fun r3 i3 g3 H locs hq hT hS => ?_)
  have eh3 := hq
  rw [(Prod.mk.inj eh3).1, (Prod.mk.inj eh3).2] at hT
  refine q_lmul hx hb dX9_power_16 (fun y4 ey4 => ?_)
  exact hret y4 _ _ _ _ _ _ dX9_power_17 hT hS rfl
set_option maxRecDepth 100000 in
set_option maxHeartbeats 4000000 in
theorem m_X9_power_0t8 {l : Launch} {D : va_G} {h : Nat → Nat} {cz : Nat → ClassId} {z : EZ} {i : Nat → Nat → Int32} {g : Nat → Nat → Int64} (a_a : Int64) (a_b : Int32) (ha_b : rg 0 8 a_b) : DtL l yX9_power cX9_power 3 (some .long) ({ frames := 8, cells := 0, slots := 0, locals := 176 } : Room) D h cz z i g [.long a_a, .int a_b] (fun r u => u = (i, g)) := by
  refine e_L pn_X9_power (Nat.le_of_ble_eq_true rfl) ?_
  intro p e s m args below meth c ls Q X Y hret hT hl hS
  have hx := X.1
  have hb := X.2.1
  have hl : lv_has ls 3 [(0, .long a_a), (2, .int a_b)] := hl
  rcases (show a_b.toInt = 0 ∨ a_b.toInt = 1 ∨ a_b.toInt = 2 ∨ a_b.toInt = 3 ∨ a_b.toInt = 4 ∨ a_b.toInt = 5 ∨ a_b.toInt = 6 ∨ a_b.toInt = 7 ∨ a_b.toInt = 8 by have := ha_b.1; have := ha_b.2; omega) with f1 | f1 | f1 | f1 | f1 | f1 | f1 | f1 | f1
  ·
    have h2 : rg 0 0 a_b := ⟨by omega, by omega⟩
    refine lv_iload_n hx hb dX9_power_0 rfl (lv_at hl 1 rfl) ?_
    refine lv_if_ne (tgt := 8) hx hb dX9_power_1 (by decide) (fun c3 => (x_ne h2 (rg_k (by decide) : rg 0 0 0) (i_ne c3) (by decide)).elim) (fun c3 => ?_)
    have q3 : a_b.toInt = 0 := i_eq c3
    refine lv_lconst (v := 1) hx hb dX9_power_4 (by decide) ?_
    refine lv_goto (tgt := 17) hx hb dX9_power_5 (by decide) ?_
    exact hret 1 _ _ _ _ _ _ dX9_power_17 hT hS rfl
  ·
    have h4 : rg 1 1 a_b := ⟨by omega, by omega⟩
    refine lv_iload_n hx hb dX9_power_0 rfl (lv_at hl 1 rfl) ?_
    refine lv_if_ne (tgt := 8) hx hb dX9_power_1 (by decide) (fun c5 => ?_) (fun c5 => (x_eq h4 (rg_k (by decide) : rg 0 0 0) (i_eq c5) (by decide)).elim)
    have q5 : ¬ a_b.toInt = 0 := i_ne c5
    refine lv_lload_n hx hb dX9_power_8 rfl (lv_at hl 0 rfl) ?_
    refine lv_lload_n hx hb dX9_power_9 rfl (lv_at hl 0 rfl) ?_
    refine lv_iload_n hx hb dX9_power_10 rfl (lv_at hl 1 rfl) ?_
    refine lv_iconst (v := 1) hx hb dX9_power_11 (by decide) ?_
    refine q_isub hx hb dX9_power_12 (fun x6 ex6 => ?_)
    obtain ⟨hx6, ax6⟩ := rg_sub 0 0 ex6 h4 (rg_k (by decide) : rg 1 1 1) (by decide)
    replace ax6 : x6.toInt = a_b.toInt - 1 := ax6
    refine e_Sl (As := [.long a_a, .int x6]) (rest := [.long a_a]) X Y hT hS (m_X9_power_0 a_a x6 hx6) sk_X9_power gm_2045 hd_X9_power ⟨rfl, rfl⟩ ⟨Nat.le_of_ble_eq_true rfl, Nat.le_of_ble_eq_true rfl⟩ hl.1 rfl (Nat.le_of_ble_eq_true rfl) dX9_power_13 ⟨Nat.zero_le _, Nat.zero_le _⟩ (fun r7 i7 g7 H locs hq hT hS => ?_)
    obtain ⟨eh7, rfl⟩ := hq
    rw [(Prod.mk.inj eh7).1, (Prod.mk.inj eh7).2] at hT
    refine q_lmul hx hb dX9_power_16 (fun y8 ey8 => ?_)
    exact hret y8 _ _ _ _ _ _ dX9_power_17 hT hS rfl
  ·
    have h9 : rg 2 2 a_b := ⟨by omega, by omega⟩
    refine lv_iload_n hx hb dX9_power_0 rfl (lv_at hl 1 rfl) ?_
    refine lv_if_ne (tgt := 8) hx hb dX9_power_1 (by decide) (fun c10 => ?_) (fun c10 => (x_eq h9 (rg_k (by decide) : rg 0 0 0) (i_eq c10) (by decide)).elim)
    have q10 : ¬ a_b.toInt = 0 := i_ne c10
    refine lv_lload_n hx hb dX9_power_8 rfl (lv_at hl 0 rfl) ?_
    refine lv_lload_n hx hb dX9_power_9 rfl (lv_at hl 0 rfl) ?_
    refine lv_iload_n hx hb dX9_power_10 rfl (lv_at hl 1 rfl) ?_
    refine lv_iconst (v := 1) hx hb dX9_power_11 (by decide) ?_
    refine q_isub hx hb dX9_power_12 (fun x11 ex11 => ?_)
    obtain ⟨hx11, ax11⟩ := rg_sub 1 1 ex11 h9 (rg_k (by decide) : rg 1 1 1) (by decide)
    replace ax11 : x11.toInt = a_b.toInt - 1 := ax11
    refine e_Sl (As := [.long a_a, .int x11]) (rest := [.long a_a]) X Y hT hS (m_X9_power_1 a_a x11 hx11) sk_X9_power gm_2045 hd_X9_power ⟨rfl, rfl⟩ ⟨Nat.le_of_ble_eq_true rfl, Nat.le_of_ble_eq_true rfl⟩ hl.1 rfl (Nat.le_of_ble_eq_true rfl) dX9_power_13 ⟨Nat.zero_le _, Nat.zero_le _⟩ (fun r12 i12 g12 H locs hq hT hS => ?_)
    have eh12 := hq
    rw [(Prod.mk.inj eh12).1, (Prod.mk.inj eh12).2] at hT
    refine q_lmul hx hb dX9_power_16 (fun y13 ey13 => ?_)
    exact hret y13 _ _ _ _ _ _ dX9_power_17 hT hS rfl
  ·
    have h14 : rg 3 3 a_b := ⟨by omega, by omega⟩
    refine lv_iload_n hx hb dX9_power_0 rfl (lv_at hl 1 rfl) ?_
    refine lv_if_ne (tgt := 8) hx hb dX9_power_1 (by decide) (fun c15 => ?_) (fun c15 => (x_eq h14 (rg_k (by decide) : rg 0 0 0) (i_eq c15) (by decide)).elim)
    have q15 : ¬ a_b.toInt = 0 := i_ne c15
    refine lv_lload_n hx hb dX9_power_8 rfl (lv_at hl 0 rfl) ?_
    refine lv_lload_n hx hb dX9_power_9 rfl (lv_at hl 0 rfl) ?_
    refine lv_iload_n hx hb dX9_power_10 rfl (lv_at hl 1 rfl) ?_
    refine lv_iconst (v := 1) hx hb dX9_power_11 (by decide) ?_
    refine q_isub hx hb dX9_power_12 (fun x16 ex16 => ?_)
    obtain ⟨hx16, ax16⟩ := rg_sub 2 2 ex16 h14 (rg_k (by decide) : rg 1 1 1) (by decide)
    replace ax16 : x16.toInt = a_b.toInt - 1 := ax16
    refine e_Sl (As := [.long a_a, .int x16]) (rest := [.long a_a]) X Y hT hS (m_X9_power_2 a_a x16 hx16) sk_X9_power gm_2045 hd_X9_power ⟨rfl, rfl⟩ ⟨Nat.le_of_ble_eq_true rfl, Nat.le_of_ble_eq_true rfl⟩ hl.1 rfl (Nat.le_of_ble_eq_true rfl) dX9_power_13 ⟨Nat.zero_le _, Nat.zero_le _⟩ (fun r17 i17 g17 H locs hq hT hS => ?_)
    have eh17 := hq
    rw [(Prod.mk.inj eh17).1, (Prod.mk.inj eh17).2] at hT
    refine q_lmul hx hb dX9_power_16 (fun y18 ey18 => ?_)
    exact hret y18 _ _ _ _ _ _ dX9_power_17 hT hS rfl
  ·
    have h19 : rg 4 4 a_b := ⟨by omega, by omega⟩
    refine lv_iload_n hx hb dX9_power_0 rfl (lv_at hl 1 rfl) ?_
    refine lv_if_ne (tgt := 8) hx hb dX9_power_1 (by decide) (fun c20 => ?_) (fun c20 => (x_eq h19 (rg_k (by decide) : rg 0 0 0) (i_eq c20) (by decide)).elim)
    have q20 : ¬ a_b.toInt = 0 := i_ne c20
    refine lv_lload_n hx hb dX9_power_8 rfl (lv_at hl 0 rfl) ?_
    refine lv_lload_n hx hb dX9_power_9 rfl (lv_at hl 0 rfl) ?_
    refine lv_iload_n hx hb dX9_power_10 rfl (lv_at hl 1 rfl) ?_
    refine lv_iconst (v := 1) hx hb dX9_power_11 (by decide) ?_
    refine q_isub hx hb dX9_power_12 (fun x21 ex21 => ?_)
    obtain ⟨hx21, ax21⟩ := rg_sub 3 3 ex21 h19 (rg_k (by decide) : rg 1 1 1) (by decide)
    replace ax21 : x21.toInt = a_b.toInt - 1 := ax21
    refine e_Sl (As := [.long a_a, .int x21]) (rest := [.long a_a]) X Y hT hS (m_X9_power_3 a_a x21 hx21) sk_X9_power gm_2045 hd_X9_power ⟨rfl, rfl⟩ ⟨Nat.le_of_ble_eq_true rfl, Nat.le_of_ble_eq_true rfl⟩ hl.1 rfl (Nat.le_of_ble_eq_true rfl) dX9_power_13 ⟨Nat.zero_le _, Nat.zero_le _⟩ (fun r22 i22 g22 H locs hq hT hS => ?_)
    have eh22 := hq
    rw [(Prod.mk.inj eh22).1, (Prod.mk.inj eh22).2] at hT
    refine q_lmul hx hb dX9_power_16 (fun y23 ey23 => ?_)
    exact hret y23 _ _ _ _ _ _ dX9_power_17 hT hS rfl
  ·
    have h24 : rg 5 5 a_b := ⟨by omega, by omega⟩
    refine lv_iload_n hx hb dX9_power_0 rfl (lv_at hl 1 rfl) ?_
    refine lv_if_ne (tgt := 8) hx hb dX9_power_1 (by decide) (fun c25 => ?_) (fun c25 => (x_eq h24 (rg_k (by decide) : rg 0 0 0) (i_eq c25) (by decide)).elim)
    have q25 : ¬ a_b.toInt = 0 := i_ne c25
    refine lv_lload_n hx hb dX9_power_8 rfl (lv_at hl 0 rfl) ?_
    refine lv_lload_n hx hb dX9_power_9 rfl (lv_at hl 0 rfl) ?_
    refine lv_iload_n hx hb dX9_power_10 rfl (lv_at hl 1 rfl) ?_
    refine lv_iconst (v := 1) hx hb dX9_power_11 (by decide) ?_
    refine q_isub hx hb dX9_power_12 (fun x26 ex26 => ?_)
    obtain ⟨hx26, ax26⟩ := rg_sub 4 4 ex26 h24 (rg_k (by decide) : rg 1 1 1) (by decide)
    replace ax26 : x26.toInt = a_b.toInt - 1 := ax26
    refine e_Sl (As := [.long a_a, .int x26]) (rest := [.long a_a]) X Y hT hS (m_X9_power_4 a_a x26 hx26) sk_X9_power gm_2045 hd_X9_power ⟨rfl, rfl⟩ ⟨Nat.le_of_ble_eq_true rfl, Nat.le_of_ble_eq_true rfl⟩ hl.1 rfl (Nat.le_of_ble_eq_true rfl) dX9_power_13 ⟨Nat.zero_le _, Nat.zero_le _⟩ (fun r27 i27 g27 H locs hq hT hS => ?_)
    have eh27 := hq
    rw [(Prod.mk.inj eh27).1, (Prod.mk.inj eh27).2] at hT
    refine q_lmul hx hb dX9_power_16 (fun y28 ey28 => ?_)
    exact hret y28 _ _ _ _ _ _ dX9_power_17 hT hS rfl
  ·
    have h29 : rg 6 6 a_b := ⟨by omega, by omega⟩
    refine lv_iload_n hx hb dX9_power_0 rfl (lv_at hl 1 rfl) ?_
    refine lv_if_ne (tgt := 8) hx hb dX9_power_1 (by decide) (fun c30 => ?_) (fun c30 => (x_eq h29 (rg_k (by decide) : rg 0 0 0) (i_eq c30) (by decide)).elim)
    have q30 : ¬ a_b.toInt = 0 := i_ne c30
    refine lv_lload_n hx hb dX9_power_8 rfl (lv_at hl 0 rfl) ?_
    refine lv_lload_n hx hb dX9_power_9 rfl (lv_at hl 0 rfl) ?_
    refine lv_iload_n hx hb dX9_power_10 rfl (lv_at hl 1 rfl) ?_
    refine lv_iconst (v := 1) hx hb dX9_power_11 (by decide) ?_
    refine q_isub hx hb dX9_power_12 (fun x31 ex31 => ?_)
    obtain ⟨hx31, ax31⟩ := rg_sub 5 5 ex31 h29 (rg_k (by decide) : rg 1 1 1) (by decide)
    replace ax31 : x31.toInt = a_b.toInt - 1 := ax31
    refine e_Sl (As := [.long a_a, .int x31]) (rest := [.long a_a]) X Y hT hS (m_X9_power_5 a_a x31 hx31) sk_X9_power gm_2045 hd_X9_power ⟨rfl, rfl⟩ ⟨Nat.le_of_ble_eq_true rfl, Nat.le_of_ble_eq_true rfl⟩ hl.1 rfl (Nat.le_of_ble_eq_true rfl) dX9_power_13 ⟨Nat.zero_le _, Nat.zero_le _⟩ (fun r32 i32 g32 H locs hq hT hS => ?_)
    have eh32 := hq
    rw [(Prod.mk.inj eh32).1, (Prod.mk.inj eh32).2] at hT
    refine q_lmul hx hb dX9_power_16 (fun y33 ey33 => ?_)
    exact hret y33 _ _ _ _ _ _ dX9_power_17 hT hS rfl
  ·
    have h34 : rg 7 7 a_b := ⟨by omega, by omega⟩
    refine lv_iload_n hx hb dX9_power_0 rfl (lv_at hl 1 rfl) ?_
    refine lv_if_ne (tgt := 8) hx hb dX9_power_1 (by decide) (fun c35 => ?_) (fun c35 => (x_eq h34 (rg_k (by decide) : rg 0 0 0) (i_eq c35) (by decide)).elim)
    have q35 : ¬ a_b.toInt = 0 := i_ne c35
    refine lv_lload_n hx hb dX9_power_8 rfl (lv_at hl 0 rfl) ?_
    refine lv_lload_n hx hb dX9_power_9 rfl (lv_at hl 0 rfl) ?_
    refine lv_iload_n hx hb dX9_power_10 rfl (lv_at hl 1 rfl) ?_
    refine lv_iconst (v := 1) hx hb dX9_power_11 (by decide) ?_
    refine q_isub hx hb dX9_power_12 (fun x36 ex36 => ?_)
    obtain ⟨hx36, ax36⟩ := rg_sub 6 6 ex36 h34 (rg_k (by decide) : rg 1 1 1) (by decide)
    replace ax36 : x36.toInt = a_b.toInt - 1 := ax36
    refine e_Sl (As := [.long a_a, .int x36]) (rest := [.long a_a]) X Y hT hS (m_X9_power_6 a_a x36 hx36) sk_X9_power gm_2045 hd_X9_power ⟨rfl, rfl⟩ ⟨Nat.le_of_ble_eq_true rfl, Nat.le_of_ble_eq_true rfl⟩ hl.1 rfl (Nat.le_of_ble_eq_true rfl) dX9_power_13 ⟨Nat.zero_le _, Nat.zero_le _⟩ (fun r37 i37 g37 H locs hq hT hS => ?_)
    have eh37 := hq
    rw [(Prod.mk.inj eh37).1, (Prod.mk.inj eh37).2] at hT
    refine q_lmul hx hb dX9_power_16 (fun y38 ey38 => ?_)
    exact hret y38 _ _ _ _ _ _ dX9_power_17 hT hS rfl
  ·
    have h39 : rg 8 8 a_b := ⟨by omega, by omega⟩
    refine lv_iload_n hx hb dX9_power_0 rfl (lv_at hl 1 rfl) ?_
    refine lv_if_ne (tgt := 8) hx hb dX9_power_1 (by decide) (fun c40 => ?_) (fun c40 => (x_eq h39 (rg_k (by decide) : rg 0 0 0) (i_eq c40) (by decide)).elim)
    have q40 : ¬ a_b.toInt = 0 := i_ne c40
    refine lv_lload_n hx hb dX9_power_8 rfl (lv_at hl 0 rfl) ?_
    refine lv_lload_n hx hb dX9_power_9 rfl (lv_at hl 0 rfl) ?_
    refine lv_iload_n hx hb dX9_power_10 rfl (lv_at hl 1 rfl) ?_
    refine lv_iconst (v := 1) hx hb dX9_power_11 (by decide) ?_
    refine q_isub hx hb dX9_power_12 (fun x41 ex41 => ?_)
    obtain ⟨hx41, ax41⟩ := rg_sub 7 7 ex41 h39 (rg_k (by decide) : rg 1 1 1) (by decide)
    replace ax41 : x41.toInt = a_b.toInt - 1 := ax41
    refine e_Sl (As := [.long a_a, .int x41]) (rest := [.long a_a]) X Y hT hS (m_X9_power_7 a_a x41 hx41) sk_X9_power gm_2045 hd_X9_power ⟨rfl, rfl⟩ ⟨Nat.le_of_ble_eq_true rfl, Nat.le_of_ble_eq_true rfl⟩ hl.1 rfl (Nat.le_of_ble_eq_true rfl) dX9_power_13 ⟨Nat.zero_le _, Nat.zero_le _⟩ (fun r42 i42 g42 H locs hq hT hS => ?_)
    have eh42 := hq
    rw [(Prod.mk.inj eh42).1, (Prod.mk.inj eh42).2] at hT
    refine q_lmul hx hb dX9_power_16 (fun y43 ey43 => ?_)
    exact hret y43 _ _ _ _ _ _ dX9_power_17 hT hS rfl
set_option maxRecDepth 100000 in
set_option maxHeartbeats 4000000 in
theorem m_X9_power_0t1 {l : Launch} {D : va_G} {h : Nat → Nat} {cz : Nat → ClassId} {z : EZ} {i : Nat → Nat → Int32} {g : Nat → Nat → Int64} (a_a : Int64) (a_b : Int32) (ha_b : rg 0 1 a_b) : DtL l yX9_power cX9_power 3 (some .long) ({ frames := 1, cells := 0, slots := 0, locals := 22 } : Room) D h cz z i g [.long a_a, .int a_b] (fun r u => u = (i, g)) := by
  refine e_L pn_X9_power (Nat.le_of_ble_eq_true rfl) ?_
  intro p e s m args below meth c ls Q X Y hret hT hl hS
  have hx := X.1
  have hb := X.2.1
  have hl : lv_has ls 3 [(0, .long a_a), (2, .int a_b)] := hl
  rcases (show a_b.toInt = 0 ∨ a_b.toInt = 1 by have := ha_b.1; have := ha_b.2; omega) with f1 | f1
  ·
    have h2 : rg 0 0 a_b := ⟨by omega, by omega⟩
    refine lv_iload_n hx hb dX9_power_0 rfl (lv_at hl 1 rfl) ?_
    refine lv_if_ne (tgt := 8) hx hb dX9_power_1 (by decide) (fun c3 => (x_ne h2 (rg_k (by decide) : rg 0 0 0) (i_ne c3) (by decide)).elim) (fun c3 => ?_)
    have q3 : a_b.toInt = 0 := i_eq c3
    refine lv_lconst (v := 1) hx hb dX9_power_4 (by decide) ?_
    refine lv_goto (tgt := 17) hx hb dX9_power_5 (by decide) ?_
    exact hret 1 _ _ _ _ _ _ dX9_power_17 hT hS rfl
  ·
    have h4 : rg 1 1 a_b := ⟨by omega, by omega⟩
    refine lv_iload_n hx hb dX9_power_0 rfl (lv_at hl 1 rfl) ?_
    refine lv_if_ne (tgt := 8) hx hb dX9_power_1 (by decide) (fun c5 => ?_) (fun c5 => (x_eq h4 (rg_k (by decide) : rg 0 0 0) (i_eq c5) (by decide)).elim)
    have q5 : ¬ a_b.toInt = 0 := i_ne c5
    refine lv_lload_n hx hb dX9_power_8 rfl (lv_at hl 0 rfl) ?_
    refine lv_lload_n hx hb dX9_power_9 rfl (lv_at hl 0 rfl) ?_
    refine lv_iload_n hx hb dX9_power_10 rfl (lv_at hl 1 rfl) ?_
    refine lv_iconst (v := 1) hx hb dX9_power_11 (by decide) ?_
    refine q_isub hx hb dX9_power_12 (fun x6 ex6 => ?_)
    obtain ⟨hx6, ax6⟩ := rg_sub 0 0 ex6 h4 (rg_k (by decide) : rg 1 1 1) (by decide)
    replace ax6 : x6.toInt = a_b.toInt - 1 := ax6
    refine e_Sl (As := [.long a_a, .int x6]) (rest := [.long a_a]) X Y hT hS (m_X9_power_0 a_a x6 hx6) sk_X9_power gm_2045 hd_X9_power ⟨rfl, rfl⟩ ⟨Nat.le_of_ble_eq_true rfl, Nat.le_of_ble_eq_true rfl⟩ hl.1 rfl (Nat.le_of_ble_eq_true rfl) dX9_power_13 ⟨Nat.zero_le _, Nat.zero_le _⟩ (fun r7 i7 g7 H locs hq hT hS => ?_)
    obtain ⟨eh7, rfl⟩ := hq
    rw [(Prod.mk.inj eh7).1, (Prod.mk.inj eh7).2] at hT
    refine q_lmul hx hb dX9_power_16 (fun y8 ey8 => ?_)
    exact hret y8 _ _ _ _ _ _ dX9_power_17 hT hS rfl
set_option maxRecDepth 100000 in
set_option maxHeartbeats 4000000 in
theorem m_X9_power_0t2 {l : Launch} {D : va_G} {h : Nat → Nat} {cz : Nat → ClassId} {z : EZ} {i : Nat → Nat → Int32} {g : Nat → Nat → Int64} (a_a : Int64) (a_b : Int32) (ha_b : rg 0 2 a_b) : DtL l yX9_power cX9_power 3 (some .long) ({ frames := 2, cells := 0, slots := 0, locals := 44 } : Room) D h cz z i g [.long a_a, .int a_b] (fun r u => u = (i, g)) := by
  refine e_L pn_X9_power (Nat.le_of_ble_eq_true rfl) ?_
  intro p e s m args below meth c ls Q X Y hret hT hl hS
  have hx := X.1
  have hb := X.2.1
  have hl : lv_has ls 3 [(0, .long a_a), (2, .int a_b)] := hl
  rcases (show a_b.toInt = 0 ∨ a_b.toInt = 1 ∨ a_b.toInt = 2 by have := ha_b.1; have := ha_b.2; omega) with f1 | f1 | f1
  ·
    have h2 : rg 0 0 a_b := ⟨by omega, by omega⟩
    refine lv_iload_n hx hb dX9_power_0 rfl (lv_at hl 1 rfl) ?_
    refine lv_if_ne (tgt := 8) hx hb dX9_power_1 (by decide) (fun c3 => (x_ne h2 (rg_k (by decide) : rg 0 0 0) (i_ne c3) (by decide)).elim) (fun c3 => ?_)
    have q3 : a_b.toInt = 0 := i_eq c3
    refine lv_lconst (v := 1) hx hb dX9_power_4 (by decide) ?_
    refine lv_goto (tgt := 17) hx hb dX9_power_5 (by decide) ?_
    exact hret 1 _ _ _ _ _ _ dX9_power_17 hT hS rfl
  ·
    have h4 : rg 1 1 a_b := ⟨by omega, by omega⟩
    refine lv_iload_n hx hb dX9_power_0 rfl (lv_at hl 1 rfl) ?_
    refine lv_if_ne (tgt := 8) hx hb dX9_power_1 (by decide) (fun c5 => ?_) (fun c5 => (x_eq h4 (rg_k (by decide) : rg 0 0 0) (i_eq c5) (by decide)).elim)
    have q5 : ¬ a_b.toInt = 0 := i_ne c5
    refine lv_lload_n hx hb dX9_power_8 rfl (lv_at hl 0 rfl) ?_
    refine lv_lload_n hx hb dX9_power_9 rfl (lv_at hl 0 rfl) ?_
    refine lv_iload_n hx hb dX9_power_10 rfl (lv_at hl 1 rfl) ?_
    refine lv_iconst (v := 1) hx hb dX9_power_11 (by decide) ?_
    refine q_isub hx hb dX9_power_12 (fun x6 ex6 => ?_)
    obtain ⟨hx6, ax6⟩ := rg_sub 0 0 ex6 h4 (rg_k (by decide) : rg 1 1 1) (by decide)
    replace ax6 : x6.toInt = a_b.toInt - 1 := ax6
    refine e_Sl (As := [.long a_a, .int x6]) (rest := [.long a_a]) X Y hT hS (m_X9_power_0 a_a x6 hx6) sk_X9_power gm_2045 hd_X9_power ⟨rfl, rfl⟩ ⟨Nat.le_of_ble_eq_true rfl, Nat.le_of_ble_eq_true rfl⟩ hl.1 rfl (Nat.le_of_ble_eq_true rfl) dX9_power_13 ⟨Nat.zero_le _, Nat.zero_le _⟩ (fun r7 i7 g7 H locs hq hT hS => ?_)
    obtain ⟨eh7, rfl⟩ := hq
    rw [(Prod.mk.inj eh7).1, (Prod.mk.inj eh7).2] at hT
    refine q_lmul hx hb dX9_power_16 (fun y8 ey8 => ?_)
    exact hret y8 _ _ _ _ _ _ dX9_power_17 hT hS rfl
  ·
    have h9 : rg 2 2 a_b := ⟨by omega, by omega⟩
    refine lv_iload_n hx hb dX9_power_0 rfl (lv_at hl 1 rfl) ?_
    refine lv_if_ne (tgt := 8) hx hb dX9_power_1 (by decide) (fun c10 => ?_) (fun c10 => (x_eq h9 (rg_k (by decide) : rg 0 0 0) (i_eq c10) (by decide)).elim)
    have q10 : ¬ a_b.toInt = 0 := i_ne c10
    refine lv_lload_n hx hb dX9_power_8 rfl (lv_at hl 0 rfl) ?_
    refine lv_lload_n hx hb dX9_power_9 rfl (lv_at hl 0 rfl) ?_
    refine lv_iload_n hx hb dX9_power_10 rfl (lv_at hl 1 rfl) ?_
    refine lv_iconst (v := 1) hx hb dX9_power_11 (by decide) ?_
    refine q_isub hx hb dX9_power_12 (fun x11 ex11 => ?_)
    obtain ⟨hx11, ax11⟩ := rg_sub 1 1 ex11 h9 (rg_k (by decide) : rg 1 1 1) (by decide)
    replace ax11 : x11.toInt = a_b.toInt - 1 := ax11
    refine e_Sl (As := [.long a_a, .int x11]) (rest := [.long a_a]) X Y hT hS (m_X9_power_1 a_a x11 hx11) sk_X9_power gm_2045 hd_X9_power ⟨rfl, rfl⟩ ⟨Nat.le_of_ble_eq_true rfl, Nat.le_of_ble_eq_true rfl⟩ hl.1 rfl (Nat.le_of_ble_eq_true rfl) dX9_power_13 ⟨Nat.zero_le _, Nat.zero_le _⟩ (fun r12 i12 g12 H locs hq hT hS => ?_)
    have eh12 := hq
    rw [(Prod.mk.inj eh12).1, (Prod.mk.inj eh12).2] at hT
    refine q_lmul hx hb dX9_power_16 (fun y13 ey13 => ?_)
    exact hret y13 _ _ _ _ _ _ dX9_power_17 hT hS rfl
set_option maxRecDepth 100000 in
set_option maxHeartbeats 4000000 in
theorem m_X9_power_0t3 {l : Launch} {D : va_G} {h : Nat → Nat} {cz : Nat → ClassId} {z : EZ} {i : Nat → Nat → Int32} {g : Nat → Nat → Int64} (a_a : Int64) (a_b : Int32) (ha_b : rg 0 3 a_b) : DtL l yX9_power cX9_power 3 (some .long) ({ frames := 3, cells := 0, slots := 0, locals := 66 } : Room) D h cz z i g [.long a_a, .int a_b] (fun r u => u = (i, g)) := by
  refine e_L pn_X9_power (Nat.le_of_ble_eq_true rfl) ?_
  intro p e s m args below meth c ls Q X Y hret hT hl hS
  have hx := X.1
  have hb := X.2.1
  have hl : lv_has ls 3 [(0, .long a_a), (2, .int a_b)] := hl
  rcases (show a_b.toInt = 0 ∨ a_b.toInt = 1 ∨ a_b.toInt = 2 ∨ a_b.toInt = 3 by have := ha_b.1; have := ha_b.2; omega) with f1 | f1 | f1 | f1
  ·
    have h2 : rg 0 0 a_b := ⟨by omega, by omega⟩
    refine lv_iload_n hx hb dX9_power_0 rfl (lv_at hl 1 rfl) ?_
    refine lv_if_ne (tgt := 8) hx hb dX9_power_1 (by decide) (fun c3 => (x_ne h2 (rg_k (by decide) : rg 0 0 0) (i_ne c3) (by decide)).elim) (fun c3 => ?_)
    have q3 : a_b.toInt = 0 := i_eq c3
    refine lv_lconst (v := 1) hx hb dX9_power_4 (by decide) ?_
    refine lv_goto (tgt := 17) hx hb dX9_power_5 (by decide) ?_
    exact hret 1 _ _ _ _ _ _ dX9_power_17 hT hS rfl
  ·
    have h4 : rg 1 1 a_b := ⟨by omega, by omega⟩
    refine lv_iload_n hx hb dX9_power_0 rfl (lv_at hl 1 rfl) ?_
    refine lv_if_ne (tgt := 8) hx hb dX9_power_1 (by decide) (fun c5 => ?_) (fun c5 => (x_eq h4 (rg_k (by decide) : rg 0 0 0) (i_eq c5) (by decide)).elim)
    have q5 : ¬ a_b.toInt = 0 := i_ne c5
    refine lv_lload_n hx hb dX9_power_8 rfl (lv_at hl 0 rfl) ?_
    refine lv_lload_n hx hb dX9_power_9 rfl (lv_at hl 0 rfl) ?_
    refine lv_iload_n hx hb dX9_power_10 rfl (lv_at hl 1 rfl) ?_
    refine lv_iconst (v := 1) hx hb dX9_power_11 (by decide) ?_
    refine q_isub hx hb dX9_power_12 (fun x6 ex6 => ?_)
    obtain ⟨hx6, ax6⟩ := rg_sub 0 0 ex6 h4 (rg_k (by decide) : rg 1 1 1) (by decide)
    replace ax6 : x6.toInt = a_b.toInt - 1 := ax6
    refine e_Sl (As := [.long a_a, .int x6]) (rest := [.long a_a]) X Y hT hS (m_X9_power_0 a_a x6 hx6) sk_X9_power gm_2045 hd_X9_power ⟨rfl, rfl⟩ ⟨Nat.le_of_ble_eq_true rfl, Nat.le_of_ble_eq_true rfl⟩ hl.1 rfl (Nat.le_of_ble_eq_true rfl) dX9_power_13 ⟨Nat.zero_le _, Nat.zero_le _⟩ (fun r7 i7 g7 H locs hq hT hS => ?_)
    obtain ⟨eh7, rfl⟩ := hq
    rw [(Prod.mk.inj eh7).1, (Prod.mk.inj eh7).2] at hT
    refine q_lmul hx hb dX9_power_16 (fun y8 ey8 => ?_)
    exact hret y8 _ _ _ _ _ _ dX9_power_17 hT hS rfl
  ·
    have h9 : rg 2 2 a_b := ⟨by omega, by omega⟩
    refine lv_iload_n hx hb dX9_power_0 rfl (lv_at hl 1 rfl) ?_
    refine lv_if_ne (tgt := 8) hx hb dX9_power_1 (by decide) (fun c10 => ?_) (fun c10 => (x_eq h9 (rg_k (by decide) : rg 0 0 0) (i_eq c10) (by decide)).elim)
    have q10 : ¬ a_b.toInt = 0 := i_ne c10
    refine lv_lload_n hx hb dX9_power_8 rfl (lv_at hl 0 rfl) ?_
    refine lv_lload_n hx hb dX9_power_9 rfl (lv_at hl 0 rfl) ?_
    refine lv_iload_n hx hb dX9_power_10 rfl (lv_at hl 1 rfl) ?_
    refine lv_iconst (v := 1) hx hb dX9_power_11 (by decide) ?_
    refine q_isub hx hb dX9_power_12 (fun x11 ex11 => ?_)
    obtain ⟨hx11, ax11⟩ := rg_sub 1 1 ex11 h9 (rg_k (by decide) : rg 1 1 1) (by decide)
    replace ax11 : x11.toInt = a_b.toInt - 1 := ax11
    refine e_Sl (As := [.long a_a, .int x11]) (rest := [.long a_a]) X Y hT hS (m_X9_power_1 a_a x11 hx11) sk_X9_power gm_2045 hd_X9_power ⟨rfl, rfl⟩ ⟨Nat.le_of_ble_eq_true rfl, Nat.le_of_ble_eq_true rfl⟩ hl.1 rfl (Nat.le_of_ble_eq_true rfl) dX9_power_13 ⟨Nat.zero_le _, Nat.zero_le _⟩ (fun r12 i12 g12 H locs hq hT hS => ?_)
    have eh12 := hq
    rw [(Prod.mk.inj eh12).1, (Prod.mk.inj eh12).2] at hT
    refine q_lmul hx hb dX9_power_16 (fun y13 ey13 => ?_)
    exact hret y13 _ _ _ _ _ _ dX9_power_17 hT hS rfl
  ·
    have h14 : rg 3 3 a_b := ⟨by omega, by omega⟩
    refine lv_iload_n hx hb dX9_power_0 rfl (lv_at hl 1 rfl) ?_
    refine lv_if_ne (tgt := 8) hx hb dX9_power_1 (by decide) (fun c15 => ?_) (fun c15 => (x_eq h14 (rg_k (by decide) : rg 0 0 0) (i_eq c15) (by decide)).elim)
    have q15 : ¬ a_b.toInt = 0 := i_ne c15
    refine lv_lload_n hx hb dX9_power_8 rfl (lv_at hl 0 rfl) ?_
    refine lv_lload_n hx hb dX9_power_9 rfl (lv_at hl 0 rfl) ?_
    refine lv_iload_n hx hb dX9_power_10 rfl (lv_at hl 1 rfl) ?_
    refine lv_iconst (v := 1) hx hb dX9_power_11 (by decide) ?_
    refine q_isub hx hb dX9_power_12 (fun x16 ex16 => ?_)
    obtain ⟨hx16, ax16⟩ := rg_sub 2 2 ex16 h14 (rg_k (by decide) : rg 1 1 1) (by decide)
    replace ax16 : x16.toInt = a_b.toInt - 1 := ax16
    refine e_Sl (As := [.long a_a, .int x16]) (rest := [.long a_a]) X Y hT hS (m_X9_power_2 a_a x16 hx16) sk_X9_power gm_2045 hd_X9_power ⟨rfl, rfl⟩ ⟨Nat.le_of_ble_eq_true rfl, Nat.le_of_ble_eq_true rfl⟩ hl.1 rfl (Nat.le_of_ble_eq_true rfl) dX9_power_13 ⟨Nat.zero_le _, Nat.zero_le _⟩ (fun r17 i17 g17 H locs hq hT hS => ?_)
    have eh17 := hq
    rw [(Prod.mk.inj eh17).1, (Prod.mk.inj eh17).2] at hT
    refine q_lmul hx hb dX9_power_16 (fun y18 ey18 => ?_)
    exact hret y18 _ _ _ _ _ _ dX9_power_17 hT hS rfl
set_option maxRecDepth 100000 in
set_option maxHeartbeats 4000000 in
theorem m_X9_power_0t4 {l : Launch} {D : va_G} {h : Nat → Nat} {cz : Nat → ClassId} {z : EZ} {i : Nat → Nat → Int32} {g : Nat → Nat → Int64} (a_a : Int64) (a_b : Int32) (ha_b : rg 0 4 a_b) : DtL l yX9_power cX9_power 3 (some .long) ({ frames := 4, cells := 0, slots := 0, locals := 88 } : Room) D h cz z i g [.long a_a, .int a_b] (fun r u => u = (i, g)) := by
  refine e_L pn_X9_power (Nat.le_of_ble_eq_true rfl) ?_
  intro p e s m args below meth c ls Q X Y hret hT hl hS
  have hx := X.1
  have hb := X.2.1
  have hl : lv_has ls 3 [(0, .long a_a), (2, .int a_b)] := hl
  rcases (show a_b.toInt = 0 ∨ a_b.toInt = 1 ∨ a_b.toInt = 2 ∨ a_b.toInt = 3 ∨ a_b.toInt = 4 by have := ha_b.1; have := ha_b.2; omega) with f1 | f1 | f1 | f1 | f1
  ·
    have h2 : rg 0 0 a_b := ⟨by omega, by omega⟩
    refine lv_iload_n hx hb dX9_power_0 rfl (lv_at hl 1 rfl) ?_
    refine lv_if_ne (tgt := 8) hx hb dX9_power_1 (by decide) (fun c3 => (x_ne h2 (rg_k (by decide) : rg 0 0 0) (i_ne c3) (by decide)).elim) (fun c3 => ?_)
    have q3 : a_b.toInt = 0 := i_eq c3
    refine lv_lconst (v := 1) hx hb dX9_power_4 (by decide) ?_
    refine lv_goto (tgt := 17) hx hb dX9_power_5 (by decide) ?_
    exact hret 1 _ _ _ _ _ _ dX9_power_17 hT hS rfl
  ·
    have h4 : rg 1 1 a_b := ⟨by omega, by omega⟩
    refine lv_iload_n hx hb dX9_power_0 rfl (lv_at hl 1 rfl) ?_
    refine lv_if_ne (tgt := 8) hx hb dX9_power_1 (by decide) (fun c5 => ?_) (fun c5 => (x_eq h4 (rg_k (by decide) : rg 0 0 0) (i_eq c5) (by decide)).elim)
    have q5 : ¬ a_b.toInt = 0 := i_ne c5
    refine lv_lload_n hx hb dX9_power_8 rfl (lv_at hl 0 rfl) ?_
    refine lv_lload_n hx hb dX9_power_9 rfl (lv_at hl 0 rfl) ?_
    refine lv_iload_n hx hb dX9_power_10 rfl (lv_at hl 1 rfl) ?_
    refine lv_iconst (v := 1) hx hb dX9_power_11 (by decide) ?_
    refine q_isub hx hb dX9_power_12 (fun x6 ex6 => ?_)
    obtain ⟨hx6, ax6⟩ := rg_sub 0 0 ex6 h4 (rg_k (by decide) : rg 1 1 1) (by decide)
    replace ax6 : x6.toInt = a_b.toInt - 1 := ax6
    refine e_Sl (As := [.long a_a, .int x6]) (rest := [.long a_a]) X Y hT hS (m_X9_power_0 a_a x6 hx6) sk_X9_power gm_2045 hd_X9_power ⟨rfl, rfl⟩ ⟨Nat.le_of_ble_eq_true rfl, Nat.le_of_ble_eq_true rfl⟩ hl.1 rfl (Nat.le_of_ble_eq_true rfl) dX9_power_13 ⟨Nat.zero_le _, Nat.zero_le _⟩ (fun r7 i7 g7 H locs hq hT hS => ?_)
    obtain ⟨eh7, rfl⟩ := hq
    rw [(Prod.mk.inj eh7).1, (Prod.mk.inj eh7).2] at hT
    refine q_lmul hx hb dX9_power_16 (fun y8 ey8 => ?_)
    exact hret y8 _ _ _ _ _ _ dX9_power_17 hT hS rfl
  ·
    have h9 : rg 2 2 a_b := ⟨by omega, by omega⟩
    refine lv_iload_n hx hb dX9_power_0 rfl (lv_at hl 1 rfl) ?_
    refine lv_if_ne (tgt := 8) hx hb dX9_power_1 (by decide) (fun c10 => ?_) (fun c10 => (x_eq h9 (rg_k (by decide) : rg 0 0 0) (i_eq c10) (by decide)).elim)
    have q10 : ¬ a_b.toInt = 0 := i_ne c10
    refine lv_lload_n hx hb dX9_power_8 rfl (lv_at hl 0 rfl) ?_
    refine lv_lload_n hx hb dX9_power_9 rfl (lv_at hl 0 rfl) ?_
    refine lv_iload_n hx hb dX9_power_10 rfl (lv_at hl 1 rfl) ?_
    refine lv_iconst (v := 1) hx hb dX9_power_11 (by decide) ?_
    refine q_isub hx hb dX9_power_12 (fun x11 ex11 => ?_)
    obtain ⟨hx11, ax11⟩ := rg_sub 1 1 ex11 h9 (rg_k (by decide) : rg 1 1 1) (by decide)
    replace ax11 : x11.toInt = a_b.toInt - 1 := ax11
    refine e_Sl (As := [.long a_a, .int x11]) (rest := [.long a_a]) X Y hT hS (m_X9_power_1 a_a x11 hx11) sk_X9_power gm_2045 hd_X9_power ⟨rfl, rfl⟩ ⟨Nat.le_of_ble_eq_true rfl, Nat.le_of_ble_eq_true rfl⟩ hl.1 rfl (Nat.le_of_ble_eq_true rfl) dX9_power_13 ⟨Nat.zero_le _, Nat.zero_le _⟩ (fun r12 i12 g12 H locs hq hT hS => ?_)
    have eh12 := hq
    rw [(Prod.mk.inj eh12).1, (Prod.mk.inj eh12).2] at hT
    refine q_lmul hx hb dX9_power_16 (fun y13 ey13 => ?_)
    exact hret y13 _ _ _ _ _ _ dX9_power_17 hT hS rfl
  ·
    have h14 : rg 3 3 a_b := ⟨by omega, by omega⟩
    refine lv_iload_n hx hb dX9_power_0 rfl (lv_at hl 1 rfl) ?_
    refine lv_if_ne (tgt := 8) hx hb dX9_power_1 (by decide) (fun c15 => ?_) (fun c15 => (x_eq h14 (rg_k (by decide) : rg 0 0 0) (i_eq c15) (by decide)).elim)
    have q15 : ¬ a_b.toInt = 0 := i_ne c15
    refine lv_lload_n hx hb dX9_power_8 rfl (lv_at hl 0 rfl) ?_
    refine lv_lload_n hx hb dX9_power_9 rfl (lv_at hl 0 rfl) ?_
    refine lv_iload_n hx hb dX9_power_10 rfl (lv_at hl 1 rfl) ?_
    refine lv_iconst (v := 1) hx hb dX9_power_11 (by decide) ?_
    refine q_isub hx hb dX9_power_12 (fun x16 ex16 => ?_)
    obtain ⟨hx16, ax16⟩ := rg_sub 2 2 ex16 h14 (rg_k (by decide) : rg 1 1 1) (by decide)
    replace ax16 : x16.toInt = a_b.toInt - 1 := ax16
    refine e_Sl (As := [.long a_a, .int x16]) (rest := [.long a_a]) X Y hT hS (m_X9_power_2 a_a x16 hx16) sk_X9_power gm_2045 hd_X9_power ⟨rfl, rfl⟩ ⟨Nat.le_of_ble_eq_true rfl, Nat.le_of_ble_eq_true rfl⟩ hl.1 rfl (Nat.le_of_ble_eq_true rfl) dX9_power_13 ⟨Nat.zero_le _, Nat.zero_le _⟩ (fun r17 i17 g17 H locs hq hT hS => ?_)
    have eh17 := hq
    rw [(Prod.mk.inj eh17).1, (Prod.mk.inj eh17).2] at hT
    refine q_lmul hx hb dX9_power_16 (fun y18 ey18 => ?_)
    exact hret y18 _ _ _ _ _ _ dX9_power_17 hT hS rfl
  ·
    have h19 : rg 4 4 a_b := ⟨by omega, by omega⟩
    refine lv_iload_n hx hb dX9_power_0 rfl (lv_at hl 1 rfl) ?_
    refine lv_if_ne (tgt := 8) hx hb dX9_power_1 (by decide) (fun c20 => ?_) (fun c20 => (x_eq h19 (rg_k (by decide) : rg 0 0 0) (i_eq c20) (by decide)).elim)
    have q20 : ¬ a_b.toInt = 0 := i_ne c20
    refine lv_lload_n hx hb dX9_power_8 rfl (lv_at hl 0 rfl) ?_
    refine lv_lload_n hx hb dX9_power_9 rfl (lv_at hl 0 rfl) ?_
    refine lv_iload_n hx hb dX9_power_10 rfl (lv_at hl 1 rfl) ?_
    refine lv_iconst (v := 1) hx hb dX9_power_11 (by decide) ?_
    refine q_isub hx hb dX9_power_12 (fun x21 ex21 => ?_)
    obtain ⟨hx21, ax21⟩ := rg_sub 3 3 ex21 h19 (rg_k (by decide) : rg 1 1 1) (by decide)
    replace ax21 : x21.toInt = a_b.toInt - 1 := ax21
    refine e_Sl (As := [.long a_a, .int x21]) (rest := [.long a_a]) X Y hT hS (m_X9_power_3 a_a x21 hx21) sk_X9_power gm_2045 hd_X9_power ⟨rfl, rfl⟩ ⟨Nat.le_of_ble_eq_true rfl, Nat.le_of_ble_eq_true rfl⟩ hl.1 rfl (Nat.le_of_ble_eq_true rfl) dX9_power_13 ⟨Nat.zero_le _, Nat.zero_le _⟩ (fun r22 i22 g22 H locs hq hT hS => ?_)
    have eh22 := hq
    rw [(Prod.mk.inj eh22).1, (Prod.mk.inj eh22).2] at hT
    refine q_lmul hx hb dX9_power_16 (fun y23 ey23 => ?_)
    exact hret y23 _ _ _ _ _ _ dX9_power_17 hT hS rfl
set_option maxRecDepth 100000 in
set_option maxHeartbeats 4000000 in
theorem m_X9_power_0t5 {l : Launch} {D : va_G} {h : Nat → Nat} {cz : Nat → ClassId} {z : EZ} {i : Nat → Nat → Int32} {g : Nat → Nat → Int64} (a_a : Int64) (a_b : Int32) (ha_b : rg 0 5 a_b) : DtL l yX9_power cX9_power 3 (some .long) ({ frames := 5, cells := 0, slots := 0, locals := 110 } : Room) D h cz z i g [.long a_a, .int a_b] (fun r u => u = (i, g)) := by
  refine e_L pn_X9_power (Nat.le_of_ble_eq_true rfl) ?_
  intro p e s m args below meth c ls Q X Y hret hT hl hS
  have hx := X.1
  have hb := X.2.1
  have hl : lv_has ls 3 [(0, .long a_a), (2, .int a_b)] := hl
  rcases (show a_b.toInt = 0 ∨ a_b.toInt = 1 ∨ a_b.toInt = 2 ∨ a_b.toInt = 3 ∨ a_b.toInt = 4 ∨ a_b.toInt = 5 by have := ha_b.1; have := ha_b.2; omega) with f1 | f1 | f1 | f1 | f1 | f1
  ·
    have h2 : rg 0 0 a_b := ⟨by omega, by omega⟩
    refine lv_iload_n hx hb dX9_power_0 rfl (lv_at hl 1 rfl) ?_
    refine lv_if_ne (tgt := 8) hx hb dX9_power_1 (by decide) (fun c3 => (x_ne h2 (rg_k (by decide) : rg 0 0 0) (i_ne c3) (by decide)).elim) (fun c3 => ?_)
    have q3 : a_b.toInt = 0 := i_eq c3
    refine lv_lconst (v := 1) hx hb dX9_power_4 (by decide) ?_
    refine lv_goto (tgt := 17) hx hb dX9_power_5 (by decide) ?_
    exact hret 1 _ _ _ _ _ _ dX9_power_17 hT hS rfl
  ·
    have h4 : rg 1 1 a_b := ⟨by omega, by omega⟩
    refine lv_iload_n hx hb dX9_power_0 rfl (lv_at hl 1 rfl) ?_
    refine lv_if_ne (tgt := 8) hx hb dX9_power_1 (by decide) (fun c5 => ?_) (fun c5 => (x_eq h4 (rg_k (by decide) : rg 0 0 0) (i_eq c5) (by decide)).elim)
    have q5 : ¬ a_b.toInt = 0 := i_ne c5
    refine lv_lload_n hx hb dX9_power_8 rfl (lv_at hl 0 rfl) ?_
    refine lv_lload_n hx hb dX9_power_9 rfl (lv_at hl 0 rfl) ?_
    refine lv_iload_n hx hb dX9_power_10 rfl (lv_at hl 1 rfl) ?_
    refine lv_iconst (v := 1) hx hb dX9_power_11 (by decide) ?_
    refine q_isub hx hb dX9_power_12 (fun x6 ex6 => ?_)
    obtain ⟨hx6, ax6⟩ := rg_sub 0 0 ex6 h4 (rg_k (by decide) : rg 1 1 1) (by decide)
    replace ax6 : x6.toInt = a_b.toInt - 1 := ax6
    refine e_Sl (As := [.long a_a, .int x6]) (rest := [.long a_a]) X Y hT hS (m_X9_power_0 a_a x6 hx6) sk_X9_power gm_2045 hd_X9_power ⟨rfl, rfl⟩ ⟨Nat.le_of_ble_eq_true rfl, Nat.le_of_ble_eq_true rfl⟩ hl.1 rfl (Nat.le_of_ble_eq_true rfl) dX9_power_13 ⟨Nat.zero_le _, Nat.zero_le _⟩ (fun r7 i7 g7 H locs hq hT hS => ?_)
    obtain ⟨eh7, rfl⟩ := hq
    rw [(Prod.mk.inj eh7).1, (Prod.mk.inj eh7).2] at hT
    refine q_lmul hx hb dX9_power_16 (fun y8 ey8 => ?_)
    exact hret y8 _ _ _ _ _ _ dX9_power_17 hT hS rfl
  ·
    have h9 : rg 2 2 a_b := ⟨by omega, by omega⟩
    refine lv_iload_n hx hb dX9_power_0 rfl (lv_at hl 1 rfl) ?_
    refine lv_if_ne (tgt := 8) hx hb dX9_power_1 (by decide) (fun c10 => ?_) (fun c10 => (x_eq h9 (rg_k (by decide) : rg 0 0 0) (i_eq c10) (by decide)).elim)
    have q10 : ¬ a_b.toInt = 0 := i_ne c10
    refine lv_lload_n hx hb dX9_power_8 rfl (lv_at hl 0 rfl) ?_
    refine lv_lload_n hx hb dX9_power_9 rfl (lv_at hl 0 rfl) ?_
    refine lv_iload_n hx hb dX9_power_10 rfl (lv_at hl 1 rfl) ?_
    refine lv_iconst (v := 1) hx hb dX9_power_11 (by decide) ?_
    refine q_isub hx hb dX9_power_12 (fun x11 ex11 => ?_)
    obtain ⟨hx11, ax11⟩ := rg_sub 1 1 ex11 h9 (rg_k (by decide) : rg 1 1 1) (by decide)
    replace ax11 : x11.toInt = a_b.toInt - 1 := ax11
    refine e_Sl (As := [.long a_a, .int x11]) (rest := [.long a_a]) X Y hT hS (m_X9_power_1 a_a x11 hx11) sk_X9_power gm_2045 hd_X9_power ⟨rfl, rfl⟩ ⟨Nat.le_of_ble_eq_true rfl, Nat.le_of_ble_eq_true rfl⟩ hl.1 rfl (Nat.le_of_ble_eq_true rfl) dX9_power_13 ⟨Nat.zero_le _, Nat.zero_le _⟩ (fun r12 i12 g12 H locs hq hT hS => ?_)
    have eh12 := hq
    rw [(Prod.mk.inj eh12).1, (Prod.mk.inj eh12).2] at hT
    refine q_lmul hx hb dX9_power_16 (fun y13 ey13 => ?_)
    exact hret y13 _ _ _ _ _ _ dX9_power_17 hT hS rfl
  ·
    have h14 : rg 3 3 a_b := ⟨by omega, by omega⟩
    refine lv_iload_n hx hb dX9_power_0 rfl (lv_at hl 1 rfl) ?_
    refine lv_if_ne (tgt := 8) hx hb dX9_power_1 (by decide) (fun c15 => ?_) (fun c15 => (x_eq h14 (rg_k (by decide) : rg 0 0 0) (i_eq c15) (by decide)).elim)
    have q15 : ¬ a_b.toInt = 0 := i_ne c15
    refine lv_lload_n hx hb dX9_power_8 rfl (lv_at hl 0 rfl) ?_
    refine lv_lload_n hx hb dX9_power_9 rfl (lv_at hl 0 rfl) ?_
    refine lv_iload_n hx hb dX9_power_10 rfl (lv_at hl 1 rfl) ?_
    refine lv_iconst (v := 1) hx hb dX9_power_11 (by decide) ?_
    refine q_isub hx hb dX9_power_12 (fun x16 ex16 => ?_)
    obtain ⟨hx16, ax16⟩ := rg_sub 2 2 ex16 h14 (rg_k (by decide) : rg 1 1 1) (by decide)
    replace ax16 : x16.toInt = a_b.toInt - 1 := ax16
    refine e_Sl (As := [.long a_a, .int x16]) (rest := [.long a_a]) X Y hT hS (m_X9_power_2 a_a x16 hx16) sk_X9_power gm_2045 hd_X9_power ⟨rfl, rfl⟩ ⟨Nat.le_of_ble_eq_true rfl, Nat.le_of_ble_eq_true rfl⟩ hl.1 rfl (Nat.le_of_ble_eq_true rfl) dX9_power_13 ⟨Nat.zero_le _, Nat.zero_le _⟩ (fun r17 i17 g17 H locs hq hT hS => ?_)
    have eh17 := hq
    rw [(Prod.mk.inj eh17).1, (Prod.mk.inj eh17).2] at hT
    refine q_lmul hx hb dX9_power_16 (fun y18 ey18 => ?_)
    exact hret y18 _ _ _ _ _ _ dX9_power_17 hT hS rfl
  ·
    have h19 : rg 4 4 a_b := ⟨by omega, by omega⟩
    refine lv_iload_n hx hb dX9_power_0 rfl (lv_at hl 1 rfl) ?_
    refine lv_if_ne (tgt := 8) hx hb dX9_power_1 (by decide) (fun c20 => ?_) (fun c20 => (x_eq h19 (rg_k (by decide) : rg 0 0 0) (i_eq c20) (by decide)).elim)
    have q20 : ¬ a_b.toInt = 0 := i_ne c20
    refine lv_lload_n hx hb dX9_power_8 rfl (lv_at hl 0 rfl) ?_
    refine lv_lload_n hx hb dX9_power_9 rfl (lv_at hl 0 rfl) ?_
    refine lv_iload_n hx hb dX9_power_10 rfl (lv_at hl 1 rfl) ?_
    refine lv_iconst (v := 1) hx hb dX9_power_11 (by decide) ?_
    refine q_isub hx hb dX9_power_12 (fun x21 ex21 => ?_)
    obtain ⟨hx21, ax21⟩ := rg_sub 3 3 ex21 h19 (rg_k (by decide) : rg 1 1 1) (by decide)
    replace ax21 : x21.toInt = a_b.toInt - 1 := ax21
    refine e_Sl (As := [.long a_a, .int x21]) (rest := [.long a_a]) X Y hT hS (m_X9_power_3 a_a x21 hx21) sk_X9_power gm_2045 hd_X9_power ⟨rfl, rfl⟩ ⟨Nat.le_of_ble_eq_true rfl, Nat.le_of_ble_eq_true rfl⟩ hl.1 rfl (Nat.le_of_ble_eq_true rfl) dX9_power_13 ⟨Nat.zero_le _, Nat.zero_le _⟩ (fun r22 i22 g22 H locs hq hT hS => ?_)
    have eh22 := hq
    rw [(Prod.mk.inj eh22).1, (Prod.mk.inj eh22).2] at hT
    refine q_lmul hx hb dX9_power_16 (fun y23 ey23 => ?_)
    exact hret y23 _ _ _ _ _ _ dX9_power_17 hT hS rfl
  ·
    have h24 : rg 5 5 a_b := ⟨by omega, by omega⟩
    refine lv_iload_n hx hb dX9_power_0 rfl (lv_at hl 1 rfl) ?_
    refine lv_if_ne (tgt := 8) hx hb dX9_power_1 (by decide) (fun c25 => ?_) (fun c25 => (x_eq h24 (rg_k (by decide) : rg 0 0 0) (i_eq c25) (by decide)).elim)
    have q25 : ¬ a_b.toInt = 0 := i_ne c25
    refine lv_lload_n hx hb dX9_power_8 rfl (lv_at hl 0 rfl) ?_
    refine lv_lload_n hx hb dX9_power_9 rfl (lv_at hl 0 rfl) ?_
    refine lv_iload_n hx hb dX9_power_10 rfl (lv_at hl 1 rfl) ?_
    refine lv_iconst (v := 1) hx hb dX9_power_11 (by decide) ?_
    refine q_isub hx hb dX9_power_12 (fun x26 ex26 => ?_)
    obtain ⟨hx26, ax26⟩ := rg_sub 4 4 ex26 h24 (rg_k (by decide) : rg 1 1 1) (by decide)
    replace ax26 : x26.toInt = a_b.toInt - 1 := ax26
    refine e_Sl (As := [.long a_a, .int x26]) (rest := [.long a_a]) X Y hT hS (m_X9_power_4 a_a x26 hx26) sk_X9_power gm_2045 hd_X9_power ⟨rfl, rfl⟩ ⟨Nat.le_of_ble_eq_true rfl, Nat.le_of_ble_eq_true rfl⟩ hl.1 rfl (Nat.le_of_ble_eq_true rfl) dX9_power_13 ⟨Nat.zero_le _, Nat.zero_le _⟩ (fun r27 i27 g27 H locs hq hT hS => ?_)
    have eh27 := hq
    rw [(Prod.mk.inj eh27).1, (Prod.mk.inj eh27).2] at hT
    refine q_lmul hx hb dX9_power_16 (fun y28 ey28 => ?_)
    exact hret y28 _ _ _ _ _ _ dX9_power_17 hT hS rfl
set_option maxRecDepth 100000 in
set_option maxHeartbeats 4000000 in
theorem m_X9_power_0t6 {l : Launch} {D : va_G} {h : Nat → Nat} {cz : Nat → ClassId} {z : EZ} {i : Nat → Nat → Int32} {g : Nat → Nat → Int64} (a_a : Int64) (a_b : Int32) (ha_b : rg 0 6 a_b) : DtL l yX9_power cX9_power 3 (some .long) ({ frames := 6, cells := 0, slots := 0, locals := 132 } : Room) D h cz z i g [.long a_a, .int a_b] (fun r u => u = (i, g)) := by
  refine e_L pn_X9_power (Nat.le_of_ble_eq_true rfl) ?_
  intro p e s m args below meth c ls Q X Y hret hT hl hS
  have hx := X.1
  have hb := X.2.1
  have hl : lv_has ls 3 [(0, .long a_a), (2, .int a_b)] := hl
  rcases (show a_b.toInt = 0 ∨ a_b.toInt = 1 ∨ a_b.toInt = 2 ∨ a_b.toInt = 3 ∨ a_b.toInt = 4 ∨ a_b.toInt = 5 ∨ a_b.toInt = 6 by have := ha_b.1; have := ha_b.2; omega) with f1 | f1 | f1 | f1 | f1 | f1 | f1
  ·
    have h2 : rg 0 0 a_b := ⟨by omega, by omega⟩
    refine lv_iload_n hx hb dX9_power_0 rfl (lv_at hl 1 rfl) ?_
    refine lv_if_ne (tgt := 8) hx hb dX9_power_1 (by decide) (fun c3 => (x_ne h2 (rg_k (by decide) : rg 0 0 0) (i_ne c3) (by decide)).elim) (fun c3 => ?_)
    have q3 : a_b.toInt = 0 := i_eq c3
    refine lv_lconst (v := 1) hx hb dX9_power_4 (by decide) ?_
    refine lv_goto (tgt := 17) hx hb dX9_power_5 (by decide) ?_
    exact hret 1 _ _ _ _ _ _ dX9_power_17 hT hS rfl
  ·
    have h4 : rg 1 1 a_b := ⟨by omega, by omega⟩
    refine lv_iload_n hx hb dX9_power_0 rfl (lv_at hl 1 rfl) ?_
    refine lv_if_ne (tgt := 8) hx hb dX9_power_1 (by decide) (fun c5 => ?_) (fun c5 => (x_eq h4 (rg_k (by decide) : rg 0 0 0) (i_eq c5) (by decide)).elim)
    have q5 : ¬ a_b.toInt = 0 := i_ne c5
    refine lv_lload_n hx hb dX9_power_8 rfl (lv_at hl 0 rfl) ?_
    refine lv_lload_n hx hb dX9_power_9 rfl (lv_at hl 0 rfl) ?_
    refine lv_iload_n hx hb dX9_power_10 rfl (lv_at hl 1 rfl) ?_
    refine lv_iconst (v := 1) hx hb dX9_power_11 (by decide) ?_
    refine q_isub hx hb dX9_power_12 (fun x6 ex6 => ?_)
    obtain ⟨hx6, ax6⟩ := rg_sub 0 0 ex6 h4 (rg_k (by decide) : rg 1 1 1) (by decide)
    replace ax6 : x6.toInt = a_b.toInt - 1 := ax6
    refine e_Sl (As := [.long a_a, .int x6]) (rest := [.long a_a]) X Y hT hS (m_X9_power_0 a_a x6 hx6) sk_X9_power gm_2045 hd_X9_power ⟨rfl, rfl⟩ ⟨Nat.le_of_ble_eq_true rfl, Nat.le_of_ble_eq_true rfl⟩ hl.1 rfl (Nat.le_of_ble_eq_true rfl) dX9_power_13 ⟨Nat.zero_le _, Nat.zero_le _⟩ (fun r7 i7 g7 H locs hq hT hS => ?_)
    obtain ⟨eh7, rfl⟩ := hq
    rw [(Prod.mk.inj eh7).1, (Prod.mk.inj eh7).2] at hT
    refine q_lmul hx hb dX9_power_16 (fun y8 ey8 => ?_)
    exact hret y8 _ _ _ _ _ _ dX9_power_17 hT hS rfl
  ·
    have h9 : rg 2 2 a_b := ⟨by omega, by omega⟩
    refine lv_iload_n hx hb dX9_power_0 rfl (lv_at hl 1 rfl) ?_
    refine lv_if_ne (tgt := 8) hx hb dX9_power_1 (by decide) (fun c10 => ?_) (fun c10 => (x_eq h9 (rg_k (by decide) : rg 0 0 0) (i_eq c10) (by decide)).elim)
    have q10 : ¬ a_b.toInt = 0 := i_ne c10
    refine lv_lload_n hx hb dX9_power_8 rfl (lv_at hl 0 rfl) ?_
    refine lv_lload_n hx hb dX9_power_9 rfl (lv_at hl 0 rfl) ?_
    refine lv_iload_n hx hb dX9_power_10 rfl (lv_at hl 1 rfl) ?_
    refine lv_iconst (v := 1) hx hb dX9_power_11 (by decide) ?_
    refine q_isub hx hb dX9_power_12 (fun x11 ex11 => ?_)
    obtain ⟨hx11, ax11⟩ := rg_sub 1 1 ex11 h9 (rg_k (by decide) : rg 1 1 1) (by decide)
    replace ax11 : x11.toInt = a_b.toInt - 1 := ax11
    refine e_Sl (As := [.long a_a, .int x11]) (rest := [.long a_a]) X Y hT hS (m_X9_power_1 a_a x11 hx11) sk_X9_power gm_2045 hd_X9_power ⟨rfl, rfl⟩ ⟨Nat.le_of_ble_eq_true rfl, Nat.le_of_ble_eq_true rfl⟩ hl.1 rfl (Nat.le_of_ble_eq_true rfl) dX9_power_13 ⟨Nat.zero_le _, Nat.zero_le _⟩ (fun r12 i12 g12 H locs hq hT hS => ?_)
    have eh12 := hq
    rw [(Prod.mk.inj eh12).1, (Prod.mk.inj eh12).2] at hT
    refine q_lmul hx hb dX9_power_16 (fun y13 ey13 => ?_)
    exact hret y13 _ _ _ _ _ _ dX9_power_17 hT hS rfl
  ·
    have h14 : rg 3 3 a_b := ⟨by omega, by omega⟩
    refine lv_iload_n hx hb dX9_power_0 rfl (lv_at hl 1 rfl) ?_
    refine lv_if_ne (tgt := 8) hx hb dX9_power_1 (by decide) (fun c15 => ?_) (fun c15 => (x_eq h14 (rg_k (by decide) : rg 0 0 0) (i_eq c15) (by decide)).elim)
    have q15 : ¬ a_b.toInt = 0 := i_ne c15
    refine lv_lload_n hx hb dX9_power_8 rfl (lv_at hl 0 rfl) ?_
    refine lv_lload_n hx hb dX9_power_9 rfl (lv_at hl 0 rfl) ?_
    refine lv_iload_n hx hb dX9_power_10 rfl (lv_at hl 1 rfl) ?_
    refine lv_iconst (v := 1) hx hb dX9_power_11 (by decide) ?_
    refine q_isub hx hb dX9_power_12 (fun x16 ex16 => ?_)
    obtain ⟨hx16, ax16⟩ := rg_sub 2 2 ex16 h14 (rg_k (by decide) : rg 1 1 1) (by decide)
    replace ax16 : x16.toInt = a_b.toInt - 1 := ax16
    refine e_Sl (As := [.long a_a, .int x16]) (rest := [.long a_a]) X Y hT hS (m_X9_power_2 a_a x16 hx16) sk_X9_power gm_2045 hd_X9_power ⟨rfl, rfl⟩ ⟨Nat.le_of_ble_eq_true rfl, Nat.le_of_ble_eq_true rfl⟩ hl.1 rfl (Nat.le_of_ble_eq_true rfl) dX9_power_13 ⟨Nat.zero_le _, Nat.zero_le _⟩ (fun r17 i17 g17 H locs hq hT hS => ?_)
    have eh17 := hq
    rw [(Prod.mk.inj eh17).1, (Prod.mk.inj eh17).2] at hT
    refine q_lmul hx hb dX9_power_16 (fun y18 ey18 => ?_)
    exact hret y18 _ _ _ _ _ _ dX9_power_17 hT hS rfl
  ·
    have h19 : rg 4 4 a_b := ⟨by omega, by omega⟩
    refine lv_iload_n hx hb dX9_power_0 rfl (lv_at hl 1 rfl) ?_
    refine lv_if_ne (tgt := 8) hx hb dX9_power_1 (by decide) (fun c20 => ?_) (fun c20 => (x_eq h19 (rg_k (by decide) : rg 0 0 0) (i_eq c20) (by decide)).elim)
    have q20 : ¬ a_b.toInt = 0 := i_ne c20
    refine lv_lload_n hx hb dX9_power_8 rfl (lv_at hl 0 rfl) ?_
    refine lv_lload_n hx hb dX9_power_9 rfl (lv_at hl 0 rfl) ?_
    refine lv_iload_n hx hb dX9_power_10 rfl (lv_at hl 1 rfl) ?_
    refine lv_iconst (v := 1) hx hb dX9_power_11 (by decide) ?_
    refine q_isub hx hb dX9_power_12 (fun x21 ex21 => ?_)
    obtain ⟨hx21, ax21⟩ := rg_sub 3 3 ex21 h19 (rg_k (by decide) : rg 1 1 1) (by decide)
    replace ax21 : x21.toInt = a_b.toInt - 1 := ax21
    refine e_Sl (As := [.long a_a, .int x21]) (rest := [.long a_a]) X Y hT hS (m_X9_power_3 a_a x21 hx21) sk_X9_power gm_2045 hd_X9_power ⟨rfl, rfl⟩ ⟨Nat.le_of_ble_eq_true rfl, Nat.le_of_ble_eq_true rfl⟩ hl.1 rfl (Nat.le_of_ble_eq_true rfl) dX9_power_13 ⟨Nat.zero_le _, Nat.zero_le _⟩ (fun r22 i22 g22 H locs hq hT hS => ?_)
    have eh22 := hq
    rw [(Prod.mk.inj eh22).1, (Prod.mk.inj eh22).2] at hT
    refine q_lmul hx hb dX9_power_16 (fun y23 ey23 => ?_)
    exact hret y23 _ _ _ _ _ _ dX9_power_17 hT hS rfl
  ·
    have h24 : rg 5 5 a_b := ⟨by omega, by omega⟩
    refine lv_iload_n hx hb dX9_power_0 rfl (lv_at hl 1 rfl) ?_
    refine lv_if_ne (tgt := 8) hx hb dX9_power_1 (by decide) (fun c25 => ?_) (fun c25 => (x_eq h24 (rg_k (by decide) : rg 0 0 0) (i_eq c25) (by decide)).elim)
    have q25 : ¬ a_b.toInt = 0 := i_ne c25
    refine lv_lload_n hx hb dX9_power_8 rfl (lv_at hl 0 rfl) ?_
    refine lv_lload_n hx hb dX9_power_9 rfl (lv_at hl 0 rfl) ?_
    refine lv_iload_n hx hb dX9_power_10 rfl (lv_at hl 1 rfl) ?_
    refine lv_iconst (v := 1) hx hb dX9_power_11 (by decide) ?_
    refine q_isub hx hb dX9_power_12 (fun x26 ex26 => ?_)
    obtain ⟨hx26, ax26⟩ := rg_sub 4 4 ex26 h24 (rg_k (by decide) : rg 1 1 1) (by decide)
    replace ax26 : x26.toInt = a_b.toInt - 1 := ax26
    refine e_Sl (As := [.long a_a, .int x26]) (rest := [.long a_a]) X Y hT hS (m_X9_power_4 a_a x26 hx26) sk_X9_power gm_2045 hd_X9_power ⟨rfl, rfl⟩ ⟨Nat.le_of_ble_eq_true rfl, Nat.le_of_ble_eq_true rfl⟩ hl.1 rfl (Nat.le_of_ble_eq_true rfl) dX9_power_13 ⟨Nat.zero_le _, Nat.zero_le _⟩ (fun r27 i27 g27 H locs hq hT hS => ?_)
    have eh27 := hq
    rw [(Prod.mk.inj eh27).1, (Prod.mk.inj eh27).2] at hT
    refine q_lmul hx hb dX9_power_16 (fun y28 ey28 => ?_)
    exact hret y28 _ _ _ _ _ _ dX9_power_17 hT hS rfl
  ·
    have h29 : rg 6 6 a_b := ⟨by omega, by omega⟩
    refine lv_iload_n hx hb dX9_power_0 rfl (lv_at hl 1 rfl) ?_
    refine lv_if_ne (tgt := 8) hx hb dX9_power_1 (by decide) (fun c30 => ?_) (fun c30 => (x_eq h29 (rg_k (by decide) : rg 0 0 0) (i_eq c30) (by decide)).elim)
    have q30 : ¬ a_b.toInt = 0 := i_ne c30
    refine lv_lload_n hx hb dX9_power_8 rfl (lv_at hl 0 rfl) ?_
    refine lv_lload_n hx hb dX9_power_9 rfl (lv_at hl 0 rfl) ?_
    refine lv_iload_n hx hb dX9_power_10 rfl (lv_at hl 1 rfl) ?_
    refine lv_iconst (v := 1) hx hb dX9_power_11 (by decide) ?_
    refine q_isub hx hb dX9_power_12 (fun x31 ex31 => ?_)
    obtain ⟨hx31, ax31⟩ := rg_sub 5 5 ex31 h29 (rg_k (by decide) : rg 1 1 1) (by decide)
    replace ax31 : x31.toInt = a_b.toInt - 1 := ax31
    refine e_Sl (As := [.long a_a, .int x31]) (rest := [.long a_a]) X Y hT hS (m_X9_power_5 a_a x31 hx31) sk_X9_power gm_2045 hd_X9_power ⟨rfl, rfl⟩ ⟨Nat.le_of_ble_eq_true rfl, Nat.le_of_ble_eq_true rfl⟩ hl.1 rfl (Nat.le_of_ble_eq_true rfl) dX9_power_13 ⟨Nat.zero_le _, Nat.zero_le _⟩ (fun r32 i32 g32 H locs hq hT hS => ?_)
    have eh32 := hq
    rw [(Prod.mk.inj eh32).1, (Prod.mk.inj eh32).2] at hT
    refine q_lmul hx hb dX9_power_16 (fun y33 ey33 => ?_)
    exact hret y33 _ _ _ _ _ _ dX9_power_17 hT hS rfl
set_option maxRecDepth 100000 in
set_option maxHeartbeats 4000000 in
theorem m_X9_power_0t7 {l : Launch} {D : va_G} {h : Nat → Nat} {cz : Nat → ClassId} {z : EZ} {i : Nat → Nat → Int32} {g : Nat → Nat → Int64} (a_a : Int64) (a_b : Int32) (ha_b : rg 0 7 a_b) : DtL l yX9_power cX9_power 3 (some .long) ({ frames := 7, cells := 0, slots := 0, locals := 154 } : Room) D h cz z i g [.long a_a, .int a_b] (fun r u => u = (i, g)) := by
  refine e_L pn_X9_power (Nat.le_of_ble_eq_true rfl) ?_
  intro p e s m args below meth c ls Q X Y hret hT hl hS
  have hx := X.1
  have hb := X.2.1
  have hl : lv_has ls 3 [(0, .long a_a), (2, .int a_b)] := hl
  rcases (show a_b.toInt = 0 ∨ a_b.toInt = 1 ∨ a_b.toInt = 2 ∨ a_b.toInt = 3 ∨ a_b.toInt = 4 ∨ a_b.toInt = 5 ∨ a_b.toInt = 6 ∨ a_b.toInt = 7 by have := ha_b.1; have := ha_b.2; omega) with f1 | f1 | f1 | f1 | f1 | f1 | f1 | f1
  ·
    have h2 : rg 0 0 a_b := ⟨by omega, by omega⟩
    refine lv_iload_n hx hb dX9_power_0 rfl (lv_at hl 1 rfl) ?_
    refine lv_if_ne (tgt := 8) hx hb dX9_power_1 (by decide) (fun c3 => (x_ne h2 (rg_k (by decide) : rg 0 0 0) (i_ne c3) (by decide)).elim) (fun c3 => ?_)
    have q3 : a_b.toInt = 0 := i_eq c3
    refine lv_lconst (v := 1) hx hb dX9_power_4 (by decide) ?_
    refine lv_goto (tgt := 17) hx hb dX9_power_5 (by decide) ?_
    exact hret 1 _ _ _ _ _ _ dX9_power_17 hT hS rfl
  ·
    have h4 : rg 1 1 a_b := ⟨by omega, by omega⟩
    refine lv_iload_n hx hb dX9_power_0 rfl (lv_at hl 1 rfl) ?_
    refine lv_if_ne (tgt := 8) hx hb dX9_power_1 (by decide) (fun c5 => ?_) (fun c5 => (x_eq h4 (rg_k (by decide) : rg 0 0 0) (i_eq c5) (by decide)).elim)
    have q5 : ¬ a_b.toInt = 0 := i_ne c5
    refine lv_lload_n hx hb dX9_power_8 rfl (lv_at hl 0 rfl) ?_
    refine lv_lload_n hx hb dX9_power_9 rfl (lv_at hl 0 rfl) ?_
    refine lv_iload_n hx hb dX9_power_10 rfl (lv_at hl 1 rfl) ?_
    refine lv_iconst (v := 1) hx hb dX9_power_11 (by decide) ?_
    refine q_isub hx hb dX9_power_12 (fun x6 ex6 => ?_)
    obtain ⟨hx6, ax6⟩ := rg_sub 0 0 ex6 h4 (rg_k (by decide) : rg 1 1 1) (by decide)
    replace ax6 : x6.toInt = a_b.toInt - 1 := ax6
    refine e_Sl (As := [.long a_a, .int x6]) (rest := [.long a_a]) X Y hT hS (m_X9_power_0 a_a x6 hx6) sk_X9_power gm_2045 hd_X9_power ⟨rfl, rfl⟩ ⟨Nat.le_of_ble_eq_true rfl, Nat.le_of_ble_eq_true rfl⟩ hl.1 rfl (Nat.le_of_ble_eq_true rfl) dX9_power_13 ⟨Nat.zero_le _, Nat.zero_le _⟩ (fun r7 i7 g7 H locs hq hT hS => ?_)
    obtain ⟨eh7, rfl⟩ := hq
    rw [(Prod.mk.inj eh7).1, (Prod.mk.inj eh7).2] at hT
    refine q_lmul hx hb dX9_power_16 (fun y8 ey8 => ?_)
    exact hret y8 _ _ _ _ _ _ dX9_power_17 hT hS rfl
  ·
    have h9 : rg 2 2 a_b := ⟨by omega, by omega⟩
    refine lv_iload_n hx hb dX9_power_0 rfl (lv_at hl 1 rfl) ?_
    refine lv_if_ne (tgt := 8) hx hb dX9_power_1 (by decide) (fun c10 => ?_) (fun c10 => (x_eq h9 (rg_k (by decide) : rg 0 0 0) (i_eq c10) (by decide)).elim)
    have q10 : ¬ a_b.toInt = 0 := i_ne c10
    refine lv_lload_n hx hb dX9_power_8 rfl (lv_at hl 0 rfl) ?_
    refine lv_lload_n hx hb dX9_power_9 rfl (lv_at hl 0 rfl) ?_
    refine lv_iload_n hx hb dX9_power_10 rfl (lv_at hl 1 rfl) ?_
    refine lv_iconst (v := 1) hx hb dX9_power_11 (by decide) ?_
    refine q_isub hx hb dX9_power_12 (fun x11 ex11 => ?_)
    obtain ⟨hx11, ax11⟩ := rg_sub 1 1 ex11 h9 (rg_k (by decide) : rg 1 1 1) (by decide)
    replace ax11 : x11.toInt = a_b.toInt - 1 := ax11
    refine e_Sl (As := [.long a_a, .int x11]) (rest := [.long a_a]) X Y hT hS (m_X9_power_1 a_a x11 hx11) sk_X9_power gm_2045 hd_X9_power ⟨rfl, rfl⟩ ⟨Nat.le_of_ble_eq_true rfl, Nat.le_of_ble_eq_true rfl⟩ hl.1 rfl (Nat.le_of_ble_eq_true rfl) dX9_power_13 ⟨Nat.zero_le _, Nat.zero_le _⟩ (fun r12 i12 g12 H locs hq hT hS => ?_)
    have eh12 := hq
    rw [(Prod.mk.inj eh12).1, (Prod.mk.inj eh12).2] at hT
    refine q_lmul hx hb dX9_power_16 (fun y13 ey13 => ?_)
    exact hret y13 _ _ _ _ _ _ dX9_power_17 hT hS rfl
  ·
    have h14 : rg 3 3 a_b := ⟨by omega, by omega⟩
    refine lv_iload_n hx hb dX9_power_0 rfl (lv_at hl 1 rfl) ?_
    refine lv_if_ne (tgt := 8) hx hb dX9_power_1 (by decide) (fun c15 => ?_) (fun c15 => (x_eq h14 (rg_k (by decide) : rg 0 0 0) (i_eq c15) (by decide)).elim)
    have q15 : ¬ a_b.toInt = 0 := i_ne c15
    refine lv_lload_n hx hb dX9_power_8 rfl (lv_at hl 0 rfl) ?_
    refine lv_lload_n hx hb dX9_power_9 rfl (lv_at hl 0 rfl) ?_
    refine lv_iload_n hx hb dX9_power_10 rfl (lv_at hl 1 rfl) ?_
    refine lv_iconst (v := 1) hx hb dX9_power_11 (by decide) ?_
    refine q_isub hx hb dX9_power_12 (fun x16 ex16 => ?_)
    obtain ⟨hx16, ax16⟩ := rg_sub 2 2 ex16 h14 (rg_k (by decide) : rg 1 1 1) (by decide)
    replace ax16 : x16.toInt = a_b.toInt - 1 := ax16
    refine e_Sl (As := [.long a_a, .int x16]) (rest := [.long a_a]) X Y hT hS (m_X9_power_2 a_a x16 hx16) sk_X9_power gm_2045 hd_X9_power ⟨rfl, rfl⟩ ⟨Nat.le_of_ble_eq_true rfl, Nat.le_of_ble_eq_true rfl⟩ hl.1 rfl (Nat.le_of_ble_eq_true rfl) dX9_power_13 ⟨Nat.zero_le _, Nat.zero_le _⟩ (fun r17 i17 g17 H locs hq hT hS => ?_)
    have eh17 := hq
    rw [(Prod.mk.inj eh17).1, (Prod.mk.inj eh17).2] at hT
    refine q_lmul hx hb dX9_power_16 (fun y18 ey18 => ?_)
    exact hret y18 _ _ _ _ _ _ dX9_power_17 hT hS rfl
  ·
    have h19 : rg 4 4 a_b := ⟨by omega, by omega⟩
    refine lv_iload_n hx hb dX9_power_0 rfl (lv_at hl 1 rfl) ?_
    refine lv_if_ne (tgt := 8) hx hb dX9_power_1 (by decide) (fun c20 => ?_) (fun c20 => (x_eq h19 (rg_k (by decide) : rg 0 0 0) (i_eq c20) (by decide)).elim)
    have q20 : ¬ a_b.toInt = 0 := i_ne c20
    refine lv_lload_n hx hb dX9_power_8 rfl (lv_at hl 0 rfl) ?_
    refine lv_lload_n hx hb dX9_power_9 rfl (lv_at hl 0 rfl) ?_
    refine lv_iload_n hx hb dX9_power_10 rfl (lv_at hl 1 rfl) ?_
    refine lv_iconst (v := 1) hx hb dX9_power_11 (by decide) ?_
    refine q_isub hx hb dX9_power_12 (fun x21 ex21 => ?_)
    obtain ⟨hx21, ax21⟩ := rg_sub 3 3 ex21 h19 (rg_k (by decide) : rg 1 1 1) (by decide)
    replace ax21 : x21.toInt = a_b.toInt - 1 := ax21
    refine e_Sl (As := [.long a_a, .int x21]) (rest := [.long a_a]) X Y hT hS (m_X9_power_3 a_a x21 hx21) sk_X9_power gm_2045 hd_X9_power ⟨rfl, rfl⟩ ⟨Nat.le_of_ble_eq_true rfl, Nat.le_of_ble_eq_true rfl⟩ hl.1 rfl (Nat.le_of_ble_eq_true rfl) dX9_power_13 ⟨Nat.zero_le _, Nat.zero_le _⟩ (fun r22 i22 g22 H locs hq hT hS => ?_)
    have eh22 := hq
    rw [(Prod.mk.inj eh22).1, (Prod.mk.inj eh22).2] at hT
    refine q_lmul hx hb dX9_power_16 (fun y23 ey23 => ?_)
    exact hret y23 _ _ _ _ _ _ dX9_power_17 hT hS rfl
  ·
    have h24 : rg 5 5 a_b := ⟨by omega, by omega⟩
    refine lv_iload_n hx hb dX9_power_0 rfl (lv_at hl 1 rfl) ?_
    refine lv_if_ne (tgt := 8) hx hb dX9_power_1 (by decide) (fun c25 => ?_) (fun c25 => (x_eq h24 (rg_k (by decide) : rg 0 0 0) (i_eq c25) (by decide)).elim)
    have q25 : ¬ a_b.toInt = 0 := i_ne c25
    refine lv_lload_n hx hb dX9_power_8 rfl (lv_at hl 0 rfl) ?_
    refine lv_lload_n hx hb dX9_power_9 rfl (lv_at hl 0 rfl) ?_
    refine lv_iload_n hx hb dX9_power_10 rfl (lv_at hl 1 rfl) ?_
    refine lv_iconst (v := 1) hx hb dX9_power_11 (by decide) ?_
    refine q_isub hx hb dX9_power_12 (fun x26 ex26 => ?_)
    obtain ⟨hx26, ax26⟩ := rg_sub 4 4 ex26 h24 (rg_k (by decide) : rg 1 1 1) (by decide)
    replace ax26 : x26.toInt = a_b.toInt - 1 := ax26
    refine e_Sl (As := [.long a_a, .int x26]) (rest := [.long a_a]) X Y hT hS (m_X9_power_4 a_a x26 hx26) sk_X9_power gm_2045 hd_X9_power ⟨rfl, rfl⟩ ⟨Nat.le_of_ble_eq_true rfl, Nat.le_of_ble_eq_true rfl⟩ hl.1 rfl (Nat.le_of_ble_eq_true rfl) dX9_power_13 ⟨Nat.zero_le _, Nat.zero_le _⟩ (fun r27 i27 g27 H locs hq hT hS => ?_)
    have eh27 := hq
    rw [(Prod.mk.inj eh27).1, (Prod.mk.inj eh27).2] at hT
    refine q_lmul hx hb dX9_power_16 (fun y28 ey28 => ?_)
    exact hret y28 _ _ _ _ _ _ dX9_power_17 hT hS rfl
  ·
    have h29 : rg 6 6 a_b := ⟨by omega, by omega⟩
    refine lv_iload_n hx hb dX9_power_0 rfl (lv_at hl 1 rfl) ?_
    refine lv_if_ne (tgt := 8) hx hb dX9_power_1 (by decide) (fun c30 => ?_) (fun c30 => (x_eq h29 (rg_k (by decide) : rg 0 0 0) (i_eq c30) (by decide)).elim)
    have q30 : ¬ a_b.toInt = 0 := i_ne c30
    refine lv_lload_n hx hb dX9_power_8 rfl (lv_at hl 0 rfl) ?_
    refine lv_lload_n hx hb dX9_power_9 rfl (lv_at hl 0 rfl) ?_
    refine lv_iload_n hx hb dX9_power_10 rfl (lv_at hl 1 rfl) ?_
    refine lv_iconst (v := 1) hx hb dX9_power_11 (by decide) ?_
    refine q_isub hx hb dX9_power_12 (fun x31 ex31 => ?_)
    obtain ⟨hx31, ax31⟩ := rg_sub 5 5 ex31 h29 (rg_k (by decide) : rg 1 1 1) (by decide)
    replace ax31 : x31.toInt = a_b.toInt - 1 := ax31
    refine e_Sl (As := [.long a_a, .int x31]) (rest := [.long a_a]) X Y hT hS (m_X9_power_5 a_a x31 hx31) sk_X9_power gm_2045 hd_X9_power ⟨rfl, rfl⟩ ⟨Nat.le_of_ble_eq_true rfl, Nat.le_of_ble_eq_true rfl⟩ hl.1 rfl (Nat.le_of_ble_eq_true rfl) dX9_power_13 ⟨Nat.zero_le _, Nat.zero_le _⟩ (fun r32 i32 g32 H locs hq hT hS => ?_)
    have eh32 := hq
    rw [(Prod.mk.inj eh32).1, (Prod.mk.inj eh32).2] at hT
    refine q_lmul hx hb dX9_power_16 (fun y33 ey33 => ?_)
    exact hret y33 _ _ _ _ _ _ dX9_power_17 hT hS rfl
  ·
    have h34 : rg 7 7 a_b := ⟨by omega, by omega⟩
    refine lv_iload_n hx hb dX9_power_0 rfl (lv_at hl 1 rfl) ?_
    refine lv_if_ne (tgt := 8) hx hb dX9_power_1 (by decide) (fun c35 => ?_) (fun c35 => (x_eq h34 (rg_k (by decide) : rg 0 0 0) (i_eq c35) (by decide)).elim)
    have q35 : ¬ a_b.toInt = 0 := i_ne c35
    refine lv_lload_n hx hb dX9_power_8 rfl (lv_at hl 0 rfl) ?_
    refine lv_lload_n hx hb dX9_power_9 rfl (lv_at hl 0 rfl) ?_
    refine lv_iload_n hx hb dX9_power_10 rfl (lv_at hl 1 rfl) ?_
    refine lv_iconst (v := 1) hx hb dX9_power_11 (by decide) ?_
    refine q_isub hx hb dX9_power_12 (fun x36 ex36 => ?_)
    obtain ⟨hx36, ax36⟩ := rg_sub 6 6 ex36 h34 (rg_k (by decide) : rg 1 1 1) (by decide)
    replace ax36 : x36.toInt = a_b.toInt - 1 := ax36
    refine e_Sl (As := [.long a_a, .int x36]) (rest := [.long a_a]) X Y hT hS (m_X9_power_6 a_a x36 hx36) sk_X9_power gm_2045 hd_X9_power ⟨rfl, rfl⟩ ⟨Nat.le_of_ble_eq_true rfl, Nat.le_of_ble_eq_true rfl⟩ hl.1 rfl (Nat.le_of_ble_eq_true rfl) dX9_power_13 ⟨Nat.zero_le _, Nat.zero_le _⟩ (fun r37 i37 g37 H locs hq hT hS => ?_)
    have eh37 := hq
    rw [(Prod.mk.inj eh37).1, (Prod.mk.inj eh37).2] at hT
    refine q_lmul hx hb dX9_power_16 (fun y38 ey38 => ?_)
    exact hret y38 _ _ _ _ _ _ dX9_power_17 hT hS rfl
