set_option maxRecDepth 100000 in
set_option maxHeartbeats 4000000 in
theorem m_X9_copyRow_106_16_3_0 {l : Launch} {D : va_G} {h : Nat → Nat} {cz : Nat → ClassId} {z : EZ} {i : Nat → Nat → Int32} {g : Nat → Nat → Int64} (hR : Rg rA i) (a_b : Int32) (a_c : Int32) (a_d : Int32) (ha_b : rg 16 16 a_b) (ha_c : rg 3 3 a_c) (ha_d : rg 0 0 a_d) : DtV l yX9_copyRow cX9_copyRow 5 none ({ frames := 0, cells := 0, slots := 0, locals := 0 } : Room) D h cz z i g [.ref (h 106), .int a_b, .int a_c, .int a_d] (fun u => Rg rA u.1 ∧ Fr [106] [] i g u) := by
  refine e_V pn_X9_copyRow (Nat.le_of_ble_eq_true rfl) ?_
  intro p e s m args below meth c ls Q X Y hret hT hl hS
  have hx := X.1
  have hb := X.2.1
  have hl : lv_has ls 5 [(0, .ref (h 106)), (1, .int a_b), (2, .int a_c), (3, .int a_d)] := hl
  have hF : Fr [106] [] i g (i, g) := Fr_rf _ _ _ _
  refine lv_iconst (v := 0) hx hb dX9_copyRow_0 (by decide) ?_
  refine lv_istore (lv' := [(4, .int 0), (0, .ref (h 106)), (1, .int a_b), (2, .int a_c), (3, .int a_d)]) hx hb dX9_copyRow_1 hl (by decide) rfl (fun ls hl => ?_)
  have L3_1 : ∀ (n3_ : Nat) (x3_4 : Int32) (i2 : Nat → Nat → Int32) (g2 : Nat → Nat → Int64) (H : Heap) (locs : List Loc) (ls : Array Slot), rg 0 20 x3_4 → Rg rA i2 → Fr [106] [] i g (i2, g2) → TH D h cz i2 g2 H → va_S (hA h) s.heap H locs → lv_has ls 5 [(0, .ref (h 106)), (1, .int a_b), (2, .int a_c), (3, .int a_d), (4, .int x3_4)] → (20 - x3_4.toInt).toNat < n3_ → W p l e ({ frames := 0, cells := 0, slots := 0, locals := 0 } : Room) s m args below meth c H locs 0 0 Q (F0 m 3 ls []) := by
    intro n3_
    induction n3_ with
    | zero => intro x3_4 i2 g2 H locs ls hhx3_4 hR2 hF2 hT hS hl hm3_; exact absurd hm3_ (Nat.not_lt_zero _)
    | succ n3_ ih3_ =>
      intro x3_4 i2 g2 H locs ls hhx3_4 hR2 hF2 hT hS hl hm3_
      refine lv_iload hx hb dX9_copyRow_3 (lv_at hl 4 rfl) ?_
      refine lv_iload_n hx hb dX9_copyRow_5 rfl (lv_at hl 1 rfl) ?_
      refine lv_icmp_ge (tgt := 31) hx hb dX9_copyRow_6 (by decide) (fun c4 => ?_) (fun c4 => ?_)
      ·
        have q4 : a_b.toInt ≤ x3_4.toInt := i_le c4
        have h5 : rg 16 20 x3_4 := t_ley 16 20 ha_b hhx3_4 (i_le c4) (by decide)
        exact hret _ _ _ _ _ _ dX9_copyRow_31 hT hS ⟨hR2, hF2⟩
      ·
        have q4 : x3_4.toInt < a_b.toInt := i_nle c4
        have h6 : rg 0 15 x3_4 := t_ltx 0 15 hhx3_4 ha_b (i_nle c4) (by decide)
        refine lv_aload_n hx hb dX9_copyRow_9 rfl (lv_at hl 0 rfl) ?_
        refine lv_iload_n hx hb dX9_copyRow_10 rfl (lv_at hl 1 rfl) ?_
        refine lv_iload_n hx hb dX9_copyRow_11 rfl (lv_at hl 3 rfl) ?_
        refine q_imul hx hb dX9_copyRow_12 (fun x7 ex7 => ?_)
        obtain ⟨hx7, ax7⟩ := rg_mul 0 0 ex7 ha_b ha_d (by decide)
        replace ax7 : x7.toInt = a_b.toInt * a_d.toInt := ax7
        refine lv_iload hx hb dX9_copyRow_13 (lv_at hl 4 rfl) ?_
        refine q_iadd hx hb dX9_copyRow_15 (fun x8 ex8 => ?_)
        obtain ⟨hx8, ax8⟩ := rg_add 0 15 ex8 hx7 h6 (by decide)
        replace ax8 : x8.toInt = x7.toInt + x3_4.toInt := ax8
        replace ax8 : x8.toInt = x3_4.toInt + 0 := by have := hx7.1; have := hx7.2; omega
        refine lv_aload_n hx hb dX9_copyRow_16 rfl (lv_at hl 0 rfl) ?_
        refine lv_iload_n hx hb dX9_copyRow_17 rfl (lv_at hl 1 rfl) ?_
        refine lv_iload_n hx hb dX9_copyRow_18 rfl (lv_at hl 2 rfl) ?_
        refine q_imul hx hb dX9_copyRow_19 (fun x9 ex9 => ?_)
        obtain ⟨hx9, ax9⟩ := rg_mul 48 48 ex9 ha_b ha_c (by decide)
        replace ax9 : x9.toInt = a_b.toInt * a_c.toInt := ax9
        refine lv_iload hx hb dX9_copyRow_20 (lv_at hl 4 rfl) ?_
        refine q_iadd hx hb dX9_copyRow_22 (fun x10 ex10 => ?_)
        obtain ⟨hx10, ax10⟩ := rg_add 48 63 ex10 hx9 h6 (by decide)
        replace ax10 : x10.toInt = x9.toInt + x3_4.toInt := ax10
        replace ax10 : x10.toInt = x3_4.toInt + 48 := by have := hx9.1; have := hx9.2; omega
        refine r_iald X hT 106 rfl (by decide) (v_in hx10 (by decide)) dX9_copyRow_23 ?_
        have h11 : rg 0 11 (i2 106 x10.toNatClampNeg) := Rg_ata hR2 106 x10.toNatClampNeg 0 11 (v_lt (v_in hx10 (by decide))) (aff_at (m := 1) (a := 0) (n := 16) (c := 48) (by decide) (v := x3_4.toInt) ⟨by have := h6.1; omega, by have := h6.2; omega⟩ (by have := ax10; omega))
        refine r_iast X hT hS 106 rfl (by decide) (v_in hx8 (by decide)) dX9_copyRow_24 (fun H locs i12 ei12 hT hS => ?_)
        have hR12 := Rg_mv hR2 ei12 (v_lt (v_in hx10 (by decide))) (aff_mv (T := rA) (j := 106) (m := 1) (a := 0) (n := 16) (c := 0) (c1 := 48) (by decide) (v := x3_4.toInt) ⟨by have := h6.1; omega, by have := h6.2; omega⟩ (by have := ax8; omega) (by have := ax10; omega))
        have hF12 := Fr_puti hF2 ei12 (by decide)
        obtain ⟨x13, ex13⟩ : ∃ y : Int32, y = x3_4 + 1 := ⟨_, rfl⟩
        refine lv_iinc (v := x13) (lv' := [(4, .int x13), (0, .ref (h 106)), (1, .int a_b), (2, .int a_c), (3, .int a_d)]) hx hb dX9_copyRow_25 hl (k := 4) rfl (by rw [ex13]; rfl) (by decide) rfl (fun ls hl => ?_)
        obtain ⟨hx13, ax13⟩ := rg_add 1 16 ex13 h6 (rg_k (by decide) : rg 1 1 1) (by decide)
        replace ax13 : x13.toInt = x3_4.toInt + 1 := ax13
        refine lv_goto (tgt := 3) hx hb dX9_copyRow_28 (by decide) ?_
        exact ih3_ x13 i12 g2 _ _ _ (rg_w hx13 (by decide) : rg 0 20 x13) hR12 hF12 hT hS (lv_sub hl [1, 2, 3, 4, 0] rfl) (m_up ax13 hx13 (by decide) hm3_)
  exact L3_1 _ (0) i g _ _ _ (rg_w (rg_k (by decide) : rg 0 0 0) (by decide) : rg 0 20 0) hR hF hT hS (lv_sub hl [1, 2, 3, 4, 0] rfl) (Nat.lt_succ_self _)
set_option maxRecDepth 100000 in
set_option maxHeartbeats 4000000 in
theorem m_X9_copyRow_107_60_3_0 {l : Launch} {D : va_G} {h : Nat → Nat} {cz : Nat → ClassId} {z : EZ} {i : Nat → Nat → Int32} {g : Nat → Nat → Int64} (hR : Rg rA i) (a_b : Int32) (a_c : Int32) (a_d : Int32) (ha_b : rg 60 60 a_b) (ha_c : rg 3 3 a_c) (ha_d : rg 0 0 a_d) : DtV l yX9_copyRow cX9_copyRow 5 none ({ frames := 0, cells := 0, slots := 0, locals := 0 } : Room) D h cz z i g [.ref (h 107), .int a_b, .int a_c, .int a_d] (fun u => Rg rA u.1 ∧ Fr [107] [] i g u) := by
  refine e_V pn_X9_copyRow (Nat.le_of_ble_eq_true rfl) ?_
  intro p e s m args below meth c ls Q X Y hret hT hl hS
  have hx := X.1
  have hb := X.2.1
  have hl : lv_has ls 5 [(0, .ref (h 107)), (1, .int a_b), (2, .int a_c), (3, .int a_d)] := hl
  have hF : Fr [107] [] i g (i, g) := Fr_rf _ _ _ _
  refine lv_iconst (v := 0) hx hb dX9_copyRow_0 (by decide) ?_
  refine lv_istore (lv' := [(4, .int 0), (0, .ref (h 107)), (1, .int a_b), (2, .int a_c), (3, .int a_d)]) hx hb dX9_copyRow_1 hl (by decide) rfl (fun ls hl => ?_)
  have L3_1 : ∀ (n3_ : Nat) (x3_4 : Int32) (i2 : Nat → Nat → Int32) (g2 : Nat → Nat → Int64) (H : Heap) (locs : List Loc) (ls : Array Slot), rg 0 60 x3_4 → Rg rA i2 → Fr [107] [] i g (i2, g2) → TH D h cz i2 g2 H → va_S (hA h) s.heap H locs → lv_has ls 5 [(0, .ref (h 107)), (1, .int a_b), (2, .int a_c), (3, .int a_d), (4, .int x3_4)] → (60 - x3_4.toInt).toNat < n3_ → W p l e ({ frames := 0, cells := 0, slots := 0, locals := 0 } : Room) s m args below meth c H locs 0 0 Q (F0 m 3 ls []) := by
    intro n3_
    induction n3_ with
    | zero => intro x3_4 i2 g2 H locs ls hhx3_4 hR2 hF2 hT hS hl hm3_; exact absurd hm3_ (Nat.not_lt_zero _)
    | succ n3_ ih3_ =>
      intro x3_4 i2 g2 H locs ls hhx3_4 hR2 hF2 hT hS hl hm3_
      refine lv_iload hx hb dX9_copyRow_3 (lv_at hl 4 rfl) ?_
      refine lv_iload_n hx hb dX9_copyRow_5 rfl (lv_at hl 1 rfl) ?_
      refine lv_icmp_ge (tgt := 31) hx hb dX9_copyRow_6 (by decide) (fun c4 => ?_) (fun c4 => ?_)
      ·
        have q4 : a_b.toInt ≤ x3_4.toInt := i_le c4
        have h5 : rg 60 60 x3_4 := t_ley 60 60 ha_b hhx3_4 (i_le c4) (by decide)
        exact hret _ _ _ _ _ _ dX9_copyRow_31 hT hS ⟨hR2, hF2⟩
      ·
        have q4 : x3_4.toInt < a_b.toInt := i_nle c4
        have h6 : rg 0 59 x3_4 := t_ltx 0 59 hhx3_4 ha_b (i_nle c4) (by decide)
        refine lv_aload_n hx hb dX9_copyRow_9 rfl (lv_at hl 0 rfl) ?_
        refine lv_iload_n hx hb dX9_copyRow_10 rfl (lv_at hl 1 rfl) ?_
        refine lv_iload_n hx hb dX9_copyRow_11 rfl (lv_at hl 3 rfl) ?_
        refine q_imul hx hb dX9_copyRow_12 (fun x7 ex7 => ?_)
        obtain ⟨hx7, ax7⟩ := rg_mul 0 0 ex7 ha_b ha_d (by decide)
        replace ax7 : x7.toInt = a_b.toInt * a_d.toInt := ax7
        refine lv_iload hx hb dX9_copyRow_13 (lv_at hl 4 rfl) ?_
        refine q_iadd hx hb dX9_copyRow_15 (fun x8 ex8 => ?_)
        obtain ⟨hx8, ax8⟩ := rg_add 0 59 ex8 hx7 h6 (by decide)
        replace ax8 : x8.toInt = x7.toInt + x3_4.toInt := ax8
        replace ax8 : x8.toInt = x3_4.toInt + 0 := by have := hx7.1; have := hx7.2; omega
        refine lv_aload_n hx hb dX9_copyRow_16 rfl (lv_at hl 0 rfl) ?_
        refine lv_iload_n hx hb dX9_copyRow_17 rfl (lv_at hl 1 rfl) ?_
        refine lv_iload_n hx hb dX9_copyRow_18 rfl (lv_at hl 2 rfl) ?_
        refine q_imul hx hb dX9_copyRow_19 (fun x9 ex9 => ?_)
        obtain ⟨hx9, ax9⟩ := rg_mul 180 180 ex9 ha_b ha_c (by decide)
        replace ax9 : x9.toInt = a_b.toInt * a_c.toInt := ax9
        refine lv_iload hx hb dX9_copyRow_20 (lv_at hl 4 rfl) ?_
        refine q_iadd hx hb dX9_copyRow_22 (fun x10 ex10 => ?_)
        obtain ⟨hx10, ax10⟩ := rg_add 180 239 ex10 hx9 h6 (by decide)
        replace ax10 : x10.toInt = x9.toInt + x3_4.toInt := ax10
        replace ax10 : x10.toInt = x3_4.toInt + 180 := by have := hx9.1; have := hx9.2; omega
        refine r_iald X hT 107 rfl (by decide) (v_in hx10 (by decide)) dX9_copyRow_23 ?_
        have h11 : rg 0 11 (i2 107 x10.toNatClampNeg) := Rg_ata hR2 107 x10.toNatClampNeg 0 11 (v_lt (v_in hx10 (by decide))) (aff_at (m := 1) (a := 0) (n := 60) (c := 180) (by decide) (v := x3_4.toInt) ⟨by have := h6.1; omega, by have := h6.2; omega⟩ (by have := ax10; omega))
        refine r_iast X hT hS 107 rfl (by decide) (v_in hx8 (by decide)) dX9_copyRow_24 (fun H locs i12 ei12 hT hS => ?_)
        have hR12 := Rg_mv hR2 ei12 (v_lt (v_in hx10 (by decide))) (aff_mv (T := rA) (j := 107) (m := 1) (a := 0) (n := 60) (c := 0) (c1 := 180) (by decide) (v := x3_4.toInt) ⟨by have := h6.1; omega, by have := h6.2; omega⟩ (by have := ax8; omega) (by have := ax10; omega))
        have hF12 := Fr_puti hF2 ei12 (by decide)
        obtain ⟨x13, ex13⟩ : ∃ y : Int32, y = x3_4 + 1 := ⟨_, rfl⟩
        refine lv_iinc (v := x13) (lv' := [(4, .int x13), (0, .ref (h 107)), (1, .int a_b), (2, .int a_c), (3, .int a_d)]) hx hb dX9_copyRow_25 hl (k := 4) rfl (by rw [ex13]; rfl) (by decide) rfl (fun ls hl => ?_)
        obtain ⟨hx13, ax13⟩ := rg_add 1 60 ex13 h6 (rg_k (by decide) : rg 1 1 1) (by decide)
        replace ax13 : x13.toInt = x3_4.toInt + 1 := ax13
        refine lv_goto (tgt := 3) hx hb dX9_copyRow_28 (by decide) ?_
        exact ih3_ x13 i12 g2 _ _ _ (rg_w hx13 (by decide) : rg 0 60 x13) hR12 hF12 hT hS (lv_sub hl [1, 2, 3, 4, 0] rfl) (m_up ax13 hx13 (by decide) hm3_)
  exact L3_1 _ (0) i g _ _ _ (rg_w (rg_k (by decide) : rg 0 0 0) (by decide) : rg 0 60 0) hR hF hT hS (lv_sub hl [1, 2, 3, 4, 0] rfl) (Nat.lt_succ_self _)
set_option maxRecDepth 100000 in
set_option maxHeartbeats 4000000 in
theorem m_X9_copyTale_1t3_0t0 {l : Launch} {D : va_G} {h : Nat → Nat} {cz : Nat → ClassId} {z : EZ} {i : Nat → Nat → Int32} {g : Nat → Nat → Int64} (hR : Rg rA i) (a_a : Int32) (a_b : Int32) (ha_a : rg 1 3 a_a) (ha_b : rg 0 0 a_b) : DtV l yX9_copyTale cX9_copyTale 3 none ({ frames := 1, cells := 0, slots := 0, locals := 24 } : Room) D h cz z i g [.ref (h 96), .int a_a, .int a_b] (fun u => Rg rA u.1 ∧ Fr [102, 103, 104, 105, 106, 107] [] i g u) := by
  refine e_V pn_X9_copyTale (Nat.le_of_ble_eq_true rfl) ?_
  intro p e s m args below meth c ls Q X Y hret hT hl hS
  have hx := X.1
  have hb := X.2.1
  have hl : lv_has ls 3 [(0, .ref (h 96)), (1, .int a_a), (2, .int a_b)] := hl
  have hF : Fr [102, 103, 104, 105, 106, 107] [] i g (i, g) := Fr_rf _ _ _ _
  rcases (show a_a.toInt = 1 ∨ a_a.toInt = 2 ∨ a_a.toInt = 3 by have := ha_a.1; have := ha_a.2; omega) with f1 | f1 | f1
  ·
    have h2 : rg 1 1 a_a := ⟨by omega, by omega⟩
    refine lv_aload_n hx hb dX9_copyTale_0 rfl (lv_at hl 0 rfl) ?_
    refine r_getr X hT 96 16 102 fk_9_31 rfl rfl (by decide) dX9_copyTale_1 ?_
    refine lv_iconst (v := 1) hx hb dX9_copyTale_4 (by decide) ?_
    refine lv_iload_n hx hb dX9_copyTale_5 rfl (lv_at hl 1 rfl) ?_
    refine lv_iload_n hx hb dX9_copyTale_6 rfl (lv_at hl 2 rfl) ?_
    refine e_Sv (As := [.ref (h 102), .int 1, .int a_a, .int a_b]) (rest := []) X Y hT hS (m_X9_copyRow_102_1_1_0 hR (1) a_a a_b (rg_k (by decide) : rg 1 1 1) h2 ha_b) sk_X9_copyRow gm_1638 hd_X9_copyRow ⟨rfl, rfl⟩ ⟨Nat.le_of_ble_eq_true rfl, Nat.le_of_ble_eq_true rfl⟩ hl.1 rfl (Nat.le_of_ble_eq_true rfl) dX9_copyTale_7 ⟨Nat.zero_le _, Nat.zero_le _⟩ (fun i3 g3 H locs hq hT hS => ?_)
    obtain ⟨hR3, hf3⟩ := hq
    have hF3 := Fr_tr hF hf3 (by decide)
    refine lv_aload_n hx hb dX9_copyTale_10 rfl (lv_at hl 0 rfl) ?_
    refine r_getr X hT 96 17 103 fk_9_34 rfl rfl (by decide) dX9_copyTale_11 ?_
    refine lv_bipush (v := 7) hx hb dX9_copyTale_14 (by decide) ?_
    refine lv_iload_n hx hb dX9_copyTale_16 rfl (lv_at hl 1 rfl) ?_
    refine lv_iload_n hx hb dX9_copyTale_17 rfl (lv_at hl 2 rfl) ?_
    refine e_Sv (As := [.ref (h 103), .int 7, .int a_a, .int a_b]) (rest := []) X Y hT hS (m_X9_copyRow_103_7_1_0 hR3 (7) a_a a_b (rg_k (by decide) : rg 7 7 7) h2 ha_b) sk_X9_copyRow gm_1638 hd_X9_copyRow ⟨rfl, rfl⟩ ⟨Nat.le_of_ble_eq_true rfl, Nat.le_of_ble_eq_true rfl⟩ hl.1 rfl (Nat.le_of_ble_eq_true rfl) dX9_copyTale_18 ⟨Nat.zero_le _, Nat.zero_le _⟩ (fun i4 g4 H locs hq hT hS => ?_)
    obtain ⟨hR4, hf4⟩ := hq
    have hF4 := Fr_tr hF3 hf4 (by decide)
    refine lv_aload_n hx hb dX9_copyTale_21 rfl (lv_at hl 0 rfl) ?_
    refine r_getr X hT 96 18 104 fk_9_37 rfl rfl (by decide) dX9_copyTale_22 ?_
    refine lv_bipush (v := 18) hx hb dX9_copyTale_25 (by decide) ?_
    refine lv_iload_n hx hb dX9_copyTale_27 rfl (lv_at hl 1 rfl) ?_
    refine lv_iload_n hx hb dX9_copyTale_28 rfl (lv_at hl 2 rfl) ?_
    refine e_Sv (As := [.ref (h 104), .int 18, .int a_a, .int a_b]) (rest := []) X Y hT hS (m_X9_copyRow_104_18_1_0 hR4 (18) a_a a_b (rg_k (by decide) : rg 18 18 18) h2 ha_b) sk_X9_copyRow gm_1638 hd_X9_copyRow ⟨rfl, rfl⟩ ⟨Nat.le_of_ble_eq_true rfl, Nat.le_of_ble_eq_true rfl⟩ hl.1 rfl (Nat.le_of_ble_eq_true rfl) dX9_copyTale_29 ⟨Nat.zero_le _, Nat.zero_le _⟩ (fun i5 g5 H locs hq hT hS => ?_)
    obtain ⟨hR5, hf5⟩ := hq
    have hF5 := Fr_tr hF4 hf5 (by decide)
    refine lv_aload_n hx hb dX9_copyTale_32 rfl (lv_at hl 0 rfl) ?_
    refine r_getr X hT 96 19 105 fk_9_40 rfl rfl (by decide) dX9_copyTale_33 ?_
    refine lv_bipush (v := 20) hx hb dX9_copyTale_36 (by decide) ?_
    refine lv_iload_n hx hb dX9_copyTale_38 rfl (lv_at hl 1 rfl) ?_
    refine lv_iload_n hx hb dX9_copyTale_39 rfl (lv_at hl 2 rfl) ?_
    refine e_Sv (As := [.ref (h 105), .int 20, .int a_a, .int a_b]) (rest := []) X Y hT hS (m_X9_copyRow_105_20_1_0 hR5 (20) a_a a_b (rg_k (by decide) : rg 20 20 20) h2 ha_b) sk_X9_copyRow gm_1638 hd_X9_copyRow ⟨rfl, rfl⟩ ⟨Nat.le_of_ble_eq_true rfl, Nat.le_of_ble_eq_true rfl⟩ hl.1 rfl (Nat.le_of_ble_eq_true rfl) dX9_copyTale_40 ⟨Nat.zero_le _, Nat.zero_le _⟩ (fun i6 g6 H locs hq hT hS => ?_)
    obtain ⟨hR6, hf6⟩ := hq
    have hF6 := Fr_tr hF5 hf6 (by decide)
    refine lv_aload_n hx hb dX9_copyTale_43 rfl (lv_at hl 0 rfl) ?_
    refine r_getr X hT 96 20 106 fk_9_43 rfl rfl (by decide) dX9_copyTale_44 ?_
    refine lv_bipush (v := 16) hx hb dX9_copyTale_47 (by decide) ?_
    refine lv_iload_n hx hb dX9_copyTale_49 rfl (lv_at hl 1 rfl) ?_
    refine lv_iload_n hx hb dX9_copyTale_50 rfl (lv_at hl 2 rfl) ?_
    refine e_Sv (As := [.ref (h 106), .int 16, .int a_a, .int a_b]) (rest := []) X Y hT hS (m_X9_copyRow_106_16_1_0 hR6 (16) a_a a_b (rg_k (by decide) : rg 16 16 16) h2 ha_b) sk_X9_copyRow gm_1638 hd_X9_copyRow ⟨rfl, rfl⟩ ⟨Nat.le_of_ble_eq_true rfl, Nat.le_of_ble_eq_true rfl⟩ hl.1 rfl (Nat.le_of_ble_eq_true rfl) dX9_copyTale_51 ⟨Nat.zero_le _, Nat.zero_le _⟩ (fun i7 g7 H locs hq hT hS => ?_)
    obtain ⟨hR7, hf7⟩ := hq
    have hF7 := Fr_tr hF6 hf7 (by decide)
    refine lv_aload_n hx hb dX9_copyTale_54 rfl (lv_at hl 0 rfl) ?_
    refine r_getr X hT 96 21 107 fk_9_46 rfl rfl (by decide) dX9_copyTale_55 ?_
    refine lv_bipush (v := 60) hx hb dX9_copyTale_58 (by decide) ?_
    refine lv_iload_n hx hb dX9_copyTale_60 rfl (lv_at hl 1 rfl) ?_
    refine lv_iload_n hx hb dX9_copyTale_61 rfl (lv_at hl 2 rfl) ?_
    refine e_Sv (As := [.ref (h 107), .int 60, .int a_a, .int a_b]) (rest := []) X Y hT hS (m_X9_copyRow_107_60_1_0 hR7 (60) a_a a_b (rg_k (by decide) : rg 60 60 60) h2 ha_b) sk_X9_copyRow gm_1638 hd_X9_copyRow ⟨rfl, rfl⟩ ⟨Nat.le_of_ble_eq_true rfl, Nat.le_of_ble_eq_true rfl⟩ hl.1 rfl (Nat.le_of_ble_eq_true rfl) dX9_copyTale_62 ⟨Nat.zero_le _, Nat.zero_le _⟩ (fun i8 g8 H locs hq hT hS => ?_)
    obtain ⟨hR8, hf8⟩ := hq
    have hF8 := Fr_tr hF7 hf8 (by decide)
    exact hret _ _ _ _ _ _ dX9_copyTale_65 hT hS ⟨hR8, hF8⟩
  ·
    have h9 : rg 2 2 a_a := ⟨by omega, by omega⟩
    refine lv_aload_n hx hb dX9_copyTale_0 rfl (lv_at hl 0 rfl) ?_
    refine r_getr X hT 96 16 102 fk_9_31 rfl rfl (by decide) dX9_copyTale_1 ?_
    refine lv_iconst (v := 1) hx hb dX9_copyTale_4 (by decide) ?_
    refine lv_iload_n hx hb dX9_copyTale_5 rfl (lv_at hl 1 rfl) ?_
    refine lv_iload_n hx hb dX9_copyTale_6 rfl (lv_at hl 2 rfl) ?_
    refine e_Sv (As := [.ref (h 102), .int 1, .int a_a, .int a_b]) (rest := []) X Y hT hS (m_X9_copyRow_102_1_2_0 hR (1) a_a a_b (rg_k (by decide) : rg 1 1 1) h9 ha_b) sk_X9_copyRow gm_1638 hd_X9_copyRow ⟨rfl, rfl⟩ ⟨Nat.le_of_ble_eq_true rfl, Nat.le_of_ble_eq_true rfl⟩ hl.1 rfl (Nat.le_of_ble_eq_true rfl) dX9_copyTale_7 ⟨Nat.zero_le _, Nat.zero_le _⟩ (fun i10 g10 H locs hq hT hS => ?_)
    obtain ⟨hR10, hf10⟩ := hq
    have hF10 := Fr_tr hF hf10 (by decide)
    refine lv_aload_n hx hb dX9_copyTale_10 rfl (lv_at hl 0 rfl) ?_
    refine r_getr X hT 96 17 103 fk_9_34 rfl rfl (by decide) dX9_copyTale_11 ?_
    refine lv_bipush (v := 7) hx hb dX9_copyTale_14 (by decide) ?_
    refine lv_iload_n hx hb dX9_copyTale_16 rfl (lv_at hl 1 rfl) ?_
    refine lv_iload_n hx hb dX9_copyTale_17 rfl (lv_at hl 2 rfl) ?_
    refine e_Sv (As := [.ref (h 103), .int 7, .int a_a, .int a_b]) (rest := []) X Y hT hS (m_X9_copyRow_103_7_2_0 hR10 (7) a_a a_b (rg_k (by decide) : rg 7 7 7) h9 ha_b) sk_X9_copyRow gm_1638 hd_X9_copyRow ⟨rfl, rfl⟩ ⟨Nat.le_of_ble_eq_true rfl, Nat.le_of_ble_eq_true rfl⟩ hl.1 rfl (Nat.le_of_ble_eq_true rfl) dX9_copyTale_18 ⟨Nat.zero_le _, Nat.zero_le _⟩ (fun i11 g11 H locs hq hT hS => ?_)
    obtain ⟨hR11, hf11⟩ := hq
    have hF11 := Fr_tr hF10 hf11 (by decide)
    refine lv_aload_n hx hb dX9_copyTale_21 rfl (lv_at hl 0 rfl) ?_
    refine r_getr X hT 96 18 104 fk_9_37 rfl rfl (by decide) dX9_copyTale_22 ?_
    refine lv_bipush (v := 18) hx hb dX9_copyTale_25 (by decide) ?_
    refine lv_iload_n hx hb dX9_copyTale_27 rfl (lv_at hl 1 rfl) ?_
    refine lv_iload_n hx hb dX9_copyTale_28 rfl (lv_at hl 2 rfl) ?_
    refine e_Sv (As := [.ref (h 104), .int 18, .int a_a, .int a_b]) (rest := []) X Y hT hS (m_X9_copyRow_104_18_2_0 hR11 (18) a_a a_b (rg_k (by decide) : rg 18 18 18) h9 ha_b) sk_X9_copyRow gm_1638 hd_X9_copyRow ⟨rfl, rfl⟩ ⟨Nat.le_of_ble_eq_true rfl, Nat.le_of_ble_eq_true rfl⟩ hl.1 rfl (Nat.le_of_ble_eq_true rfl) dX9_copyTale_29 ⟨Nat.zero_le _, Nat.zero_le _⟩ (fun i12 g12 H locs hq hT hS => ?_)
    obtain ⟨hR12, hf12⟩ := hq
    have hF12 := Fr_tr hF11 hf12 (by decide)
    refine lv_aload_n hx hb dX9_copyTale_32 rfl (lv_at hl 0 rfl) ?_
    refine r_getr X hT 96 19 105 fk_9_40 rfl rfl (by decide) dX9_copyTale_33 ?_
    refine lv_bipush (v := 20) hx hb dX9_copyTale_36 (by decide) ?_
    refine lv_iload_n hx hb dX9_copyTale_38 rfl (lv_at hl 1 rfl) ?_
    refine lv_iload_n hx hb dX9_copyTale_39 rfl (lv_at hl 2 rfl) ?_
    refine e_Sv (As := [.ref (h 105), .int 20, .int a_a, .int a_b]) (rest := []) X Y hT hS (m_X9_copyRow_105_20_2_0 hR12 (20) a_a a_b (rg_k (by decide) : rg 20 20 20) h9 ha_b) sk_X9_copyRow gm_1638 hd_X9_copyRow ⟨rfl, rfl⟩ ⟨Nat.le_of_ble_eq_true rfl, Nat.le_of_ble_eq_true rfl⟩ hl.1 rfl (Nat.le_of_ble_eq_true rfl) dX9_copyTale_40 ⟨Nat.zero_le _, Nat.zero_le _⟩ (fun i13 g13 H locs hq hT hS => ?_)
    obtain ⟨hR13, hf13⟩ := hq
    have hF13 := Fr_tr hF12 hf13 (by decide)
    refine lv_aload_n hx hb dX9_copyTale_43 rfl (lv_at hl 0 rfl) ?_
    refine r_getr X hT 96 20 106 fk_9_43 rfl rfl (by decide) dX9_copyTale_44 ?_
    refine lv_bipush (v := 16) hx hb dX9_copyTale_47 (by decide) ?_
    refine lv_iload_n hx hb dX9_copyTale_49 rfl (lv_at hl 1 rfl) ?_
    refine lv_iload_n hx hb dX9_copyTale_50 rfl (lv_at hl 2 rfl) ?_
    refine e_Sv (As := [.ref (h 106), .int 16, .int a_a, .int a_b]) (rest := []) X Y hT hS (m_X9_copyRow_106_16_2_0 hR13 (16) a_a a_b (rg_k (by decide) : rg 16 16 16) h9 ha_b) sk_X9_copyRow gm_1638 hd_X9_copyRow ⟨rfl, rfl⟩ ⟨Nat.le_of_ble_eq_true rfl, Nat.le_of_ble_eq_true rfl⟩ hl.1 rfl (Nat.le_of_ble_eq_true rfl) dX9_copyTale_51 ⟨Nat.zero_le _, Nat.zero_le _⟩ (fun i14 g14 H locs hq hT hS => ?_)
    obtain ⟨hR14, hf14⟩ := hq
    have hF14 := Fr_tr hF13 hf14 (by decide)
    refine lv_aload_n hx hb dX9_copyTale_54 rfl (lv_at hl 0 rfl) ?_
    refine r_getr X hT 96 21 107 fk_9_46 rfl rfl (by decide) dX9_copyTale_55 ?_
    refine lv_bipush (v := 60) hx hb dX9_copyTale_58 (by decide) ?_
    refine lv_iload_n hx hb dX9_copyTale_60 rfl (lv_at hl 1 rfl) ?_
    refine lv_iload_n hx hb dX9_copyTale_61 rfl (lv_at hl 2 rfl) ?_
    refine e_Sv (As := [.ref (h 107), .int 60, .int a_a, .int a_b]) (rest := []) X Y hT hS (m_X9_copyRow_107_60_2_0 hR14 (60) a_a a_b (rg_k (by decide) : rg 60 60 60) h9 ha_b) sk_X9_copyRow gm_1638 hd_X9_copyRow ⟨rfl, rfl⟩ ⟨Nat.le_of_ble_eq_true rfl, Nat.le_of_ble_eq_true rfl⟩ hl.1 rfl (Nat.le_of_ble_eq_true rfl) dX9_copyTale_62 ⟨Nat.zero_le _, Nat.zero_le _⟩ (fun i15 g15 H locs hq hT hS => ?_)
    obtain ⟨hR15, hf15⟩ := hq
    have hF15 := Fr_tr hF14 hf15 (by decide)
    exact hret _ _ _ _ _ _ dX9_copyTale_65 hT hS ⟨hR15, hF15⟩
  ·
    have h16 : rg 3 3 a_a := ⟨by omega, by omega⟩
    refine lv_aload_n hx hb dX9_copyTale_0 rfl (lv_at hl 0 rfl) ?_
    refine r_getr X hT 96 16 102 fk_9_31 rfl rfl (by decide) dX9_copyTale_1 ?_
    refine lv_iconst (v := 1) hx hb dX9_copyTale_4 (by decide) ?_
    refine lv_iload_n hx hb dX9_copyTale_5 rfl (lv_at hl 1 rfl) ?_
    refine lv_iload_n hx hb dX9_copyTale_6 rfl (lv_at hl 2 rfl) ?_
    refine e_Sv (As := [.ref (h 102), .int 1, .int a_a, .int a_b]) (rest := []) X Y hT hS (m_X9_copyRow_102_1_3_0 hR (1) a_a a_b (rg_k (by decide) : rg 1 1 1) h16 ha_b) sk_X9_copyRow gm_1638 hd_X9_copyRow ⟨rfl, rfl⟩ ⟨Nat.le_of_ble_eq_true rfl, Nat.le_of_ble_eq_true rfl⟩ hl.1 rfl (Nat.le_of_ble_eq_true rfl) dX9_copyTale_7 ⟨Nat.zero_le _, Nat.zero_le _⟩ (fun i17 g17 H locs hq hT hS => ?_)
    obtain ⟨hR17, hf17⟩ := hq
    have hF17 := Fr_tr hF hf17 (by decide)
    refine lv_aload_n hx hb dX9_copyTale_10 rfl (lv_at hl 0 rfl) ?_
    refine r_getr X hT 96 17 103 fk_9_34 rfl rfl (by decide) dX9_copyTale_11 ?_
    refine lv_bipush (v := 7) hx hb dX9_copyTale_14 (by decide) ?_
    refine lv_iload_n hx hb dX9_copyTale_16 rfl (lv_at hl 1 rfl) ?_
    refine lv_iload_n hx hb dX9_copyTale_17 rfl (lv_at hl 2 rfl) ?_
    refine e_Sv (As := [.ref (h 103), .int 7, .int a_a, .int a_b]) (rest := []) X Y hT hS (m_X9_copyRow_103_7_3_0 hR17 (7) a_a a_b (rg_k (by decide) : rg 7 7 7) h16 ha_b) sk_X9_copyRow gm_1638 hd_X9_copyRow ⟨rfl, rfl⟩ ⟨Nat.le_of_ble_eq_true rfl, Nat.le_of_ble_eq_true rfl⟩ hl.1 rfl (Nat.le_of_ble_eq_true rfl) dX9_copyTale_18 ⟨Nat.zero_le _, Nat.zero_le _⟩ (fun i18 g18 H locs hq hT hS => ?_)
    obtain ⟨hR18, hf18⟩ := hq
    have hF18 := Fr_tr hF17 hf18 (by decide)
    refine lv_aload_n hx hb dX9_copyTale_21 rfl (lv_at hl 0 rfl) ?_
    refine r_getr X hT 96 18 104 fk_9_37 rfl rfl (by decide) dX9_copyTale_22 ?_
    refine lv_bipush (v := 18) hx hb dX9_copyTale_25 (by decide) ?_
    refine lv_iload_n hx hb dX9_copyTale_27 rfl (lv_at hl 1 rfl) ?_
    refine lv_iload_n hx hb dX9_copyTale_28 rfl (lv_at hl 2 rfl) ?_
    refine e_Sv (As := [.ref (h 104), .int 18, .int a_a, .int a_b]) (rest := []) X Y hT hS (m_X9_copyRow_104_18_3_0 hR18 (18) a_a a_b (rg_k (by decide) : rg 18 18 18) h16 ha_b) sk_X9_copyRow gm_1638 hd_X9_copyRow ⟨rfl, rfl⟩ ⟨Nat.le_of_ble_eq_true rfl, Nat.le_of_ble_eq_true rfl⟩ hl.1 rfl (Nat.le_of_ble_eq_true rfl) dX9_copyTale_29 ⟨Nat.zero_le _, Nat.zero_le _⟩ (fun i19 g19 H locs hq hT hS => ?_)
    obtain ⟨hR19, hf19⟩ := hq
    have hF19 := Fr_tr hF18 hf19 (by decide)
    refine lv_aload_n hx hb dX9_copyTale_32 rfl (lv_at hl 0 rfl) ?_
    refine r_getr X hT 96 19 105 fk_9_40 rfl rfl (by decide) dX9_copyTale_33 ?_
    refine lv_bipush (v := 20) hx hb dX9_copyTale_36 (by decide) ?_
    refine lv_iload_n hx hb dX9_copyTale_38 rfl (lv_at hl 1 rfl) ?_
    refine lv_iload_n hx hb dX9_copyTale_39 rfl (lv_at hl 2 rfl) ?_
    refine e_Sv (As := [.ref (h 105), .int 20, .int a_a, .int a_b]) (rest := []) X Y hT hS (m_X9_copyRow_105_20_3_0 hR19 (20) a_a a_b (rg_k (by decide) : rg 20 20 20) h16 ha_b) sk_X9_copyRow gm_1638 hd_X9_copyRow ⟨rfl, rfl⟩ ⟨Nat.le_of_ble_eq_true rfl, Nat.le_of_ble_eq_true rfl⟩ hl.1 rfl (Nat.le_of_ble_eq_true rfl) dX9_copyTale_40 ⟨Nat.zero_le _, Nat.zero_le _⟩ (fun i20 g20 H locs hq hT hS => ?_)
    obtain ⟨hR20, hf20⟩ := hq
    have hF20 := Fr_tr hF19 hf20 (by decide)
    refine lv_aload_n hx hb dX9_copyTale_43 rfl (lv_at hl 0 rfl) ?_
    refine r_getr X hT 96 20 106 fk_9_43 rfl rfl (by decide) dX9_copyTale_44 ?_
    refine lv_bipush (v := 16) hx hb dX9_copyTale_47 (by decide) ?_
    refine lv_iload_n hx hb dX9_copyTale_49 rfl (lv_at hl 1 rfl) ?_
    refine lv_iload_n hx hb dX9_copyTale_50 rfl (lv_at hl 2 rfl) ?_
    refine e_Sv (As := [.ref (h 106), .int 16, .int a_a, .int a_b]) (rest := []) X Y hT hS (m_X9_copyRow_106_16_3_0 hR20 (16) a_a a_b (rg_k (by decide) : rg 16 16 16) h16 ha_b) sk_X9_copyRow gm_1638 hd_X9_copyRow ⟨rfl, rfl⟩ ⟨Nat.le_of_ble_eq_true rfl, Nat.le_of_ble_eq_true rfl⟩ hl.1 rfl (Nat.le_of_ble_eq_true rfl) dX9_copyTale_51 ⟨Nat.zero_le _, Nat.zero_le _⟩ (fun i21 g21 H locs hq hT hS => ?_)
    obtain ⟨hR21, hf21⟩ := hq
    have hF21 := Fr_tr hF20 hf21 (by decide)
    refine lv_aload_n hx hb dX9_copyTale_54 rfl (lv_at hl 0 rfl) ?_
    refine r_getr X hT 96 21 107 fk_9_46 rfl rfl (by decide) dX9_copyTale_55 ?_
    refine lv_bipush (v := 60) hx hb dX9_copyTale_58 (by decide) ?_
    refine lv_iload_n hx hb dX9_copyTale_60 rfl (lv_at hl 1 rfl) ?_
    refine lv_iload_n hx hb dX9_copyTale_61 rfl (lv_at hl 2 rfl) ?_
    refine e_Sv (As := [.ref (h 107), .int 60, .int a_a, .int a_b]) (rest := []) X Y hT hS (m_X9_copyRow_107_60_3_0 hR21 (60) a_a a_b (rg_k (by decide) : rg 60 60 60) h16 ha_b) sk_X9_copyRow gm_1638 hd_X9_copyRow ⟨rfl, rfl⟩ ⟨Nat.le_of_ble_eq_true rfl, Nat.le_of_ble_eq_true rfl⟩ hl.1 rfl (Nat.le_of_ble_eq_true rfl) dX9_copyTale_62 ⟨Nat.zero_le _, Nat.zero_le _⟩ (fun i22 g22 H locs hq hT hS => ?_)
    obtain ⟨hR22, hf22⟩ := hq
    have hF22 := Fr_tr hF21 hf22 (by decide)
    exact hret _ _ _ _ _ _ dX9_copyTale_65 hT hS ⟨hR22, hF22⟩
set_option maxRecDepth 100000 in
set_option maxHeartbeats 4000000 in
theorem m_X9_back {l : Launch} {D : va_G} {h : Nat → Nat} {cz : Nat → ClassId} {z : EZ} {i : Nat → Nat → Int32} {g : Nat → Nat → Int64} (hR : Rg rA i) (a_a : Int32) : DtI l yX9_back cX9_back 2 (some .int) ({ frames := 2, cells := 0, slots := 0, locals := 46 } : Room) D h cz z i g [.ref (h 96), .int a_a] (fun r u => Rg rA u.1 ∧ Fr [96, 102, 103, 104, 105, 106, 107] [] i g u ∧ rg (-6) 0 r) := by
  refine e_I pn_X9_back (Nat.le_of_ble_eq_true rfl) ?_
  intro p e s m args below meth c ls Q X Y hret hT hl hS
  have hx := X.1
  have hb := X.2.1
  have hl : lv_has ls 2 [(0, .ref (h 96)), (1, .int a_a)] := hl
  have hF : Fr [96, 102, 103, 104, 105, 106, 107] [] i g (i, g) := Fr_rf _ _ _ _
  refine lv_aload_n hx hb dX9_back_0 rfl (lv_at hl 0 rfl) ?_
  refine lv_iconst (v := 0) hx hb dX9_back_1 (by decide) ?_
  refine r_puti X hT hS 96 0 pk_9_83 rfl rfl rfl rfl (by decide) dX9_back_2 (fun H locs i1 ei1 hT hS => ?_)
  have hR1 := Rg_put hR ei1 (-2147483648) 2147483647 rfl (rg_k (by decide) : rg 0 0 0) (by decide)
  have hF1 := Fr_puti hF ei1 (by decide)
  refine lv_iload_n hx hb dX9_back_5 rfl (lv_at hl 1 rfl) ?_
  refine q_i2l hx hb dX9_back_6 (fun y2 ey2 => ?_)
  obtain ⟨hy2, ay2⟩ := rg_i2l ey2 (rg_top a_a)
  refine lv_lconst (v := 0) hx hb dX9_back_7 (by decide) ?_
  refine lv_ldc2 (v := 2) hx hb X.2.2.2.1 (X.2.2.2.2.1 _ gm_1653) dX9_back_8 ?_
  refine e_Si (As := [.long y2, .long 0, .long 2]) (rest := []) X Y hT hS (m_in y2 (0) (2)) sk_X9_in gm_1496 hd_X9_in ⟨rfl, rfl⟩ ⟨Nat.le_of_ble_eq_true rfl, Nat.le_of_ble_eq_true rfl⟩ hl.1 rfl (Nat.le_of_ble_eq_true rfl) dX9_back_11 ⟨Nat.zero_le _, Nat.zero_le _⟩ (fun r3 i3 g3 H locs hq hT hS => ?_)
  rcases hq with hq | hq
  ·
    obtain ⟨eh3, rfl, hf3_0⟩ := hq
    rw [(Prod.mk.inj eh3).1, (Prod.mk.inj eh3).2] at hT
    replace hf3_0 : 0 ≤ y2.toInt ∧ y2.toInt ≤ 2 := hf3_0
    have h4 : rgL 0 2 y2 := ⟨by have := hy2.1; have := hy2.2; omega, by have := hy2.1; have := hy2.2; omega⟩
    have h5 : rg 0 2 a_a := ⟨by have := h4.1; have := (rg_top a_a).1; have := ay2; omega, by have := h4.2; have := (rg_top a_a).2; have := ay2; omega⟩
    refine lv_if_ne (tgt := 20) hx hb dX9_back_14 (by decide) (fun c6 => ?_) (fun c6 => (x_eq (rg_k (by decide) : rg 1 1 1) (rg_k (by decide) : rg 0 0 0) (i_eq c6) (by decide)).elim)
    refine lv_aload_n hx hb dX9_back_20 rfl (lv_at hl 0 rfl) ?_
    refine r_getr X hT 96 22 108 fk_9_49 rfl rfl (by decide) dX9_back_21 ?_
    refine lv_iload_n hx hb dX9_back_24 rfl (lv_at hl 1 rfl) ?_
    refine r_zald X hT 108 rfl (by decide) (v_in h5 (by decide)) dX9_back_25 ?_
    refine lv_if_ne (tgt := 32) hx hb dX9_back_26 (by decide) (fun c7 => ?_) (fun c7 => ?_)
    ·
      have q7 : ¬ (i1 108 a_a.toNatClampNeg).toInt = 0 := i_ne c7
      have h8 : rg 1 1 (i1 108 a_a.toNatClampNeg) := t_nelo 1 (Rg_at hR1 108 a_a.toNatClampNeg 0 1 (v_lt (v_in h5 (by decide))) rfl) (rg_k (by decide) : rg 0 0 0) (i_ne c7) (by decide)
      refine lv_aload_n hx hb dX9_back_32 rfl (lv_at hl 0 rfl) ?_
      refine lv_iconst (v := 1) hx hb dX9_back_33 (by decide) ?_
      refine lv_iload_n hx hb dX9_back_34 rfl (lv_at hl 1 rfl) ?_
      refine q_iadd hx hb dX9_back_35 (fun x9 ex9 => ?_)
      obtain ⟨hx9, ax9⟩ := rg_add 1 3 ex9 (rg_k (by decide) : rg 1 1 1) h5 (by decide)
      replace ax9 : x9.toInt = 1 + a_a.toInt := ax9
      refine lv_iconst (v := 0) hx hb dX9_back_36 (by decide) ?_
      refine e_Vv (As := [.int x9, .int 0]) (rest := []) X Y hT hS (m_X9_copyTale_1t3_0t0 hR1 x9 (0) hx9 (rg_k (by decide) : rg 0 0 0)) mk_X9_copyTale gm_1634 rfl rfl (by decide) hd_X9_copyTale ⟨rfl, rfl⟩ ⟨Nat.le_of_ble_eq_true rfl, Nat.le_of_ble_eq_true rfl⟩ hl.1 rfl (Nat.le_of_ble_eq_true rfl) dX9_back_37 ⟨Nat.zero_le _, Nat.zero_le _⟩ (fun i10 g10 H locs hq hT hS => ?_)
      obtain ⟨hR10, hf10⟩ := hq
      have hF10 := Fr_tr hF1 hf10 (by decide)
      refine lv_iconst (v := 0) hx hb dX9_back_40 (by decide) ?_
      exact hret 0 _ _ _ _ _ _ dX9_back_41 hT hS ⟨hR10, hF10, (rg_w (rg_k (by decide) : rg 0 0 0) (by decide) : rg (-6) 0 0)⟩
    ·
      have q7 : (i1 108 a_a.toNatClampNeg).toInt = 0 := i_eq c7
      have h11 : rg 0 0 (i1 108 a_a.toNatClampNeg) := t_eqx 0 0 (Rg_at hR1 108 a_a.toNatClampNeg 0 1 (v_lt (v_in h5 (by decide))) rfl) (rg_k (by decide) : rg 0 0 0) (i_eq c7) (by decide)
      refine lv_bipush (v := (-6)) hx hb dX9_back_29 (by decide) ?_
      exact hret (-6) _ _ _ _ _ _ dX9_back_31 hT hS ⟨hR1, hF1, (rg_w (rg_k (by decide) : rg (-6) (-6) (-6)) (by decide) : rg (-6) 0 (-6))⟩
  ·
    obtain ⟨eh3, rfl, hf3_0⟩ := hq
    rw [(Prod.mk.inj eh3).1, (Prod.mk.inj eh3).2] at hT
    replace hf3_0 : y2.toInt < 0 ∨ 2 < y2.toInt := hf3_0
    refine lv_if_ne (tgt := 20) hx hb dX9_back_14 (by decide) (fun c12 => (x_ne (rg_k (by decide) : rg 0 0 0) (rg_k (by decide) : rg 0 0 0) (i_ne c12) (by decide)).elim) (fun c12 => ?_)
    refine lv_bipush (v := (-2)) hx hb dX9_back_17 (by decide) ?_
    exact hret (-2) _ _ _ _ _ _ dX9_back_19 hT hS ⟨hR1, hF1, (rg_w (rg_k (by decide) : rg (-2) (-2) (-2)) (by decide) : rg (-6) 0 (-2))⟩
set_option maxRecDepth 100000 in
set_option maxHeartbeats 4000000 in
theorem m_X9_row {l : Launch} {D : va_G} {h : Nat → Nat} {cz : Nat → ClassId} {z : EZ} {i : Nat → Nat → Int32} {g : Nat → Nat → Int64} (hR : Rg rA i) (a_a : Int32) (a_b : Int32) (a_c : Int32) : DtI l yX9_row cX9_row 5 (some .int) ({ frames := 2, cells := 0, slots := 0, locals := 45 } : Room) D h cz z i g [.ref (h 96), .int a_a, .int a_b, .int a_c] (fun r u => (Rg rA u.1 ∧ Fr [96, 97, 98] [99] i g u ∧ r = 0 ∧ ((0 ≤ a_a.toInt ∧ a_a.toInt ≤ 3) ∧ (0 ≤ a_b.toInt ∧ a_b.toInt ≤ 3) ∧ 0 ≤ a_c.toInt ∧ a_c.toInt ≤ 60) ∧ u.1 97 = upd (i 97) a_a.toNatClampNeg a_b ∧ u.1 98 = upd (i 98) a_a.toNatClampNeg a_c) ∨ (Rg rA u.1 ∧ Fr [96, 97, 98] [99] i g u ∧ r = (-3) ∧ ((0 ≤ a_a.toInt ∧ a_a.toInt ≤ 3) ∧ (0 ≤ a_b.toInt ∧ a_b.toInt ≤ 3) ∧ a_c.toInt < 0) ∧ u.1 97 = i 97 ∧ u.1 98 = i 98) ∨ (Rg rA u.1 ∧ Fr [96, 97, 98] [99] i g u ∧ r = (-2) ∧ ((a_a.toInt < 0 ∨ 3 < a_a.toInt) ∨ (a_b.toInt < 0 ∨ 3 < a_b.toInt) ∨ 60 < a_c.toInt) ∧ u.1 97 = i 97 ∧ u.1 98 = i 98)) := by
  refine e_I pn_X9_row (Nat.le_of_ble_eq_true rfl) ?_
  intro p e s m args below meth c ls Q X Y hret hT hl hS
  have hx := X.1
  have hb := X.2.1
  have hl : lv_has ls 5 [(0, .ref (h 96)), (1, .int a_a), (2, .int a_b), (3, .int a_c)] := hl
  have hF : Fr [96, 97, 98] [99] i g (i, g) := Fr_rf _ _ _ _
  refine lv_aload_n hx hb dX9_row_0 rfl (lv_at hl 0 rfl) ?_
  refine lv_iconst (v := 0) hx hb dX9_row_1 (by decide) ?_
  refine r_puti X hT hS 96 0 pk_9_83 rfl rfl rfl rfl (by decide) dX9_row_2 (fun H locs i1 ei1 hT hS => ?_)
  have hR1 := Rg_put hR ei1 (-2147483648) 2147483647 rfl (rg_k (by decide) : rg 0 0 0) (by decide)
  have hF1 := Fr_puti hF ei1 (by decide)
  refine lv_iload_n hx hb dX9_row_5 rfl (lv_at hl 1 rfl) ?_
  refine e_Si (As := [.int a_a]) (rest := []) X Y hT hS (m_X9_isSlot a_a) sk_X9_isSlot gm_1492 hd_X9_isSlot ⟨rfl, rfl⟩ ⟨Nat.le_of_ble_eq_true rfl, Nat.le_of_ble_eq_true rfl⟩ hl.1 rfl (Nat.le_of_ble_eq_true rfl) dX9_row_6 ⟨Nat.zero_le _, Nat.zero_le _⟩ (fun r2 i2 g2 H locs hq hT hS => ?_)
  rcases hq with hq | hq
  ·
    obtain ⟨eh2, rfl, hf2_0⟩ := hq
    rw [(Prod.mk.inj eh2).1, (Prod.mk.inj eh2).2] at hT
    have h3 : rg 0 3 a_a := ⟨by have := (rg_top a_a).1; have := hf2_0.1; omega, by have := (rg_top a_a).2; have := hf2_0.2; omega⟩
    refine lv_if_eq (tgt := 30) hx hb dX9_row_9 (by decide) (fun c4 => (x_eq (rg_k (by decide) : rg 1 1 1) (rg_k (by decide) : rg 0 0 0) (i_eq c4) (by decide)).elim) (fun c4 => ?_)
    refine lv_iload_n hx hb dX9_row_12 rfl (lv_at hl 2 rfl) ?_
    refine q_i2l hx hb dX9_row_13 (fun y5 ey5 => ?_)
    obtain ⟨hy5, ay5⟩ := rg_i2l ey5 (rg_top a_b)
    refine lv_lconst (v := 0) hx hb dX9_row_14 (by decide) ?_
    refine lv_ldc2 (v := 3) hx hb X.2.2.2.1 (X.2.2.2.2.1 _ gm_1495) dX9_row_15 ?_
    refine e_Si (As := [.long y5, .long 0, .long 3]) (rest := []) X Y hT hS (m_in y5 (0) (3)) sk_X9_in gm_1496 hd_X9_in ⟨rfl, rfl⟩ ⟨Nat.le_of_ble_eq_true rfl, Nat.le_of_ble_eq_true rfl⟩ hl.1 rfl (Nat.le_of_ble_eq_true rfl) dX9_row_18 ⟨Nat.zero_le _, Nat.zero_le _⟩ (fun r6 i6 g6 H locs hq hT hS => ?_)
    rcases hq with hq | hq
    ·
      obtain ⟨eh6, rfl, hf6_0⟩ := hq
      rw [(Prod.mk.inj eh6).1, (Prod.mk.inj eh6).2] at hT
      replace hf6_0 : 0 ≤ y5.toInt ∧ y5.toInt ≤ 3 := hf6_0
      have h7 : rgL 0 3 y5 := ⟨by have := hy5.1; have := hy5.2; omega, by have := hy5.1; have := hy5.2; omega⟩
      have h8 : rg 0 3 a_b := ⟨by have := h7.1; have := (rg_top a_b).1; have := ay5; omega, by have := h7.2; have := (rg_top a_b).2; have := ay5; omega⟩
      refine lv_if_eq (tgt := 30) hx hb dX9_row_21 (by decide) (fun c9 => (x_eq (rg_k (by decide) : rg 1 1 1) (rg_k (by decide) : rg 0 0 0) (i_eq c9) (by decide)).elim) (fun c9 => ?_)
      refine lv_iload_n hx hb dX9_row_24 rfl (lv_at hl 3 rfl) ?_
      refine lv_bipush (v := 60) hx hb dX9_row_25 (by decide) ?_
      refine lv_icmp_le (tgt := 33) hx hb dX9_row_27 (by decide) (fun c10 => ?_) (fun c10 => ?_)
      ·
        have q10 : a_c.toInt ≤ 60 := i_le c10
        have h11 : rg (-2147483648) 60 a_c := t_lex (-2147483648) 60 (rg_top a_c) (rg_k (by decide) : rg 60 60 60) (i_le c10) (by decide)
        refine lv_iload_n hx hb dX9_row_33 rfl (lv_at hl 3 rfl) ?_
        refine lv_if_ge (tgt := 40) hx hb dX9_row_34 (by decide) (fun c12 => ?_) (fun c12 => ?_)
        ·
          have q12 : 0 ≤ a_c.toInt := i_le c12
          have h13 : rg 0 60 a_c := t_ley 0 60 (rg_k (by decide) : rg 0 0 0) h11 (i_le c12) (by decide)
          refine lv_aload_n hx hb dX9_row_40 rfl (lv_at hl 0 rfl) ?_
          refine r_getr X hT 96 1 97 fk_9_7 rfl rfl (by decide) dX9_row_41 ?_
          refine lv_iload_n hx hb dX9_row_44 rfl (lv_at hl 1 rfl) ?_
          refine lv_iload_n hx hb dX9_row_45 rfl (lv_at hl 2 rfl) ?_
          refine r_iast X hT hS 97 rfl (by decide) (v_in h3 (by decide)) dX9_row_46 (fun H locs i14 ei14 hT hS => ?_)
          have hR14 := Rg_put hR1 ei14 (-1) 3 rfl h8 (by decide)
          have hF14 := Fr_puti hF1 ei14 (by decide)
          refine lv_aload_n hx hb dX9_row_47 rfl (lv_at hl 0 rfl) ?_
          refine r_getr X hT 96 2 98 fk_9_13 rfl rfl (by decide) dX9_row_48 ?_
          refine lv_iload_n hx hb dX9_row_51 rfl (lv_at hl 1 rfl) ?_
          refine lv_iload_n hx hb dX9_row_52 rfl (lv_at hl 3 rfl) ?_
          refine r_iast X hT hS 98 rfl (by decide) (v_in h3 (by decide)) dX9_row_53 (fun H locs i15 ei15 hT hS => ?_)
          have hR15 := Rg_put hR14 ei15 0 60 rfl h13 (by decide)
          have hF15 := Fr_puti hF14 ei15 (by decide)
          refine lv_iconst (v := 0) hx hb dX9_row_54 (by decide) ?_
          refine lv_istore (lv' := [(4, .int 0), (0, .ref (h 96)), (1, .int a_a), (2, .int a_b), (3, .int a_c)]) hx hb dX9_row_55 hl (by decide) rfl (fun ls hl => ?_)
          have L57_16 : ∀ (n18_ : Nat) (x57_4 : Int32) (g17 : Nat → Nat → Int64) (H : Heap) (locs : List Loc) (ls : Array Slot), rg 0 60 x57_4 → Fr [96, 97, 98] [99] i g (i15, g17) → TH D h cz i15 g17 H → va_S (hA h) s.heap H locs → lv_has ls 5 [(0, .ref (h 96)), (1, .int a_a), (3, .int a_c), (4, .int x57_4)] → (60 - x57_4.toInt).toNat < n18_ → W p l e ({ frames := 2, cells := 0, slots := 0, locals := 45 } : Room) s m args below meth c H locs 0 0 Q (F0 m 57 ls []) := by
            intro n18_
            induction n18_ with
            | zero => intro x57_4 g17 H locs ls hhx57_4 hF17 hT hS hl hm18_; exact absurd hm18_ (Nat.not_lt_zero _)
            | succ n18_ ih18_ =>
              intro x57_4 g17 H locs ls hhx57_4 hF17 hT hS hl hm18_
              refine lv_iload hx hb dX9_row_57 (lv_at hl 3 rfl) ?_
              refine lv_iload_n hx hb dX9_row_59 rfl (lv_at hl 2 rfl) ?_
              refine lv_icmp_ge (tgt := 82) hx hb dX9_row_60 (by decide) (fun c19 => ?_) (fun c19 => ?_)
              ·
                have q19 : a_c.toInt ≤ x57_4.toInt := i_le c19
                refine lv_iconst (v := 0) hx hb dX9_row_82 (by decide) ?_
                exact hret 0 _ _ _ _ _ _ dX9_row_83 hT hS (Or.inl ⟨hR15, hF17, rfl, (by have := h3.1; have := h3.2; have := h8.1; have := h8.2; have := h13.1; have := h13.2; omega), ((cell_j ei15 (by decide)).trans ((cell_s ei14).trans (congrArg (fun f => upd f _ _) ((cell_j ei1 (by decide)).trans (rfl : i 97 = i 97))))), ((cell_s ei15).trans (congrArg (fun f => upd f _ _) ((cell_j ei14 (by decide)).trans ((cell_j ei1 (by decide)).trans (rfl : i 98 = i 98)))))⟩)
              ·
                have q19 : x57_4.toInt < a_c.toInt := i_nle c19
                have h20 : rg 0 59 x57_4 := t_ltx 0 59 hhx57_4 h13 (i_nle c19) (by decide)
                have h21 : rg 1 60 a_c := t_lty 1 60 hhx57_4 h13 (i_nle c19) (by decide)
                refine lv_aload_n hx hb dX9_row_63 rfl (lv_at hl 0 rfl) ?_
                refine r_getr X hT 96 3 99 fk_9_16 rfl rfl (by decide) dX9_row_64 ?_
                refine lv_bipush (v := 60) hx hb dX9_row_67 (by decide) ?_
                refine lv_iload_n hx hb dX9_row_69 rfl (lv_at hl 1 rfl) ?_
                refine q_imul hx hb dX9_row_70 (fun x22 ex22 => ?_)
                obtain ⟨hx22, ax22⟩ := rg_mul 0 180 ex22 (rg_k (by decide) : rg 60 60 60) h3 (by decide)
                replace ax22 : x22.toInt = 60 * a_a.toInt := ax22
                refine lv_iload hx hb dX9_row_71 (lv_at hl 3 rfl) ?_
                refine q_iadd hx hb dX9_row_73 (fun x23 ex23 => ?_)
                obtain ⟨hx23, ax23⟩ := rg_add 0 239 ex23 hx22 h20 (by decide)
                replace ax23 : x23.toInt = x22.toInt + x57_4.toInt := ax23
                refine lv_lconst (v := 0) hx hb dX9_row_74 (by decide) ?_
                refine r_last X hT hS 99 rfl (by decide) (v_in hx23 (by decide)) dX9_row_75 (fun H locs g24 eg24 hT hS => ?_)
                have hF24 := Fr_putl hF17 eg24 (by decide)
                obtain ⟨x25, ex25⟩ : ∃ y : Int32, y = x57_4 + 1 := ⟨_, rfl⟩
                refine lv_iinc (v := x25) (lv' := [(4, .int x25), (0, .ref (h 96)), (1, .int a_a), (3, .int a_c)]) hx hb dX9_row_76 hl (k := 3) rfl (by rw [ex25]; rfl) (by decide) rfl (fun ls hl => ?_)
                obtain ⟨hx25, ax25⟩ := rg_add 1 60 ex25 h20 (rg_k (by decide) : rg 1 1 1) (by decide)
                replace ax25 : x25.toInt = x57_4.toInt + 1 := ax25
                refine lv_goto (tgt := 57) hx hb dX9_row_79 (by decide) ?_
                exact ih18_ x25 g24 _ _ _ (rg_w hx25 (by decide) : rg 0 60 x25) hF24 hT hS (lv_sub hl [1, 2, 3, 0] rfl) (m_up ax25 hx25 (by decide) hm18_)
          exact L57_16 _ (0) g _ _ _ (rg_w (rg_k (by decide) : rg 0 0 0) (by decide) : rg 0 60 0) hF15 hT hS (lv_sub hl [1, 2, 4, 0] rfl) (Nat.lt_succ_self _)
        ·
          have q12 : a_c.toInt < 0 := i_nle c12
          have h26 : rg (-2147483648) (-1) a_c := t_ltx (-2147483648) (-1) h11 (rg_k (by decide) : rg 0 0 0) (i_nle c12) (by decide)
          refine lv_bipush (v := (-3)) hx hb dX9_row_37 (by decide) ?_
          exact hret (-3) _ _ _ _ _ _ dX9_row_39 hT hS (Or.inr (Or.inl ⟨hR1, hF1, rfl, (by have := h3.1; have := h3.2; have := h8.1; have := h8.2; have := h26.1; have := h26.2; omega), ((cell_j ei1 (by decide)).trans (rfl : i 97 = i 97)), ((cell_j ei1 (by decide)).trans (rfl : i 98 = i 98))⟩))
      ·
        have q10 : 60 < a_c.toInt := i_nle c10
        have h27 : rg 61 2147483647 a_c := t_lty 61 2147483647 (rg_k (by decide) : rg 60 60 60) (rg_top a_c) (i_nle c10) (by decide)
        refine lv_bipush (v := (-2)) hx hb dX9_row_30 (by decide) ?_
        exact hret (-2) _ _ _ _ _ _ dX9_row_32 hT hS (Or.inr (Or.inr ⟨hR1, hF1, rfl, (by have := h3.1; have := h3.2; have := h8.1; have := h8.2; have := h27.1; have := h27.2; omega), ((cell_j ei1 (by decide)).trans (rfl : i 97 = i 97)), ((cell_j ei1 (by decide)).trans (rfl : i 98 = i 98))⟩))
    ·
      obtain ⟨eh6, rfl, hf6_0⟩ := hq
      rw [(Prod.mk.inj eh6).1, (Prod.mk.inj eh6).2] at hT
      replace hf6_0 : y5.toInt < 0 ∨ 3 < y5.toInt := hf6_0
      refine lv_if_eq (tgt := 30) hx hb dX9_row_21 (by decide) (fun c28 => ?_) (fun c28 => (x_ne (rg_k (by decide) : rg 0 0 0) (rg_k (by decide) : rg 0 0 0) (i_ne c28) (by decide)).elim)
      refine lv_bipush (v := (-2)) hx hb dX9_row_30 (by decide) ?_
      exact hret (-2) _ _ _ _ _ _ dX9_row_32 hT hS (Or.inr (Or.inr ⟨hR1, hF1, rfl, (by have := h3.1; have := h3.2; omega), ((cell_j ei1 (by decide)).trans (rfl : i 97 = i 97)), ((cell_j ei1 (by decide)).trans (rfl : i 98 = i 98))⟩))
  ·
    obtain ⟨eh2, rfl, hf2_0⟩ := hq
    rw [(Prod.mk.inj eh2).1, (Prod.mk.inj eh2).2] at hT
    refine lv_if_eq (tgt := 30) hx hb dX9_row_9 (by decide) (fun c29 => ?_) (fun c29 => (x_ne (rg_k (by decide) : rg 0 0 0) (rg_k (by decide) : rg 0 0 0) (i_ne c29) (by decide)).elim)
    refine lv_bipush (v := (-2)) hx hb dX9_row_30 (by decide) ?_
    exact hret (-2) _ _ _ _ _ _ dX9_row_32 hT hS (Or.inr (Or.inr ⟨hR1, hF1, rfl, (by omega), ((cell_j ei1 (by decide)).trans (rfl : i 97 = i 97)), ((cell_j ei1 (by decide)).trans (rfl : i 98 = i 98))⟩))
set_option maxRecDepth 100000 in
set_option maxHeartbeats 4000000 in
theorem m_X9_cut {l : Launch} {D : va_G} {h : Nat → Nat} {cz : Nat → ClassId} {z : EZ} {i : Nat → Nat → Int32} {g : Nat → Nat → Int64} (a_a : Int64) (a_b : Int32) : DtL l yX9_cut cX9_cut 3 (some .long) ({ frames := 0, cells := 0, slots := 0, locals := 0 } : Room) D h cz z i g [.long a_a, .int a_b] (fun r u => u = (i, g)) := by
  refine e_L pn_X9_cut (Nat.le_of_ble_eq_true rfl) ?_
  intro p e s m args below meth c ls Q X Y hret hT hl hS
  have hx := X.1
  have hb := X.2.1
  have hl : lv_has ls 3 [(0, .long a_a), (2, .int a_b)] := hl
  refine lv_iload_n hx hb dX9_cut_0 rfl (lv_at hl 1 rfl) ?_
  refine lv_if_ne (tgt := 11) hx hb dX9_cut_1 (by decide) (fun c1 => ?_) (fun c1 => ?_)
  ·
    have q1 : ¬ a_b.toInt = 0 := i_ne c1
    refine lv_iload_n hx hb dX9_cut_11 rfl (lv_at hl 1 rfl) ?_
    refine lv_iconst (v := 1) hx hb dX9_cut_12 (by decide) ?_
    refine lv_icmp_ne (tgt := 23) hx hb dX9_cut_13 (by decide) (fun c2 => ?_) (fun c2 => ?_)
    ·
      have q2 : ¬ a_b.toInt = 1 := i_ne c2
      refine lv_iload_n hx hb dX9_cut_23 rfl (lv_at hl 1 rfl) ?_
      refine lv_iconst (v := 2) hx hb dX9_cut_24 (by decide) ?_
      refine lv_icmp_ne (tgt := 34) hx hb dX9_cut_25 (by decide) (fun c3 => ?_) (fun c3 => ?_)
      ·
        have q3 : ¬ a_b.toInt = 2 := i_ne c3
        refine lv_lload_n hx hb dX9_cut_34 rfl (lv_at hl 0 rfl) ?_
        exact hret a_a _ _ _ _ _ _ dX9_cut_35 hT hS rfl
      ·
        have q3 : a_b.toInt = 2 := i_eq c3
        have h4 : rg 2 2 a_b := t_eqx 2 2 (rg_top a_b) (rg_k (by decide) : rg 2 2 2) (i_eq c3) (by decide)
        refine lv_lload_n hx hb dX9_cut_28 rfl (lv_at hl 0 rfl) ?_
        refine q_l2i hx hb dX9_cut_29 (fun x5 ex5 => ?_)
        refine q_i2l hx hb dX9_cut_30 (fun y6 ey6 => ?_)
        obtain ⟨hy6, ay6⟩ := rg_i2l ey6 (rg_top x5)
        refine lv_goto (tgt := 35) hx hb dX9_cut_31 (by decide) ?_
        exact hret y6 _ _ _ _ _ _ dX9_cut_35 hT hS rfl
    ·
      have q2 : a_b.toInt = 1 := i_eq c2
      have h7 : rg 1 1 a_b := t_eqx 1 1 (rg_top a_b) (rg_k (by decide) : rg 1 1 1) (i_eq c2) (by decide)
      refine lv_lload_n hx hb dX9_cut_16 rfl (lv_at hl 0 rfl) ?_
      refine q_l2i hx hb dX9_cut_17 (fun x8 ex8 => ?_)
      refine q_i2s hx hb dX9_cut_18 (fun x9 ex9 => ?_)
      refine q_i2l hx hb dX9_cut_19 (fun y10 ey10 => ?_)
      obtain ⟨hy10, ay10⟩ := rg_i2l ey10 (rg_top x9)
      refine lv_goto (tgt := 35) hx hb dX9_cut_20 (by decide) ?_
      exact hret y10 _ _ _ _ _ _ dX9_cut_35 hT hS rfl
  ·
    have q1 : a_b.toInt = 0 := i_eq c1
    have h11 : rg 0 0 a_b := t_eqx 0 0 (rg_top a_b) (rg_k (by decide) : rg 0 0 0) (i_eq c1) (by decide)
    refine lv_lload_n hx hb dX9_cut_4 rfl (lv_at hl 0 rfl) ?_
    refine q_l2i hx hb dX9_cut_5 (fun x12 ex12 => ?_)
    refine q_i2b hx hb dX9_cut_6 (fun x13 ex13 => ?_)
    refine q_i2l hx hb dX9_cut_7 (fun y14 ey14 => ?_)
    obtain ⟨hy14, ay14⟩ := rg_i2l ey14 (rg_top x13)
    refine lv_goto (tgt := 35) hx hb dX9_cut_8 (by decide) ?_
    exact hret y14 _ _ _ _ _ _ dX9_cut_35 hT hS rfl
set_option maxRecDepth 100000 in
set_option maxHeartbeats 4000000 in
theorem m_X9_write {l : Launch} {D : va_G} {h : Nat → Nat} {cz : Nat → ClassId} {z : EZ} {i : Nat → Nat → Int32} {g : Nat → Nat → Int64} (hR : Rg rA i) (a_a : Int32) (a_b : Int32) (a_c : Int64) : DtI l yX9_write cX9_write 5 (some .int) ({ frames := 2, cells := 0, slots := 0, locals := 45 } : Room) D h cz z i g [.ref (h 96), .int a_a, .int a_b, .long a_c] (fun r u => (Rg rA u.1 ∧ Fr [96] [99] i g u ∧ r = 0 ∧ ((0 ≤ a_a.toInt ∧ a_a.toInt ≤ 3) ∧ ¬ (i 97 a_a.toNatClampNeg).toInt = -1 ∧ (0 ≤ a_b.toInt ∧ a_b.toInt + 1 ≤ (i 98 a_a.toNatClampNeg).toInt))) ∨ (Rg rA u.1 ∧ Fr [96] [99] i g u ∧ r = (-7) ∧ ((0 ≤ a_a.toInt ∧ a_a.toInt ≤ 3) ∧ ¬ (i 97 a_a.toNatClampNeg).toInt = -1 ∧ ¬ (0 ≤ a_b.toInt ∧ a_b.toInt + 1 ≤ (i 98 a_a.toNatClampNeg).toInt))) ∨ (Rg rA u.1 ∧ Fr [96] [99] i g u ∧ r = (-6) ∧ ((0 ≤ a_a.toInt ∧ a_a.toInt ≤ 3) ∧ (i 97 a_a.toNatClampNeg).toInt = -1)) ∨ (Rg rA u.1 ∧ Fr [96] [99] i g u ∧ r = (-2) ∧ ((a_a.toInt < 0 ∨ 3 < a_a.toInt)))) := by
  refine e_I pn_X9_write (Nat.le_of_ble_eq_true rfl) ?_
  intro p e s m args below meth c ls Q X Y hret hT hl hS
  have hx := X.1
  have hb := X.2.1
  have hl : lv_has ls 5 [(0, .ref (h 96)), (1, .int a_a), (2, .int a_b), (3, .long a_c)] := hl
  have hF : Fr [96] [99] i g (i, g) := Fr_rf _ _ _ _
  refine lv_aload_n hx hb dX9_write_0 rfl (lv_at hl 0 rfl) ?_
  refine lv_iconst (v := 0) hx hb dX9_write_1 (by decide) ?_
  refine r_puti X hT hS 96 0 pk_9_83 rfl rfl rfl rfl (by decide) dX9_write_2 (fun H locs i1 ei1 hT hS => ?_)
  have hR1 := Rg_put hR ei1 (-2147483648) 2147483647 rfl (rg_k (by decide) : rg 0 0 0) (by decide)
  have hF1 := Fr_puti hF ei1 (by decide)
  refine lv_iload_n hx hb dX9_write_5 rfl (lv_at hl 1 rfl) ?_
  refine e_Si (As := [.int a_a]) (rest := []) X Y hT hS (m_X9_isSlot a_a) sk_X9_isSlot gm_1492 hd_X9_isSlot ⟨rfl, rfl⟩ ⟨Nat.le_of_ble_eq_true rfl, Nat.le_of_ble_eq_true rfl⟩ hl.1 rfl (Nat.le_of_ble_eq_true rfl) dX9_write_6 ⟨Nat.zero_le _, Nat.zero_le _⟩ (fun r2 i2 g2 H locs hq hT hS => ?_)
  rcases hq with hq | hq
  ·
    obtain ⟨eh2, rfl, hf2_0⟩ := hq
    rw [(Prod.mk.inj eh2).1, (Prod.mk.inj eh2).2] at hT
    have h3 : rg 0 3 a_a := ⟨by have := (rg_top a_a).1; have := hf2_0.1; omega, by have := (rg_top a_a).2; have := hf2_0.2; omega⟩
    refine lv_if_ne (tgt := 15) hx hb dX9_write_9 (by decide) (fun c4 => ?_) (fun c4 => (x_eq (rg_k (by decide) : rg 1 1 1) (rg_k (by decide) : rg 0 0 0) (i_eq c4) (by decide)).elim)
    refine lv_aload_n hx hb dX9_write_15 rfl (lv_at hl 0 rfl) ?_
    refine r_getr X hT 96 1 97 fk_9_7 rfl rfl (by decide) dX9_write_16 ?_
    refine lv_iload_n hx hb dX9_write_19 rfl (lv_at hl 1 rfl) ?_
    refine r_iald X hT 97 rfl (by decide) (v_in h3 (by decide)) dX9_write_20 ?_
    refine lv_iconst (v := (-1)) hx hb dX9_write_21 (by decide) ?_
    refine lv_icmp_ne (tgt := 28) hx hb dX9_write_22 (by decide) (fun c5 => ?_) (fun c5 => ?_)
    ·
      have q5 : ¬ (i1 97 a_a.toNatClampNeg).toInt = (-1) := i_ne c5
      have h6 : rg 0 3 (i1 97 a_a.toNatClampNeg) := t_nelo 0 (Rg_at hR1 97 a_a.toNatClampNeg (-1) 3 (v_lt (v_in h3 (by decide))) rfl) (rg_k (by decide) : rg (-1) (-1) (-1)) (i_ne c5) (by decide)
      refine lv_iload_n hx hb dX9_write_28 rfl (lv_at hl 2 rfl) ?_
      refine q_i2l hx hb dX9_write_29 (fun y7 ey7 => ?_)
      obtain ⟨hy7, ay7⟩ := rg_i2l ey7 (rg_top a_b)
      refine lv_lconst (v := 0) hx hb dX9_write_30 (by decide) ?_
      refine lv_aload_n hx hb dX9_write_31 rfl (lv_at hl 0 rfl) ?_
      refine r_getr X hT 96 2 98 fk_9_13 rfl rfl (by decide) dX9_write_32 ?_
      refine lv_iload_n hx hb dX9_write_35 rfl (lv_at hl 1 rfl) ?_
      refine r_iald X hT 98 rfl (by decide) (v_in h3 (by decide)) dX9_write_36 ?_
      refine lv_iconst (v := 1) hx hb dX9_write_37 (by decide) ?_
      refine q_isub hx hb dX9_write_38 (fun x8 ex8 => ?_)
      obtain ⟨hx8, ax8⟩ := rg_sub (-1) 59 ex8 (Rg_at hR1 98 a_a.toNatClampNeg 0 60 (v_lt (v_in h3 (by decide))) rfl) (rg_k (by decide) : rg 1 1 1) (by decide)
      replace ax8 : x8.toInt = (i1 98 a_a.toNatClampNeg).toInt - 1 := ax8
      refine q_i2l hx hb dX9_write_39 (fun y9 ey9 => ?_)
      obtain ⟨hy9, ay9⟩ := rg_i2l ey9 hx8
      refine e_Si (As := [.long y7, .long 0, .long y9]) (rest := []) X Y hT hS (m_in y7 (0) y9) sk_X9_in gm_1496 hd_X9_in ⟨rfl, rfl⟩ ⟨Nat.le_of_ble_eq_true rfl, Nat.le_of_ble_eq_true rfl⟩ hl.1 rfl (Nat.le_of_ble_eq_true rfl) dX9_write_40 ⟨Nat.zero_le _, Nat.zero_le _⟩ (fun r10 i10 g10 H locs hq hT hS => ?_)
      rcases hq with hq | hq
      ·
        obtain ⟨eh10, rfl, hf10_0⟩ := hq
        rw [(Prod.mk.inj eh10).1, (Prod.mk.inj eh10).2] at hT
        replace hf10_0 : 0 ≤ y7.toInt ∧ y7.toInt ≤ y9.toInt := hf10_0
        have h11 : rgL 0 59 y7 := ⟨by have := hy7.1; have := hy7.2; have := hy9.1; have := hy9.2; omega, by have := hy7.1; have := hy7.2; have := hy9.1; have := hy9.2; omega⟩
        have h12 : rg 0 59 a_b := ⟨by have := h11.1; have := (rg_top a_b).1; have := ay7; omega, by have := h11.2; have := (rg_top a_b).2; have := ay7; omega⟩
        refine lv_if_ne (tgt := 49) hx hb dX9_write_43 (by decide) (fun c13 => ?_) (fun c13 => (x_eq (rg_k (by decide) : rg 1 1 1) (rg_k (by decide) : rg 0 0 0) (i_eq c13) (by decide)).elim)
        refine lv_aload_n hx hb dX9_write_49 rfl (lv_at hl 0 rfl) ?_
        refine r_getr X hT 96 3 99 fk_9_16 rfl rfl (by decide) dX9_write_50 ?_
        refine lv_bipush (v := 60) hx hb dX9_write_53 (by decide) ?_
        refine lv_iload_n hx hb dX9_write_55 rfl (lv_at hl 1 rfl) ?_
        refine q_imul hx hb dX9_write_56 (fun x14 ex14 => ?_)
        obtain ⟨hx14, ax14⟩ := rg_mul 0 180 ex14 (rg_k (by decide) : rg 60 60 60) h3 (by decide)
        replace ax14 : x14.toInt = 60 * a_a.toInt := ax14
        refine lv_iload_n hx hb dX9_write_57 rfl (lv_at hl 2 rfl) ?_
        refine q_iadd hx hb dX9_write_58 (fun x15 ex15 => ?_)
        obtain ⟨hx15, ax15⟩ := rg_add 0 239 ex15 hx14 h12 (by decide)
        replace ax15 : x15.toInt = x14.toInt + a_b.toInt := ax15
        refine lv_lload_n hx hb dX9_write_59 rfl (lv_at hl 3 rfl) ?_
        refine lv_aload_n hx hb dX9_write_60 rfl (lv_at hl 0 rfl) ?_
        refine r_getr X hT 96 1 97 fk_9_7 rfl rfl (by decide) dX9_write_61 ?_
        refine lv_iload_n hx hb dX9_write_64 rfl (lv_at hl 1 rfl) ?_
        refine r_iald X hT 97 rfl (by decide) (v_in h3 (by decide)) dX9_write_65 ?_
        refine e_Sl (As := [.long a_c, .int (i1 97 a_a.toNatClampNeg)]) (rest := [.int x15, .ref (h 99)]) X Y hT hS (m_X9_cut a_c (i1 97 a_a.toNatClampNeg)) sk_X9_cut gm_1503 hd_X9_cut ⟨rfl, rfl⟩ ⟨Nat.le_of_ble_eq_true rfl, Nat.le_of_ble_eq_true rfl⟩ hl.1 rfl (Nat.le_of_ble_eq_true rfl) dX9_write_66 ⟨Nat.zero_le _, Nat.zero_le _⟩ (fun r16 i16 g16 H locs hq hT hS => ?_)
        have eh16 := hq
        rw [(Prod.mk.inj eh16).1, (Prod.mk.inj eh16).2] at hT
        refine r_last X hT hS 99 rfl (by decide) (v_in hx15 (by decide)) dX9_write_69 (fun H locs g17 eg17 hT hS => ?_)
        have hF17 := Fr_putl hF1 eg17 (by decide)
        refine lv_iconst (v := 0) hx hb dX9_write_70 (by decide) ?_
        exact hret 0 _ _ _ _ _ _ dX9_write_71 hT hS (Or.inl ⟨hR1, hF17, rfl, (by have := congrArg Int32.toInt (congrFun (cell_j ei1 (by decide) : i1 97 = i 97) a_a.toNatClampNeg); have := congrArg Int32.toInt (congrFun (cell_j ei1 (by decide) : i1 98 = i 98) a_a.toNatClampNeg); have := h3.1; have := h3.2; omega)⟩)
      ·
        obtain ⟨eh10, rfl, hf10_0⟩ := hq
        rw [(Prod.mk.inj eh10).1, (Prod.mk.inj eh10).2] at hT
        replace hf10_0 : y7.toInt < 0 ∨ y9.toInt < y7.toInt := hf10_0
        refine lv_if_ne (tgt := 49) hx hb dX9_write_43 (by decide) (fun c18 => (x_ne (rg_k (by decide) : rg 0 0 0) (rg_k (by decide) : rg 0 0 0) (i_ne c18) (by decide)).elim) (fun c18 => ?_)
        refine lv_bipush (v := (-7)) hx hb dX9_write_46 (by decide) ?_
        exact hret (-7) _ _ _ _ _ _ dX9_write_48 hT hS (Or.inr (Or.inl ⟨hR1, hF1, rfl, (by have := congrArg Int32.toInt (congrFun (cell_j ei1 (by decide) : i1 97 = i 97) a_a.toNatClampNeg); have := congrArg Int32.toInt (congrFun (cell_j ei1 (by decide) : i1 98 = i 98) a_a.toNatClampNeg); have := h3.1; have := h3.2; omega)⟩))
    ·
      have q5 : (i1 97 a_a.toNatClampNeg).toInt = (-1) := i_eq c5
      have h19 : rg (-1) (-1) (i1 97 a_a.toNatClampNeg) := t_eqx (-1) (-1) (Rg_at hR1 97 a_a.toNatClampNeg (-1) 3 (v_lt (v_in h3 (by decide))) rfl) (rg_k (by decide) : rg (-1) (-1) (-1)) (i_eq c5) (by decide)
      refine lv_bipush (v := (-6)) hx hb dX9_write_25 (by decide) ?_
      exact hret (-6) _ _ _ _ _ _ dX9_write_27 hT hS (Or.inr (Or.inr (Or.inl ⟨hR1, hF1, rfl, (by have := congrArg Int32.toInt (congrFun (cell_j ei1 (by decide) : i1 97 = i 97) a_a.toNatClampNeg); have := congrArg Int32.toInt (congrFun (cell_j ei1 (by decide) : i1 98 = i 98) a_a.toNatClampNeg); have := h3.1; have := h3.2; omega)⟩)))
  ·
    obtain ⟨eh2, rfl, hf2_0⟩ := hq
    rw [(Prod.mk.inj eh2).1, (Prod.mk.inj eh2).2] at hT
    refine lv_if_ne (tgt := 15) hx hb dX9_write_9 (by decide) (fun c20 => (x_ne (rg_k (by decide) : rg 0 0 0) (rg_k (by decide) : rg 0 0 0) (i_ne c20) (by decide)).elim) (fun c20 => ?_)
    refine lv_bipush (v := (-2)) hx hb dX9_write_12 (by decide) ?_
    exact hret (-2) _ _ _ _ _ _ dX9_write_14 hT hS (Or.inr (Or.inr (Or.inr ⟨hR1, hF1, rfl, (by have := congrArg Int32.toInt (congrFun (cell_j ei1 (by decide) : i1 97 = i 97) a_a.toNatClampNeg); have := congrArg Int32.toInt (congrFun (cell_j ei1 (by decide) : i1 98 = i 98) a_a.toNatClampNeg); omega)⟩)))
set_option maxRecDepth 100000 in
set_option maxHeartbeats 4000000 in
theorem m_X9_paste {l : Launch} {D : va_G} {h : Nat → Nat} {cz : Nat → ClassId} {z : EZ} {i : Nat → Nat → Int32} {g : Nat → Nat → Int64} (hR : Rg rA i) (a_a : Int32) (a_b : Int32) (a_c : Int32) (a_d : Int32) (a_e : Int32) : DtI l yX9_paste cX9_paste 7 (some .int) ({ frames := 2, cells := 0, slots := 0, locals := 45 } : Room) D h cz z i g [.ref (h 96), .int a_a, .int a_b, .int a_c, .int a_d, .int a_e] (fun r u => (Rg rA u.1 ∧ Fr [96] [99, 100] i g u ∧ r = 0 ∧ ((0 ≤ a_a.toInt ∧ a_a.toInt ≤ 3) ∧ (0 ≤ a_c.toInt ∧ a_c.toInt ≤ 3) ∧ ¬ (i 97 a_a.toNatClampNeg).toInt = -1 ∧ ¬ (i 97 a_c.toNatClampNeg).toInt = -1 ∧ (i 97 a_a.toNatClampNeg).toInt = (i 97 a_c.toNatClampNeg).toInt ∧ (0 ≤ a_b.toInt ∧ 0 ≤ a_d.toInt ∧ 0 ≤ a_e.toInt ∧ a_b.toInt + a_e.toInt ≤ (i 98 a_a.toNatClampNeg).toInt ∧ a_d.toInt + a_e.toInt ≤ (i 98 a_c.toNatClampNeg).toInt))) ∨ (Rg rA u.1 ∧ Fr [96] [99, 100] i g u ∧ r = (-7) ∧ ((0 ≤ a_a.toInt ∧ a_a.toInt ≤ 3) ∧ (0 ≤ a_c.toInt ∧ a_c.toInt ≤ 3) ∧ ¬ (i 97 a_a.toNatClampNeg).toInt = -1 ∧ ¬ (i 97 a_c.toNatClampNeg).toInt = -1 ∧ (i 97 a_a.toNatClampNeg).toInt = (i 97 a_c.toNatClampNeg).toInt ∧ ¬ (0 ≤ a_b.toInt ∧ 0 ≤ a_d.toInt ∧ 0 ≤ a_e.toInt ∧ a_b.toInt + a_e.toInt ≤ (i 98 a_a.toNatClampNeg).toInt ∧ a_d.toInt + a_e.toInt ≤ (i 98 a_c.toNatClampNeg).toInt))) ∨ (Rg rA u.1 ∧ Fr [96] [99, 100] i g u ∧ r = (-8) ∧ ((0 ≤ a_a.toInt ∧ a_a.toInt ≤ 3) ∧ (0 ≤ a_c.toInt ∧ a_c.toInt ≤ 3) ∧ ¬ (i 97 a_a.toNatClampNeg).toInt = -1 ∧ ¬ (i 97 a_c.toNatClampNeg).toInt = -1 ∧ ¬ (i 97 a_a.toNatClampNeg).toInt = (i 97 a_c.toNatClampNeg).toInt)) ∨ (Rg rA u.1 ∧ Fr [96] [99, 100] i g u ∧ r = (-6) ∧ ((0 ≤ a_a.toInt ∧ a_a.toInt ≤ 3) ∧ (0 ≤ a_c.toInt ∧ a_c.toInt ≤ 3) ∧ ((i 97 a_a.toNatClampNeg).toInt = -1 ∨ (i 97 a_c.toNatClampNeg).toInt = -1))) ∨ (Rg rA u.1 ∧ Fr [96] [99, 100] i g u ∧ r = (-2) ∧ ((a_a.toInt < 0 ∨ 3 < a_a.toInt) ∨ (a_c.toInt < 0 ∨ 3 < a_c.toInt)))) := by
  refine e_I pn_X9_paste (Nat.le_of_ble_eq_true rfl) ?_
  intro p e s m args below meth c ls Q X Y hret hT hl hS
  have hx := X.1
  have hb := X.2.1
  have hl : lv_has ls 7 [(0, .ref (h 96)), (1, .int a_a), (2, .int a_b), (3, .int a_c), (4, .int a_d), (5, .int a_e)] := hl
  have hF : Fr [96] [99, 100] i g (i, g) := Fr_rf _ _ _ _
  refine lv_aload_n hx hb dX9_paste_0 rfl (lv_at hl 0 rfl) ?_
  refine lv_iconst (v := 0) hx hb dX9_paste_1 (by decide) ?_
  refine r_puti X hT hS 96 0 pk_9_83 rfl rfl rfl rfl (by decide) dX9_paste_2 (fun H locs i1 ei1 hT hS => ?_)
  have hR1 := Rg_put hR ei1 (-2147483648) 2147483647 rfl (rg_k (by decide) : rg 0 0 0) (by decide)
  have hF1 := Fr_puti hF ei1 (by decide)
  refine lv_iload_n hx hb dX9_paste_5 rfl (lv_at hl 1 rfl) ?_
  refine e_Si (As := [.int a_a]) (rest := []) X Y hT hS (m_X9_isSlot a_a) sk_X9_isSlot gm_1492 hd_X9_isSlot ⟨rfl, rfl⟩ ⟨Nat.le_of_ble_eq_true rfl, Nat.le_of_ble_eq_true rfl⟩ hl.1 rfl (Nat.le_of_ble_eq_true rfl) dX9_paste_6 ⟨Nat.zero_le _, Nat.zero_le _⟩ (fun r2 i2 g2 H locs hq hT hS => ?_)
  rcases hq with hq | hq
  ·
    obtain ⟨eh2, rfl, hf2_0⟩ := hq
    rw [(Prod.mk.inj eh2).1, (Prod.mk.inj eh2).2] at hT
    have h3 : rg 0 3 a_a := ⟨by have := (rg_top a_a).1; have := hf2_0.1; omega, by have := (rg_top a_a).2; have := hf2_0.2; omega⟩
    refine lv_if_eq (tgt := 19) hx hb dX9_paste_9 (by decide) (fun c4 => (x_eq (rg_k (by decide) : rg 1 1 1) (rg_k (by decide) : rg 0 0 0) (i_eq c4) (by decide)).elim) (fun c4 => ?_)
    refine lv_iload_n hx hb dX9_paste_12 rfl (lv_at hl 3 rfl) ?_
    refine e_Si (As := [.int a_c]) (rest := []) X Y hT hS (m_X9_isSlot a_c) sk_X9_isSlot gm_1492 hd_X9_isSlot ⟨rfl, rfl⟩ ⟨Nat.le_of_ble_eq_true rfl, Nat.le_of_ble_eq_true rfl⟩ hl.1 rfl (Nat.le_of_ble_eq_true rfl) dX9_paste_13 ⟨Nat.zero_le _, Nat.zero_le _⟩ (fun r5 i5 g5 H locs hq hT hS => ?_)
    rcases hq with hq | hq
    ·
      obtain ⟨eh5, rfl, hf5_0⟩ := hq
      rw [(Prod.mk.inj eh5).1, (Prod.mk.inj eh5).2] at hT
      have h6 : rg 0 3 a_c := ⟨by have := (rg_top a_c).1; have := hf5_0.1; omega, by have := (rg_top a_c).2; have := hf5_0.2; omega⟩
      refine lv_if_ne (tgt := 22) hx hb dX9_paste_16 (by decide) (fun c7 => ?_) (fun c7 => (x_eq (rg_k (by decide) : rg 1 1 1) (rg_k (by decide) : rg 0 0 0) (i_eq c7) (by decide)).elim)
      refine lv_aload_n hx hb dX9_paste_22 rfl (lv_at hl 0 rfl) ?_
      refine r_getr X hT 96 1 97 fk_9_7 rfl rfl (by decide) dX9_paste_23 ?_
      refine lv_iload_n hx hb dX9_paste_26 rfl (lv_at hl 1 rfl) ?_
      refine r_iald X hT 97 rfl (by decide) (v_in h3 (by decide)) dX9_paste_27 ?_
      refine lv_iconst (v := (-1)) hx hb dX9_paste_28 (by decide) ?_
      refine lv_icmp_eq (tgt := 42) hx hb dX9_paste_29 (by decide) (fun c8 => ?_) (fun c8 => ?_)
      ·
        have q8 : (i1 97 a_a.toNatClampNeg).toInt = (-1) := i_eq c8
        have h9 : rg (-1) (-1) (i1 97 a_a.toNatClampNeg) := t_eqx (-1) (-1) (Rg_at hR1 97 a_a.toNatClampNeg (-1) 3 (v_lt (v_in h3 (by decide))) rfl) (rg_k (by decide) : rg (-1) (-1) (-1)) (i_eq c8) (by decide)
        refine lv_bipush (v := (-6)) hx hb dX9_paste_42 (by decide) ?_
        exact hret (-6) _ _ _ _ _ _ dX9_paste_44 hT hS (Or.inr (Or.inr (Or.inr (Or.inl ⟨hR1, hF1, rfl, (by have := congrArg Int32.toInt (congrFun (cell_j ei1 (by decide) : i1 97 = i 97) a_a.toNatClampNeg); have := congrArg Int32.toInt (congrFun (cell_j ei1 (by decide) : i1 97 = i 97) a_c.toNatClampNeg); have := congrArg Int32.toInt (congrFun (cell_j ei1 (by decide) : i1 98 = i 98) a_a.toNatClampNeg); have := congrArg Int32.toInt (congrFun (cell_j ei1 (by decide) : i1 98 = i 98) a_c.toNatClampNeg); have := h3.1; have := h3.2; have := h6.1; have := h6.2; omega)⟩))))
      ·
        have q8 : ¬ (i1 97 a_a.toNatClampNeg).toInt = (-1) := i_ne c8
        have h10 : rg 0 3 (i1 97 a_a.toNatClampNeg) := t_nelo 0 (Rg_at hR1 97 a_a.toNatClampNeg (-1) 3 (v_lt (v_in h3 (by decide))) rfl) (rg_k (by decide) : rg (-1) (-1) (-1)) (i_ne c8) (by decide)
        refine lv_aload_n hx hb dX9_paste_32 rfl (lv_at hl 0 rfl) ?_
        refine r_getr X hT 96 1 97 fk_9_7 rfl rfl (by decide) dX9_paste_33 ?_
        refine lv_iload_n hx hb dX9_paste_36 rfl (lv_at hl 3 rfl) ?_
        refine r_iald X hT 97 rfl (by decide) (v_in h6 (by decide)) dX9_paste_37 ?_
        refine lv_iconst (v := (-1)) hx hb dX9_paste_38 (by decide) ?_
        refine lv_icmp_ne (tgt := 45) hx hb dX9_paste_39 (by decide) (fun c11 => ?_) (fun c11 => ?_)
        ·
          have q11 : ¬ (i1 97 a_c.toNatClampNeg).toInt = (-1) := i_ne c11
          have h12 : rg 0 3 (i1 97 a_c.toNatClampNeg) := t_nelo 0 (Rg_at hR1 97 a_c.toNatClampNeg (-1) 3 (v_lt (v_in h6 (by decide))) rfl) (rg_k (by decide) : rg (-1) (-1) (-1)) (i_ne c11) (by decide)
          refine lv_aload_n hx hb dX9_paste_45 rfl (lv_at hl 0 rfl) ?_
          refine r_getr X hT 96 1 97 fk_9_7 rfl rfl (by decide) dX9_paste_46 ?_
          refine lv_iload_n hx hb dX9_paste_49 rfl (lv_at hl 1 rfl) ?_
          refine r_iald X hT 97 rfl (by decide) (v_in h3 (by decide)) dX9_paste_50 ?_
          refine lv_aload_n hx hb dX9_paste_51 rfl (lv_at hl 0 rfl) ?_
          refine r_getr X hT 96 1 97 fk_9_7 rfl rfl (by decide) dX9_paste_52 ?_
          refine lv_iload_n hx hb dX9_paste_55 rfl (lv_at hl 3 rfl) ?_
          refine r_iald X hT 97 rfl (by decide) (v_in h6 (by decide)) dX9_paste_56 ?_
          refine lv_icmp_eq (tgt := 63) hx hb dX9_paste_57 (by decide) (fun c13 => ?_) (fun c13 => ?_)
          ·
            have q13 : (i1 97 a_a.toNatClampNeg).toInt = (i1 97 a_c.toNatClampNeg).toInt := i_eq c13
            refine lv_iload_n hx hb dX9_paste_63 rfl (lv_at hl 2 rfl) ?_
            refine lv_if_lt (tgt := 112) hx hb dX9_paste_64 (by decide) (fun c14 => ?_) (fun c14 => ?_)
            ·
              have q14 : a_b.toInt < 0 := i_lt c14
              have h15 : rg (-2147483648) (-1) a_b := t_ltx (-2147483648) (-1) (rg_top a_b) (rg_k (by decide) : rg 0 0 0) (i_lt c14) (by decide)
              refine lv_bipush (v := (-7)) hx hb dX9_paste_112 (by decide) ?_
              exact hret (-7) _ _ _ _ _ _ dX9_paste_114 hT hS (Or.inr (Or.inl ⟨hR1, hF1, rfl, (by have := congrArg Int32.toInt (congrFun (cell_j ei1 (by decide) : i1 97 = i 97) a_a.toNatClampNeg); have := congrArg Int32.toInt (congrFun (cell_j ei1 (by decide) : i1 97 = i 97) a_c.toNatClampNeg); have := congrArg Int32.toInt (congrFun (cell_j ei1 (by decide) : i1 98 = i 98) a_a.toNatClampNeg); have := congrArg Int32.toInt (congrFun (cell_j ei1 (by decide) : i1 98 = i 98) a_c.toNatClampNeg); have := h3.1; have := h3.2; have := h6.1; have := h6.2; have := h15.1; have := h15.2; omega)⟩))
            ·
              have q14 : 0 ≤ a_b.toInt := i_nlt c14
              have h16 : rg 0 2147483647 a_b := t_ley 0 2147483647 (rg_k (by decide) : rg 0 0 0) (rg_top a_b) (i_nlt c14) (by decide)
              refine lv_iload hx hb dX9_paste_67 (lv_at hl 4 rfl) ?_
              refine lv_if_lt (tgt := 112) hx hb dX9_paste_69 (by decide) (fun c17 => ?_) (fun c17 => ?_)
              ·
                have q17 : a_d.toInt < 0 := i_lt c17
                have h18 : rg (-2147483648) (-1) a_d := t_ltx (-2147483648) (-1) (rg_top a_d) (rg_k (by decide) : rg 0 0 0) (i_lt c17) (by decide)
                refine lv_bipush (v := (-7)) hx hb dX9_paste_112 (by decide) ?_
                exact hret (-7) _ _ _ _ _ _ dX9_paste_114 hT hS (Or.inr (Or.inl ⟨hR1, hF1, rfl, (by have := congrArg Int32.toInt (congrFun (cell_j ei1 (by decide) : i1 97 = i 97) a_a.toNatClampNeg); have := congrArg Int32.toInt (congrFun (cell_j ei1 (by decide) : i1 97 = i 97) a_c.toNatClampNeg); have := congrArg Int32.toInt (congrFun (cell_j ei1 (by decide) : i1 98 = i 98) a_a.toNatClampNeg); have := congrArg Int32.toInt (congrFun (cell_j ei1 (by decide) : i1 98 = i 98) a_c.toNatClampNeg); have := h3.1; have := h3.2; have := h6.1; have := h6.2; have := h16.1; have := h16.2; have := h18.1; have := h18.2; omega)⟩))
              ·
                have q17 : 0 ≤ a_d.toInt := i_nlt c17
                have h19 : rg 0 2147483647 a_d := t_ley 0 2147483647 (rg_k (by decide) : rg 0 0 0) (rg_top a_d) (i_nlt c17) (by decide)
                refine lv_iload hx hb dX9_paste_72 (lv_at hl 5 rfl) ?_
                refine lv_if_lt (tgt := 112) hx hb dX9_paste_74 (by decide) (fun c20 => ?_) (fun c20 => ?_)
                ·
                  have q20 : a_e.toInt < 0 := i_lt c20
                  have h21 : rg (-2147483648) (-1) a_e := t_ltx (-2147483648) (-1) (rg_top a_e) (rg_k (by decide) : rg 0 0 0) (i_lt c20) (by decide)
                  refine lv_bipush (v := (-7)) hx hb dX9_paste_112 (by decide) ?_
                  exact hret (-7) _ _ _ _ _ _ dX9_paste_114 hT hS (Or.inr (Or.inl ⟨hR1, hF1, rfl, (by have := congrArg Int32.toInt (congrFun (cell_j ei1 (by decide) : i1 97 = i 97) a_a.toNatClampNeg); have := congrArg Int32.toInt (congrFun (cell_j ei1 (by decide) : i1 97 = i 97) a_c.toNatClampNeg); have := congrArg Int32.toInt (congrFun (cell_j ei1 (by decide) : i1 98 = i 98) a_a.toNatClampNeg); have := congrArg Int32.toInt (congrFun (cell_j ei1 (by decide) : i1 98 = i 98) a_c.toNatClampNeg); have := h3.1; have := h3.2; have := h6.1; have := h6.2; have := h16.1; have := h16.2; have := h19.1; have := h19.2; have := h21.1; have := h21.2; omega)⟩))
                ·
                  have q20 : 0 ≤ a_e.toInt := i_nlt c20
                  have h22 : rg 0 2147483647 a_e := t_ley 0 2147483647 (rg_k (by decide) : rg 0 0 0) (rg_top a_e) (i_nlt c20) (by decide)
                  refine lv_iload_n hx hb dX9_paste_77 rfl (lv_at hl 2 rfl) ?_
                  refine q_i2l hx hb dX9_paste_78 (fun y23 ey23 => ?_)
                  obtain ⟨hy23, ay23⟩ := rg_i2l ey23 h16
                  refine lv_iload hx hb dX9_paste_79 (lv_at hl 5 rfl) ?_
                  refine q_i2l hx hb dX9_paste_81 (fun y24 ey24 => ?_)
                  obtain ⟨hy24, ay24⟩ := rg_i2l ey24 h22
                  refine q_ladd hx hb dX9_paste_82 (fun y25 ey25 => ?_)
                  obtain ⟨hy25, ay25⟩ := rgL_add 0 4294967294 ey25 hy23 hy24 (by decide)
                  refine lv_aload_n hx hb dX9_paste_83 rfl (lv_at hl 0 rfl) ?_
                  refine r_getr X hT 96 2 98 fk_9_13 rfl rfl (by decide) dX9_paste_84 ?_
                  refine lv_iload_n hx hb dX9_paste_87 rfl (lv_at hl 1 rfl) ?_
                  refine r_iald X hT 98 rfl (by decide) (v_in h3 (by decide)) dX9_paste_88 ?_
                  refine q_i2l hx hb dX9_paste_89 (fun y26 ey26 => ?_)
                  obtain ⟨hy26, ay26⟩ := rg_i2l ey26 (Rg_at hR1 98 a_a.toNatClampNeg 0 60 (v_lt (v_in h3 (by decide))) rfl)
                  refine W.lcmp hx hb dX9_paste_90 ?_
                  refine lv_if_gt (tgt := 112) hx hb dX9_paste_91 (by decide) (fun c27 => ?_) (fun c27 => ?_)
                  ·
                    have q27 : y26.toInt < y25.toInt := c_gt c27
                    have h28 : rgL 1 4294967294 y25 := tL_lty 1 4294967294 hy26 hy25 (c_gt c27) (by decide)
                    refine lv_bipush (v := (-7)) hx hb dX9_paste_112 (by decide) ?_
                    exact hret (-7) _ _ _ _ _ _ dX9_paste_114 hT hS (Or.inr (Or.inl ⟨hR1, hF1, rfl, (by have := congrArg Int32.toInt (congrFun (cell_j ei1 (by decide) : i1 97 = i 97) a_a.toNatClampNeg); have := congrArg Int32.toInt (congrFun (cell_j ei1 (by decide) : i1 97 = i 97) a_c.toNatClampNeg); have := congrArg Int32.toInt (congrFun (cell_j ei1 (by decide) : i1 98 = i 98) a_a.toNatClampNeg); have := congrArg Int32.toInt (congrFun (cell_j ei1 (by decide) : i1 98 = i 98) a_c.toNatClampNeg); have := h3.1; have := h3.2; have := h6.1; have := h6.2; have := h16.1; have := h16.2; have := h19.1; have := h19.2; have := h22.1; have := h22.2; omega)⟩))
                  ·
                    have q27 : y25.toInt ≤ y26.toInt := c_ngt c27
                    have h29 : rgL 0 60 y25 := tL_lex 0 60 hy25 hy26 (c_ngt c27) (by decide)
                    refine lv_iload hx hb dX9_paste_94 (lv_at hl 4 rfl) ?_
                    refine q_i2l hx hb dX9_paste_96 (fun y30 ey30 => ?_)
                    obtain ⟨hy30, ay30⟩ := rg_i2l ey30 h19
                    refine lv_iload hx hb dX9_paste_97 (lv_at hl 5 rfl) ?_
                    refine q_i2l hx hb dX9_paste_99 (fun y31 ey31 => ?_)
                    obtain ⟨hy31, ay31⟩ := rg_i2l ey31 h22
                    refine q_ladd hx hb dX9_paste_100 (fun y32 ey32 => ?_)
                    obtain ⟨hy32, ay32⟩ := rgL_add 0 4294967294 ey32 hy30 hy31 (by decide)
                    refine lv_aload_n hx hb dX9_paste_101 rfl (lv_at hl 0 rfl) ?_
                    refine r_getr X hT 96 2 98 fk_9_13 rfl rfl (by decide) dX9_paste_102 ?_
                    refine lv_iload_n hx hb dX9_paste_105 rfl (lv_at hl 3 rfl) ?_
                    refine r_iald X hT 98 rfl (by decide) (v_in h6 (by decide)) dX9_paste_106 ?_
                    refine q_i2l hx hb dX9_paste_107 (fun y33 ey33 => ?_)
                    obtain ⟨hy33, ay33⟩ := rg_i2l ey33 (Rg_at hR1 98 a_c.toNatClampNeg 0 60 (v_lt (v_in h6 (by decide))) rfl)
                    refine W.lcmp hx hb dX9_paste_108 ?_
                    refine lv_if_le (tgt := 115) hx hb dX9_paste_109 (by decide) (fun c34 => ?_) (fun c34 => ?_)
                    ·
                      have q34 : y32.toInt ≤ y33.toInt := c_le c34
                      have h35 : rgL 0 60 y32 := tL_lex 0 60 hy32 hy33 (c_le c34) (by decide)
                      have h36 : rg 0 60 a_b := ⟨by have := q27; have := ay25; have := ay23; have := ay24; have := ay26; have := (Rg_at hR1 98 a_a.toNatClampNeg 0 60 (v_lt (v_in h3 (by decide))) rfl).2; have := q34; have := ay32; have := ay30; have := ay31; have := ay33; have := (Rg_at hR1 98 a_c.toNatClampNeg 0 60 (v_lt (v_in h6 (by decide))) rfl).2; have := h16.1; have := h19.1; have := h22.1; omega, by have := q27; have := ay25; have := ay23; have := ay24; have := ay26; have := (Rg_at hR1 98 a_a.toNatClampNeg 0 60 (v_lt (v_in h3 (by decide))) rfl).2; have := q34; have := ay32; have := ay30; have := ay31; have := ay33; have := (Rg_at hR1 98 a_c.toNatClampNeg 0 60 (v_lt (v_in h6 (by decide))) rfl).2; have := h16.1; have := h19.1; have := h22.1; omega⟩
                      have h37 : rg 0 60 a_d := ⟨by have := q27; have := ay25; have := ay23; have := ay24; have := ay26; have := (Rg_at hR1 98 a_a.toNatClampNeg 0 60 (v_lt (v_in h3 (by decide))) rfl).2; have := q34; have := ay32; have := ay30; have := ay31; have := ay33; have := (Rg_at hR1 98 a_c.toNatClampNeg 0 60 (v_lt (v_in h6 (by decide))) rfl).2; have := h16.1; have := h19.1; have := h22.1; omega, by have := q27; have := ay25; have := ay23; have := ay24; have := ay26; have := (Rg_at hR1 98 a_a.toNatClampNeg 0 60 (v_lt (v_in h3 (by decide))) rfl).2; have := q34; have := ay32; have := ay30; have := ay31; have := ay33; have := (Rg_at hR1 98 a_c.toNatClampNeg 0 60 (v_lt (v_in h6 (by decide))) rfl).2; have := h16.1; have := h19.1; have := h22.1; omega⟩
                      have h38 : rg 0 60 a_e := ⟨by have := q27; have := ay25; have := ay23; have := ay24; have := ay26; have := (Rg_at hR1 98 a_a.toNatClampNeg 0 60 (v_lt (v_in h3 (by decide))) rfl).2; have := q34; have := ay32; have := ay30; have := ay31; have := ay33; have := (Rg_at hR1 98 a_c.toNatClampNeg 0 60 (v_lt (v_in h6 (by decide))) rfl).2; have := h16.1; have := h19.1; have := h22.1; omega, by have := q27; have := ay25; have := ay23; have := ay24; have := ay26; have := (Rg_at hR1 98 a_a.toNatClampNeg 0 60 (v_lt (v_in h3 (by decide))) rfl).2; have := q34; have := ay32; have := ay30; have := ay31; have := ay33; have := (Rg_at hR1 98 a_c.toNatClampNeg 0 60 (v_lt (v_in h6 (by decide))) rfl).2; have := h16.1; have := h19.1; have := h22.1; omega⟩
                      refine lv_iconst (v := 0) hx hb dX9_paste_115 (by decide) ?_
                      refine lv_istore (lv' := [(6, .int 0), (0, .ref (h 96)), (1, .int a_a), (2, .int a_b), (3, .int a_c), (4, .int a_d), (5, .int a_e)]) hx hb dX9_paste_116 hl (by decide) rfl (fun ls hl => ?_)
                      have L118_39 : ∀ (n41_ : Nat) (x118_6 : Int32) (g40 : Nat → Nat → Int64) (H : Heap) (locs : List Loc) (ls : Array Slot), rg 0 60 x118_6 → Fr [96] [99, 100] i g (i1, g40) → TH D h cz i1 g40 H → va_S (hA h) s.heap H locs → lv_has ls 7 [(0, .ref (h 96)), (1, .int a_a), (2, .int a_b), (3, .int a_c), (4, .int a_d), (5, .int a_e), (6, .int x118_6)] → (60 - x118_6.toInt).toNat < n41_ → W p l e ({ frames := 2, cells := 0, slots := 0, locals := 45 } : Room) s m args below meth c H locs 0 0 Q (F0 m 118 ls []) := by
                        intro n41_
                        induction n41_ with
                        | zero => intro x118_6 g40 H locs ls hhx118_6 hF40 hT hS hl hm41_; exact absurd hm41_ (Nat.not_lt_zero _)
                        | succ n41_ ih41_ =>
                          intro x118_6 g40 H locs ls hhx118_6 hF40 hT hS hl hm41_
                          refine lv_iload hx hb dX9_paste_118 (lv_at hl 6 rfl) ?_
                          refine lv_iload hx hb dX9_paste_120 (lv_at hl 5 rfl) ?_
                          refine lv_icmp_ge (tgt := 152) hx hb dX9_paste_122 (by decide) (fun c42 => ?_) (fun c42 => ?_)
                          ·
                            have q42 : a_e.toInt ≤ x118_6.toInt := i_le c42
                            refine lv_iconst (v := 0) hx hb dX9_paste_152 (by decide) ?_
                            refine lv_istore (lv' := [(6, .int 0), (0, .ref (h 96)), (1, .int a_a), (2, .int a_b), (3, .int a_c), (4, .int a_d), (5, .int a_e)]) hx hb dX9_paste_153 hl (by decide) rfl (fun ls hl => ?_)
                            have L155_43 : ∀ (n45_ : Nat) (x155_1_6 : Int32) (g44 : Nat → Nat → Int64) (H : Heap) (locs : List Loc) (ls : Array Slot), rg 0 60 x155_1_6 → Fr [96] [99, 100] i g (i1, g44) → TH D h cz i1 g44 H → va_S (hA h) s.heap H locs → lv_has ls 7 [(0, .ref (h 96)), (3, .int a_c), (4, .int a_d), (5, .int a_e), (6, .int x155_1_6)] → (60 - x155_1_6.toInt).toNat < n45_ → W p l e ({ frames := 2, cells := 0, slots := 0, locals := 45 } : Room) s m args below meth c H locs 0 0 Q (F0 m 155 ls []) := by
                              intro n45_
                              induction n45_ with
                              | zero => intro x155_1_6 g44 H locs ls hhx155_1_6 hF44 hT hS hl hm45_; exact absurd hm45_ (Nat.not_lt_zero _)
                              | succ n45_ ih45_ =>
                                intro x155_1_6 g44 H locs ls hhx155_1_6 hF44 hT hS hl hm45_
                                refine lv_iload hx hb dX9_paste_155 (lv_at hl 4 rfl) ?_
                                refine lv_iload hx hb dX9_paste_157 (lv_at hl 3 rfl) ?_
                                refine lv_icmp_ge (tgt := 190) hx hb dX9_paste_159 (by decide) (fun c46 => ?_) (fun c46 => ?_)
                                ·
                                  have q46 : a_e.toInt ≤ x155_1_6.toInt := i_le c46
                                  refine lv_iconst (v := 0) hx hb dX9_paste_190 (by decide) ?_
                                  exact hret 0 _ _ _ _ _ _ dX9_paste_191 hT hS (Or.inl ⟨hR1, hF44, rfl, (by have := congrArg Int32.toInt (congrFun (cell_j ei1 (by decide) : i1 97 = i 97) a_a.toNatClampNeg); have := congrArg Int32.toInt (congrFun (cell_j ei1 (by decide) : i1 97 = i 97) a_c.toNatClampNeg); have := congrArg Int32.toInt (congrFun (cell_j ei1 (by decide) : i1 98 = i 98) a_a.toNatClampNeg); have := congrArg Int32.toInt (congrFun (cell_j ei1 (by decide) : i1 98 = i 98) a_c.toNatClampNeg); have := h3.1; have := h3.2; have := h6.1; have := h6.2; have := h36.1; have := h36.2; have := h37.1; have := h37.2; have := h38.1; have := h38.2; omega)⟩)
                                ·
                                  have q46 : x155_1_6.toInt < a_e.toInt := i_nle c46
                                  have h47 : rg 0 59 x155_1_6 := t_ltx 0 59 hhx155_1_6 h38 (i_nle c46) (by decide)
                                  have h48 : rg 1 60 a_e := t_lty 1 60 hhx155_1_6 h38 (i_nle c46) (by decide)
                                  refine lv_aload_n hx hb dX9_paste_162 rfl (lv_at hl 0 rfl) ?_
                                  refine r_getr X hT 96 3 99 fk_9_16 rfl rfl (by decide) dX9_paste_163 ?_
                                  refine lv_bipush (v := 60) hx hb dX9_paste_166 (by decide) ?_
                                  refine lv_iload_n hx hb dX9_paste_168 rfl (lv_at hl 1 rfl) ?_
                                  refine q_imul hx hb dX9_paste_169 (fun x49 ex49 => ?_)
                                  obtain ⟨hx49, ax49⟩ := rg_mul 0 180 ex49 (rg_k (by decide) : rg 60 60 60) h6 (by decide)
                                  replace ax49 : x49.toInt = 60 * a_c.toInt := ax49
                                  refine lv_iload hx hb dX9_paste_170 (lv_at hl 2 rfl) ?_
                                  refine q_iadd hx hb dX9_paste_172 (fun x50 ex50 => ?_)
                                  obtain ⟨hx50, ax50⟩ := rg_add 0 240 ex50 hx49 h37 (by decide)
                                  replace ax50 : x50.toInt = x49.toInt + a_d.toInt := ax50
                                  refine lv_iload hx hb dX9_paste_173 (lv_at hl 4 rfl) ?_
                                  refine q_iadd hx hb dX9_paste_175 (fun x51 ex51 => ?_)
                                  obtain ⟨hx51, ax51⟩ := rg_add 0 299 ex51 hx50 h47 (by decide)
                                  replace ax51 : x51.toInt = x50.toInt + x155_1_6.toInt := ax51
                                  refine lv_aload_n hx hb dX9_paste_176 rfl (lv_at hl 0 rfl) ?_
                                  refine r_getr X hT 96 4 100 fk_9_20 rfl rfl (by decide) dX9_paste_177 ?_
                                  refine lv_iload hx hb dX9_paste_180 (lv_at hl 4 rfl) ?_
                                  refine r_lald X hT 100 rfl (by decide) (v_in h47 (by decide)) dX9_paste_182 ?_
                                  have h52 : rg 0 239 x51 := ⟨by have := ax51; have := ax50; have := ax49; have := q27; have := ay25; have := ay23; have := ay24; have := ay26; have := (Rg_at hR1 98 a_a.toNatClampNeg 0 60 (v_lt (v_in h3 (by decide))) rfl).2; have := q34; have := ay32; have := ay30; have := ay31; have := ay33; have := (Rg_at hR1 98 a_c.toNatClampNeg 0 60 (v_lt (v_in h6 (by decide))) rfl).2; have := q46; have := h6.1; have := h37.1; have := h47.1; omega, by have := ax51; have := ax50; have := ax49; have := q27; have := ay25; have := ay23; have := ay24; have := ay26; have := (Rg_at hR1 98 a_a.toNatClampNeg 0 60 (v_lt (v_in h3 (by decide))) rfl).2; have := q34; have := ay32; have := ay30; have := ay31; have := ay33; have := (Rg_at hR1 98 a_c.toNatClampNeg 0 60 (v_lt (v_in h6 (by decide))) rfl).2; have := q46; have := h6.2; omega⟩
                                  refine r_last X hT hS 99 rfl (by decide) (v_in h52 (by decide)) dX9_paste_183 (fun H locs g53 eg53 hT hS => ?_)
                                  have hF53 := Fr_putl hF44 eg53 (by decide)
                                  obtain ⟨x54, ex54⟩ : ∃ y : Int32, y = x155_1_6 + 1 := ⟨_, rfl⟩
                                  refine lv_iinc (v := x54) (lv' := [(6, .int x54), (0, .ref (h 96)), (3, .int a_c), (4, .int a_d), (5, .int a_e)]) hx hb dX9_paste_184 hl (k := 4) rfl (by rw [ex54]; rfl) (by decide) rfl (fun ls hl => ?_)
                                  obtain ⟨hx54, ax54⟩ := rg_add 1 60 ex54 h47 (rg_k (by decide) : rg 1 1 1) (by decide)
                                  replace ax54 : x54.toInt = x155_1_6.toInt + 1 := ax54
                                  refine lv_goto (tgt := 155) hx hb dX9_paste_187 (by decide) ?_
                                  exact ih45_ x54 g53 _ _ _ (rg_w hx54 (by decide) : rg 0 60 x54) hF53 hT hS (lv_sub hl [1, 2, 3, 4, 0] rfl) (m_up ax54 hx54 (by decide) hm45_)
                            exact L155_43 _ (0) g40 _ _ _ (rg_w (rg_k (by decide) : rg 0 0 0) (by decide) : rg 0 60 0) hF40 hT hS (lv_sub hl [1, 4, 5, 6, 0] rfl) (Nat.lt_succ_self _)
                          ·
                            have q42 : x118_6.toInt < a_e.toInt := i_nle c42
                            have h55 : rg 0 59 x118_6 := t_ltx 0 59 hhx118_6 h38 (i_nle c42) (by decide)
                            have h56 : rg 1 60 a_e := t_lty 1 60 hhx118_6 h38 (i_nle c42) (by decide)
                            refine lv_aload_n hx hb dX9_paste_125 rfl (lv_at hl 0 rfl) ?_
                            refine r_getr X hT 96 4 100 fk_9_20 rfl rfl (by decide) dX9_paste_126 ?_
                            refine lv_iload hx hb dX9_paste_129 (lv_at hl 6 rfl) ?_
                            refine lv_aload_n hx hb dX9_paste_131 rfl (lv_at hl 0 rfl) ?_
                            refine r_getr X hT 96 3 99 fk_9_16 rfl rfl (by decide) dX9_paste_132 ?_
                            refine lv_bipush (v := 60) hx hb dX9_paste_135 (by decide) ?_
                            refine lv_iload_n hx hb dX9_paste_137 rfl (lv_at hl 1 rfl) ?_
                            refine q_imul hx hb dX9_paste_138 (fun x57 ex57 => ?_)
                            obtain ⟨hx57, ax57⟩ := rg_mul 0 180 ex57 (rg_k (by decide) : rg 60 60 60) h3 (by decide)
                            replace ax57 : x57.toInt = 60 * a_a.toInt := ax57
                            refine lv_iload_n hx hb dX9_paste_139 rfl (lv_at hl 2 rfl) ?_
                            refine q_iadd hx hb dX9_paste_140 (fun x58 ex58 => ?_)
                            obtain ⟨hx58, ax58⟩ := rg_add 0 240 ex58 hx57 h36 (by decide)
                            replace ax58 : x58.toInt = x57.toInt + a_b.toInt := ax58
                            refine lv_iload hx hb dX9_paste_141 (lv_at hl 6 rfl) ?_
                            refine q_iadd hx hb dX9_paste_143 (fun x59 ex59 => ?_)
                            obtain ⟨hx59, ax59⟩ := rg_add 0 299 ex59 hx58 h55 (by decide)
                            replace ax59 : x59.toInt = x58.toInt + x118_6.toInt := ax59
                            have h60 : rg 0 239 x59 := ⟨by have := ax59; have := ax58; have := ax57; have := q27; have := ay25; have := ay23; have := ay24; have := ay26; have := (Rg_at hR1 98 a_a.toNatClampNeg 0 60 (v_lt (v_in h3 (by decide))) rfl).2; have := q34; have := ay32; have := ay30; have := ay31; have := ay33; have := (Rg_at hR1 98 a_c.toNatClampNeg 0 60 (v_lt (v_in h6 (by decide))) rfl).2; have := q42; have := h3.1; have := h36.1; have := h55.1; omega, by have := ax59; have := ax58; have := ax57; have := q27; have := ay25; have := ay23; have := ay24; have := ay26; have := (Rg_at hR1 98 a_a.toNatClampNeg 0 60 (v_lt (v_in h3 (by decide))) rfl).2; have := q34; have := ay32; have := ay30; have := ay31; have := ay33; have := (Rg_at hR1 98 a_c.toNatClampNeg 0 60 (v_lt (v_in h6 (by decide))) rfl).2; have := q42; have := h3.2; omega⟩
                            refine r_lald X hT 99 rfl (by decide) (v_in h60 (by decide)) dX9_paste_144 ?_
                            refine r_last X hT hS 100 rfl (by decide) (v_in h55 (by decide)) dX9_paste_145 (fun H locs g61 eg61 hT hS => ?_)
                            have hF61 := Fr_putl hF40 eg61 (by decide)
                            obtain ⟨x62, ex62⟩ : ∃ y : Int32, y = x118_6 + 1 := ⟨_, rfl⟩
                            refine lv_iinc (v := x62) (lv' := [(6, .int x62), (0, .ref (h 96)), (1, .int a_a), (2, .int a_b), (3, .int a_c), (4, .int a_d), (5, .int a_e)]) hx hb dX9_paste_146 hl (k := 6) rfl (by rw [ex62]; rfl) (by decide) rfl (fun ls hl => ?_)
                            obtain ⟨hx62, ax62⟩ := rg_add 1 60 ex62 h55 (rg_k (by decide) : rg 1 1 1) (by decide)
                            replace ax62 : x62.toInt = x118_6.toInt + 1 := ax62
                            refine lv_goto (tgt := 118) hx hb dX9_paste_149 (by decide) ?_
                            exact ih41_ x62 g61 _ _ _ (rg_w hx62 (by decide) : rg 0 60 x62) hF61 hT hS (lv_sub hl [1, 2, 3, 4, 5, 6, 0] rfl) (m_up ax62 hx62 (by decide) hm41_)
                      exact L118_39 _ (0) g _ _ _ (rg_w (rg_k (by decide) : rg 0 0 0) (by decide) : rg 0 60 0) hF1 hT hS (lv_sub hl [1, 2, 3, 4, 5, 6, 0] rfl) (Nat.lt_succ_self _)
                    ·
                      have q34 : y33.toInt < y32.toInt := c_nle c34
                      have h63 : rgL 1 4294967294 y32 := tL_lty 1 4294967294 hy33 hy32 (c_nle c34) (by decide)
                      refine lv_bipush (v := (-7)) hx hb dX9_paste_112 (by decide) ?_
                      exact hret (-7) _ _ _ _ _ _ dX9_paste_114 hT hS (Or.inr (Or.inl ⟨hR1, hF1, rfl, (by have := congrArg Int32.toInt (congrFun (cell_j ei1 (by decide) : i1 97 = i 97) a_a.toNatClampNeg); have := congrArg Int32.toInt (congrFun (cell_j ei1 (by decide) : i1 97 = i 97) a_c.toNatClampNeg); have := congrArg Int32.toInt (congrFun (cell_j ei1 (by decide) : i1 98 = i 98) a_a.toNatClampNeg); have := congrArg Int32.toInt (congrFun (cell_j ei1 (by decide) : i1 98 = i 98) a_c.toNatClampNeg); have := h3.1; have := h3.2; have := h6.1; have := h6.2; have := h16.1; have := h16.2; have := h19.1; have := h19.2; have := h22.1; have := h22.2; omega)⟩))
          ·
            have q13 : ¬ (i1 97 a_a.toNatClampNeg).toInt = (i1 97 a_c.toNatClampNeg).toInt := i_ne c13
            refine lv_bipush (v := (-8)) hx hb dX9_paste_60 (by decide) ?_
            exact hret (-8) _ _ _ _ _ _ dX9_paste_62 hT hS (Or.inr (Or.inr (Or.inl ⟨hR1, hF1, rfl, (by have := congrArg Int32.toInt (congrFun (cell_j ei1 (by decide) : i1 97 = i 97) a_a.toNatClampNeg); have := congrArg Int32.toInt (congrFun (cell_j ei1 (by decide) : i1 97 = i 97) a_c.toNatClampNeg); have := congrArg Int32.toInt (congrFun (cell_j ei1 (by decide) : i1 98 = i 98) a_a.toNatClampNeg); have := congrArg Int32.toInt (congrFun (cell_j ei1 (by decide) : i1 98 = i 98) a_c.toNatClampNeg); have := h3.1; have := h3.2; have := h6.1; have := h6.2; omega)⟩)))
        ·
          have q11 : (i1 97 a_c.toNatClampNeg).toInt = (-1) := i_eq c11
          have h64 : rg (-1) (-1) (i1 97 a_c.toNatClampNeg) := t_eqx (-1) (-1) (Rg_at hR1 97 a_c.toNatClampNeg (-1) 3 (v_lt (v_in h6 (by decide))) rfl) (rg_k (by decide) : rg (-1) (-1) (-1)) (i_eq c11) (by decide)
          refine lv_bipush (v := (-6)) hx hb dX9_paste_42 (by decide) ?_
          exact hret (-6) _ _ _ _ _ _ dX9_paste_44 hT hS (Or.inr (Or.inr (Or.inr (Or.inl ⟨hR1, hF1, rfl, (by have := congrArg Int32.toInt (congrFun (cell_j ei1 (by decide) : i1 97 = i 97) a_a.toNatClampNeg); have := congrArg Int32.toInt (congrFun (cell_j ei1 (by decide) : i1 97 = i 97) a_c.toNatClampNeg); have := congrArg Int32.toInt (congrFun (cell_j ei1 (by decide) : i1 98 = i 98) a_a.toNatClampNeg); have := congrArg Int32.toInt (congrFun (cell_j ei1 (by decide) : i1 98 = i 98) a_c.toNatClampNeg); have := h3.1; have := h3.2; have := h6.1; have := h6.2; omega)⟩))))
    ·
      obtain ⟨eh5, rfl, hf5_0⟩ := hq
      rw [(Prod.mk.inj eh5).1, (Prod.mk.inj eh5).2] at hT
      refine lv_if_ne (tgt := 22) hx hb dX9_paste_16 (by decide) (fun c65 => (x_ne (rg_k (by decide) : rg 0 0 0) (rg_k (by decide) : rg 0 0 0) (i_ne c65) (by decide)).elim) (fun c65 => ?_)
      refine lv_bipush (v := (-2)) hx hb dX9_paste_19 (by decide) ?_
      exact hret (-2) _ _ _ _ _ _ dX9_paste_21 hT hS (Or.inr (Or.inr (Or.inr (Or.inr ⟨hR1, hF1, rfl, (by have := congrArg Int32.toInt (congrFun (cell_j ei1 (by decide) : i1 97 = i 97) a_a.toNatClampNeg); have := congrArg Int32.toInt (congrFun (cell_j ei1 (by decide) : i1 97 = i 97) a_c.toNatClampNeg); have := congrArg Int32.toInt (congrFun (cell_j ei1 (by decide) : i1 98 = i 98) a_a.toNatClampNeg); have := congrArg Int32.toInt (congrFun (cell_j ei1 (by decide) : i1 98 = i 98) a_c.toNatClampNeg); have := h3.1; have := h3.2; omega)⟩))))
  ·
    obtain ⟨eh2, rfl, hf2_0⟩ := hq
    rw [(Prod.mk.inj eh2).1, (Prod.mk.inj eh2).2] at hT
    refine lv_if_eq (tgt := 19) hx hb dX9_paste_9 (by decide) (fun c66 => ?_) (fun c66 => (x_ne (rg_k (by decide) : rg 0 0 0) (rg_k (by decide) : rg 0 0 0) (i_ne c66) (by decide)).elim)
    refine lv_bipush (v := (-2)) hx hb dX9_paste_19 (by decide) ?_
    exact hret (-2) _ _ _ _ _ _ dX9_paste_21 hT hS (Or.inr (Or.inr (Or.inr (Or.inr ⟨hR1, hF1, rfl, (by have := congrArg Int32.toInt (congrFun (cell_j ei1 (by decide) : i1 97 = i 97) a_a.toNatClampNeg); have := congrArg Int32.toInt (congrFun (cell_j ei1 (by decide) : i1 97 = i 97) a_c.toNatClampNeg); have := congrArg Int32.toInt (congrFun (cell_j ei1 (by decide) : i1 98 = i 98) a_a.toNatClampNeg); have := congrArg Int32.toInt (congrFun (cell_j ei1 (by decide) : i1 98 = i 98) a_c.toNatClampNeg); omega)⟩))))
