set_option maxRecDepth 100000 in
set_option maxHeartbeats 4000000 in
theorem m_X9_copyRow_103_7_0_2 {l : Launch} {D : va_G} {h : Nat → Nat} {cz : Nat → ClassId} {z : EZ} {i : Nat → Nat → Int32} {g : Nat → Nat → Int64} (hR : Rg rA i) (a_b : Int32) (a_c : Int32) (a_d : Int32) (ha_b : rg 7 7 a_b) (ha_c : rg 0 0 a_c) (ha_d : rg 2 2 a_d) : DtV l yX9_copyRow cX9_copyRow 5 none ({ frames := 0, cells := 0, slots := 0, locals := 0 } : Room) D h cz z i g [.ref (h 103), .int a_b, .int a_c, .int a_d] (fun u => Rg rA u.1 ∧ Fr [103] [] i g u) := by
  refine e_V pn_X9_copyRow (Nat.le_of_ble_eq_true rfl) ?_
  intro p e s m args below meth c ls Q X Y hret hT hl hS
  have hx := X.1
  have hb := X.2.1
  have hl : lv_has ls 5 [(0, .ref (h 103)), (1, .int a_b), (2, .int a_c), (3, .int a_d)] := hl
  have hF : Fr [103] [] i g (i, g) := Fr_rf _ _ _ _
  refine lv_iconst (v := 0) hx hb dX9_copyRow_0 (by decide) ?_
  refine lv_istore (lv' := [(4, .int 0), (0, .ref (h 103)), (1, .int a_b), (2, .int a_c), (3, .int a_d)]) hx hb dX9_copyRow_1 hl (by decide) rfl (fun ls hl => ?_)
  have L3_1 : ∀ (n3_ : Nat) (x3_4 : Int32) (i2 : Nat → Nat → Int32) (g2 : Nat → Nat → Int64) (H : Heap) (locs : List Loc) (ls : Array Slot), rg 0 8 x3_4 → Rg rA i2 → Fr [103] [] i g (i2, g2) → TH D h cz i2 g2 H → va_S (hA h) s.heap H locs → lv_has ls 5 [(0, .ref (h 103)), (1, .int a_b), (2, .int a_c), (3, .int a_d), (4, .int x3_4)] → (8 - x3_4.toInt).toNat < n3_ → W p l e ({ frames := 0, cells := 0, slots := 0, locals := 0 } : Room) s m args below meth c H locs 0 0 Q (F0 m 3 ls []) := by
    intro n3_
    induction n3_ with
    | zero => intro x3_4 i2 g2 H locs ls hhx3_4 hR2 hF2 hT hS hl hm3_; exact absurd hm3_ (Nat.not_lt_zero _)
    | succ n3_ ih3_ =>
      intro x3_4 i2 g2 H locs ls hhx3_4 hR2 hF2 hT hS hl hm3_
      refine lv_iload hx hb dX9_copyRow_3 (lv_at hl 4 rfl) ?_
      refine lv_iload_n hx hb dX9_copyRow_5 rfl (lv_at hl 1 rfl) ?_
      refine lv_icmp_ge (tgt := 31) hx hb dX9_copyRow_6 (by decide) (fun c4 => ?_) (fun c4 => ?_)
      ·
        have q4 : a_b.toInt ≤ x3_4.toInt := i_le c4
        have h5 : rg 7 8 x3_4 := t_ley 7 8 ha_b hhx3_4 (i_le c4) (by decide)
        exact hret _ _ _ _ _ _ dX9_copyRow_31 hT hS ⟨hR2, hF2⟩
      ·
        have q4 : x3_4.toInt < a_b.toInt := i_nle c4
        have h6 : rg 0 6 x3_4 := t_ltx 0 6 hhx3_4 ha_b (i_nle c4) (by decide)
        refine lv_aload_n hx hb dX9_copyRow_9 rfl (lv_at hl 0 rfl) ?_
        refine lv_iload_n hx hb dX9_copyRow_10 rfl (lv_at hl 1 rfl) ?_
        refine lv_iload_n hx hb dX9_copyRow_11 rfl (lv_at hl 3 rfl) ?_
        refine q_imul hx hb dX9_copyRow_12 (fun x7 ex7 => ?_)
        obtain ⟨hx7, ax7⟩ := rg_mul 14 14 ex7 ha_b ha_d (by decide)
        replace ax7 : x7.toInt = a_b.toInt * a_d.toInt := ax7
        refine lv_iload hx hb dX9_copyRow_13 (lv_at hl 4 rfl) ?_
        refine q_iadd hx hb dX9_copyRow_15 (fun x8 ex8 => ?_)
        obtain ⟨hx8, ax8⟩ := rg_add 14 20 ex8 hx7 h6 (by decide)
        replace ax8 : x8.toInt = x7.toInt + x3_4.toInt := ax8
        replace ax8 : x8.toInt = x3_4.toInt + 14 := by have := hx7.1; have := hx7.2; omega
        refine lv_aload_n hx hb dX9_copyRow_16 rfl (lv_at hl 0 rfl) ?_
        refine lv_iload_n hx hb dX9_copyRow_17 rfl (lv_at hl 1 rfl) ?_
        refine lv_iload_n hx hb dX9_copyRow_18 rfl (lv_at hl 2 rfl) ?_
        refine q_imul hx hb dX9_copyRow_19 (fun x9 ex9 => ?_)
        obtain ⟨hx9, ax9⟩ := rg_mul 0 0 ex9 ha_b ha_c (by decide)
        replace ax9 : x9.toInt = a_b.toInt * a_c.toInt := ax9
        refine lv_iload hx hb dX9_copyRow_20 (lv_at hl 4 rfl) ?_
        refine q_iadd hx hb dX9_copyRow_22 (fun x10 ex10 => ?_)
        obtain ⟨hx10, ax10⟩ := rg_add 0 6 ex10 hx9 h6 (by decide)
        replace ax10 : x10.toInt = x9.toInt + x3_4.toInt := ax10
        replace ax10 : x10.toInt = x3_4.toInt + 0 := by have := hx9.1; have := hx9.2; omega
        refine r_iald X hT 103 rfl (by decide) (v_in hx10 (by decide)) dX9_copyRow_23 ?_
        have h11 : rg 0 20 (i2 103 x10.toNatClampNeg) := Rg_ata hR2 103 x10.toNatClampNeg 0 20 (v_lt (v_in hx10 (by decide))) (aff_at (m := 1) (a := 0) (n := 7) (c := 0) (by decide) (v := x3_4.toInt) ⟨by have := h6.1; omega, by have := h6.2; omega⟩ (by have := ax10; omega))
        refine r_iast X hT hS 103 rfl (by decide) (v_in hx8 (by decide)) dX9_copyRow_24 (fun H locs i12 ei12 hT hS => ?_)
        have hR12 := Rg_mv hR2 ei12 (v_lt (v_in hx10 (by decide))) (aff_mv (T := rA) (j := 103) (m := 1) (a := 0) (n := 7) (c := 14) (c1 := 0) (by decide) (v := x3_4.toInt) ⟨by have := h6.1; omega, by have := h6.2; omega⟩ (by have := ax8; omega) (by have := ax10; omega))
        have hF12 := Fr_puti hF2 ei12 (by decide)
        obtain ⟨x13, ex13⟩ : ∃ y : Int32, y = x3_4 + 1 := ⟨_, rfl⟩
        refine lv_iinc (v := x13) (lv' := [(4, .int x13), (0, .ref (h 103)), (1, .int a_b), (2, .int a_c), (3, .int a_d)]) hx hb dX9_copyRow_25 hl (k := 4) rfl (by rw [ex13]; rfl) (by decide) rfl (fun ls hl => ?_)
        obtain ⟨hx13, ax13⟩ := rg_add 1 7 ex13 h6 (rg_k (by decide) : rg 1 1 1) (by decide)
        replace ax13 : x13.toInt = x3_4.toInt + 1 := ax13
        refine lv_goto (tgt := 3) hx hb dX9_copyRow_28 (by decide) ?_
        exact ih3_ x13 i12 g2 _ _ _ (rg_w hx13 (by decide) : rg 0 8 x13) hR12 hF12 hT hS (lv_sub hl [1, 2, 3, 4, 0] rfl) (m_up ax13 hx13 (by decide) hm3_)
  exact L3_1 _ (0) i g _ _ _ (rg_w (rg_k (by decide) : rg 0 0 0) (by decide) : rg 0 8 0) hR hF hT hS (lv_sub hl [1, 2, 3, 4, 0] rfl) (Nat.lt_succ_self _)
set_option maxRecDepth 100000 in
set_option maxHeartbeats 4000000 in
theorem m_X9_copyRow_104_18_0_2 {l : Launch} {D : va_G} {h : Nat → Nat} {cz : Nat → ClassId} {z : EZ} {i : Nat → Nat → Int32} {g : Nat → Nat → Int64} (hR : Rg rA i) (a_b : Int32) (a_c : Int32) (a_d : Int32) (ha_b : rg 18 18 a_b) (ha_c : rg 0 0 a_c) (ha_d : rg 2 2 a_d) : DtV l yX9_copyRow cX9_copyRow 5 none ({ frames := 0, cells := 0, slots := 0, locals := 0 } : Room) D h cz z i g [.ref (h 104), .int a_b, .int a_c, .int a_d] (fun u => Rg rA u.1 ∧ Fr [104] [] i g u) := by
  refine e_V pn_X9_copyRow (Nat.le_of_ble_eq_true rfl) ?_
  intro p e s m args below meth c ls Q X Y hret hT hl hS
  have hx := X.1
  have hb := X.2.1
  have hl : lv_has ls 5 [(0, .ref (h 104)), (1, .int a_b), (2, .int a_c), (3, .int a_d)] := hl
  have hF : Fr [104] [] i g (i, g) := Fr_rf _ _ _ _
  refine lv_iconst (v := 0) hx hb dX9_copyRow_0 (by decide) ?_
  refine lv_istore (lv' := [(4, .int 0), (0, .ref (h 104)), (1, .int a_b), (2, .int a_c), (3, .int a_d)]) hx hb dX9_copyRow_1 hl (by decide) rfl (fun ls hl => ?_)
  have L3_1 : ∀ (n3_ : Nat) (x3_4 : Int32) (i2 : Nat → Nat → Int32) (g2 : Nat → Nat → Int64) (H : Heap) (locs : List Loc) (ls : Array Slot), rg 0 20 x3_4 → Rg rA i2 → Fr [104] [] i g (i2, g2) → TH D h cz i2 g2 H → va_S (hA h) s.heap H locs → lv_has ls 5 [(0, .ref (h 104)), (1, .int a_b), (2, .int a_c), (3, .int a_d), (4, .int x3_4)] → (20 - x3_4.toInt).toNat < n3_ → W p l e ({ frames := 0, cells := 0, slots := 0, locals := 0 } : Room) s m args below meth c H locs 0 0 Q (F0 m 3 ls []) := by
    intro n3_
    induction n3_ with
    | zero => intro x3_4 i2 g2 H locs ls hhx3_4 hR2 hF2 hT hS hl hm3_; exact absurd hm3_ (Nat.not_lt_zero _)
    | succ n3_ ih3_ =>
      intro x3_4 i2 g2 H locs ls hhx3_4 hR2 hF2 hT hS hl hm3_
      refine lv_iload hx hb dX9_copyRow_3 (lv_at hl 4 rfl) ?_
      refine lv_iload_n hx hb dX9_copyRow_5 rfl (lv_at hl 1 rfl) ?_
      refine lv_icmp_ge (tgt := 31) hx hb dX9_copyRow_6 (by decide) (fun c4 => ?_) (fun c4 => ?_)
      ·
        have q4 : a_b.toInt ≤ x3_4.toInt := i_le c4
        have h5 : rg 18 20 x3_4 := t_ley 18 20 ha_b hhx3_4 (i_le c4) (by decide)
        exact hret _ _ _ _ _ _ dX9_copyRow_31 hT hS ⟨hR2, hF2⟩
      ·
        have q4 : x3_4.toInt < a_b.toInt := i_nle c4
        have h6 : rg 0 17 x3_4 := t_ltx 0 17 hhx3_4 ha_b (i_nle c4) (by decide)
        refine lv_aload_n hx hb dX9_copyRow_9 rfl (lv_at hl 0 rfl) ?_
        refine lv_iload_n hx hb dX9_copyRow_10 rfl (lv_at hl 1 rfl) ?_
        refine lv_iload_n hx hb dX9_copyRow_11 rfl (lv_at hl 3 rfl) ?_
        refine q_imul hx hb dX9_copyRow_12 (fun x7 ex7 => ?_)
        obtain ⟨hx7, ax7⟩ := rg_mul 36 36 ex7 ha_b ha_d (by decide)
        replace ax7 : x7.toInt = a_b.toInt * a_d.toInt := ax7
        refine lv_iload hx hb dX9_copyRow_13 (lv_at hl 4 rfl) ?_
        refine q_iadd hx hb dX9_copyRow_15 (fun x8 ex8 => ?_)
        obtain ⟨hx8, ax8⟩ := rg_add 36 53 ex8 hx7 h6 (by decide)
        replace ax8 : x8.toInt = x7.toInt + x3_4.toInt := ax8
        replace ax8 : x8.toInt = x3_4.toInt + 36 := by have := hx7.1; have := hx7.2; omega
        refine lv_aload_n hx hb dX9_copyRow_16 rfl (lv_at hl 0 rfl) ?_
        refine lv_iload_n hx hb dX9_copyRow_17 rfl (lv_at hl 1 rfl) ?_
        refine lv_iload_n hx hb dX9_copyRow_18 rfl (lv_at hl 2 rfl) ?_
        refine q_imul hx hb dX9_copyRow_19 (fun x9 ex9 => ?_)
        obtain ⟨hx9, ax9⟩ := rg_mul 0 0 ex9 ha_b ha_c (by decide)
        replace ax9 : x9.toInt = a_b.toInt * a_c.toInt := ax9
        refine lv_iload hx hb dX9_copyRow_20 (lv_at hl 4 rfl) ?_
        refine q_iadd hx hb dX9_copyRow_22 (fun x10 ex10 => ?_)
        obtain ⟨hx10, ax10⟩ := rg_add 0 17 ex10 hx9 h6 (by decide)
        replace ax10 : x10.toInt = x9.toInt + x3_4.toInt := ax10
        replace ax10 : x10.toInt = x3_4.toInt + 0 := by have := hx9.1; have := hx9.2; omega
        refine r_iald X hT 104 rfl (by decide) (v_in hx10 (by decide)) dX9_copyRow_23 ?_
        refine r_iast X hT hS 104 rfl (by decide) (v_in hx8 (by decide)) dX9_copyRow_24 (fun H locs i11 ei11 hT hS => ?_)
        have hR11 := Rg_put hR2 ei11 0 60 rfl (Rg_at hR2 104 x10.toNatClampNeg 0 60 (v_lt (v_in hx10 (by decide))) rfl) (by decide)
        have hF11 := Fr_puti hF2 ei11 (by decide)
        obtain ⟨x12, ex12⟩ : ∃ y : Int32, y = x3_4 + 1 := ⟨_, rfl⟩
        refine lv_iinc (v := x12) (lv' := [(4, .int x12), (0, .ref (h 104)), (1, .int a_b), (2, .int a_c), (3, .int a_d)]) hx hb dX9_copyRow_25 hl (k := 4) rfl (by rw [ex12]; rfl) (by decide) rfl (fun ls hl => ?_)
        obtain ⟨hx12, ax12⟩ := rg_add 1 18 ex12 h6 (rg_k (by decide) : rg 1 1 1) (by decide)
        replace ax12 : x12.toInt = x3_4.toInt + 1 := ax12
        refine lv_goto (tgt := 3) hx hb dX9_copyRow_28 (by decide) ?_
        exact ih3_ x12 i11 g2 _ _ _ (rg_w hx12 (by decide) : rg 0 20 x12) hR11 hF11 hT hS (lv_sub hl [1, 2, 3, 4, 0] rfl) (m_up ax12 hx12 (by decide) hm3_)
  exact L3_1 _ (0) i g _ _ _ (rg_w (rg_k (by decide) : rg 0 0 0) (by decide) : rg 0 20 0) hR hF hT hS (lv_sub hl [1, 2, 3, 4, 0] rfl) (Nat.lt_succ_self _)
set_option maxRecDepth 100000 in
set_option maxHeartbeats 4000000 in
theorem m_X9_copyRow_105_20_0_2 {l : Launch} {D : va_G} {h : Nat → Nat} {cz : Nat → ClassId} {z : EZ} {i : Nat → Nat → Int32} {g : Nat → Nat → Int64} (hR : Rg rA i) (a_b : Int32) (a_c : Int32) (a_d : Int32) (ha_b : rg 20 20 a_b) (ha_c : rg 0 0 a_c) (ha_d : rg 2 2 a_d) : DtV l yX9_copyRow cX9_copyRow 5 none ({ frames := 0, cells := 0, slots := 0, locals := 0 } : Room) D h cz z i g [.ref (h 105), .int a_b, .int a_c, .int a_d] (fun u => Rg rA u.1 ∧ Fr [105] [] i g u) := by
  refine e_V pn_X9_copyRow (Nat.le_of_ble_eq_true rfl) ?_
  intro p e s m args below meth c ls Q X Y hret hT hl hS
  have hx := X.1
  have hb := X.2.1
  have hl : lv_has ls 5 [(0, .ref (h 105)), (1, .int a_b), (2, .int a_c), (3, .int a_d)] := hl
  have hF : Fr [105] [] i g (i, g) := Fr_rf _ _ _ _
  refine lv_iconst (v := 0) hx hb dX9_copyRow_0 (by decide) ?_
  refine lv_istore (lv' := [(4, .int 0), (0, .ref (h 105)), (1, .int a_b), (2, .int a_c), (3, .int a_d)]) hx hb dX9_copyRow_1 hl (by decide) rfl (fun ls hl => ?_)
  have L3_1 : ∀ (n3_ : Nat) (x3_4 : Int32) (i2 : Nat → Nat → Int32) (g2 : Nat → Nat → Int64) (H : Heap) (locs : List Loc) (ls : Array Slot), rg 0 20 x3_4 → Rg rA i2 → Fr [105] [] i g (i2, g2) → TH D h cz i2 g2 H → va_S (hA h) s.heap H locs → lv_has ls 5 [(0, .ref (h 105)), (1, .int a_b), (2, .int a_c), (3, .int a_d), (4, .int x3_4)] → (20 - x3_4.toInt).toNat < n3_ → W p l e ({ frames := 0, cells := 0, slots := 0, locals := 0 } : Room) s m args below meth c H locs 0 0 Q (F0 m 3 ls []) := by
    intro n3_
    induction n3_ with
    | zero => intro x3_4 i2 g2 H locs ls hhx3_4 hR2 hF2 hT hS hl hm3_; exact absurd hm3_ (Nat.not_lt_zero _)
    | succ n3_ ih3_ =>
      intro x3_4 i2 g2 H locs ls hhx3_4 hR2 hF2 hT hS hl hm3_
      refine lv_iload hx hb dX9_copyRow_3 (lv_at hl 4 rfl) ?_
      refine lv_iload_n hx hb dX9_copyRow_5 rfl (lv_at hl 1 rfl) ?_
      refine lv_icmp_ge (tgt := 31) hx hb dX9_copyRow_6 (by decide) (fun c4 => ?_) (fun c4 => ?_)
      ·
        have q4 : a_b.toInt ≤ x3_4.toInt := i_le c4
        have h5 : rg 20 20 x3_4 := t_ley 20 20 ha_b hhx3_4 (i_le c4) (by decide)
        exact hret _ _ _ _ _ _ dX9_copyRow_31 hT hS ⟨hR2, hF2⟩
      ·
        have q4 : x3_4.toInt < a_b.toInt := i_nle c4
        have h6 : rg 0 19 x3_4 := t_ltx 0 19 hhx3_4 ha_b (i_nle c4) (by decide)
        refine lv_aload_n hx hb dX9_copyRow_9 rfl (lv_at hl 0 rfl) ?_
        refine lv_iload_n hx hb dX9_copyRow_10 rfl (lv_at hl 1 rfl) ?_
        refine lv_iload_n hx hb dX9_copyRow_11 rfl (lv_at hl 3 rfl) ?_
        refine q_imul hx hb dX9_copyRow_12 (fun x7 ex7 => ?_)
        obtain ⟨hx7, ax7⟩ := rg_mul 40 40 ex7 ha_b ha_d (by decide)
        replace ax7 : x7.toInt = a_b.toInt * a_d.toInt := ax7
        refine lv_iload hx hb dX9_copyRow_13 (lv_at hl 4 rfl) ?_
        refine q_iadd hx hb dX9_copyRow_15 (fun x8 ex8 => ?_)
        obtain ⟨hx8, ax8⟩ := rg_add 40 59 ex8 hx7 h6 (by decide)
        replace ax8 : x8.toInt = x7.toInt + x3_4.toInt := ax8
        replace ax8 : x8.toInt = x3_4.toInt + 40 := by have := hx7.1; have := hx7.2; omega
        refine lv_aload_n hx hb dX9_copyRow_16 rfl (lv_at hl 0 rfl) ?_
        refine lv_iload_n hx hb dX9_copyRow_17 rfl (lv_at hl 1 rfl) ?_
        refine lv_iload_n hx hb dX9_copyRow_18 rfl (lv_at hl 2 rfl) ?_
        refine q_imul hx hb dX9_copyRow_19 (fun x9 ex9 => ?_)
        obtain ⟨hx9, ax9⟩ := rg_mul 0 0 ex9 ha_b ha_c (by decide)
        replace ax9 : x9.toInt = a_b.toInt * a_c.toInt := ax9
        refine lv_iload hx hb dX9_copyRow_20 (lv_at hl 4 rfl) ?_
        refine q_iadd hx hb dX9_copyRow_22 (fun x10 ex10 => ?_)
        obtain ⟨hx10, ax10⟩ := rg_add 0 19 ex10 hx9 h6 (by decide)
        replace ax10 : x10.toInt = x9.toInt + x3_4.toInt := ax10
        replace ax10 : x10.toInt = x3_4.toInt + 0 := by have := hx9.1; have := hx9.2; omega
        refine r_iald X hT 105 rfl (by decide) (v_in hx10 (by decide)) dX9_copyRow_23 ?_
        refine r_iast X hT hS 105 rfl (by decide) (v_in hx8 (by decide)) dX9_copyRow_24 (fun H locs i11 ei11 hT hS => ?_)
        have hR11 := Rg_put hR2 ei11 0 5 rfl (Rg_at hR2 105 x10.toNatClampNeg 0 5 (v_lt (v_in hx10 (by decide))) rfl) (by decide)
        have hF11 := Fr_puti hF2 ei11 (by decide)
        obtain ⟨x12, ex12⟩ : ∃ y : Int32, y = x3_4 + 1 := ⟨_, rfl⟩
        refine lv_iinc (v := x12) (lv' := [(4, .int x12), (0, .ref (h 105)), (1, .int a_b), (2, .int a_c), (3, .int a_d)]) hx hb dX9_copyRow_25 hl (k := 4) rfl (by rw [ex12]; rfl) (by decide) rfl (fun ls hl => ?_)
        obtain ⟨hx12, ax12⟩ := rg_add 1 20 ex12 h6 (rg_k (by decide) : rg 1 1 1) (by decide)
        replace ax12 : x12.toInt = x3_4.toInt + 1 := ax12
        refine lv_goto (tgt := 3) hx hb dX9_copyRow_28 (by decide) ?_
        exact ih3_ x12 i11 g2 _ _ _ (rg_w hx12 (by decide) : rg 0 20 x12) hR11 hF11 hT hS (lv_sub hl [1, 2, 3, 4, 0] rfl) (m_up ax12 hx12 (by decide) hm3_)
  exact L3_1 _ (0) i g _ _ _ (rg_w (rg_k (by decide) : rg 0 0 0) (by decide) : rg 0 20 0) hR hF hT hS (lv_sub hl [1, 2, 3, 4, 0] rfl) (Nat.lt_succ_self _)
set_option maxRecDepth 100000 in
set_option maxHeartbeats 4000000 in
theorem m_X9_copyRow_106_16_0_2 {l : Launch} {D : va_G} {h : Nat → Nat} {cz : Nat → ClassId} {z : EZ} {i : Nat → Nat → Int32} {g : Nat → Nat → Int64} (hR : Rg rA i) (a_b : Int32) (a_c : Int32) (a_d : Int32) (ha_b : rg 16 16 a_b) (ha_c : rg 0 0 a_c) (ha_d : rg 2 2 a_d) : DtV l yX9_copyRow cX9_copyRow 5 none ({ frames := 0, cells := 0, slots := 0, locals := 0 } : Room) D h cz z i g [.ref (h 106), .int a_b, .int a_c, .int a_d] (fun u => Rg rA u.1 ∧ Fr [106] [] i g u) := by
  refine e_V pn_X9_copyRow (Nat.le_of_ble_eq_true rfl) ?_
  intro p e s m args below meth c ls Q X Y hret hT hl hS
  have hx := X.1
  have hb := X.2.1
  have hl : lv_has ls 5 [(0, .ref (h 106)), (1, .int a_b), (2, .int a_c), (3, .int a_d)] := hl
  have hF : Fr [106] [] i g (i, g) := Fr_rf _ _ _ _
  refine lv_iconst (v := 0) hx hb dX9_copyRow_0 (by decide) ?_
  refine lv_istore (lv' := [(4, .int 0), (0, .ref (h 106)), (1, .int a_b), (2, .int a_c), (3, .int a_d)]) hx hb dX9_copyRow_1 hl (by decide) rfl (fun ls hl => ?_)
  have L3_1 : ∀ (n3_ : Nat) (x3_4 : Int32) (i2 : Nat → Nat → Int32) (g2 : Nat → Nat → Int64) (H : Heap) (locs : List Loc) (ls : Array Slot), rg 0 20 x3_4 → Rg rA i2 → Fr [106] [] i g (i2, g2) → TH D h cz i2 g2 H → va_S (hA h) s.heap H locs → lv_has ls 5 [(0, .ref (h 106)), (1, .int a_b), (2, .int a_c), (3, .int a_d), (4, .int x3_4)] → (20 - x3_4.toInt).toNat < n3_ → W p l e ({ frames := 0, cells := 0, slots := 0, locals := 0 } : Room) s m args below meth c H locs 0 0 Q (F0 m 3 ls []) := by
    intro n3_
    induction n3_ with
    | zero => intro x3_4 i2 g2 H locs ls hhx3_4 hR2 hF2 hT hS hl hm3_; exact absurd hm3_ (Nat.not_lt_zero _)
    | succ n3_ ih3_ =>
      intro x3_4 i2 g2 H locs ls hhx3_4 hR2 hF2 hT hS hl hm3_
      refine lv_iload hx hb dX9_copyRow_3 (lv_at hl 4 rfl) ?_
      refine lv_iload_n hx hb dX9_copyRow_5 rfl (lv_at hl 1 rfl) ?_
      refine lv_icmp_ge (tgt := 31) hx hb dX9_copyRow_6 (by decide) (fun c4 => ?_) (fun c4 => ?_)
      ·
        have q4 : a_b.toInt ≤ x3_4.toInt := i_le c4
        have h5 : rg 16 20 x3_4 := t_ley 16 20 ha_b hhx3_4 (i_le c4) (by decide)
        exact hret _ _ _ _ _ _ dX9_copyRow_31 hT hS ⟨hR2, hF2⟩
      ·
        have q4 : x3_4.toInt < a_b.toInt := i_nle c4
        have h6 : rg 0 15 x3_4 := t_ltx 0 15 hhx3_4 ha_b (i_nle c4) (by decide)
        refine lv_aload_n hx hb dX9_copyRow_9 rfl (lv_at hl 0 rfl) ?_
        refine lv_iload_n hx hb dX9_copyRow_10 rfl (lv_at hl 1 rfl) ?_
        refine lv_iload_n hx hb dX9_copyRow_11 rfl (lv_at hl 3 rfl) ?_
        refine q_imul hx hb dX9_copyRow_12 (fun x7 ex7 => ?_)
        obtain ⟨hx7, ax7⟩ := rg_mul 32 32 ex7 ha_b ha_d (by decide)
        replace ax7 : x7.toInt = a_b.toInt * a_d.toInt := ax7
        refine lv_iload hx hb dX9_copyRow_13 (lv_at hl 4 rfl) ?_
        refine q_iadd hx hb dX9_copyRow_15 (fun x8 ex8 => ?_)
        obtain ⟨hx8, ax8⟩ := rg_add 32 47 ex8 hx7 h6 (by decide)
        replace ax8 : x8.toInt = x7.toInt + x3_4.toInt := ax8
        replace ax8 : x8.toInt = x3_4.toInt + 32 := by have := hx7.1; have := hx7.2; omega
        refine lv_aload_n hx hb dX9_copyRow_16 rfl (lv_at hl 0 rfl) ?_
        refine lv_iload_n hx hb dX9_copyRow_17 rfl (lv_at hl 1 rfl) ?_
        refine lv_iload_n hx hb dX9_copyRow_18 rfl (lv_at hl 2 rfl) ?_
        refine q_imul hx hb dX9_copyRow_19 (fun x9 ex9 => ?_)
        obtain ⟨hx9, ax9⟩ := rg_mul 0 0 ex9 ha_b ha_c (by decide)
        replace ax9 : x9.toInt = a_b.toInt * a_c.toInt := ax9
        refine lv_iload hx hb dX9_copyRow_20 (lv_at hl 4 rfl) ?_
        refine q_iadd hx hb dX9_copyRow_22 (fun x10 ex10 => ?_)
        obtain ⟨hx10, ax10⟩ := rg_add 0 15 ex10 hx9 h6 (by decide)
        replace ax10 : x10.toInt = x9.toInt + x3_4.toInt := ax10
        replace ax10 : x10.toInt = x3_4.toInt + 0 := by have := hx9.1; have := hx9.2; omega
        refine r_iald X hT 106 rfl (by decide) (v_in hx10 (by decide)) dX9_copyRow_23 ?_
        have h11 : rg 0 11 (i2 106 x10.toNatClampNeg) := Rg_ata hR2 106 x10.toNatClampNeg 0 11 (v_lt (v_in hx10 (by decide))) (aff_at (m := 1) (a := 0) (n := 16) (c := 0) (by decide) (v := x3_4.toInt) ⟨by have := h6.1; omega, by have := h6.2; omega⟩ (by have := ax10; omega))
        refine r_iast X hT hS 106 rfl (by decide) (v_in hx8 (by decide)) dX9_copyRow_24 (fun H locs i12 ei12 hT hS => ?_)
        have hR12 := Rg_mv hR2 ei12 (v_lt (v_in hx10 (by decide))) (aff_mv (T := rA) (j := 106) (m := 1) (a := 0) (n := 16) (c := 32) (c1 := 0) (by decide) (v := x3_4.toInt) ⟨by have := h6.1; omega, by have := h6.2; omega⟩ (by have := ax8; omega) (by have := ax10; omega))
        have hF12 := Fr_puti hF2 ei12 (by decide)
        obtain ⟨x13, ex13⟩ : ∃ y : Int32, y = x3_4 + 1 := ⟨_, rfl⟩
        refine lv_iinc (v := x13) (lv' := [(4, .int x13), (0, .ref (h 106)), (1, .int a_b), (2, .int a_c), (3, .int a_d)]) hx hb dX9_copyRow_25 hl (k := 4) rfl (by rw [ex13]; rfl) (by decide) rfl (fun ls hl => ?_)
        obtain ⟨hx13, ax13⟩ := rg_add 1 16 ex13 h6 (rg_k (by decide) : rg 1 1 1) (by decide)
        replace ax13 : x13.toInt = x3_4.toInt + 1 := ax13
        refine lv_goto (tgt := 3) hx hb dX9_copyRow_28 (by decide) ?_
        exact ih3_ x13 i12 g2 _ _ _ (rg_w hx13 (by decide) : rg 0 20 x13) hR12 hF12 hT hS (lv_sub hl [1, 2, 3, 4, 0] rfl) (m_up ax13 hx13 (by decide) hm3_)
  exact L3_1 _ (0) i g _ _ _ (rg_w (rg_k (by decide) : rg 0 0 0) (by decide) : rg 0 20 0) hR hF hT hS (lv_sub hl [1, 2, 3, 4, 0] rfl) (Nat.lt_succ_self _)
set_option maxRecDepth 100000 in
set_option maxHeartbeats 4000000 in
theorem m_X9_copyRow_107_60_0_2 {l : Launch} {D : va_G} {h : Nat → Nat} {cz : Nat → ClassId} {z : EZ} {i : Nat → Nat → Int32} {g : Nat → Nat → Int64} (hR : Rg rA i) (a_b : Int32) (a_c : Int32) (a_d : Int32) (ha_b : rg 60 60 a_b) (ha_c : rg 0 0 a_c) (ha_d : rg 2 2 a_d) : DtV l yX9_copyRow cX9_copyRow 5 none ({ frames := 0, cells := 0, slots := 0, locals := 0 } : Room) D h cz z i g [.ref (h 107), .int a_b, .int a_c, .int a_d] (fun u => Rg rA u.1 ∧ Fr [107] [] i g u) := by
  refine e_V pn_X9_copyRow (Nat.le_of_ble_eq_true rfl) ?_
  intro p e s m args below meth c ls Q X Y hret hT hl hS
  have hx := X.1
  have hb := X.2.1
  have hl : lv_has ls 5 [(0, .ref (h 107)), (1, .int a_b), (2, .int a_c), (3, .int a_d)] := hl
  have hF : Fr [107] [] i g (i, g) := Fr_rf _ _ _ _
  refine lv_iconst (v := 0) hx hb dX9_copyRow_0 (by decide) ?_
  refine lv_istore (lv' := [(4, .int 0), (0, .ref (h 107)), (1, .int a_b), (2, .int a_c), (3, .int a_d)]) hx hb dX9_copyRow_1 hl (by decide) rfl (fun ls hl => ?_)
  have L3_1 : ∀ (n3_ : Nat) (x3_4 : Int32) (i2 : Nat → Nat → Int32) (g2 : Nat → Nat → Int64) (H : Heap) (locs : List Loc) (ls : Array Slot), rg 0 60 x3_4 → Rg rA i2 → Fr [107] [] i g (i2, g2) → TH D h cz i2 g2 H → va_S (hA h) s.heap H locs → lv_has ls 5 [(0, .ref (h 107)), (1, .int a_b), (2, .int a_c), (3, .int a_d), (4, .int x3_4)] → (60 - x3_4.toInt).toNat < n3_ → W p l e ({ frames := 0, cells := 0, slots := 0, locals := 0 } : Room) s m args below meth c H locs 0 0 Q (F0 m 3 ls []) := by
    intro n3_
    induction n3_ with
    | zero => intro x3_4 i2 g2 H locs ls hhx3_4 hR2 hF2 hT hS hl hm3_; exact absurd hm3_ (Nat.not_lt_zero _)
    | succ n3_ ih3_ =>
      intro x3_4 i2 g2 H locs ls hhx3_4 hR2 hF2 hT hS hl hm3_
      refine lv_iload hx hb dX9_copyRow_3 (lv_at hl 4 rfl) ?_
      refine lv_iload_n hx hb dX9_copyRow_5 rfl (lv_at hl 1 rfl) ?_
      refine lv_icmp_ge (tgt := 31) hx hb dX9_copyRow_6 (by decide) (fun c4 => ?_) (fun c4 => ?_)
      ·
        have q4 : a_b.toInt ≤ x3_4.toInt := i_le c4
        have h5 : rg 60 60 x3_4 := t_ley 60 60 ha_b hhx3_4 (i_le c4) (by decide)
        exact hret _ _ _ _ _ _ dX9_copyRow_31 hT hS ⟨hR2, hF2⟩
      ·
        have q4 : x3_4.toInt < a_b.toInt := i_nle c4
        have h6 : rg 0 59 x3_4 := t_ltx 0 59 hhx3_4 ha_b (i_nle c4) (by decide)
        refine lv_aload_n hx hb dX9_copyRow_9 rfl (lv_at hl 0 rfl) ?_
        refine lv_iload_n hx hb dX9_copyRow_10 rfl (lv_at hl 1 rfl) ?_
        refine lv_iload_n hx hb dX9_copyRow_11 rfl (lv_at hl 3 rfl) ?_
        refine q_imul hx hb dX9_copyRow_12 (fun x7 ex7 => ?_)
        obtain ⟨hx7, ax7⟩ := rg_mul 120 120 ex7 ha_b ha_d (by decide)
        replace ax7 : x7.toInt = a_b.toInt * a_d.toInt := ax7
        refine lv_iload hx hb dX9_copyRow_13 (lv_at hl 4 rfl) ?_
        refine q_iadd hx hb dX9_copyRow_15 (fun x8 ex8 => ?_)
        obtain ⟨hx8, ax8⟩ := rg_add 120 179 ex8 hx7 h6 (by decide)
        replace ax8 : x8.toInt = x7.toInt + x3_4.toInt := ax8
        replace ax8 : x8.toInt = x3_4.toInt + 120 := by have := hx7.1; have := hx7.2; omega
        refine lv_aload_n hx hb dX9_copyRow_16 rfl (lv_at hl 0 rfl) ?_
        refine lv_iload_n hx hb dX9_copyRow_17 rfl (lv_at hl 1 rfl) ?_
        refine lv_iload_n hx hb dX9_copyRow_18 rfl (lv_at hl 2 rfl) ?_
        refine q_imul hx hb dX9_copyRow_19 (fun x9 ex9 => ?_)
        obtain ⟨hx9, ax9⟩ := rg_mul 0 0 ex9 ha_b ha_c (by decide)
        replace ax9 : x9.toInt = a_b.toInt * a_c.toInt := ax9
        refine lv_iload hx hb dX9_copyRow_20 (lv_at hl 4 rfl) ?_
        refine q_iadd hx hb dX9_copyRow_22 (fun x10 ex10 => ?_)
        obtain ⟨hx10, ax10⟩ := rg_add 0 59 ex10 hx9 h6 (by decide)
        replace ax10 : x10.toInt = x9.toInt + x3_4.toInt := ax10
        replace ax10 : x10.toInt = x3_4.toInt + 0 := by have := hx9.1; have := hx9.2; omega
        refine r_iald X hT 107 rfl (by decide) (v_in hx10 (by decide)) dX9_copyRow_23 ?_
        have h11 : rg 0 11 (i2 107 x10.toNatClampNeg) := Rg_ata hR2 107 x10.toNatClampNeg 0 11 (v_lt (v_in hx10 (by decide))) (aff_at (m := 1) (a := 0) (n := 60) (c := 0) (by decide) (v := x3_4.toInt) ⟨by have := h6.1; omega, by have := h6.2; omega⟩ (by have := ax10; omega))
        refine r_iast X hT hS 107 rfl (by decide) (v_in hx8 (by decide)) dX9_copyRow_24 (fun H locs i12 ei12 hT hS => ?_)
        have hR12 := Rg_mv hR2 ei12 (v_lt (v_in hx10 (by decide))) (aff_mv (T := rA) (j := 107) (m := 1) (a := 0) (n := 60) (c := 120) (c1 := 0) (by decide) (v := x3_4.toInt) ⟨by have := h6.1; omega, by have := h6.2; omega⟩ (by have := ax8; omega) (by have := ax10; omega))
        have hF12 := Fr_puti hF2 ei12 (by decide)
        obtain ⟨x13, ex13⟩ : ∃ y : Int32, y = x3_4 + 1 := ⟨_, rfl⟩
        refine lv_iinc (v := x13) (lv' := [(4, .int x13), (0, .ref (h 107)), (1, .int a_b), (2, .int a_c), (3, .int a_d)]) hx hb dX9_copyRow_25 hl (k := 4) rfl (by rw [ex13]; rfl) (by decide) rfl (fun ls hl => ?_)
        obtain ⟨hx13, ax13⟩ := rg_add 1 60 ex13 h6 (rg_k (by decide) : rg 1 1 1) (by decide)
        replace ax13 : x13.toInt = x3_4.toInt + 1 := ax13
        refine lv_goto (tgt := 3) hx hb dX9_copyRow_28 (by decide) ?_
        exact ih3_ x13 i12 g2 _ _ _ (rg_w hx13 (by decide) : rg 0 60 x13) hR12 hF12 hT hS (lv_sub hl [1, 2, 3, 4, 0] rfl) (m_up ax13 hx13 (by decide) hm3_)
  exact L3_1 _ (0) i g _ _ _ (rg_w (rg_k (by decide) : rg 0 0 0) (by decide) : rg 0 60 0) hR hF hT hS (lv_sub hl [1, 2, 3, 4, 0] rfl) (Nat.lt_succ_self _)
set_option maxRecDepth 100000 in
set_option maxHeartbeats 4000000 in
theorem m_X9_copyRow_102_1_0_3 {l : Launch} {D : va_G} {h : Nat → Nat} {cz : Nat → ClassId} {z : EZ} {i : Nat → Nat → Int32} {g : Nat → Nat → Int64} (hR : Rg rA i) (a_b : Int32) (a_c : Int32) (a_d : Int32) (ha_b : rg 1 1 a_b) (ha_c : rg 0 0 a_c) (ha_d : rg 3 3 a_d) : DtV l yX9_copyRow cX9_copyRow 5 none ({ frames := 0, cells := 0, slots := 0, locals := 0 } : Room) D h cz z i g [.ref (h 102), .int a_b, .int a_c, .int a_d] (fun u => Rg rA u.1 ∧ Fr [102] [] i g u) := by
  refine e_V pn_X9_copyRow (Nat.le_of_ble_eq_true rfl) ?_
  intro p e s m args below meth c ls Q X Y hret hT hl hS
  have hx := X.1
  have hb := X.2.1
  have hl : lv_has ls 5 [(0, .ref (h 102)), (1, .int a_b), (2, .int a_c), (3, .int a_d)] := hl
  have hF : Fr [102] [] i g (i, g) := Fr_rf _ _ _ _
  refine lv_iconst (v := 0) hx hb dX9_copyRow_0 (by decide) ?_
  refine lv_istore (lv' := [(4, .int 0), (0, .ref (h 102)), (1, .int a_b), (2, .int a_c), (3, .int a_d)]) hx hb dX9_copyRow_1 hl (by decide) rfl (fun ls hl => ?_)
  have L3_1 : ∀ (n3_ : Nat) (x3_4 : Int32) (i2 : Nat → Nat → Int32) (g2 : Nat → Nat → Int64) (H : Heap) (locs : List Loc) (ls : Array Slot), rg 0 1 x3_4 → Rg rA i2 → Fr [102] [] i g (i2, g2) → TH D h cz i2 g2 H → va_S (hA h) s.heap H locs → lv_has ls 5 [(0, .ref (h 102)), (1, .int a_b), (2, .int a_c), (3, .int a_d), (4, .int x3_4)] → (1 - x3_4.toInt).toNat < n3_ → W p l e ({ frames := 0, cells := 0, slots := 0, locals := 0 } : Room) s m args below meth c H locs 0 0 Q (F0 m 3 ls []) := by
    intro n3_
    induction n3_ with
    | zero => intro x3_4 i2 g2 H locs ls hhx3_4 hR2 hF2 hT hS hl hm3_; exact absurd hm3_ (Nat.not_lt_zero _)
    | succ n3_ ih3_ =>
      intro x3_4 i2 g2 H locs ls hhx3_4 hR2 hF2 hT hS hl hm3_
      refine lv_iload hx hb dX9_copyRow_3 (lv_at hl 4 rfl) ?_
      refine lv_iload_n hx hb dX9_copyRow_5 rfl (lv_at hl 1 rfl) ?_
      refine lv_icmp_ge (tgt := 31) hx hb dX9_copyRow_6 (by decide) (fun c4 => ?_) (fun c4 => ?_)
      ·
        have q4 : a_b.toInt ≤ x3_4.toInt := i_le c4
        have h5 : rg 1 1 x3_4 := t_ley 1 1 ha_b hhx3_4 (i_le c4) (by decide)
        exact hret _ _ _ _ _ _ dX9_copyRow_31 hT hS ⟨hR2, hF2⟩
      ·
        have q4 : x3_4.toInt < a_b.toInt := i_nle c4
        have h6 : rg 0 0 x3_4 := t_ltx 0 0 hhx3_4 ha_b (i_nle c4) (by decide)
        refine lv_aload_n hx hb dX9_copyRow_9 rfl (lv_at hl 0 rfl) ?_
        refine lv_iload_n hx hb dX9_copyRow_10 rfl (lv_at hl 1 rfl) ?_
        refine lv_iload_n hx hb dX9_copyRow_11 rfl (lv_at hl 3 rfl) ?_
        refine q_imul hx hb dX9_copyRow_12 (fun x7 ex7 => ?_)
        obtain ⟨hx7, ax7⟩ := rg_mul 3 3 ex7 ha_b ha_d (by decide)
        replace ax7 : x7.toInt = a_b.toInt * a_d.toInt := ax7
        refine lv_iload hx hb dX9_copyRow_13 (lv_at hl 4 rfl) ?_
        refine q_iadd hx hb dX9_copyRow_15 (fun x8 ex8 => ?_)
        obtain ⟨hx8, ax8⟩ := rg_add 3 3 ex8 hx7 h6 (by decide)
        replace ax8 : x8.toInt = x7.toInt + x3_4.toInt := ax8
        replace ax8 : x8.toInt = x7.toInt + 0 := by have := h6.1; have := h6.2; omega
        refine lv_aload_n hx hb dX9_copyRow_16 rfl (lv_at hl 0 rfl) ?_
        refine lv_iload_n hx hb dX9_copyRow_17 rfl (lv_at hl 1 rfl) ?_
        refine lv_iload_n hx hb dX9_copyRow_18 rfl (lv_at hl 2 rfl) ?_
        refine q_imul hx hb dX9_copyRow_19 (fun x9 ex9 => ?_)
        obtain ⟨hx9, ax9⟩ := rg_mul 0 0 ex9 ha_b ha_c (by decide)
        replace ax9 : x9.toInt = a_b.toInt * a_c.toInt := ax9
        refine lv_iload hx hb dX9_copyRow_20 (lv_at hl 4 rfl) ?_
        refine q_iadd hx hb dX9_copyRow_22 (fun x10 ex10 => ?_)
        obtain ⟨hx10, ax10⟩ := rg_add 0 0 ex10 hx9 h6 (by decide)
        replace ax10 : x10.toInt = x9.toInt + x3_4.toInt := ax10
        replace ax10 : x10.toInt = x9.toInt + 0 := by have := h6.1; have := h6.2; omega
        refine r_ialdc X hT 102 0 rfl (by decide) (v_in hx10 (by decide)) (cl_c hx10 0 rfl (by decide)) dX9_copyRow_23 ?_
        refine r_iastc X hT hS 102 3 rfl (by decide) (v_in hx8 (by decide)) (cl_c hx8 3 rfl (by decide)) dX9_copyRow_24 (fun H locs i11 ei11 hT hS => ?_)
        have hR11 := Rg_put hR2 ei11 (-2147483648) 2147483647 rfl (rg_top (i2 102 0)) (by decide)
        have hF11 := Fr_puti hF2 ei11 (by decide)
        obtain ⟨x12, ex12⟩ : ∃ y : Int32, y = x3_4 + 1 := ⟨_, rfl⟩
        refine lv_iinc (v := x12) (lv' := [(4, .int x12), (0, .ref (h 102)), (1, .int a_b), (2, .int a_c), (3, .int a_d)]) hx hb dX9_copyRow_25 hl (k := 4) rfl (by rw [ex12]; rfl) (by decide) rfl (fun ls hl => ?_)
        obtain ⟨hx12, ax12⟩ := rg_add 1 1 ex12 h6 (rg_k (by decide) : rg 1 1 1) (by decide)
        replace ax12 : x12.toInt = x3_4.toInt + 1 := ax12
        refine lv_goto (tgt := 3) hx hb dX9_copyRow_28 (by decide) ?_
        exact ih3_ x12 i11 g2 _ _ _ (rg_w hx12 (by decide) : rg 0 1 x12) hR11 hF11 hT hS (lv_sub hl [1, 2, 3, 4, 0] rfl) (m_up ax12 hx12 (by decide) hm3_)
  exact L3_1 _ (0) i g _ _ _ (rg_w (rg_k (by decide) : rg 0 0 0) (by decide) : rg 0 1 0) hR hF hT hS (lv_sub hl [1, 2, 3, 4, 0] rfl) (Nat.lt_succ_self _)
set_option maxRecDepth 100000 in
set_option maxHeartbeats 4000000 in
theorem m_X9_copyRow_103_7_0_3 {l : Launch} {D : va_G} {h : Nat → Nat} {cz : Nat → ClassId} {z : EZ} {i : Nat → Nat → Int32} {g : Nat → Nat → Int64} (hR : Rg rA i) (a_b : Int32) (a_c : Int32) (a_d : Int32) (ha_b : rg 7 7 a_b) (ha_c : rg 0 0 a_c) (ha_d : rg 3 3 a_d) : DtV l yX9_copyRow cX9_copyRow 5 none ({ frames := 0, cells := 0, slots := 0, locals := 0 } : Room) D h cz z i g [.ref (h 103), .int a_b, .int a_c, .int a_d] (fun u => Rg rA u.1 ∧ Fr [103] [] i g u) := by
  refine e_V pn_X9_copyRow (Nat.le_of_ble_eq_true rfl) ?_
  intro p e s m args below meth c ls Q X Y hret hT hl hS
  have hx := X.1
  have hb := X.2.1
  have hl : lv_has ls 5 [(0, .ref (h 103)), (1, .int a_b), (2, .int a_c), (3, .int a_d)] := hl
  have hF : Fr [103] [] i g (i, g) := Fr_rf _ _ _ _
  refine lv_iconst (v := 0) hx hb dX9_copyRow_0 (by decide) ?_
  refine lv_istore (lv' := [(4, .int 0), (0, .ref (h 103)), (1, .int a_b), (2, .int a_c), (3, .int a_d)]) hx hb dX9_copyRow_1 hl (by decide) rfl (fun ls hl => ?_)
  have L3_1 : ∀ (n3_ : Nat) (x3_4 : Int32) (i2 : Nat → Nat → Int32) (g2 : Nat → Nat → Int64) (H : Heap) (locs : List Loc) (ls : Array Slot), rg 0 8 x3_4 → Rg rA i2 → Fr [103] [] i g (i2, g2) → TH D h cz i2 g2 H → va_S (hA h) s.heap H locs → lv_has ls 5 [(0, .ref (h 103)), (1, .int a_b), (2, .int a_c), (3, .int a_d), (4, .int x3_4)] → (8 - x3_4.toInt).toNat < n3_ → W p l e ({ frames := 0, cells := 0, slots := 0, locals := 0 } : Room) s m args below meth c H locs 0 0 Q (F0 m 3 ls []) := by
    intro n3_
    induction n3_ with
    | zero => intro x3_4 i2 g2 H locs ls hhx3_4 hR2 hF2 hT hS hl hm3_; exact absurd hm3_ (Nat.not_lt_zero _)
    | succ n3_ ih3_ =>
      intro x3_4 i2 g2 H locs ls hhx3_4 hR2 hF2 hT hS hl hm3_
      refine lv_iload hx hb dX9_copyRow_3 (lv_at hl 4 rfl) ?_
      refine lv_iload_n hx hb dX9_copyRow_5 rfl (lv_at hl 1 rfl) ?_
      refine lv_icmp_ge (tgt := 31) hx hb dX9_copyRow_6 (by decide) (fun c4 => ?_) (fun c4 => ?_)
      ·
        have q4 : a_b.toInt ≤ x3_4.toInt := i_le c4
        have h5 : rg 7 8 x3_4 := t_ley 7 8 ha_b hhx3_4 (i_le c4) (by decide)
        exact hret _ _ _ _ _ _ dX9_copyRow_31 hT hS ⟨hR2, hF2⟩
      ·
        have q4 : x3_4.toInt < a_b.toInt := i_nle c4
        have h6 : rg 0 6 x3_4 := t_ltx 0 6 hhx3_4 ha_b (i_nle c4) (by decide)
        refine lv_aload_n hx hb dX9_copyRow_9 rfl (lv_at hl 0 rfl) ?_
        refine lv_iload_n hx hb dX9_copyRow_10 rfl (lv_at hl 1 rfl) ?_
        refine lv_iload_n hx hb dX9_copyRow_11 rfl (lv_at hl 3 rfl) ?_
        refine q_imul hx hb dX9_copyRow_12 (fun x7 ex7 => ?_)
        obtain ⟨hx7, ax7⟩ := rg_mul 21 21 ex7 ha_b ha_d (by decide)
        replace ax7 : x7.toInt = a_b.toInt * a_d.toInt := ax7
        refine lv_iload hx hb dX9_copyRow_13 (lv_at hl 4 rfl) ?_
        refine q_iadd hx hb dX9_copyRow_15 (fun x8 ex8 => ?_)
        obtain ⟨hx8, ax8⟩ := rg_add 21 27 ex8 hx7 h6 (by decide)
        replace ax8 : x8.toInt = x7.toInt + x3_4.toInt := ax8
        replace ax8 : x8.toInt = x3_4.toInt + 21 := by have := hx7.1; have := hx7.2; omega
        refine lv_aload_n hx hb dX9_copyRow_16 rfl (lv_at hl 0 rfl) ?_
        refine lv_iload_n hx hb dX9_copyRow_17 rfl (lv_at hl 1 rfl) ?_
        refine lv_iload_n hx hb dX9_copyRow_18 rfl (lv_at hl 2 rfl) ?_
        refine q_imul hx hb dX9_copyRow_19 (fun x9 ex9 => ?_)
        obtain ⟨hx9, ax9⟩ := rg_mul 0 0 ex9 ha_b ha_c (by decide)
        replace ax9 : x9.toInt = a_b.toInt * a_c.toInt := ax9
        refine lv_iload hx hb dX9_copyRow_20 (lv_at hl 4 rfl) ?_
        refine q_iadd hx hb dX9_copyRow_22 (fun x10 ex10 => ?_)
        obtain ⟨hx10, ax10⟩ := rg_add 0 6 ex10 hx9 h6 (by decide)
        replace ax10 : x10.toInt = x9.toInt + x3_4.toInt := ax10
        replace ax10 : x10.toInt = x3_4.toInt + 0 := by have := hx9.1; have := hx9.2; omega
        refine r_iald X hT 103 rfl (by decide) (v_in hx10 (by decide)) dX9_copyRow_23 ?_
        have h11 : rg 0 20 (i2 103 x10.toNatClampNeg) := Rg_ata hR2 103 x10.toNatClampNeg 0 20 (v_lt (v_in hx10 (by decide))) (aff_at (m := 1) (a := 0) (n := 7) (c := 0) (by decide) (v := x3_4.toInt) ⟨by have := h6.1; omega, by have := h6.2; omega⟩ (by have := ax10; omega))
        refine r_iast X hT hS 103 rfl (by decide) (v_in hx8 (by decide)) dX9_copyRow_24 (fun H locs i12 ei12 hT hS => ?_)
        have hR12 := Rg_mv hR2 ei12 (v_lt (v_in hx10 (by decide))) (aff_mv (T := rA) (j := 103) (m := 1) (a := 0) (n := 7) (c := 21) (c1 := 0) (by decide) (v := x3_4.toInt) ⟨by have := h6.1; omega, by have := h6.2; omega⟩ (by have := ax8; omega) (by have := ax10; omega))
        have hF12 := Fr_puti hF2 ei12 (by decide)
        obtain ⟨x13, ex13⟩ : ∃ y : Int32, y = x3_4 + 1 := ⟨_, rfl⟩
        refine lv_iinc (v := x13) (lv' := [(4, .int x13), (0, .ref (h 103)), (1, .int a_b), (2, .int a_c), (3, .int a_d)]) hx hb dX9_copyRow_25 hl (k := 4) rfl (by rw [ex13]; rfl) (by decide) rfl (fun ls hl => ?_)
        obtain ⟨hx13, ax13⟩ := rg_add 1 7 ex13 h6 (rg_k (by decide) : rg 1 1 1) (by decide)
        replace ax13 : x13.toInt = x3_4.toInt + 1 := ax13
        refine lv_goto (tgt := 3) hx hb dX9_copyRow_28 (by decide) ?_
        exact ih3_ x13 i12 g2 _ _ _ (rg_w hx13 (by decide) : rg 0 8 x13) hR12 hF12 hT hS (lv_sub hl [1, 2, 3, 4, 0] rfl) (m_up ax13 hx13 (by decide) hm3_)
  exact L3_1 _ (0) i g _ _ _ (rg_w (rg_k (by decide) : rg 0 0 0) (by decide) : rg 0 8 0) hR hF hT hS (lv_sub hl [1, 2, 3, 4, 0] rfl) (Nat.lt_succ_self _)
set_option maxRecDepth 100000 in
set_option maxHeartbeats 4000000 in
theorem m_X9_copyRow_104_18_0_3 {l : Launch} {D : va_G} {h : Nat → Nat} {cz : Nat → ClassId} {z : EZ} {i : Nat → Nat → Int32} {g : Nat → Nat → Int64} (hR : Rg rA i) (a_b : Int32) (a_c : Int32) (a_d : Int32) (ha_b : rg 18 18 a_b) (ha_c : rg 0 0 a_c) (ha_d : rg 3 3 a_d) : DtV l yX9_copyRow cX9_copyRow 5 none ({ frames := 0, cells := 0, slots := 0, locals := 0 } : Room) D h cz z i g [.ref (h 104), .int a_b, .int a_c, .int a_d] (fun u => Rg rA u.1 ∧ Fr [104] [] i g u) := by
  refine e_V pn_X9_copyRow (Nat.le_of_ble_eq_true rfl) ?_
  intro p e s m args below meth c ls Q X Y hret hT hl hS
  have hx := X.1
  have hb := X.2.1
  have hl : lv_has ls 5 [(0, .ref (h 104)), (1, .int a_b), (2, .int a_c), (3, .int a_d)] := hl
  have hF : Fr [104] [] i g (i, g) := Fr_rf _ _ _ _
  refine lv_iconst (v := 0) hx hb dX9_copyRow_0 (by decide) ?_
  refine lv_istore (lv' := [(4, .int 0), (0, .ref (h 104)), (1, .int a_b), (2, .int a_c), (3, .int a_d)]) hx hb dX9_copyRow_1 hl (by decide) rfl (fun ls hl => ?_)
  have L3_1 : ∀ (n3_ : Nat) (x3_4 : Int32) (i2 : Nat → Nat → Int32) (g2 : Nat → Nat → Int64) (H : Heap) (locs : List Loc) (ls : Array Slot), rg 0 20 x3_4 → Rg rA i2 → Fr [104] [] i g (i2, g2) → TH D h cz i2 g2 H → va_S (hA h) s.heap H locs → lv_has ls 5 [(0, .ref (h 104)), (1, .int a_b), (2, .int a_c), (3, .int a_d), (4, .int x3_4)] → (20 - x3_4.toInt).toNat < n3_ → W p l e ({ frames := 0, cells := 0, slots := 0, locals := 0 } : Room) s m args below meth c H locs 0 0 Q (F0 m 3 ls []) := by
    intro n3_
    induction n3_ with
    | zero => intro x3_4 i2 g2 H locs ls hhx3_4 hR2 hF2 hT hS hl hm3_; exact absurd hm3_ (Nat.not_lt_zero _)
    | succ n3_ ih3_ =>
      intro x3_4 i2 g2 H locs ls hhx3_4 hR2 hF2 hT hS hl hm3_
      refine lv_iload hx hb dX9_copyRow_3 (lv_at hl 4 rfl) ?_
      refine lv_iload_n hx hb dX9_copyRow_5 rfl (lv_at hl 1 rfl) ?_
      refine lv_icmp_ge (tgt := 31) hx hb dX9_copyRow_6 (by decide) (fun c4 => ?_) (fun c4 => ?_)
      ·
        have q4 : a_b.toInt ≤ x3_4.toInt := i_le c4
        have h5 : rg 18 20 x3_4 := t_ley 18 20 ha_b hhx3_4 (i_le c4) (by decide)
        exact hret _ _ _ _ _ _ dX9_copyRow_31 hT hS ⟨hR2, hF2⟩
      ·
        have q4 : x3_4.toInt < a_b.toInt := i_nle c4
        have h6 : rg 0 17 x3_4 := t_ltx 0 17 hhx3_4 ha_b (i_nle c4) (by decide)
        refine lv_aload_n hx hb dX9_copyRow_9 rfl (lv_at hl 0 rfl) ?_
        refine lv_iload_n hx hb dX9_copyRow_10 rfl (lv_at hl 1 rfl) ?_
        refine lv_iload_n hx hb dX9_copyRow_11 rfl (lv_at hl 3 rfl) ?_
        refine q_imul hx hb dX9_copyRow_12 (fun x7 ex7 => ?_)
        obtain ⟨hx7, ax7⟩ := rg_mul 54 54 ex7 ha_b ha_d (by decide)
        replace ax7 : x7.toInt = a_b.toInt * a_d.toInt := ax7
        refine lv_iload hx hb dX9_copyRow_13 (lv_at hl 4 rfl) ?_
        refine q_iadd hx hb dX9_copyRow_15 (fun x8 ex8 => ?_)
        obtain ⟨hx8, ax8⟩ := rg_add 54 71 ex8 hx7 h6 (by decide)
        replace ax8 : x8.toInt = x7.toInt + x3_4.toInt := ax8
        replace ax8 : x8.toInt = x3_4.toInt + 54 := by have := hx7.1; have := hx7.2; omega
        refine lv_aload_n hx hb dX9_copyRow_16 rfl (lv_at hl 0 rfl) ?_
        refine lv_iload_n hx hb dX9_copyRow_17 rfl (lv_at hl 1 rfl) ?_
        refine lv_iload_n hx hb dX9_copyRow_18 rfl (lv_at hl 2 rfl) ?_
        refine q_imul hx hb dX9_copyRow_19 (fun x9 ex9 => ?_)
        obtain ⟨hx9, ax9⟩ := rg_mul 0 0 ex9 ha_b ha_c (by decide)
        replace ax9 : x9.toInt = a_b.toInt * a_c.toInt := ax9
        refine lv_iload hx hb dX9_copyRow_20 (lv_at hl 4 rfl) ?_
        refine q_iadd hx hb dX9_copyRow_22 (fun x10 ex10 => ?_)
        obtain ⟨hx10, ax10⟩ := rg_add 0 17 ex10 hx9 h6 (by decide)
        replace ax10 : x10.toInt = x9.toInt + x3_4.toInt := ax10
        replace ax10 : x10.toInt = x3_4.toInt + 0 := by have := hx9.1; have := hx9.2; omega
        refine r_iald X hT 104 rfl (by decide) (v_in hx10 (by decide)) dX9_copyRow_23 ?_
        refine r_iast X hT hS 104 rfl (by decide) (v_in hx8 (by decide)) dX9_copyRow_24 (fun H locs i11 ei11 hT hS => ?_)
        have hR11 := Rg_put hR2 ei11 0 60 rfl (Rg_at hR2 104 x10.toNatClampNeg 0 60 (v_lt (v_in hx10 (by decide))) rfl) (by decide)
        have hF11 := Fr_puti hF2 ei11 (by decide)
        obtain ⟨x12, ex12⟩ : ∃ y : Int32, y = x3_4 + 1 := ⟨_, rfl⟩
        refine lv_iinc (v := x12) (lv' := [(4, .int x12), (0, .ref (h 104)), (1, .int a_b), (2, .int a_c), (3, .int a_d)]) hx hb dX9_copyRow_25 hl (k := 4) rfl (by rw [ex12]; rfl) (by decide) rfl (fun ls hl => ?_)
        obtain ⟨hx12, ax12⟩ := rg_add 1 18 ex12 h6 (rg_k (by decide) : rg 1 1 1) (by decide)
        replace ax12 : x12.toInt = x3_4.toInt + 1 := ax12
        refine lv_goto (tgt := 3) hx hb dX9_copyRow_28 (by decide) ?_
        exact ih3_ x12 i11 g2 _ _ _ (rg_w hx12 (by decide) : rg 0 20 x12) hR11 hF11 hT hS (lv_sub hl [1, 2, 3, 4, 0] rfl) (m_up ax12 hx12 (by decide) hm3_)
  exact L3_1 _ (0) i g _ _ _ (rg_w (rg_k (by decide) : rg 0 0 0) (by decide) : rg 0 20 0) hR hF hT hS (lv_sub hl [1, 2, 3, 4, 0] rfl) (Nat.lt_succ_self _)
set_option maxRecDepth 100000 in
set_option maxHeartbeats 4000000 in
theorem m_X9_copyRow_105_20_0_3 {l : Launch} {D : va_G} {h : Nat → Nat} {cz : Nat → ClassId} {z : EZ} {i : Nat → Nat → Int32} {g : Nat → Nat → Int64} (hR : Rg rA i) (a_b : Int32) (a_c : Int32) (a_d : Int32) (ha_b : rg 20 20 a_b) (ha_c : rg 0 0 a_c) (ha_d : rg 3 3 a_d) : DtV l yX9_copyRow cX9_copyRow 5 none ({ frames := 0, cells := 0, slots := 0, locals := 0 } : Room) D h cz z i g [.ref (h 105), .int a_b, .int a_c, .int a_d] (fun u => Rg rA u.1 ∧ Fr [105] [] i g u) := by
  refine e_V pn_X9_copyRow (Nat.le_of_ble_eq_true rfl) ?_
  intro p e s m args below meth c ls Q X Y hret hT hl hS
  have hx := X.1
  have hb := X.2.1
  have hl : lv_has ls 5 [(0, .ref (h 105)), (1, .int a_b), (2, .int a_c), (3, .int a_d)] := hl
  have hF : Fr [105] [] i g (i, g) := Fr_rf _ _ _ _
  refine lv_iconst (v := 0) hx hb dX9_copyRow_0 (by decide) ?_
  refine lv_istore (lv' := [(4, .int 0), (0, .ref (h 105)), (1, .int a_b), (2, .int a_c), (3, .int a_d)]) hx hb dX9_copyRow_1 hl (by decide) rfl (fun ls hl => ?_)
  have L3_1 : ∀ (n3_ : Nat) (x3_4 : Int32) (i2 : Nat → Nat → Int32) (g2 : Nat → Nat → Int64) (H : Heap) (locs : List Loc) (ls : Array Slot), rg 0 20 x3_4 → Rg rA i2 → Fr [105] [] i g (i2, g2) → TH D h cz i2 g2 H → va_S (hA h) s.heap H locs → lv_has ls 5 [(0, .ref (h 105)), (1, .int a_b), (2, .int a_c), (3, .int a_d), (4, .int x3_4)] → (20 - x3_4.toInt).toNat < n3_ → W p l e ({ frames := 0, cells := 0, slots := 0, locals := 0 } : Room) s m args below meth c H locs 0 0 Q (F0 m 3 ls []) := by
    intro n3_
    induction n3_ with
    | zero => intro x3_4 i2 g2 H locs ls hhx3_4 hR2 hF2 hT hS hl hm3_; exact absurd hm3_ (Nat.not_lt_zero _)
    | succ n3_ ih3_ =>
      intro x3_4 i2 g2 H locs ls hhx3_4 hR2 hF2 hT hS hl hm3_
      refine lv_iload hx hb dX9_copyRow_3 (lv_at hl 4 rfl) ?_
      refine lv_iload_n hx hb dX9_copyRow_5 rfl (lv_at hl 1 rfl) ?_
      refine lv_icmp_ge (tgt := 31) hx hb dX9_copyRow_6 (by decide) (fun c4 => ?_) (fun c4 => ?_)
      ·
        have q4 : a_b.toInt ≤ x3_4.toInt := i_le c4
        have h5 : rg 20 20 x3_4 := t_ley 20 20 ha_b hhx3_4 (i_le c4) (by decide)
        exact hret _ _ _ _ _ _ dX9_copyRow_31 hT hS ⟨hR2, hF2⟩
      ·
        have q4 : x3_4.toInt < a_b.toInt := i_nle c4
        have h6 : rg 0 19 x3_4 := t_ltx 0 19 hhx3_4 ha_b (i_nle c4) (by decide)
        refine lv_aload_n hx hb dX9_copyRow_9 rfl (lv_at hl 0 rfl) ?_
        refine lv_iload_n hx hb dX9_copyRow_10 rfl (lv_at hl 1 rfl) ?_
        refine lv_iload_n hx hb dX9_copyRow_11 rfl (lv_at hl 3 rfl) ?_
        refine q_imul hx hb dX9_copyRow_12 (fun x7 ex7 => ?_)
        obtain ⟨hx7, ax7⟩ := rg_mul 60 60 ex7 ha_b ha_d (by decide)
        replace ax7 : x7.toInt = a_b.toInt * a_d.toInt := ax7
        refine lv_iload hx hb dX9_copyRow_13 (lv_at hl 4 rfl) ?_
        refine q_iadd hx hb dX9_copyRow_15 (fun x8 ex8 => ?_)
        obtain ⟨hx8, ax8⟩ := rg_add 60 79 ex8 hx7 h6 (by decide)
        replace ax8 : x8.toInt = x7.toInt + x3_4.toInt := ax8
        replace ax8 : x8.toInt = x3_4.toInt + 60 := by have := hx7.1; have := hx7.2; omega
        refine lv_aload_n hx hb dX9_copyRow_16 rfl (lv_at hl 0 rfl) ?_
        refine lv_iload_n hx hb dX9_copyRow_17 rfl (lv_at hl 1 rfl) ?_
        refine lv_iload_n hx hb dX9_copyRow_18 rfl (lv_at hl 2 rfl) ?_
        refine q_imul hx hb dX9_copyRow_19 (fun x9 ex9 => ?_)
        obtain ⟨hx9, ax9⟩ := rg_mul 0 0 ex9 ha_b ha_c (by decide)
        replace ax9 : x9.toInt = a_b.toInt * a_c.toInt := ax9
        refine lv_iload hx hb dX9_copyRow_20 (lv_at hl 4 rfl) ?_
        refine q_iadd hx hb dX9_copyRow_22 (fun x10 ex10 => ?_)
        obtain ⟨hx10, ax10⟩ := rg_add 0 19 ex10 hx9 h6 (by decide)
        replace ax10 : x10.toInt = x9.toInt + x3_4.toInt := ax10
        replace ax10 : x10.toInt = x3_4.toInt + 0 := by have := hx9.1; have := hx9.2; omega
        refine r_iald X hT 105 rfl (by decide) (v_in hx10 (by decide)) dX9_copyRow_23 ?_
        refine r_iast X hT hS 105 rfl (by decide) (v_in hx8 (by decide)) dX9_copyRow_24 (fun H locs i11 ei11 hT hS => ?_)
        have hR11 := Rg_put hR2 ei11 0 5 rfl (Rg_at hR2 105 x10.toNatClampNeg 0 5 (v_lt (v_in hx10 (by decide))) rfl) (by decide)
        have hF11 := Fr_puti hF2 ei11 (by decide)
        obtain ⟨x12, ex12⟩ : ∃ y : Int32, y = x3_4 + 1 := ⟨_, rfl⟩
        refine lv_iinc (v := x12) (lv' := [(4, .int x12), (0, .ref (h 105)), (1, .int a_b), (2, .int a_c), (3, .int a_d)]) hx hb dX9_copyRow_25 hl (k := 4) rfl (by rw [ex12]; rfl) (by decide) rfl (fun ls hl => ?_)
        obtain ⟨hx12, ax12⟩ := rg_add 1 20 ex12 h6 (rg_k (by decide) : rg 1 1 1) (by decide)
        replace ax12 : x12.toInt = x3_4.toInt + 1 := ax12
        refine lv_goto (tgt := 3) hx hb dX9_copyRow_28 (by decide) ?_
        exact ih3_ x12 i11 g2 _ _ _ (rg_w hx12 (by decide) : rg 0 20 x12) hR11 hF11 hT hS (lv_sub hl [1, 2, 3, 4, 0] rfl) (m_up ax12 hx12 (by decide) hm3_)
  exact L3_1 _ (0) i g _ _ _ (rg_w (rg_k (by decide) : rg 0 0 0) (by decide) : rg 0 20 0) hR hF hT hS (lv_sub hl [1, 2, 3, 4, 0] rfl) (Nat.lt_succ_self _)
set_option maxRecDepth 100000 in
set_option maxHeartbeats 4000000 in
theorem m_X9_copyRow_106_16_0_3 {l : Launch} {D : va_G} {h : Nat → Nat} {cz : Nat → ClassId} {z : EZ} {i : Nat → Nat → Int32} {g : Nat → Nat → Int64} (hR : Rg rA i) (a_b : Int32) (a_c : Int32) (a_d : Int32) (ha_b : rg 16 16 a_b) (ha_c : rg 0 0 a_c) (ha_d : rg 3 3 a_d) : DtV l yX9_copyRow cX9_copyRow 5 none ({ frames := 0, cells := 0, slots := 0, locals := 0 } : Room) D h cz z i g [.ref (h 106), .int a_b, .int a_c, .int a_d] (fun u => Rg rA u.1 ∧ Fr [106] [] i g u) := by
  refine e_V pn_X9_copyRow (Nat.le_of_ble_eq_true rfl) ?_
  intro p e s m args below meth c ls Q X Y hret hT hl hS
  have hx := X.1
  have hb := X.2.1
  have hl : lv_has ls 5 [(0, .ref (h 106)), (1, .int a_b), (2, .int a_c), (3, .int a_d)] := hl
  have hF : Fr [106] [] i g (i, g) := Fr_rf _ _ _ _
  refine lv_iconst (v := 0) hx hb dX9_copyRow_0 (by decide) ?_
  refine lv_istore (lv' := [(4, .int 0), (0, .ref (h 106)), (1, .int a_b), (2, .int a_c), (3, .int a_d)]) hx hb dX9_copyRow_1 hl (by decide) rfl (fun ls hl => ?_)
  have L3_1 : ∀ (n3_ : Nat) (x3_4 : Int32) (i2 : Nat → Nat → Int32) (g2 : Nat → Nat → Int64) (H : Heap) (locs : List Loc) (ls : Array Slot), rg 0 20 x3_4 → Rg rA i2 → Fr [106] [] i g (i2, g2) → TH D h cz i2 g2 H → va_S (hA h) s.heap H locs → lv_has ls 5 [(0, .ref (h 106)), (1, .int a_b), (2, .int a_c), (3, .int a_d), (4, .int x3_4)] → (20 - x3_4.toInt).toNat < n3_ → W p l e ({ frames := 0, cells := 0, slots := 0, locals := 0 } : Room) s m args below meth c H locs 0 0 Q (F0 m 3 ls []) := by
    intro n3_
    induction n3_ with
    | zero => intro x3_4 i2 g2 H locs ls hhx3_4 hR2 hF2 hT hS hl hm3_; exact absurd hm3_ (Nat.not_lt_zero _)
    | succ n3_ ih3_ =>
      intro x3_4 i2 g2 H locs ls hhx3_4 hR2 hF2 hT hS hl hm3_
      refine lv_iload hx hb dX9_copyRow_3 (lv_at hl 4 rfl) ?_
      refine lv_iload_n hx hb dX9_copyRow_5 rfl (lv_at hl 1 rfl) ?_
      refine lv_icmp_ge (tgt := 31) hx hb dX9_copyRow_6 (by decide) (fun c4 => ?_) (fun c4 => ?_)
      ·
        have q4 : a_b.toInt ≤ x3_4.toInt := i_le c4
        have h5 : rg 16 20 x3_4 := t_ley 16 20 ha_b hhx3_4 (i_le c4) (by decide)
        exact hret _ _ _ _ _ _ dX9_copyRow_31 hT hS ⟨hR2, hF2⟩
      ·
        have q4 : x3_4.toInt < a_b.toInt := i_nle c4
        have h6 : rg 0 15 x3_4 := t_ltx 0 15 hhx3_4 ha_b (i_nle c4) (by decide)
        refine lv_aload_n hx hb dX9_copyRow_9 rfl (lv_at hl 0 rfl) ?_
        refine lv_iload_n hx hb dX9_copyRow_10 rfl (lv_at hl 1 rfl) ?_
        refine lv_iload_n hx hb dX9_copyRow_11 rfl (lv_at hl 3 rfl) ?_
        refine q_imul hx hb dX9_copyRow_12 (fun x7 ex7 => ?_)
        obtain ⟨hx7, ax7⟩ := rg_mul 48 48 ex7 ha_b ha_d (by decide)
        replace ax7 : x7.toInt = a_b.toInt * a_d.toInt := ax7
        refine lv_iload hx hb dX9_copyRow_13 (lv_at hl 4 rfl) ?_
        refine q_iadd hx hb dX9_copyRow_15 (fun x8 ex8 => ?_)
        obtain ⟨hx8, ax8⟩ := rg_add 48 63 ex8 hx7 h6 (by decide)
        replace ax8 : x8.toInt = x7.toInt + x3_4.toInt := ax8
        replace ax8 : x8.toInt = x3_4.toInt + 48 := by have := hx7.1; have := hx7.2; omega
        refine lv_aload_n hx hb dX9_copyRow_16 rfl (lv_at hl 0 rfl) ?_
        refine lv_iload_n hx hb dX9_copyRow_17 rfl (lv_at hl 1 rfl) ?_
        refine lv_iload_n hx hb dX9_copyRow_18 rfl (lv_at hl 2 rfl) ?_
        refine q_imul hx hb dX9_copyRow_19 (fun x9 ex9 => ?_)
        obtain ⟨hx9, ax9⟩ := rg_mul 0 0 ex9 ha_b ha_c (by decide)
        replace ax9 : x9.toInt = a_b.toInt * a_c.toInt := ax9
        refine lv_iload hx hb dX9_copyRow_20 (lv_at hl 4 rfl) ?_
        refine q_iadd hx hb dX9_copyRow_22 (fun x10 ex10 => ?_)
        obtain ⟨hx10, ax10⟩ := rg_add 0 15 ex10 hx9 h6 (by decide)
        replace ax10 : x10.toInt = x9.toInt + x3_4.toInt := ax10
        replace ax10 : x10.toInt = x3_4.toInt + 0 := by have := hx9.1; have := hx9.2; omega
        refine r_iald X hT 106 rfl (by decide) (v_in hx10 (by decide)) dX9_copyRow_23 ?_
        have h11 : rg 0 11 (i2 106 x10.toNatClampNeg) := Rg_ata hR2 106 x10.toNatClampNeg 0 11 (v_lt (v_in hx10 (by decide))) (aff_at (m := 1) (a := 0) (n := 16) (c := 0) (by decide) (v := x3_4.toInt) ⟨by have := h6.1; omega, by have := h6.2; omega⟩ (by have := ax10; omega))
        refine r_iast X hT hS 106 rfl (by decide) (v_in hx8 (by decide)) dX9_copyRow_24 (fun H locs i12 ei12 hT hS => ?_)
        have hR12 := Rg_mv hR2 ei12 (v_lt (v_in hx10 (by decide))) (aff_mv (T := rA) (j := 106) (m := 1) (a := 0) (n := 16) (c := 48) (c1 := 0) (by decide) (v := x3_4.toInt) ⟨by have := h6.1; omega, by have := h6.2; omega⟩ (by have := ax8; omega) (by have := ax10; omega))
        have hF12 := Fr_puti hF2 ei12 (by decide)
        obtain ⟨x13, ex13⟩ : ∃ y : Int32, y = x3_4 + 1 := ⟨_, rfl⟩
        refine lv_iinc (v := x13) (lv' := [(4, .int x13), (0, .ref (h 106)), (1, .int a_b), (2, .int a_c), (3, .int a_d)]) hx hb dX9_copyRow_25 hl (k := 4) rfl (by rw [ex13]; rfl) (by decide) rfl (fun ls hl => ?_)
        obtain ⟨hx13, ax13⟩ := rg_add 1 16 ex13 h6 (rg_k (by decide) : rg 1 1 1) (by decide)
        replace ax13 : x13.toInt = x3_4.toInt + 1 := ax13
        refine lv_goto (tgt := 3) hx hb dX9_copyRow_28 (by decide) ?_
        exact ih3_ x13 i12 g2 _ _ _ (rg_w hx13 (by decide) : rg 0 20 x13) hR12 hF12 hT hS (lv_sub hl [1, 2, 3, 4, 0] rfl) (m_up ax13 hx13 (by decide) hm3_)
  exact L3_1 _ (0) i g _ _ _ (rg_w (rg_k (by decide) : rg 0 0 0) (by decide) : rg 0 20 0) hR hF hT hS (lv_sub hl [1, 2, 3, 4, 0] rfl) (Nat.lt_succ_self _)
set_option maxRecDepth 100000 in
set_option maxHeartbeats 4000000 in
theorem m_X9_copyRow_107_60_0_3 {l : Launch} {D : va_G} {h : Nat → Nat} {cz : Nat → ClassId} {z : EZ} {i : Nat → Nat → Int32} {g : Nat → Nat → Int64} (hR : Rg rA i) (a_b : Int32) (a_c : Int32) (a_d : Int32) (ha_b : rg 60 60 a_b) (ha_c : rg 0 0 a_c) (ha_d : rg 3 3 a_d) : DtV l yX9_copyRow cX9_copyRow 5 none ({ frames := 0, cells := 0, slots := 0, locals := 0 } : Room) D h cz z i g [.ref (h 107), .int a_b, .int a_c, .int a_d] (fun u => Rg rA u.1 ∧ Fr [107] [] i g u) := by
  refine e_V pn_X9_copyRow (Nat.le_of_ble_eq_true rfl) ?_
  intro p e s m args below meth c ls Q X Y hret hT hl hS
  have hx := X.1
  have hb := X.2.1
  have hl : lv_has ls 5 [(0, .ref (h 107)), (1, .int a_b), (2, .int a_c), (3, .int a_d)] := hl
  have hF : Fr [107] [] i g (i, g) := Fr_rf _ _ _ _
  refine lv_iconst (v := 0) hx hb dX9_copyRow_0 (by decide) ?_
  refine lv_istore (lv' := [(4, .int 0), (0, .ref (h 107)), (1, .int a_b), (2, .int a_c), (3, .int a_d)]) hx hb dX9_copyRow_1 hl (by decide) rfl (fun ls hl => ?_)
  have L3_1 : ∀ (n3_ : Nat) (x3_4 : Int32) (i2 : Nat → Nat → Int32) (g2 : Nat → Nat → Int64) (H : Heap) (locs : List Loc) (ls : Array Slot), rg 0 60 x3_4 → Rg rA i2 → Fr [107] [] i g (i2, g2) → TH D h cz i2 g2 H → va_S (hA h) s.heap H locs → lv_has ls 5 [(0, .ref (h 107)), (1, .int a_b), (2, .int a_c), (3, .int a_d), (4, .int x3_4)] → (60 - x3_4.toInt).toNat < n3_ → W p l e ({ frames := 0, cells := 0, slots := 0, locals := 0 } : Room) s m args below meth c H locs 0 0 Q (F0 m 3 ls []) := by
    intro n3_
    induction n3_ with
    | zero => intro x3_4 i2 g2 H locs ls hhx3_4 hR2 hF2 hT hS hl hm3_; exact absurd hm3_ (Nat.not_lt_zero _)
    | succ n3_ ih3_ =>
      intro x3_4 i2 g2 H locs ls hhx3_4 hR2 hF2 hT hS hl hm3_
      refine lv_iload hx hb dX9_copyRow_3 (lv_at hl 4 rfl) ?_
      refine lv_iload_n hx hb dX9_copyRow_5 rfl (lv_at hl 1 rfl) ?_
      refine lv_icmp_ge (tgt := 31) hx hb dX9_copyRow_6 (by decide) (fun c4 => ?_) (fun c4 => ?_)
      ·
        have q4 : a_b.toInt ≤ x3_4.toInt := i_le c4
        have h5 : rg 60 60 x3_4 := t_ley 60 60 ha_b hhx3_4 (i_le c4) (by decide)
        exact hret _ _ _ _ _ _ dX9_copyRow_31 hT hS ⟨hR2, hF2⟩
      ·
        have q4 : x3_4.toInt < a_b.toInt := i_nle c4
        have h6 : rg 0 59 x3_4 := t_ltx 0 59 hhx3_4 ha_b (i_nle c4) (by decide)
        refine lv_aload_n hx hb dX9_copyRow_9 rfl (lv_at hl 0 rfl) ?_
        refine lv_iload_n hx hb dX9_copyRow_10 rfl (lv_at hl 1 rfl) ?_
        refine lv_iload_n hx hb dX9_copyRow_11 rfl (lv_at hl 3 rfl) ?_
        refine q_imul hx hb dX9_copyRow_12 (fun x7 ex7 => ?_)
        obtain ⟨hx7, ax7⟩ := rg_mul 180 180 ex7 ha_b ha_d (by decide)
        replace ax7 : x7.toInt = a_b.toInt * a_d.toInt := ax7
        refine lv_iload hx hb dX9_copyRow_13 (lv_at hl 4 rfl) ?_
        refine q_iadd hx hb dX9_copyRow_15 (fun x8 ex8 => ?_)
        obtain ⟨hx8, ax8⟩ := rg_add 180 239 ex8 hx7 h6 (by decide)
        replace ax8 : x8.toInt = x7.toInt + x3_4.toInt := ax8
        replace ax8 : x8.toInt = x3_4.toInt + 180 := by have := hx7.1; have := hx7.2; omega
        refine lv_aload_n hx hb dX9_copyRow_16 rfl (lv_at hl 0 rfl) ?_
        refine lv_iload_n hx hb dX9_copyRow_17 rfl (lv_at hl 1 rfl) ?_
        refine lv_iload_n hx hb dX9_copyRow_18 rfl (lv_at hl 2 rfl) ?_
        refine q_imul hx hb dX9_copyRow_19 (fun x9 ex9 => ?_)
        obtain ⟨hx9, ax9⟩ := rg_mul 0 0 ex9 ha_b ha_c (by decide)
        replace ax9 : x9.toInt = a_b.toInt * a_c.toInt := ax9
        refine lv_iload hx hb dX9_copyRow_20 (lv_at hl 4 rfl) ?_
        refine q_iadd hx hb dX9_copyRow_22 (fun x10 ex10 => ?_)
        obtain ⟨hx10, ax10⟩ := rg_add 0 59 ex10 hx9 h6 (by decide)
        replace ax10 : x10.toInt = x9.toInt + x3_4.toInt := ax10
        replace ax10 : x10.toInt = x3_4.toInt + 0 := by have := hx9.1; have := hx9.2; omega
        refine r_iald X hT 107 rfl (by decide) (v_in hx10 (by decide)) dX9_copyRow_23 ?_
        have h11 : rg 0 11 (i2 107 x10.toNatClampNeg) := Rg_ata hR2 107 x10.toNatClampNeg 0 11 (v_lt (v_in hx10 (by decide))) (aff_at (m := 1) (a := 0) (n := 60) (c := 0) (by decide) (v := x3_4.toInt) ⟨by have := h6.1; omega, by have := h6.2; omega⟩ (by have := ax10; omega))
        refine r_iast X hT hS 107 rfl (by decide) (v_in hx8 (by decide)) dX9_copyRow_24 (fun H locs i12 ei12 hT hS => ?_)
        have hR12 := Rg_mv hR2 ei12 (v_lt (v_in hx10 (by decide))) (aff_mv (T := rA) (j := 107) (m := 1) (a := 0) (n := 60) (c := 180) (c1 := 0) (by decide) (v := x3_4.toInt) ⟨by have := h6.1; omega, by have := h6.2; omega⟩ (by have := ax8; omega) (by have := ax10; omega))
        have hF12 := Fr_puti hF2 ei12 (by decide)
        obtain ⟨x13, ex13⟩ : ∃ y : Int32, y = x3_4 + 1 := ⟨_, rfl⟩
        refine lv_iinc (v := x13) (lv' := [(4, .int x13), (0, .ref (h 107)), (1, .int a_b), (2, .int a_c), (3, .int a_d)]) hx hb dX9_copyRow_25 hl (k := 4) rfl (by rw [ex13]; rfl) (by decide) rfl (fun ls hl => ?_)
        obtain ⟨hx13, ax13⟩ := rg_add 1 60 ex13 h6 (rg_k (by decide) : rg 1 1 1) (by decide)
        replace ax13 : x13.toInt = x3_4.toInt + 1 := ax13
        refine lv_goto (tgt := 3) hx hb dX9_copyRow_28 (by decide) ?_
        exact ih3_ x13 i12 g2 _ _ _ (rg_w hx13 (by decide) : rg 0 60 x13) hR12 hF12 hT hS (lv_sub hl [1, 2, 3, 4, 0] rfl) (m_up ax13 hx13 (by decide) hm3_)
  exact L3_1 _ (0) i g _ _ _ (rg_w (rg_k (by decide) : rg 0 0 0) (by decide) : rg 0 60 0) hR hF hT hS (lv_sub hl [1, 2, 3, 4, 0] rfl) (Nat.lt_succ_self _)
set_option maxRecDepth 100000 in
set_option maxHeartbeats 4000000 in
theorem m_X9_copyTale_0t0_1t3 {l : Launch} {D : va_G} {h : Nat → Nat} {cz : Nat → ClassId} {z : EZ} {i : Nat → Nat → Int32} {g : Nat → Nat → Int64} (hR : Rg rA i) (a_a : Int32) (a_b : Int32) (ha_a : rg 0 0 a_a) (ha_b : rg 1 3 a_b) : DtV l yX9_copyTale cX9_copyTale 3 none ({ frames := 1, cells := 0, slots := 0, locals := 24 } : Room) D h cz z i g [.ref (h 96), .int a_a, .int a_b] (fun u => Rg rA u.1 ∧ Fr [102, 103, 104, 105, 106, 107] [] i g u) := by
  refine e_V pn_X9_copyTale (Nat.le_of_ble_eq_true rfl) ?_
  intro p e s m args below meth c ls Q X Y hret hT hl hS
  have hx := X.1
  have hb := X.2.1
  have hl : lv_has ls 3 [(0, .ref (h 96)), (1, .int a_a), (2, .int a_b)] := hl
  have hF : Fr [102, 103, 104, 105, 106, 107] [] i g (i, g) := Fr_rf _ _ _ _
  rcases (show a_b.toInt = 1 ∨ a_b.toInt = 2 ∨ a_b.toInt = 3 by have := ha_b.1; have := ha_b.2; omega) with f1 | f1 | f1
  ·
    have h2 : rg 1 1 a_b := ⟨by omega, by omega⟩
    refine lv_aload_n hx hb dX9_copyTale_0 rfl (lv_at hl 0 rfl) ?_
    refine r_getr X hT 96 16 102 fk_9_31 rfl rfl (by decide) dX9_copyTale_1 ?_
    refine lv_iconst (v := 1) hx hb dX9_copyTale_4 (by decide) ?_
    refine lv_iload_n hx hb dX9_copyTale_5 rfl (lv_at hl 1 rfl) ?_
    refine lv_iload_n hx hb dX9_copyTale_6 rfl (lv_at hl 2 rfl) ?_
    refine e_Sv (As := [.ref (h 102), .int 1, .int a_a, .int a_b]) (rest := []) X Y hT hS (m_X9_copyRow_102_1_0_1 hR (1) a_a a_b (rg_k (by decide) : rg 1 1 1) ha_a h2) sk_X9_copyRow gm_1638 hd_X9_copyRow ⟨rfl, rfl⟩ ⟨Nat.le_of_ble_eq_true rfl, Nat.le_of_ble_eq_true rfl⟩ hl.1 rfl (Nat.le_of_ble_eq_true rfl) dX9_copyTale_7 ⟨Nat.zero_le _, Nat.zero_le _⟩ (fun i3 g3 H locs hq hT hS => ?_)
    obtain ⟨hR3, hf3⟩ := hq
    have hF3 := Fr_tr hF hf3 (by decide)
    refine lv_aload_n hx hb dX9_copyTale_10 rfl (lv_at hl 0 rfl) ?_
    refine r_getr X hT 96 17 103 fk_9_34 rfl rfl (by decide) dX9_copyTale_11 ?_
    refine lv_bipush (v := 7) hx hb dX9_copyTale_14 (by decide) ?_
    refine lv_iload_n hx hb dX9_copyTale_16 rfl (lv_at hl 1 rfl) ?_
    refine lv_iload_n hx hb dX9_copyTale_17 rfl (lv_at hl 2 rfl) ?_
    refine e_Sv (As := [.ref (h 103), .int 7, .int a_a, .int a_b]) (rest := []) X Y hT hS (m_X9_copyRow_103_7_0_1 hR3 (7) a_a a_b (rg_k (by decide) : rg 7 7 7) ha_a h2) sk_X9_copyRow gm_1638 hd_X9_copyRow ⟨rfl, rfl⟩ ⟨Nat.le_of_ble_eq_true rfl, Nat.le_of_ble_eq_true rfl⟩ hl.1 rfl (Nat.le_of_ble_eq_true rfl) dX9_copyTale_18 ⟨Nat.zero_le _, Nat.zero_le _⟩ (fun i4 g4 H locs hq hT hS => ?_)
    obtain ⟨hR4, hf4⟩ := hq
    have hF4 := Fr_tr hF3 hf4 (by decide)
    refine lv_aload_n hx hb dX9_copyTale_21 rfl (lv_at hl 0 rfl) ?_
    refine r_getr X hT 96 18 104 fk_9_37 rfl rfl (by decide) dX9_copyTale_22 ?_
    refine lv_bipush (v := 18) hx hb dX9_copyTale_25 (by decide) ?_
    refine lv_iload_n hx hb dX9_copyTale_27 rfl (lv_at hl 1 rfl) ?_
    refine lv_iload_n hx hb dX9_copyTale_28 rfl (lv_at hl 2 rfl) ?_
    refine e_Sv (As := [.ref (h 104), .int 18, .int a_a, .int a_b]) (rest := []) X Y hT hS (m_X9_copyRow_104_18_0_1 hR4 (18) a_a a_b (rg_k (by decide) : rg 18 18 18) ha_a h2) sk_X9_copyRow gm_1638 hd_X9_copyRow ⟨rfl, rfl⟩ ⟨Nat.le_of_ble_eq_true rfl, Nat.le_of_ble_eq_true rfl⟩ hl.1 rfl (Nat.le_of_ble_eq_true rfl) dX9_copyTale_29 ⟨Nat.zero_le _, Nat.zero_le _⟩ (fun i5 g5 H locs hq hT hS => ?_)
    obtain ⟨hR5, hf5⟩ := hq
    have hF5 := Fr_tr hF4 hf5 (by decide)
    refine lv_aload_n hx hb dX9_copyTale_32 rfl (lv_at hl 0 rfl) ?_
    refine r_getr X hT 96 19 105 fk_9_40 rfl rfl (by decide) dX9_copyTale_33 ?_
    refine lv_bipush (v := 20) hx hb dX9_copyTale_36 (by decide) ?_
    refine lv_iload_n hx hb dX9_copyTale_38 rfl (lv_at hl 1 rfl) ?_
    refine lv_iload_n hx hb dX9_copyTale_39 rfl (lv_at hl 2 rfl) ?_
    refine e_Sv (As := [.ref (h 105), .int 20, .int a_a, .int a_b]) (rest := []) X Y hT hS (m_X9_copyRow_105_20_0_1 hR5 (20) a_a a_b (rg_k (by decide) : rg 20 20 20) ha_a h2) sk_X9_copyRow gm_1638 hd_X9_copyRow ⟨rfl, rfl⟩ ⟨Nat.le_of_ble_eq_true rfl, Nat.le_of_ble_eq_true rfl⟩ hl.1 rfl (Nat.le_of_ble_eq_true rfl) dX9_copyTale_40 ⟨Nat.zero_le _, Nat.zero_le _⟩ (fun i6 g6 H locs hq hT hS => ?_)
    obtain ⟨hR6, hf6⟩ := hq
    have hF6 := Fr_tr hF5 hf6 (by decide)
    refine lv_aload_n hx hb dX9_copyTale_43 rfl (lv_at hl 0 rfl) ?_
    refine r_getr X hT 96 20 106 fk_9_43 rfl rfl (by decide) dX9_copyTale_44 ?_
    refine lv_bipush (v := 16) hx hb dX9_copyTale_47 (by decide) ?_
    refine lv_iload_n hx hb dX9_copyTale_49 rfl (lv_at hl 1 rfl) ?_
    refine lv_iload_n hx hb dX9_copyTale_50 rfl (lv_at hl 2 rfl) ?_
    refine e_Sv (As := [.ref (h 106), .int 16, .int a_a, .int a_b]) (rest := []) X Y hT hS (m_X9_copyRow_106_16_0_1 hR6 (16) a_a a_b (rg_k (by decide) : rg 16 16 16) ha_a h2) sk_X9_copyRow gm_1638 hd_X9_copyRow ⟨rfl, rfl⟩ ⟨Nat.le_of_ble_eq_true rfl, Nat.le_of_ble_eq_true rfl⟩ hl.1 rfl (Nat.le_of_ble_eq_true rfl) dX9_copyTale_51 ⟨Nat.zero_le _, Nat.zero_le _⟩ (fun i7 g7 H locs hq hT hS => ?_)
    obtain ⟨hR7, hf7⟩ := hq
    have hF7 := Fr_tr hF6 hf7 (by decide)
    refine lv_aload_n hx hb dX9_copyTale_54 rfl (lv_at hl 0 rfl) ?_
    refine r_getr X hT 96 21 107 fk_9_46 rfl rfl (by decide) dX9_copyTale_55 ?_
    refine lv_bipush (v := 60) hx hb dX9_copyTale_58 (by decide) ?_
    refine lv_iload_n hx hb dX9_copyTale_60 rfl (lv_at hl 1 rfl) ?_
    refine lv_iload_n hx hb dX9_copyTale_61 rfl (lv_at hl 2 rfl) ?_
    refine e_Sv (As := [.ref (h 107), .int 60, .int a_a, .int a_b]) (rest := []) X Y hT hS (m_X9_copyRow_107_60_0_1 hR7 (60) a_a a_b (rg_k (by decide) : rg 60 60 60) ha_a h2) sk_X9_copyRow gm_1638 hd_X9_copyRow ⟨rfl, rfl⟩ ⟨Nat.le_of_ble_eq_true rfl, Nat.le_of_ble_eq_true rfl⟩ hl.1 rfl (Nat.le_of_ble_eq_true rfl) dX9_copyTale_62 ⟨Nat.zero_le _, Nat.zero_le _⟩ (fun i8 g8 H locs hq hT hS => ?_)
    obtain ⟨hR8, hf8⟩ := hq
    have hF8 := Fr_tr hF7 hf8 (by decide)
    exact hret _ _ _ _ _ _ dX9_copyTale_65 hT hS ⟨hR8, hF8⟩
  ·
    have h9 : rg 2 2 a_b := ⟨by omega, by omega⟩
    refine lv_aload_n hx hb dX9_copyTale_0 rfl (lv_at hl 0 rfl) ?_
    refine r_getr X hT 96 16 102 fk_9_31 rfl rfl (by decide) dX9_copyTale_1 ?_
    refine lv_iconst (v := 1) hx hb dX9_copyTale_4 (by decide) ?_
    refine lv_iload_n hx hb dX9_copyTale_5 rfl (lv_at hl 1 rfl) ?_
    refine lv_iload_n hx hb dX9_copyTale_6 rfl (lv_at hl 2 rfl) ?_
    refine e_Sv (As := [.ref (h 102), .int 1, .int a_a, .int a_b]) (rest := []) X Y hT hS (m_X9_copyRow_102_1_0_2 hR (1) a_a a_b (rg_k (by decide) : rg 1 1 1) ha_a h9) sk_X9_copyRow gm_1638 hd_X9_copyRow ⟨rfl, rfl⟩ ⟨Nat.le_of_ble_eq_true rfl, Nat.le_of_ble_eq_true rfl⟩ hl.1 rfl (Nat.le_of_ble_eq_true rfl) dX9_copyTale_7 ⟨Nat.zero_le _, Nat.zero_le _⟩ (fun i10 g10 H locs hq hT hS => ?_)
    obtain ⟨hR10, hf10⟩ := hq
    have hF10 := Fr_tr hF hf10 (by decide)
    refine lv_aload_n hx hb dX9_copyTale_10 rfl (lv_at hl 0 rfl) ?_
    refine r_getr X hT 96 17 103 fk_9_34 rfl rfl (by decide) dX9_copyTale_11 ?_
    refine lv_bipush (v := 7) hx hb dX9_copyTale_14 (by decide) ?_
    refine lv_iload_n hx hb dX9_copyTale_16 rfl (lv_at hl 1 rfl) ?_
    refine lv_iload_n hx hb dX9_copyTale_17 rfl (lv_at hl 2 rfl) ?_
    refine e_Sv (As := [.ref (h 103), .int 7, .int a_a, .int a_b]) (rest := []) X Y hT hS (m_X9_copyRow_103_7_0_2 hR10 (7) a_a a_b (rg_k (by decide) : rg 7 7 7) ha_a h9) sk_X9_copyRow gm_1638 hd_X9_copyRow ⟨rfl, rfl⟩ ⟨Nat.le_of_ble_eq_true rfl, Nat.le_of_ble_eq_true rfl⟩ hl.1 rfl (Nat.le_of_ble_eq_true rfl) dX9_copyTale_18 ⟨Nat.zero_le _, Nat.zero_le _⟩ (fun i11 g11 H locs hq hT hS => ?_)
    obtain ⟨hR11, hf11⟩ := hq
    have hF11 := Fr_tr hF10 hf11 (by decide)
    refine lv_aload_n hx hb dX9_copyTale_21 rfl (lv_at hl 0 rfl) ?_
    refine r_getr X hT 96 18 104 fk_9_37 rfl rfl (by decide) dX9_copyTale_22 ?_
    refine lv_bipush (v := 18) hx hb dX9_copyTale_25 (by decide) ?_
    refine lv_iload_n hx hb dX9_copyTale_27 rfl (lv_at hl 1 rfl) ?_
    refine lv_iload_n hx hb dX9_copyTale_28 rfl (lv_at hl 2 rfl) ?_
    refine e_Sv (As := [.ref (h 104), .int 18, .int a_a, .int a_b]) (rest := []) X Y hT hS (m_X9_copyRow_104_18_0_2 hR11 (18) a_a a_b (rg_k (by decide) : rg 18 18 18) ha_a h9) sk_X9_copyRow gm_1638 hd_X9_copyRow ⟨rfl, rfl⟩ ⟨Nat.le_of_ble_eq_true rfl, Nat.le_of_ble_eq_true rfl⟩ hl.1 rfl (Nat.le_of_ble_eq_true rfl) dX9_copyTale_29 ⟨Nat.zero_le _, Nat.zero_le _⟩ (fun i12 g12 H locs hq hT hS => ?_)
    obtain ⟨hR12, hf12⟩ := hq
    have hF12 := Fr_tr hF11 hf12 (by decide)
    refine lv_aload_n hx hb dX9_copyTale_32 rfl (lv_at hl 0 rfl) ?_
    refine r_getr X hT 96 19 105 fk_9_40 rfl rfl (by decide) dX9_copyTale_33 ?_
    refine lv_bipush (v := 20) hx hb dX9_copyTale_36 (by decide) ?_
    refine lv_iload_n hx hb dX9_copyTale_38 rfl (lv_at hl 1 rfl) ?_
    refine lv_iload_n hx hb dX9_copyTale_39 rfl (lv_at hl 2 rfl) ?_
    refine e_Sv (As := [.ref (h 105), .int 20, .int a_a, .int a_b]) (rest := []) X Y hT hS (m_X9_copyRow_105_20_0_2 hR12 (20) a_a a_b (rg_k (by decide) : rg 20 20 20) ha_a h9) sk_X9_copyRow gm_1638 hd_X9_copyRow ⟨rfl, rfl⟩ ⟨Nat.le_of_ble_eq_true rfl, Nat.le_of_ble_eq_true rfl⟩ hl.1 rfl (Nat.le_of_ble_eq_true rfl) dX9_copyTale_40 ⟨Nat.zero_le _, Nat.zero_le _⟩ (fun i13 g13 H locs hq hT hS => ?_)
    obtain ⟨hR13, hf13⟩ := hq
    have hF13 := Fr_tr hF12 hf13 (by decide)
    refine lv_aload_n hx hb dX9_copyTale_43 rfl (lv_at hl 0 rfl) ?_
    refine r_getr X hT 96 20 106 fk_9_43 rfl rfl (by decide) dX9_copyTale_44 ?_
    refine lv_bipush (v := 16) hx hb dX9_copyTale_47 (by decide) ?_
    refine lv_iload_n hx hb dX9_copyTale_49 rfl (lv_at hl 1 rfl) ?_
    refine lv_iload_n hx hb dX9_copyTale_50 rfl (lv_at hl 2 rfl) ?_
    refine e_Sv (As := [.ref (h 106), .int 16, .int a_a, .int a_b]) (rest := []) X Y hT hS (m_X9_copyRow_106_16_0_2 hR13 (16) a_a a_b (rg_k (by decide) : rg 16 16 16) ha_a h9) sk_X9_copyRow gm_1638 hd_X9_copyRow ⟨rfl, rfl⟩ ⟨Nat.le_of_ble_eq_true rfl, Nat.le_of_ble_eq_true rfl⟩ hl.1 rfl (Nat.le_of_ble_eq_true rfl) dX9_copyTale_51 ⟨Nat.zero_le _, Nat.zero_le _⟩ (fun i14 g14 H locs hq hT hS => ?_)
    obtain ⟨hR14, hf14⟩ := hq
    have hF14 := Fr_tr hF13 hf14 (by decide)
    refine lv_aload_n hx hb dX9_copyTale_54 rfl (lv_at hl 0 rfl) ?_
    refine r_getr X hT 96 21 107 fk_9_46 rfl rfl (by decide) dX9_copyTale_55 ?_
    refine lv_bipush (v := 60) hx hb dX9_copyTale_58 (by decide) ?_
    refine lv_iload_n hx hb dX9_copyTale_60 rfl (lv_at hl 1 rfl) ?_
    refine lv_iload_n hx hb dX9_copyTale_61 rfl (lv_at hl 2 rfl) ?_
    refine e_Sv (As := [.ref (h 107), .int 60, .int a_a, .int a_b]) (rest := []) X Y hT hS (m_X9_copyRow_107_60_0_2 hR14 (60) a_a a_b (rg_k (by decide) : rg 60 60 60) ha_a h9) sk_X9_copyRow gm_1638 hd_X9_copyRow ⟨rfl, rfl⟩ ⟨Nat.le_of_ble_eq_true rfl, Nat.le_of_ble_eq_true rfl⟩ hl.1 rfl (Nat.le_of_ble_eq_true rfl) dX9_copyTale_62 ⟨Nat.zero_le _, Nat.zero_le _⟩ (fun i15 g15 H locs hq hT hS => ?_)
    obtain ⟨hR15, hf15⟩ := hq
    have hF15 := Fr_tr hF14 hf15 (by decide)
    exact hret _ _ _ _ _ _ dX9_copyTale_65 hT hS ⟨hR15, hF15⟩
  ·
    have h16 : rg 3 3 a_b := ⟨by omega, by omega⟩
    refine lv_aload_n hx hb dX9_copyTale_0 rfl (lv_at hl 0 rfl) ?_
    refine r_getr X hT 96 16 102 fk_9_31 rfl rfl (by decide) dX9_copyTale_1 ?_
    refine lv_iconst (v := 1) hx hb dX9_copyTale_4 (by decide) ?_
    refine lv_iload_n hx hb dX9_copyTale_5 rfl (lv_at hl 1 rfl) ?_
    refine lv_iload_n hx hb dX9_copyTale_6 rfl (lv_at hl 2 rfl) ?_
    refine e_Sv (As := [.ref (h 102), .int 1, .int a_a, .int a_b]) (rest := []) X Y hT hS (m_X9_copyRow_102_1_0_3 hR (1) a_a a_b (rg_k (by decide) : rg 1 1 1) ha_a h16) sk_X9_copyRow gm_1638 hd_X9_copyRow ⟨rfl, rfl⟩ ⟨Nat.le_of_ble_eq_true rfl, Nat.le_of_ble_eq_true rfl⟩ hl.1 rfl (Nat.le_of_ble_eq_true rfl) dX9_copyTale_7 ⟨Nat.zero_le _, Nat.zero_le _⟩ (fun i17 g17 H locs hq hT hS => ?_)
    obtain ⟨hR17, hf17⟩ := hq
    have hF17 := Fr_tr hF hf17 (by decide)
    refine lv_aload_n hx hb dX9_copyTale_10 rfl (lv_at hl 0 rfl) ?_
    refine r_getr X hT 96 17 103 fk_9_34 rfl rfl (by decide) dX9_copyTale_11 ?_
    refine lv_bipush (v := 7) hx hb dX9_copyTale_14 (by decide) ?_
    refine lv_iload_n hx hb dX9_copyTale_16 rfl (lv_at hl 1 rfl) ?_
    refine lv_iload_n hx hb dX9_copyTale_17 rfl (lv_at hl 2 rfl) ?_
    refine e_Sv (As := [.ref (h 103), .int 7, .int a_a, .int a_b]) (rest := []) X Y hT hS (m_X9_copyRow_103_7_0_3 hR17 (7) a_a a_b (rg_k (by decide) : rg 7 7 7) ha_a h16) sk_X9_copyRow gm_1638 hd_X9_copyRow ⟨rfl, rfl⟩ ⟨Nat.le_of_ble_eq_true rfl, Nat.le_of_ble_eq_true rfl⟩ hl.1 rfl (Nat.le_of_ble_eq_true rfl) dX9_copyTale_18 ⟨Nat.zero_le _, Nat.zero_le _⟩ (fun i18 g18 H locs hq hT hS => ?_)
    obtain ⟨hR18, hf18⟩ := hq
    have hF18 := Fr_tr hF17 hf18 (by decide)
    refine lv_aload_n hx hb dX9_copyTale_21 rfl (lv_at hl 0 rfl) ?_
    refine r_getr X hT 96 18 104 fk_9_37 rfl rfl (by decide) dX9_copyTale_22 ?_
    refine lv_bipush (v := 18) hx hb dX9_copyTale_25 (by decide) ?_
    refine lv_iload_n hx hb dX9_copyTale_27 rfl (lv_at hl 1 rfl) ?_
    refine lv_iload_n hx hb dX9_copyTale_28 rfl (lv_at hl 2 rfl) ?_
    refine e_Sv (As := [.ref (h 104), .int 18, .int a_a, .int a_b]) (rest := []) X Y hT hS (m_X9_copyRow_104_18_0_3 hR18 (18) a_a a_b (rg_k (by decide) : rg 18 18 18) ha_a h16) sk_X9_copyRow gm_1638 hd_X9_copyRow ⟨rfl, rfl⟩ ⟨Nat.le_of_ble_eq_true rfl, Nat.le_of_ble_eq_true rfl⟩ hl.1 rfl (Nat.le_of_ble_eq_true rfl) dX9_copyTale_29 ⟨Nat.zero_le _, Nat.zero_le _⟩ (fun i19 g19 H locs hq hT hS => ?_)
    obtain ⟨hR19, hf19⟩ := hq
    have hF19 := Fr_tr hF18 hf19 (by decide)
    refine lv_aload_n hx hb dX9_copyTale_32 rfl (lv_at hl 0 rfl) ?_
    refine r_getr X hT 96 19 105 fk_9_40 rfl rfl (by decide) dX9_copyTale_33 ?_
    refine lv_bipush (v := 20) hx hb dX9_copyTale_36 (by decide) ?_
    refine lv_iload_n hx hb dX9_copyTale_38 rfl (lv_at hl 1 rfl) ?_
    refine lv_iload_n hx hb dX9_copyTale_39 rfl (lv_at hl 2 rfl) ?_
    refine e_Sv (As := [.ref (h 105), .int 20, .int a_a, .int a_b]) (rest := []) X Y hT hS (m_X9_copyRow_105_20_0_3 hR19 (20) a_a a_b (rg_k (by decide) : rg 20 20 20) ha_a h16) sk_X9_copyRow gm_1638 hd_X9_copyRow ⟨rfl, rfl⟩ ⟨Nat.le_of_ble_eq_true rfl, Nat.le_of_ble_eq_true rfl⟩ hl.1 rfl (Nat.le_of_ble_eq_true rfl) dX9_copyTale_40 ⟨Nat.zero_le _, Nat.zero_le _⟩ (fun i20 g20 H locs hq hT hS => ?_)
    obtain ⟨hR20, hf20⟩ := hq
    have hF20 := Fr_tr hF19 hf20 (by decide)
    refine lv_aload_n hx hb dX9_copyTale_43 rfl (lv_at hl 0 rfl) ?_
    refine r_getr X hT 96 20 106 fk_9_43 rfl rfl (by decide) dX9_copyTale_44 ?_
    refine lv_bipush (v := 16) hx hb dX9_copyTale_47 (by decide) ?_
    refine lv_iload_n hx hb dX9_copyTale_49 rfl (lv_at hl 1 rfl) ?_
    refine lv_iload_n hx hb dX9_copyTale_50 rfl (lv_at hl 2 rfl) ?_
    refine e_Sv (As := [.ref (h 106), .int 16, .int a_a, .int a_b]) (rest := []) X Y hT hS (m_X9_copyRow_106_16_0_3 hR20 (16) a_a a_b (rg_k (by decide) : rg 16 16 16) ha_a h16) sk_X9_copyRow gm_1638 hd_X9_copyRow ⟨rfl, rfl⟩ ⟨Nat.le_of_ble_eq_true rfl, Nat.le_of_ble_eq_true rfl⟩ hl.1 rfl (Nat.le_of_ble_eq_true rfl) dX9_copyTale_51 ⟨Nat.zero_le _, Nat.zero_le _⟩ (fun i21 g21 H locs hq hT hS => ?_)
    obtain ⟨hR21, hf21⟩ := hq
    have hF21 := Fr_tr hF20 hf21 (by decide)
    refine lv_aload_n hx hb dX9_copyTale_54 rfl (lv_at hl 0 rfl) ?_
    refine r_getr X hT 96 21 107 fk_9_46 rfl rfl (by decide) dX9_copyTale_55 ?_
    refine lv_bipush (v := 60) hx hb dX9_copyTale_58 (by decide) ?_
    refine lv_iload_n hx hb dX9_copyTale_60 rfl (lv_at hl 1 rfl) ?_
    refine lv_iload_n hx hb dX9_copyTale_61 rfl (lv_at hl 2 rfl) ?_
    refine e_Sv (As := [.ref (h 107), .int 60, .int a_a, .int a_b]) (rest := []) X Y hT hS (m_X9_copyRow_107_60_0_3 hR21 (60) a_a a_b (rg_k (by decide) : rg 60 60 60) ha_a h16) sk_X9_copyRow gm_1638 hd_X9_copyRow ⟨rfl, rfl⟩ ⟨Nat.le_of_ble_eq_true rfl, Nat.le_of_ble_eq_true rfl⟩ hl.1 rfl (Nat.le_of_ble_eq_true rfl) dX9_copyTale_62 ⟨Nat.zero_le _, Nat.zero_le _⟩ (fun i22 g22 H locs hq hT hS => ?_)
    obtain ⟨hR22, hf22⟩ := hq
    have hF22 := Fr_tr hF21 hf22 (by decide)
    exact hret _ _ _ _ _ _ dX9_copyTale_65 hT hS ⟨hR22, hF22⟩
set_option maxRecDepth 100000 in
set_option maxHeartbeats 4000000 in
theorem m_X9_image {l : Launch} {D : va_G} {h : Nat → Nat} {cz : Nat → ClassId} {z : EZ} {i : Nat → Nat → Int32} {g : Nat → Nat → Int64} (hR : Rg rA i) (a_a : Int32) : DtI l yX9_image cX9_image 2 (some .int) ({ frames := 2, cells := 0, slots := 0, locals := 46 } : Room) D h cz z i g [.ref (h 96), .int a_a] (fun r u => (Rg rA u.1 ∧ Fr [96, 102, 103, 104, 105, 106, 107, 108] [] i g u ∧ r = 0 ∧ (0 ≤ a_a.toInt ∧ a_a.toInt ≤ 2)) ∨ (Rg rA u.1 ∧ Fr [96, 102, 103, 104, 105, 106, 107, 108] [] i g u ∧ r = (-2) ∧ (a_a.toInt < 0 ∨ 2 < a_a.toInt))) := by
  refine e_I pn_X9_image (Nat.le_of_ble_eq_true rfl) ?_
  intro p e s m args below meth c ls Q X Y hret hT hl hS
  have hx := X.1
  have hb := X.2.1
  have hl : lv_has ls 2 [(0, .ref (h 96)), (1, .int a_a)] := hl
  have hF : Fr [96, 102, 103, 104, 105, 106, 107, 108] [] i g (i, g) := Fr_rf _ _ _ _
  refine lv_aload_n hx hb dX9_image_0 rfl (lv_at hl 0 rfl) ?_
  refine lv_iconst (v := 0) hx hb dX9_image_1 (by decide) ?_
  refine r_puti X hT hS 96 0 pk_9_83 rfl rfl rfl rfl (by decide) dX9_image_2 (fun H locs i1 ei1 hT hS => ?_)
  have hR1 := Rg_put hR ei1 (-2147483648) 2147483647 rfl (rg_k (by decide) : rg 0 0 0) (by decide)
  have hF1 := Fr_puti hF ei1 (by decide)
  refine lv_iload_n hx hb dX9_image_5 rfl (lv_at hl 1 rfl) ?_
  refine q_i2l hx hb dX9_image_6 (fun y2 ey2 => ?_)
  obtain ⟨hy2, ay2⟩ := rg_i2l ey2 (rg_top a_a)
  refine lv_lconst (v := 0) hx hb dX9_image_7 (by decide) ?_
  refine lv_ldc2 (v := 2) hx hb X.2.2.2.1 (X.2.2.2.2.1 _ gm_1653) dX9_image_8 ?_
  refine e_Si (As := [.long y2, .long 0, .long 2]) (rest := []) X Y hT hS (m_in y2 (0) (2)) sk_X9_in gm_1496 hd_X9_in ⟨rfl, rfl⟩ ⟨Nat.le_of_ble_eq_true rfl, Nat.le_of_ble_eq_true rfl⟩ hl.1 rfl (Nat.le_of_ble_eq_true rfl) dX9_image_11 ⟨Nat.zero_le _, Nat.zero_le _⟩ (fun r3 i3 g3 H locs hq hT hS => ?_)
  rcases hq with hq | hq
  ·
    obtain ⟨eh3, rfl, hf3_0⟩ := hq
    rw [(Prod.mk.inj eh3).1, (Prod.mk.inj eh3).2] at hT
    replace hf3_0 : 0 ≤ y2.toInt ∧ y2.toInt ≤ 2 := hf3_0
    have h4 : rgL 0 2 y2 := ⟨by have := hy2.1; have := hy2.2; omega, by have := hy2.1; have := hy2.2; omega⟩
    have h5 : rg 0 2 a_a := ⟨by have := h4.1; have := (rg_top a_a).1; have := ay2; omega, by have := h4.2; have := (rg_top a_a).2; have := ay2; omega⟩
    refine lv_if_ne (tgt := 20) hx hb dX9_image_14 (by decide) (fun c6 => ?_) (fun c6 => (x_eq (rg_k (by decide) : rg 1 1 1) (rg_k (by decide) : rg 0 0 0) (i_eq c6) (by decide)).elim)
    refine lv_aload_n hx hb dX9_image_20 rfl (lv_at hl 0 rfl) ?_
    refine lv_iconst (v := 0) hx hb dX9_image_21 (by decide) ?_
    refine lv_iconst (v := 1) hx hb dX9_image_22 (by decide) ?_
    refine lv_iload_n hx hb dX9_image_23 rfl (lv_at hl 1 rfl) ?_
    refine q_iadd hx hb dX9_image_24 (fun x7 ex7 => ?_)
    obtain ⟨hx7, ax7⟩ := rg_add 1 3 ex7 (rg_k (by decide) : rg 1 1 1) h5 (by decide)
    replace ax7 : x7.toInt = 1 + a_a.toInt := ax7
    refine e_Vv (As := [.int 0, .int x7]) (rest := []) X Y hT hS (m_X9_copyTale_0t0_1t3 hR1 (0) x7 (rg_k (by decide) : rg 0 0 0) hx7) mk_X9_copyTale gm_1634 rfl rfl (by decide) hd_X9_copyTale ⟨rfl, rfl⟩ ⟨Nat.le_of_ble_eq_true rfl, Nat.le_of_ble_eq_true rfl⟩ hl.1 rfl (Nat.le_of_ble_eq_true rfl) dX9_image_25 ⟨Nat.zero_le _, Nat.zero_le _⟩ (fun i8 g8 H locs hq hT hS => ?_)
    obtain ⟨hR8, hf8⟩ := hq
    have hF8 := Fr_tr hF1 hf8 (by decide)
    refine lv_aload_n hx hb dX9_image_28 rfl (lv_at hl 0 rfl) ?_
    refine r_getr X hT 96 22 108 fk_9_49 rfl rfl (by decide) dX9_image_29 ?_
    refine lv_iload_n hx hb dX9_image_32 rfl (lv_at hl 1 rfl) ?_
    refine lv_iconst (v := 1) hx hb dX9_image_33 (by decide) ?_
    refine r_zast X hT hS 108 rfl (by decide) (v_in h5 (by decide)) dX9_image_34 (fun H locs i9 ei9 hT hS => ?_)
    have hR9 := Rg_put hR8 ei9 0 1 rfl (rg_k (by decide) : rg 1 1 1) (by decide)
    have hF9 := Fr_puti hF8 ei9 (by decide)
    refine lv_iconst (v := 0) hx hb dX9_image_35 (by decide) ?_
    exact hret 0 _ _ _ _ _ _ dX9_image_36 hT hS (Or.inl ⟨hR9, hF9, rfl, (by have := h5.1; have := h5.2; omega)⟩)
  ·
    obtain ⟨eh3, rfl, hf3_0⟩ := hq
    rw [(Prod.mk.inj eh3).1, (Prod.mk.inj eh3).2] at hT
    replace hf3_0 : y2.toInt < 0 ∨ 2 < y2.toInt := hf3_0
    refine lv_if_ne (tgt := 20) hx hb dX9_image_14 (by decide) (fun c10 => (x_ne (rg_k (by decide) : rg 0 0 0) (rg_k (by decide) : rg 0 0 0) (i_ne c10) (by decide)).elim) (fun c10 => ?_)
    refine lv_bipush (v := (-2)) hx hb dX9_image_17 (by decide) ?_
    exact hret (-2) _ _ _ _ _ _ dX9_image_19 hT hS (Or.inr ⟨hR1, hF1, rfl, (by omega)⟩)
set_option maxRecDepth 100000 in
set_option maxHeartbeats 4000000 in
theorem m_X9_copyRow_102_1_1_0 {l : Launch} {D : va_G} {h : Nat → Nat} {cz : Nat → ClassId} {z : EZ} {i : Nat → Nat → Int32} {g : Nat → Nat → Int64} (hR : Rg rA i) (a_b : Int32) (a_c : Int32) (a_d : Int32) (ha_b : rg 1 1 a_b) (ha_c : rg 1 1 a_c) (ha_d : rg 0 0 a_d) : DtV l yX9_copyRow cX9_copyRow 5 none ({ frames := 0, cells := 0, slots := 0, locals := 0 } : Room) D h cz z i g [.ref (h 102), .int a_b, .int a_c, .int a_d] (fun u => Rg rA u.1 ∧ Fr [102] [] i g u) := by
  refine e_V pn_X9_copyRow (Nat.le_of_ble_eq_true rfl) ?_
  intro p e s m args below meth c ls Q X Y hret hT hl hS
  have hx := X.1
  have hb := X.2.1
  have hl : lv_has ls 5 [(0, .ref (h 102)), (1, .int a_b), (2, .int a_c), (3, .int a_d)] := hl
  have hF : Fr [102] [] i g (i, g) := Fr_rf _ _ _ _
  refine lv_iconst (v := 0) hx hb dX9_copyRow_0 (by decide) ?_
  refine lv_istore (lv' := [(4, .int 0), (0, .ref (h 102)), (1, .int a_b), (2, .int a_c), (3, .int a_d)]) hx hb dX9_copyRow_1 hl (by decide) rfl (fun ls hl => ?_)
  have L3_1 : ∀ (n3_ : Nat) (x3_4 : Int32) (i2 : Nat → Nat → Int32) (g2 : Nat → Nat → Int64) (H : Heap) (locs : List Loc) (ls : Array Slot), rg 0 1 x3_4 → Rg rA i2 → Fr [102] [] i g (i2, g2) → TH D h cz i2 g2 H → va_S (hA h) s.heap H locs → lv_has ls 5 [(0, .ref (h 102)), (1, .int a_b), (2, .int a_c), (3, .int a_d), (4, .int x3_4)] → (1 - x3_4.toInt).toNat < n3_ → W p l e ({ frames := 0, cells := 0, slots := 0, locals := 0 } : Room) s m args below meth c H locs 0 0 Q (F0 m 3 ls []) := by
    intro n3_
    induction n3_ with
    | zero => intro x3_4 i2 g2 H locs ls hhx3_4 hR2 hF2 hT hS hl hm3_; exact absurd hm3_ (Nat.not_lt_zero _)
    | succ n3_ ih3_ =>
      intro x3_4 i2 g2 H locs ls hhx3_4 hR2 hF2 hT hS hl hm3_
      refine lv_iload hx hb dX9_copyRow_3 (lv_at hl 4 rfl) ?_
      refine lv_iload_n hx hb dX9_copyRow_5 rfl (lv_at hl 1 rfl) ?_
      refine lv_icmp_ge (tgt := 31) hx hb dX9_copyRow_6 (by decide) (fun c4 => ?_) (fun c4 => ?_)
      ·
        have q4 : a_b.toInt ≤ x3_4.toInt := i_le c4
        have h5 : rg 1 1 x3_4 := t_ley 1 1 ha_b hhx3_4 (i_le c4) (by decide)
        exact hret _ _ _ _ _ _ dX9_copyRow_31 hT hS ⟨hR2, hF2⟩
      ·
        have q4 : x3_4.toInt < a_b.toInt := i_nle c4
        have h6 : rg 0 0 x3_4 := t_ltx 0 0 hhx3_4 ha_b (i_nle c4) (by decide)
        refine lv_aload_n hx hb dX9_copyRow_9 rfl (lv_at hl 0 rfl) ?_
        refine lv_iload_n hx hb dX9_copyRow_10 rfl (lv_at hl 1 rfl) ?_
        refine lv_iload_n hx hb dX9_copyRow_11 rfl (lv_at hl 3 rfl) ?_
        refine q_imul hx hb dX9_copyRow_12 (fun x7 ex7 => ?_)
        obtain ⟨hx7, ax7⟩ := rg_mul 0 0 ex7 ha_b ha_d (by decide)
        replace ax7 : x7.toInt = a_b.toInt * a_d.toInt := ax7
        refine lv_iload hx hb dX9_copyRow_13 (lv_at hl 4 rfl) ?_
        refine q_iadd hx hb dX9_copyRow_15 (fun x8 ex8 => ?_)
        obtain ⟨hx8, ax8⟩ := rg_add 0 0 ex8 hx7 h6 (by decide)
        replace ax8 : x8.toInt = x7.toInt + x3_4.toInt := ax8
        replace ax8 : x8.toInt = x7.toInt + 0 := by have := h6.1; have := h6.2; omega
        refine lv_aload_n hx hb dX9_copyRow_16 rfl (lv_at hl 0 rfl) ?_
        refine lv_iload_n hx hb dX9_copyRow_17 rfl (lv_at hl 1 rfl) ?_
        refine lv_iload_n hx hb dX9_copyRow_18 rfl (lv_at hl 2 rfl) ?_
        refine q_imul hx hb dX9_copyRow_19 (fun x9 ex9 => ?_)
        obtain ⟨hx9, ax9⟩ := rg_mul 1 1 ex9 ha_b ha_c (by decide)
        replace ax9 : x9.toInt = a_b.toInt * a_c.toInt := ax9
        refine lv_iload hx hb dX9_copyRow_20 (lv_at hl 4 rfl) ?_
        refine q_iadd hx hb dX9_copyRow_22 (fun x10 ex10 => ?_)
        obtain ⟨hx10, ax10⟩ := rg_add 1 1 ex10 hx9 h6 (by decide)
        replace ax10 : x10.toInt = x9.toInt + x3_4.toInt := ax10
        replace ax10 : x10.toInt = x9.toInt + 0 := by have := h6.1; have := h6.2; omega
        refine r_ialdc X hT 102 1 rfl (by decide) (v_in hx10 (by decide)) (cl_c hx10 1 rfl (by decide)) dX9_copyRow_23 ?_
        refine r_iastc X hT hS 102 0 rfl (by decide) (v_in hx8 (by decide)) (cl_c hx8 0 rfl (by decide)) dX9_copyRow_24 (fun H locs i11 ei11 hT hS => ?_)
        have hR11 := Rg_put hR2 ei11 (-2147483648) 2147483647 rfl (rg_top (i2 102 1)) (by decide)
        have hF11 := Fr_puti hF2 ei11 (by decide)
        obtain ⟨x12, ex12⟩ : ∃ y : Int32, y = x3_4 + 1 := ⟨_, rfl⟩
        refine lv_iinc (v := x12) (lv' := [(4, .int x12), (0, .ref (h 102)), (1, .int a_b), (2, .int a_c), (3, .int a_d)]) hx hb dX9_copyRow_25 hl (k := 4) rfl (by rw [ex12]; rfl) (by decide) rfl (fun ls hl => ?_)
        obtain ⟨hx12, ax12⟩ := rg_add 1 1 ex12 h6 (rg_k (by decide) : rg 1 1 1) (by decide)
        replace ax12 : x12.toInt = x3_4.toInt + 1 := ax12
        refine lv_goto (tgt := 3) hx hb dX9_copyRow_28 (by decide) ?_
        exact ih3_ x12 i11 g2 _ _ _ (rg_w hx12 (by decide) : rg 0 1 x12) hR11 hF11 hT hS (lv_sub hl [1, 2, 3, 4, 0] rfl) (m_up ax12 hx12 (by decide) hm3_)
  exact L3_1 _ (0) i g _ _ _ (rg_w (rg_k (by decide) : rg 0 0 0) (by decide) : rg 0 1 0) hR hF hT hS (lv_sub hl [1, 2, 3, 4, 0] rfl) (Nat.lt_succ_self _)
set_option maxRecDepth 100000 in
set_option maxHeartbeats 4000000 in
theorem m_X9_copyRow_103_7_1_0 {l : Launch} {D : va_G} {h : Nat → Nat} {cz : Nat → ClassId} {z : EZ} {i : Nat → Nat → Int32} {g : Nat → Nat → Int64} (hR : Rg rA i) (a_b : Int32) (a_c : Int32) (a_d : Int32) (ha_b : rg 7 7 a_b) (ha_c : rg 1 1 a_c) (ha_d : rg 0 0 a_d) : DtV l yX9_copyRow cX9_copyRow 5 none ({ frames := 0, cells := 0, slots := 0, locals := 0 } : Room) D h cz z i g [.ref (h 103), .int a_b, .int a_c, .int a_d] (fun u => Rg rA u.1 ∧ Fr [103] [] i g u) := by
  refine e_V pn_X9_copyRow (Nat.le_of_ble_eq_true rfl) ?_
  intro p e s m args below meth c ls Q X Y hret hT hl hS
  have hx := X.1
  have hb := X.2.1
  have hl : lv_has ls 5 [(0, .ref (h 103)), (1, .int a_b), (2, .int a_c), (3, .int a_d)] := hl
  have hF : Fr [103] [] i g (i, g) := Fr_rf _ _ _ _
  refine lv_iconst (v := 0) hx hb dX9_copyRow_0 (by decide) ?_
  refine lv_istore (lv' := [(4, .int 0), (0, .ref (h 103)), (1, .int a_b), (2, .int a_c), (3, .int a_d)]) hx hb dX9_copyRow_1 hl (by decide) rfl (fun ls hl => ?_)
  have L3_1 : ∀ (n3_ : Nat) (x3_4 : Int32) (i2 : Nat → Nat → Int32) (g2 : Nat → Nat → Int64) (H : Heap) (locs : List Loc) (ls : Array Slot), rg 0 8 x3_4 → Rg rA i2 → Fr [103] [] i g (i2, g2) → TH D h cz i2 g2 H → va_S (hA h) s.heap H locs → lv_has ls 5 [(0, .ref (h 103)), (1, .int a_b), (2, .int a_c), (3, .int a_d), (4, .int x3_4)] → (8 - x3_4.toInt).toNat < n3_ → W p l e ({ frames := 0, cells := 0, slots := 0, locals := 0 } : Room) s m args below meth c H locs 0 0 Q (F0 m 3 ls []) := by
    intro n3_
    induction n3_ with
    | zero => intro x3_4 i2 g2 H locs ls hhx3_4 hR2 hF2 hT hS hl hm3_; exact absurd hm3_ (Nat.not_lt_zero _)
    | succ n3_ ih3_ =>
      intro x3_4 i2 g2 H locs ls hhx3_4 hR2 hF2 hT hS hl hm3_
      refine lv_iload hx hb dX9_copyRow_3 (lv_at hl 4 rfl) ?_
      refine lv_iload_n hx hb dX9_copyRow_5 rfl (lv_at hl 1 rfl) ?_
      refine lv_icmp_ge (tgt := 31) hx hb dX9_copyRow_6 (by decide) (fun c4 => ?_) (fun c4 => ?_)
      ·
        have q4 : a_b.toInt ≤ x3_4.toInt := i_le c4
        have h5 : rg 7 8 x3_4 := t_ley 7 8 ha_b hhx3_4 (i_le c4) (by decide)
        exact hret _ _ _ _ _ _ dX9_copyRow_31 hT hS ⟨hR2, hF2⟩
      ·
        have q4 : x3_4.toInt < a_b.toInt := i_nle c4
        have h6 : rg 0 6 x3_4 := t_ltx 0 6 hhx3_4 ha_b (i_nle c4) (by decide)
        refine lv_aload_n hx hb dX9_copyRow_9 rfl (lv_at hl 0 rfl) ?_
        refine lv_iload_n hx hb dX9_copyRow_10 rfl (lv_at hl 1 rfl) ?_
        refine lv_iload_n hx hb dX9_copyRow_11 rfl (lv_at hl 3 rfl) ?_
        refine q_imul hx hb dX9_copyRow_12 (fun x7 ex7 => ?_)
        obtain ⟨hx7, ax7⟩ := rg_mul 0 0 ex7 ha_b ha_d (by decide)
        replace ax7 : x7.toInt = a_b.toInt * a_d.toInt := ax7
        refine lv_iload hx hb dX9_copyRow_13 (lv_at hl 4 rfl) ?_
        refine q_iadd hx hb dX9_copyRow_15 (fun x8 ex8 => ?_)
        obtain ⟨hx8, ax8⟩ := rg_add 0 6 ex8 hx7 h6 (by decide)
        replace ax8 : x8.toInt = x7.toInt + x3_4.toInt := ax8
        replace ax8 : x8.toInt = x3_4.toInt + 0 := by have := hx7.1; have := hx7.2; omega
        refine lv_aload_n hx hb dX9_copyRow_16 rfl (lv_at hl 0 rfl) ?_
        refine lv_iload_n hx hb dX9_copyRow_17 rfl (lv_at hl 1 rfl) ?_
        refine lv_iload_n hx hb dX9_copyRow_18 rfl (lv_at hl 2 rfl) ?_
        refine q_imul hx hb dX9_copyRow_19 (fun x9 ex9 => ?_)
        obtain ⟨hx9, ax9⟩ := rg_mul 7 7 ex9 ha_b ha_c (by decide)
        replace ax9 : x9.toInt = a_b.toInt * a_c.toInt := ax9
        refine lv_iload hx hb dX9_copyRow_20 (lv_at hl 4 rfl) ?_
        refine q_iadd hx hb dX9_copyRow_22 (fun x10 ex10 => ?_)
        obtain ⟨hx10, ax10⟩ := rg_add 7 13 ex10 hx9 h6 (by decide)
        replace ax10 : x10.toInt = x9.toInt + x3_4.toInt := ax10
        replace ax10 : x10.toInt = x3_4.toInt + 7 := by have := hx9.1; have := hx9.2; omega
        refine r_iald X hT 103 rfl (by decide) (v_in hx10 (by decide)) dX9_copyRow_23 ?_
        have h11 : rg 0 20 (i2 103 x10.toNatClampNeg) := Rg_ata hR2 103 x10.toNatClampNeg 0 20 (v_lt (v_in hx10 (by decide))) (aff_at (m := 1) (a := 0) (n := 7) (c := 7) (by decide) (v := x3_4.toInt) ⟨by have := h6.1; omega, by have := h6.2; omega⟩ (by have := ax10; omega))
        refine r_iast X hT hS 103 rfl (by decide) (v_in hx8 (by decide)) dX9_copyRow_24 (fun H locs i12 ei12 hT hS => ?_)
        have hR12 := Rg_mv hR2 ei12 (v_lt (v_in hx10 (by decide))) (aff_mv (T := rA) (j := 103) (m := 1) (a := 0) (n := 7) (c := 0) (c1 := 7) (by decide) (v := x3_4.toInt) ⟨by have := h6.1; omega, by have := h6.2; omega⟩ (by have := ax8; omega) (by have := ax10; omega))
        have hF12 := Fr_puti hF2 ei12 (by decide)
        obtain ⟨x13, ex13⟩ : ∃ y : Int32, y = x3_4 + 1 := ⟨_, rfl⟩
        refine lv_iinc (v := x13) (lv' := [(4, .int x13), (0, .ref (h 103)), (1, .int a_b), (2, .int a_c), (3, .int a_d)]) hx hb dX9_copyRow_25 hl (k := 4) rfl (by rw [ex13]; rfl) (by decide) rfl (fun ls hl => ?_)
        obtain ⟨hx13, ax13⟩ := rg_add 1 7 ex13 h6 (rg_k (by decide) : rg 1 1 1) (by decide)
        replace ax13 : x13.toInt = x3_4.toInt + 1 := ax13
        refine lv_goto (tgt := 3) hx hb dX9_copyRow_28 (by decide) ?_
        exact ih3_ x13 i12 g2 _ _ _ (rg_w hx13 (by decide) : rg 0 8 x13) hR12 hF12 hT hS (lv_sub hl [1, 2, 3, 4, 0] rfl) (m_up ax13 hx13 (by decide) hm3_)
  exact L3_1 _ (0) i g _ _ _ (rg_w (rg_k (by decide) : rg 0 0 0) (by decide) : rg 0 8 0) hR hF hT hS (lv_sub hl [1, 2, 3, 4, 0] rfl) (Nat.lt_succ_self _)
set_option maxRecDepth 100000 in
set_option maxHeartbeats 4000000 in
theorem m_X9_copyRow_104_18_1_0 {l : Launch} {D : va_G} {h : Nat → Nat} {cz : Nat → ClassId} {z : EZ} {i : Nat → Nat → Int32} {g : Nat → Nat → Int64} (hR : Rg rA i) (a_b : Int32) (a_c : Int32) (a_d : Int32) (ha_b : rg 18 18 a_b) (ha_c : rg 1 1 a_c) (ha_d : rg 0 0 a_d) : DtV l yX9_copyRow cX9_copyRow 5 none ({ frames := 0, cells := 0, slots := 0, locals := 0 } : Room) D h cz z i g [.ref (h 104), .int a_b, .int a_c, .int a_d] (fun u => Rg rA u.1 ∧ Fr [104] [] i g u) := by
  refine e_V pn_X9_copyRow (Nat.le_of_ble_eq_true rfl) ?_
  intro p e s m args below meth c ls Q X Y hret hT hl hS
  have hx := X.1
  have hb := X.2.1
  have hl : lv_has ls 5 [(0, .ref (h 104)), (1, .int a_b), (2, .int a_c), (3, .int a_d)] := hl
  have hF : Fr [104] [] i g (i, g) := Fr_rf _ _ _ _
  refine lv_iconst (v := 0) hx hb dX9_copyRow_0 (by decide) ?_
  refine lv_istore (lv' := [(4, .int 0), (0, .ref (h 104)), (1, .int a_b), (2, .int a_c), (3, .int a_d)]) hx hb dX9_copyRow_1 hl (by decide) rfl (fun ls hl => ?_)
  have L3_1 : ∀ (n3_ : Nat) (x3_4 : Int32) (i2 : Nat → Nat → Int32) (g2 : Nat → Nat → Int64) (H : Heap) (locs : List Loc) (ls : Array Slot), rg 0 20 x3_4 → Rg rA i2 → Fr [104] [] i g (i2, g2) → TH D h cz i2 g2 H → va_S (hA h) s.heap H locs → lv_has ls 5 [(0, .ref (h 104)), (1, .int a_b), (2, .int a_c), (3, .int a_d), (4, .int x3_4)] → (20 - x3_4.toInt).toNat < n3_ → W p l e ({ frames := 0, cells := 0, slots := 0, locals := 0 } : Room) s m args below meth c H locs 0 0 Q (F0 m 3 ls []) := by
    intro n3_
    induction n3_ with
    | zero => intro x3_4 i2 g2 H locs ls hhx3_4 hR2 hF2 hT hS hl hm3_; exact absurd hm3_ (Nat.not_lt_zero _)
    | succ n3_ ih3_ =>
      intro x3_4 i2 g2 H locs ls hhx3_4 hR2 hF2 hT hS hl hm3_
      refine lv_iload hx hb dX9_copyRow_3 (lv_at hl 4 rfl) ?_
      refine lv_iload_n hx hb dX9_copyRow_5 rfl (lv_at hl 1 rfl) ?_
      refine lv_icmp_ge (tgt := 31) hx hb dX9_copyRow_6 (by decide) (fun c4 => ?_) (fun c4 => ?_)
      ·
        have q4 : a_b.toInt ≤ x3_4.toInt := i_le c4
        have h5 : rg 18 20 x3_4 := t_ley 18 20 ha_b hhx3_4 (i_le c4) (by decide)
        exact hret _ _ _ _ _ _ dX9_copyRow_31 hT hS ⟨hR2, hF2⟩
      ·
        have q4 : x3_4.toInt < a_b.toInt := i_nle c4
        have h6 : rg 0 17 x3_4 := t_ltx 0 17 hhx3_4 ha_b (i_nle c4) (by decide)
        refine lv_aload_n hx hb dX9_copyRow_9 rfl (lv_at hl 0 rfl) ?_
        refine lv_iload_n hx hb dX9_copyRow_10 rfl (lv_at hl 1 rfl) ?_
        refine lv_iload_n hx hb dX9_copyRow_11 rfl (lv_at hl 3 rfl) ?_
        refine q_imul hx hb dX9_copyRow_12 (fun x7 ex7 => ?_)
        obtain ⟨hx7, ax7⟩ := rg_mul 0 0 ex7 ha_b ha_d (by decide)
        replace ax7 : x7.toInt = a_b.toInt * a_d.toInt := ax7
        refine lv_iload hx hb dX9_copyRow_13 (lv_at hl 4 rfl) ?_
        refine q_iadd hx hb dX9_copyRow_15 (fun x8 ex8 => ?_)
        obtain ⟨hx8, ax8⟩ := rg_add 0 17 ex8 hx7 h6 (by decide)
        replace ax8 : x8.toInt = x7.toInt + x3_4.toInt := ax8
        replace ax8 : x8.toInt = x3_4.toInt + 0 := by have := hx7.1; have := hx7.2; omega
        refine lv_aload_n hx hb dX9_copyRow_16 rfl (lv_at hl 0 rfl) ?_
        refine lv_iload_n hx hb dX9_copyRow_17 rfl (lv_at hl 1 rfl) ?_
        refine lv_iload_n hx hb dX9_copyRow_18 rfl (lv_at hl 2 rfl) ?_
        refine q_imul hx hb dX9_copyRow_19 (fun x9 ex9 => ?_)
        obtain ⟨hx9, ax9⟩ := rg_mul 18 18 ex9 ha_b ha_c (by decide)
        replace ax9 : x9.toInt = a_b.toInt * a_c.toInt := ax9
        refine lv_iload hx hb dX9_copyRow_20 (lv_at hl 4 rfl) ?_
        refine q_iadd hx hb dX9_copyRow_22 (fun x10 ex10 => ?_)
        obtain ⟨hx10, ax10⟩ := rg_add 18 35 ex10 hx9 h6 (by decide)
        replace ax10 : x10.toInt = x9.toInt + x3_4.toInt := ax10
        replace ax10 : x10.toInt = x3_4.toInt + 18 := by have := hx9.1; have := hx9.2; omega
        refine r_iald X hT 104 rfl (by decide) (v_in hx10 (by decide)) dX9_copyRow_23 ?_
        refine r_iast X hT hS 104 rfl (by decide) (v_in hx8 (by decide)) dX9_copyRow_24 (fun H locs i11 ei11 hT hS => ?_)
        have hR11 := Rg_put hR2 ei11 0 60 rfl (Rg_at hR2 104 x10.toNatClampNeg 0 60 (v_lt (v_in hx10 (by decide))) rfl) (by decide)
        have hF11 := Fr_puti hF2 ei11 (by decide)
        obtain ⟨x12, ex12⟩ : ∃ y : Int32, y = x3_4 + 1 := ⟨_, rfl⟩
        refine lv_iinc (v := x12) (lv' := [(4, .int x12), (0, .ref (h 104)), (1, .int a_b), (2, .int a_c), (3, .int a_d)]) hx hb dX9_copyRow_25 hl (k := 4) rfl (by rw [ex12]; rfl) (by decide) rfl (fun ls hl => ?_)
        obtain ⟨hx12, ax12⟩ := rg_add 1 18 ex12 h6 (rg_k (by decide) : rg 1 1 1) (by decide)
        replace ax12 : x12.toInt = x3_4.toInt + 1 := ax12
        refine lv_goto (tgt := 3) hx hb dX9_copyRow_28 (by decide) ?_
        exact ih3_ x12 i11 g2 _ _ _ (rg_w hx12 (by decide) : rg 0 20 x12) hR11 hF11 hT hS (lv_sub hl [1, 2, 3, 4, 0] rfl) (m_up ax12 hx12 (by decide) hm3_)
  exact L3_1 _ (0) i g _ _ _ (rg_w (rg_k (by decide) : rg 0 0 0) (by decide) : rg 0 20 0) hR hF hT hS (lv_sub hl [1, 2, 3, 4, 0] rfl) (Nat.lt_succ_self _)
set_option maxRecDepth 100000 in
set_option maxHeartbeats 4000000 in
theorem m_X9_copyRow_105_20_1_0 {l : Launch} {D : va_G} {h : Nat → Nat} {cz : Nat → ClassId} {z : EZ} {i : Nat → Nat → Int32} {g : Nat → Nat → Int64} (hR : Rg rA i) (a_b : Int32) (a_c : Int32) (a_d : Int32) (ha_b : rg 20 20 a_b) (ha_c : rg 1 1 a_c) (ha_d : rg 0 0 a_d) : DtV l yX9_copyRow cX9_copyRow 5 none ({ frames := 0, cells := 0, slots := 0, locals := 0 } : Room) D h cz z i g [.ref (h 105), .int a_b, .int a_c, .int a_d] (fun u => Rg rA u.1 ∧ Fr [105] [] i g u) := by
  refine e_V pn_X9_copyRow (Nat.le_of_ble_eq_true rfl) ?_
  intro p e s m args below meth c ls Q X Y hret hT hl hS
  have hx := X.1
  have hb := X.2.1
  have hl : lv_has ls 5 [(0, .ref (h 105)), (1, .int a_b), (2, .int a_c), (3, .int a_d)] := hl
  have hF : Fr [105] [] i g (i, g) := Fr_rf _ _ _ _
  refine lv_iconst (v := 0) hx hb dX9_copyRow_0 (by decide) ?_
  refine lv_istore (lv' := [(4, .int 0), (0, .ref (h 105)), (1, .int a_b), (2, .int a_c), (3, .int a_d)]) hx hb dX9_copyRow_1 hl (by decide) rfl (fun ls hl => ?_)
  have L3_1 : ∀ (n3_ : Nat) (x3_4 : Int32) (i2 : Nat → Nat → Int32) (g2 : Nat → Nat → Int64) (H : Heap) (locs : List Loc) (ls : Array Slot), rg 0 20 x3_4 → Rg rA i2 → Fr [105] [] i g (i2, g2) → TH D h cz i2 g2 H → va_S (hA h) s.heap H locs → lv_has ls 5 [(0, .ref (h 105)), (1, .int a_b), (2, .int a_c), (3, .int a_d), (4, .int x3_4)] → (20 - x3_4.toInt).toNat < n3_ → W p l e ({ frames := 0, cells := 0, slots := 0, locals := 0 } : Room) s m args below meth c H locs 0 0 Q (F0 m 3 ls []) := by
    intro n3_
    induction n3_ with
    | zero => intro x3_4 i2 g2 H locs ls hhx3_4 hR2 hF2 hT hS hl hm3_; exact absurd hm3_ (Nat.not_lt_zero _)
    | succ n3_ ih3_ =>
      intro x3_4 i2 g2 H locs ls hhx3_4 hR2 hF2 hT hS hl hm3_
      refine lv_iload hx hb dX9_copyRow_3 (lv_at hl 4 rfl) ?_
      refine lv_iload_n hx hb dX9_copyRow_5 rfl (lv_at hl 1 rfl) ?_
      refine lv_icmp_ge (tgt := 31) hx hb dX9_copyRow_6 (by decide) (fun c4 => ?_) (fun c4 => ?_)
      ·
        have q4 : a_b.toInt ≤ x3_4.toInt := i_le c4
        have h5 : rg 20 20 x3_4 := t_ley 20 20 ha_b hhx3_4 (i_le c4) (by decide)
        exact hret _ _ _ _ _ _ dX9_copyRow_31 hT hS ⟨hR2, hF2⟩
      ·
        have q4 : x3_4.toInt < a_b.toInt := i_nle c4
        have h6 : rg 0 19 x3_4 := t_ltx 0 19 hhx3_4 ha_b (i_nle c4) (by decide)
        refine lv_aload_n hx hb dX9_copyRow_9 rfl (lv_at hl 0 rfl) ?_
        refine lv_iload_n hx hb dX9_copyRow_10 rfl (lv_at hl 1 rfl) ?_
        refine lv_iload_n hx hb dX9_copyRow_11 rfl (lv_at hl 3 rfl) ?_
        refine q_imul hx hb dX9_copyRow_12 (fun x7 ex7 => ?_)
        obtain ⟨hx7, ax7⟩ := rg_mul 0 0 ex7 ha_b ha_d (by decide)
        replace ax7 : x7.toInt = a_b.toInt * a_d.toInt := ax7
        refine lv_iload hx hb dX9_copyRow_13 (lv_at hl 4 rfl) ?_
        refine q_iadd hx hb dX9_copyRow_15 (fun x8 ex8 => ?_)
        obtain ⟨hx8, ax8⟩ := rg_add 0 19 ex8 hx7 h6 (by decide)
        replace ax8 : x8.toInt = x7.toInt + x3_4.toInt := ax8
        replace ax8 : x8.toInt = x3_4.toInt + 0 := by have := hx7.1; have := hx7.2; omega
        refine lv_aload_n hx hb dX9_copyRow_16 rfl (lv_at hl 0 rfl) ?_
        refine lv_iload_n hx hb dX9_copyRow_17 rfl (lv_at hl 1 rfl) ?_
        refine lv_iload_n hx hb dX9_copyRow_18 rfl (lv_at hl 2 rfl) ?_
        refine q_imul hx hb dX9_copyRow_19 (fun x9 ex9 => ?_)
        obtain ⟨hx9, ax9⟩ := rg_mul 20 20 ex9 ha_b ha_c (by decide)
        replace ax9 : x9.toInt = a_b.toInt * a_c.toInt := ax9
        refine lv_iload hx hb dX9_copyRow_20 (lv_at hl 4 rfl) ?_
        refine q_iadd hx hb dX9_copyRow_22 (fun x10 ex10 => ?_)
        obtain ⟨hx10, ax10⟩ := rg_add 20 39 ex10 hx9 h6 (by decide)
        replace ax10 : x10.toInt = x9.toInt + x3_4.toInt := ax10
        replace ax10 : x10.toInt = x3_4.toInt + 20 := by have := hx9.1; have := hx9.2; omega
        refine r_iald X hT 105 rfl (by decide) (v_in hx10 (by decide)) dX9_copyRow_23 ?_
        refine r_iast X hT hS 105 rfl (by decide) (v_in hx8 (by decide)) dX9_copyRow_24 (fun H locs i11 ei11 hT hS => ?_)
        have hR11 := Rg_put hR2 ei11 0 5 rfl (Rg_at hR2 105 x10.toNatClampNeg 0 5 (v_lt (v_in hx10 (by decide))) rfl) (by decide)
        have hF11 := Fr_puti hF2 ei11 (by decide)
        obtain ⟨x12, ex12⟩ : ∃ y : Int32, y = x3_4 + 1 := ⟨_, rfl⟩
        refine lv_iinc (v := x12) (lv' := [(4, .int x12), (0, .ref (h 105)), (1, .int a_b), (2, .int a_c), (3, .int a_d)]) hx hb dX9_copyRow_25 hl (k := 4) rfl (by rw [ex12]; rfl) (by decide) rfl (fun ls hl => ?_)
        obtain ⟨hx12, ax12⟩ := rg_add 1 20 ex12 h6 (rg_k (by decide) : rg 1 1 1) (by decide)
        replace ax12 : x12.toInt = x3_4.toInt + 1 := ax12
        refine lv_goto (tgt := 3) hx hb dX9_copyRow_28 (by decide) ?_
        exact ih3_ x12 i11 g2 _ _ _ (rg_w hx12 (by decide) : rg 0 20 x12) hR11 hF11 hT hS (lv_sub hl [1, 2, 3, 4, 0] rfl) (m_up ax12 hx12 (by decide) hm3_)
  exact L3_1 _ (0) i g _ _ _ (rg_w (rg_k (by decide) : rg 0 0 0) (by decide) : rg 0 20 0) hR hF hT hS (lv_sub hl [1, 2, 3, 4, 0] rfl) (Nat.lt_succ_self _)
set_option maxRecDepth 100000 in
set_option maxHeartbeats 4000000 in
theorem m_X9_copyRow_106_16_1_0 {l : Launch} {D : va_G} {h : Nat → Nat} {cz : Nat → ClassId} {z : EZ} {i : Nat → Nat → Int32} {g : Nat → Nat → Int64} (hR : Rg rA i) (a_b : Int32) (a_c : Int32) (a_d : Int32) (ha_b : rg 16 16 a_b) (ha_c : rg 1 1 a_c) (ha_d : rg 0 0 a_d) : DtV l yX9_copyRow cX9_copyRow 5 none ({ frames := 0, cells := 0, slots := 0, locals := 0 } : Room) D h cz z i g [.ref (h 106), .int a_b, .int a_c, .int a_d] (fun u => Rg rA u.1 ∧ Fr [106] [] i g u) := by
  refine e_V pn_X9_copyRow (Nat.le_of_ble_eq_true rfl) ?_
  intro p e s m args below meth c ls Q X Y hret hT hl hS
  have hx := X.1
  have hb := X.2.1
  have hl : lv_has ls 5 [(0, .ref (h 106)), (1, .int a_b), (2, .int a_c), (3, .int a_d)] := hl
  have hF : Fr [106] [] i g (i, g) := Fr_rf _ _ _ _
  refine lv_iconst (v := 0) hx hb dX9_copyRow_0 (by decide) ?_
  refine lv_istore (lv' := [(4, .int 0), (0, .ref (h 106)), (1, .int a_b), (2, .int a_c), (3, .int a_d)]) hx hb dX9_copyRow_1 hl (by decide) rfl (fun ls hl => ?_)
  have L3_1 : ∀ (n3_ : Nat) (x3_4 : Int32) (i2 : Nat → Nat → Int32) (g2 : Nat → Nat → Int64) (H : Heap) (locs : List Loc) (ls : Array Slot), rg 0 20 x3_4 → Rg rA i2 → Fr [106] [] i g (i2, g2) → TH D h cz i2 g2 H → va_S (hA h) s.heap H locs → lv_has ls 5 [(0, .ref (h 106)), (1, .int a_b), (2, .int a_c), (3, .int a_d), (4, .int x3_4)] → (20 - x3_4.toInt).toNat < n3_ → W p l e ({ frames := 0, cells := 0, slots := 0, locals := 0 } : Room) s m args below meth c H locs 0 0 Q (F0 m 3 ls []) := by
    intro n3_
    induction n3_ with
    | zero => intro x3_4 i2 g2 H locs ls hhx3_4 hR2 hF2 hT hS hl hm3_; exact absurd hm3_ (Nat.not_lt_zero _)
    | succ n3_ ih3_ =>
      intro x3_4 i2 g2 H locs ls hhx3_4 hR2 hF2 hT hS hl hm3_
      refine lv_iload hx hb dX9_copyRow_3 (lv_at hl 4 rfl) ?_
      refine lv_iload_n hx hb dX9_copyRow_5 rfl (lv_at hl 1 rfl) ?_
      refine lv_icmp_ge (tgt := 31) hx hb dX9_copyRow_6 (by decide) (fun c4 => ?_) (fun c4 => ?_)
      ·
        have q4 : a_b.toInt ≤ x3_4.toInt := i_le c4
        have h5 : rg 16 20 x3_4 := t_ley 16 20 ha_b hhx3_4 (i_le c4) (by decide)
        exact hret _ _ _ _ _ _ dX9_copyRow_31 hT hS ⟨hR2, hF2⟩
      ·
        have q4 : x3_4.toInt < a_b.toInt := i_nle c4
        have h6 : rg 0 15 x3_4 := t_ltx 0 15 hhx3_4 ha_b (i_nle c4) (by decide)
        refine lv_aload_n hx hb dX9_copyRow_9 rfl (lv_at hl 0 rfl) ?_
        refine lv_iload_n hx hb dX9_copyRow_10 rfl (lv_at hl 1 rfl) ?_
        refine lv_iload_n hx hb dX9_copyRow_11 rfl (lv_at hl 3 rfl) ?_
        refine q_imul hx hb dX9_copyRow_12 (fun x7 ex7 => ?_)
        obtain ⟨hx7, ax7⟩ := rg_mul 0 0 ex7 ha_b ha_d (by decide)
        replace ax7 : x7.toInt = a_b.toInt * a_d.toInt := ax7
        refine lv_iload hx hb dX9_copyRow_13 (lv_at hl 4 rfl) ?_
        refine q_iadd hx hb dX9_copyRow_15 (fun x8 ex8 => ?_)
        obtain ⟨hx8, ax8⟩ := rg_add 0 15 ex8 hx7 h6 (by decide)
        replace ax8 : x8.toInt = x7.toInt + x3_4.toInt := ax8
        replace ax8 : x8.toInt = x3_4.toInt + 0 := by have := hx7.1; have := hx7.2; omega
        refine lv_aload_n hx hb dX9_copyRow_16 rfl (lv_at hl 0 rfl) ?_
        refine lv_iload_n hx hb dX9_copyRow_17 rfl (lv_at hl 1 rfl) ?_
        refine lv_iload_n hx hb dX9_copyRow_18 rfl (lv_at hl 2 rfl) ?_
        refine q_imul hx hb dX9_copyRow_19 (fun x9 ex9 => ?_)
        obtain ⟨hx9, ax9⟩ := rg_mul 16 16 ex9 ha_b ha_c (by decide)
        replace ax9 : x9.toInt = a_b.toInt * a_c.toInt := ax9
        refine lv_iload hx hb dX9_copyRow_20 (lv_at hl 4 rfl) ?_
        refine q_iadd hx hb dX9_copyRow_22 (fun x10 ex10 => ?_)
        obtain ⟨hx10, ax10⟩ := rg_add 16 31 ex10 hx9 h6 (by decide)
        replace ax10 : x10.toInt = x9.toInt + x3_4.toInt := ax10
        replace ax10 : x10.toInt = x3_4.toInt + 16 := by have := hx9.1; have := hx9.2; omega
        refine r_iald X hT 106 rfl (by decide) (v_in hx10 (by decide)) dX9_copyRow_23 ?_
        have h11 : rg 0 11 (i2 106 x10.toNatClampNeg) := Rg_ata hR2 106 x10.toNatClampNeg 0 11 (v_lt (v_in hx10 (by decide))) (aff_at (m := 1) (a := 0) (n := 16) (c := 16) (by decide) (v := x3_4.toInt) ⟨by have := h6.1; omega, by have := h6.2; omega⟩ (by have := ax10; omega))
        refine r_iast X hT hS 106 rfl (by decide) (v_in hx8 (by decide)) dX9_copyRow_24 (fun H locs i12 ei12 hT hS => ?_)
        have hR12 := Rg_mv hR2 ei12 (v_lt (v_in hx10 (by decide))) (aff_mv (T := rA) (j := 106) (m := 1) (a := 0) (n := 16) (c := 0) (c1 := 16) (by decide) (v := x3_4.toInt) ⟨by have := h6.1; omega, by have := h6.2; omega⟩ (by have := ax8; omega) (by have := ax10; omega))
        have hF12 := Fr_puti hF2 ei12 (by decide)
        obtain ⟨x13, ex13⟩ : ∃ y : Int32, y = x3_4 + 1 := ⟨_, rfl⟩
        refine lv_iinc (v := x13) (lv' := [(4, .int x13), (0, .ref (h 106)), (1, .int a_b), (2, .int a_c), (3, .int a_d)]) hx hb dX9_copyRow_25 hl (k := 4) rfl (by rw [ex13]; rfl) (by decide) rfl (fun ls hl => ?_)
        obtain ⟨hx13, ax13⟩ := rg_add 1 16 ex13 h6 (rg_k (by decide) : rg 1 1 1) (by decide)
        replace ax13 : x13.toInt = x3_4.toInt + 1 := ax13
        refine lv_goto (tgt := 3) hx hb dX9_copyRow_28 (by decide) ?_
        exact ih3_ x13 i12 g2 _ _ _ (rg_w hx13 (by decide) : rg 0 20 x13) hR12 hF12 hT hS (lv_sub hl [1, 2, 3, 4, 0] rfl) (m_up ax13 hx13 (by decide) hm3_)
  exact L3_1 _ (0) i g _ _ _ (rg_w (rg_k (by decide) : rg 0 0 0) (by decide) : rg 0 20 0) hR hF hT hS (lv_sub hl [1, 2, 3, 4, 0] rfl) (Nat.lt_succ_self _)
set_option maxRecDepth 100000 in
set_option maxHeartbeats 4000000 in
theorem m_X9_copyRow_107_60_1_0 {l : Launch} {D : va_G} {h : Nat → Nat} {cz : Nat → ClassId} {z : EZ} {i : Nat → Nat → Int32} {g : Nat → Nat → Int64} (hR : Rg rA i) (a_b : Int32) (a_c : Int32) (a_d : Int32) (ha_b : rg 60 60 a_b) (ha_c : rg 1 1 a_c) (ha_d : rg 0 0 a_d) : DtV l yX9_copyRow cX9_copyRow 5 none ({ frames := 0, cells := 0, slots := 0, locals := 0 } : Room) D h cz z i g [.ref (h 107), .int a_b, .int a_c, .int a_d] (fun u => Rg rA u.1 ∧ Fr [107] [] i g u) := by
  refine e_V pn_X9_copyRow (Nat.le_of_ble_eq_true rfl) ?_
  intro p e s m args below meth c ls Q X Y hret hT hl hS
  have hx := X.1
  have hb := X.2.1
  have hl : lv_has ls 5 [(0, .ref (h 107)), (1, .int a_b), (2, .int a_c), (3, .int a_d)] := hl
  have hF : Fr [107] [] i g (i, g) := Fr_rf _ _ _ _
  refine lv_iconst (v := 0) hx hb dX9_copyRow_0 (by decide) ?_
  refine lv_istore (lv' := [(4, .int 0), (0, .ref (h 107)), (1, .int a_b), (2, .int a_c), (3, .int a_d)]) hx hb dX9_copyRow_1 hl (by decide) rfl (fun ls hl => ?_)
  have L3_1 : ∀ (n3_ : Nat) (x3_4 : Int32) (i2 : Nat → Nat → Int32) (g2 : Nat → Nat → Int64) (H : Heap) (locs : List Loc) (ls : Array Slot), rg 0 60 x3_4 → Rg rA i2 → Fr [107] [] i g (i2, g2) → TH D h cz i2 g2 H → va_S (hA h) s.heap H locs → lv_has ls 5 [(0, .ref (h 107)), (1, .int a_b), (2, .int a_c), (3, .int a_d), (4, .int x3_4)] → (60 - x3_4.toInt).toNat < n3_ → W p l e ({ frames := 0, cells := 0, slots := 0, locals := 0 } : Room) s m args below meth c H locs 0 0 Q (F0 m 3 ls []) := by
    intro n3_
    induction n3_ with
    | zero => intro x3_4 i2 g2 H locs ls hhx3_4 hR2 hF2 hT hS hl hm3_; exact absurd hm3_ (Nat.not_lt_zero _)
    | succ n3_ ih3_ =>
      intro x3_4 i2 g2 H locs ls hhx3_4 hR2 hF2 hT hS hl hm3_
      refine lv_iload hx hb dX9_copyRow_3 (lv_at hl 4 rfl) ?_
      refine lv_iload_n hx hb dX9_copyRow_5 rfl (lv_at hl 1 rfl) ?_
      refine lv_icmp_ge (tgt := 31) hx hb dX9_copyRow_6 (by decide) (fun c4 => ?_) (fun c4 => ?_)
      ·
        have q4 : a_b.toInt ≤ x3_4.toInt := i_le c4
        have h5 : rg 60 60 x3_4 := t_ley 60 60 ha_b hhx3_4 (i_le c4) (by decide)
        exact hret _ _ _ _ _ _ dX9_copyRow_31 hT hS ⟨hR2, hF2⟩
      ·
        have q4 : x3_4.toInt < a_b.toInt := i_nle c4
        have h6 : rg 0 59 x3_4 := t_ltx 0 59 hhx3_4 ha_b (i_nle c4) (by decide)
        refine lv_aload_n hx hb dX9_copyRow_9 rfl (lv_at hl 0 rfl) ?_
        refine lv_iload_n hx hb dX9_copyRow_10 rfl (lv_at hl 1 rfl) ?_
        refine lv_iload_n hx hb dX9_copyRow_11 rfl (lv_at hl 3 rfl) ?_
        refine q_imul hx hb dX9_copyRow_12 (fun x7 ex7 => ?_)
        obtain ⟨hx7, ax7⟩ := rg_mul 0 0 ex7 ha_b ha_d (by decide)
        replace ax7 : x7.toInt = a_b.toInt * a_d.toInt := ax7
        refine lv_iload hx hb dX9_copyRow_13 (lv_at hl 4 rfl) ?_
        refine q_iadd hx hb dX9_copyRow_15 (fun x8 ex8 => ?_)
        obtain ⟨hx8, ax8⟩ := rg_add 0 59 ex8 hx7 h6 (by decide)
        replace ax8 : x8.toInt = x7.toInt + x3_4.toInt := ax8
        replace ax8 : x8.toInt = x3_4.toInt + 0 := by have := hx7.1; have := hx7.2; omega
        refine lv_aload_n hx hb dX9_copyRow_16 rfl (lv_at hl 0 rfl) ?_
        refine lv_iload_n hx hb dX9_copyRow_17 rfl (lv_at hl 1 rfl) ?_
        refine lv_iload_n hx hb dX9_copyRow_18 rfl (lv_at hl 2 rfl) ?_
        refine q_imul hx hb dX9_copyRow_19 (fun x9 ex9 => ?_)
        obtain ⟨hx9, ax9⟩ := rg_mul 60 60 ex9 ha_b ha_c (by decide)
        replace ax9 : x9.toInt = a_b.toInt * a_c.toInt := ax9
        refine lv_iload hx hb dX9_copyRow_20 (lv_at hl 4 rfl) ?_
        refine q_iadd hx hb dX9_copyRow_22 (fun x10 ex10 => ?_)
        obtain ⟨hx10, ax10⟩ := rg_add 60 119 ex10 hx9 h6 (by decide)
        replace ax10 : x10.toInt = x9.toInt + x3_4.toInt := ax10
        replace ax10 : x10.toInt = x3_4.toInt + 60 := by have := hx9.1; have := hx9.2; omega
        refine r_iald X hT 107 rfl (by decide) (v_in hx10 (by decide)) dX9_copyRow_23 ?_
        have h11 : rg 0 11 (i2 107 x10.toNatClampNeg) := Rg_ata hR2 107 x10.toNatClampNeg 0 11 (v_lt (v_in hx10 (by decide))) (aff_at (m := 1) (a := 0) (n := 60) (c := 60) (by decide) (v := x3_4.toInt) ⟨by have := h6.1; omega, by have := h6.2; omega⟩ (by have := ax10; omega))
        refine r_iast X hT hS 107 rfl (by decide) (v_in hx8 (by decide)) dX9_copyRow_24 (fun H locs i12 ei12 hT hS => ?_)
        have hR12 := Rg_mv hR2 ei12 (v_lt (v_in hx10 (by decide))) (aff_mv (T := rA) (j := 107) (m := 1) (a := 0) (n := 60) (c := 0) (c1 := 60) (by decide) (v := x3_4.toInt) ⟨by have := h6.1; omega, by have := h6.2; omega⟩ (by have := ax8; omega) (by have := ax10; omega))
        have hF12 := Fr_puti hF2 ei12 (by decide)
        obtain ⟨x13, ex13⟩ : ∃ y : Int32, y = x3_4 + 1 := ⟨_, rfl⟩
        refine lv_iinc (v := x13) (lv' := [(4, .int x13), (0, .ref (h 107)), (1, .int a_b), (2, .int a_c), (3, .int a_d)]) hx hb dX9_copyRow_25 hl (k := 4) rfl (by rw [ex13]; rfl) (by decide) rfl (fun ls hl => ?_)
        obtain ⟨hx13, ax13⟩ := rg_add 1 60 ex13 h6 (rg_k (by decide) : rg 1 1 1) (by decide)
        replace ax13 : x13.toInt = x3_4.toInt + 1 := ax13
        refine lv_goto (tgt := 3) hx hb dX9_copyRow_28 (by decide) ?_
        exact ih3_ x13 i12 g2 _ _ _ (rg_w hx13 (by decide) : rg 0 60 x13) hR12 hF12 hT hS (lv_sub hl [1, 2, 3, 4, 0] rfl) (m_up ax13 hx13 (by decide) hm3_)
  exact L3_1 _ (0) i g _ _ _ (rg_w (rg_k (by decide) : rg 0 0 0) (by decide) : rg 0 60 0) hR hF hT hS (lv_sub hl [1, 2, 3, 4, 0] rfl) (Nat.lt_succ_self _)
set_option maxRecDepth 100000 in
set_option maxHeartbeats 4000000 in
theorem m_X9_copyRow_102_1_2_0 {l : Launch} {D : va_G} {h : Nat → Nat} {cz : Nat → ClassId} {z : EZ} {i : Nat → Nat → Int32} {g : Nat → Nat → Int64} (hR : Rg rA i) (a_b : Int32) (a_c : Int32) (a_d : Int32) (ha_b : rg 1 1 a_b) (ha_c : rg 2 2 a_c) (ha_d : rg 0 0 a_d) : DtV l yX9_copyRow cX9_copyRow 5 none ({ frames := 0, cells := 0, slots := 0, locals := 0 } : Room) D h cz z i g [.ref (h 102), .int a_b, .int a_c, .int a_d] (fun u => Rg rA u.1 ∧ Fr [102] [] i g u) := by
  refine e_V pn_X9_copyRow (Nat.le_of_ble_eq_true rfl) ?_
  intro p e s m args below meth c ls Q X Y hret hT hl hS
  have hx := X.1
  have hb := X.2.1
  have hl : lv_has ls 5 [(0, .ref (h 102)), (1, .int a_b), (2, .int a_c), (3, .int a_d)] := hl
  have hF : Fr [102] [] i g (i, g) := Fr_rf _ _ _ _
  refine lv_iconst (v := 0) hx hb dX9_copyRow_0 (by decide) ?_
  refine lv_istore (lv' := [(4, .int 0), (0, .ref (h 102)), (1, .int a_b), (2, .int a_c), (3, .int a_d)]) hx hb dX9_copyRow_1 hl (by decide) rfl (fun ls hl => ?_)
  have L3_1 : ∀ (n3_ : Nat) (x3_4 : Int32) (i2 : Nat → Nat → Int32) (g2 : Nat → Nat → Int64) (H : Heap) (locs : List Loc) (ls : Array Slot), rg 0 1 x3_4 → Rg rA i2 → Fr [102] [] i g (i2, g2) → TH D h cz i2 g2 H → va_S (hA h) s.heap H locs → lv_has ls 5 [(0, .ref (h 102)), (1, .int a_b), (2, .int a_c), (3, .int a_d), (4, .int x3_4)] → (1 - x3_4.toInt).toNat < n3_ → W p l e ({ frames := 0, cells := 0, slots := 0, locals := 0 } : Room) s m args below meth c H locs 0 0 Q (F0 m 3 ls []) := by
    intro n3_
    induction n3_ with
    | zero => intro x3_4 i2 g2 H locs ls hhx3_4 hR2 hF2 hT hS hl hm3_; exact absurd hm3_ (Nat.not_lt_zero _)
    | succ n3_ ih3_ =>
      intro x3_4 i2 g2 H locs ls hhx3_4 hR2 hF2 hT hS hl hm3_
      refine lv_iload hx hb dX9_copyRow_3 (lv_at hl 4 rfl) ?_
      refine lv_iload_n hx hb dX9_copyRow_5 rfl (lv_at hl 1 rfl) ?_
      refine lv_icmp_ge (tgt := 31) hx hb dX9_copyRow_6 (by decide) (fun c4 => ?_) (fun c4 => ?_)
      ·
        have q4 : a_b.toInt ≤ x3_4.toInt := i_le c4
        have h5 : rg 1 1 x3_4 := t_ley 1 1 ha_b hhx3_4 (i_le c4) (by decide)
        exact hret _ _ _ _ _ _ dX9_copyRow_31 hT hS ⟨hR2, hF2⟩
      ·
        have q4 : x3_4.toInt < a_b.toInt := i_nle c4
        have h6 : rg 0 0 x3_4 := t_ltx 0 0 hhx3_4 ha_b (i_nle c4) (by decide)
        refine lv_aload_n hx hb dX9_copyRow_9 rfl (lv_at hl 0 rfl) ?_
        refine lv_iload_n hx hb dX9_copyRow_10 rfl (lv_at hl 1 rfl) ?_
        refine lv_iload_n hx hb dX9_copyRow_11 rfl (lv_at hl 3 rfl) ?_
        refine q_imul hx hb dX9_copyRow_12 (fun x7 ex7 => ?_)
        obtain ⟨hx7, ax7⟩ := rg_mul 0 0 ex7 ha_b ha_d (by decide)
        replace ax7 : x7.toInt = a_b.toInt * a_d.toInt := ax7
        refine lv_iload hx hb dX9_copyRow_13 (lv_at hl 4 rfl) ?_
        refine q_iadd hx hb dX9_copyRow_15 (fun x8 ex8 => ?_)
        obtain ⟨hx8, ax8⟩ := rg_add 0 0 ex8 hx7 h6 (by decide)
        replace ax8 : x8.toInt = x7.toInt + x3_4.toInt := ax8
        replace ax8 : x8.toInt = x7.toInt + 0 := by have := h6.1; have := h6.2; omega
        refine lv_aload_n hx hb dX9_copyRow_16 rfl (lv_at hl 0 rfl) ?_
        refine lv_iload_n hx hb dX9_copyRow_17 rfl (lv_at hl 1 rfl) ?_
        refine lv_iload_n hx hb dX9_copyRow_18 rfl (lv_at hl 2 rfl) ?_
        refine q_imul hx hb dX9_copyRow_19 (fun x9 ex9 => ?_)
        obtain ⟨hx9, ax9⟩ := rg_mul 2 2 ex9 ha_b ha_c (by decide)
        replace ax9 : x9.toInt = a_b.toInt * a_c.toInt := ax9
        refine lv_iload hx hb dX9_copyRow_20 (lv_at hl 4 rfl) ?_
        refine q_iadd hx hb dX9_copyRow_22 (fun x10 ex10 => ?_)
        obtain ⟨hx10, ax10⟩ := rg_add 2 2 ex10 hx9 h6 (by decide)
        replace ax10 : x10.toInt = x9.toInt + x3_4.toInt := ax10
        replace ax10 : x10.toInt = x9.toInt + 0 := by have := h6.1; have := h6.2; omega
        refine r_ialdc X hT 102 2 rfl (by decide) (v_in hx10 (by decide)) (cl_c hx10 2 rfl (by decide)) dX9_copyRow_23 ?_
        refine r_iastc X hT hS 102 0 rfl (by decide) (v_in hx8 (by decide)) (cl_c hx8 0 rfl (by decide)) dX9_copyRow_24 (fun H locs i11 ei11 hT hS => ?_)
        have hR11 := Rg_put hR2 ei11 (-2147483648) 2147483647 rfl (rg_top (i2 102 2)) (by decide)
        have hF11 := Fr_puti hF2 ei11 (by decide)
        obtain ⟨x12, ex12⟩ : ∃ y : Int32, y = x3_4 + 1 := ⟨_, rfl⟩
        refine lv_iinc (v := x12) (lv' := [(4, .int x12), (0, .ref (h 102)), (1, .int a_b), (2, .int a_c), (3, .int a_d)]) hx hb dX9_copyRow_25 hl (k := 4) rfl (by rw [ex12]; rfl) (by decide) rfl (fun ls hl => ?_)
        obtain ⟨hx12, ax12⟩ := rg_add 1 1 ex12 h6 (rg_k (by decide) : rg 1 1 1) (by decide)
        replace ax12 : x12.toInt = x3_4.toInt + 1 := ax12
        refine lv_goto (tgt := 3) hx hb dX9_copyRow_28 (by decide) ?_
        exact ih3_ x12 i11 g2 _ _ _ (rg_w hx12 (by decide) : rg 0 1 x12) hR11 hF11 hT hS (lv_sub hl [1, 2, 3, 4, 0] rfl) (m_up ax12 hx12 (by decide) hm3_)
  exact L3_1 _ (0) i g _ _ _ (rg_w (rg_k (by decide) : rg 0 0 0) (by decide) : rg 0 1 0) hR hF hT hS (lv_sub hl [1, 2, 3, 4, 0] rfl) (Nat.lt_succ_self _)
set_option maxRecDepth 100000 in
set_option maxHeartbeats 4000000 in
theorem m_X9_copyRow_103_7_2_0 {l : Launch} {D : va_G} {h : Nat → Nat} {cz : Nat → ClassId} {z : EZ} {i : Nat → Nat → Int32} {g : Nat → Nat → Int64} (hR : Rg rA i) (a_b : Int32) (a_c : Int32) (a_d : Int32) (ha_b : rg 7 7 a_b) (ha_c : rg 2 2 a_c) (ha_d : rg 0 0 a_d) : DtV l yX9_copyRow cX9_copyRow 5 none ({ frames := 0, cells := 0, slots := 0, locals := 0 } : Room) D h cz z i g [.ref (h 103), .int a_b, .int a_c, .int a_d] (fun u => Rg rA u.1 ∧ Fr [103] [] i g u) := by
  refine e_V pn_X9_copyRow (Nat.le_of_ble_eq_true rfl) ?_
  intro p e s m args below meth c ls Q X Y hret hT hl hS
  have hx := X.1
  have hb := X.2.1
  have hl : lv_has ls 5 [(0, .ref (h 103)), (1, .int a_b), (2, .int a_c), (3, .int a_d)] := hl
  have hF : Fr [103] [] i g (i, g) := Fr_rf _ _ _ _
  refine lv_iconst (v := 0) hx hb dX9_copyRow_0 (by decide) ?_
  refine lv_istore (lv' := [(4, .int 0), (0, .ref (h 103)), (1, .int a_b), (2, .int a_c), (3, .int a_d)]) hx hb dX9_copyRow_1 hl (by decide) rfl (fun ls hl => ?_)
  have L3_1 : ∀ (n3_ : Nat) (x3_4 : Int32) (i2 : Nat → Nat → Int32) (g2 : Nat → Nat → Int64) (H : Heap) (locs : List Loc) (ls : Array Slot), rg 0 8 x3_4 → Rg rA i2 → Fr [103] [] i g (i2, g2) → TH D h cz i2 g2 H → va_S (hA h) s.heap H locs → lv_has ls 5 [(0, .ref (h 103)), (1, .int a_b), (2, .int a_c), (3, .int a_d), (4, .int x3_4)] → (8 - x3_4.toInt).toNat < n3_ → W p l e ({ frames := 0, cells := 0, slots := 0, locals := 0 } : Room) s m args below meth c H locs 0 0 Q (F0 m 3 ls []) := by
    intro n3_
    induction n3_ with
    | zero => intro x3_4 i2 g2 H locs ls hhx3_4 hR2 hF2 hT hS hl hm3_; exact absurd hm3_ (Nat.not_lt_zero _)
    | succ n3_ ih3_ =>
      intro x3_4 i2 g2 H locs ls hhx3_4 hR2 hF2 hT hS hl hm3_
      refine lv_iload hx hb dX9_copyRow_3 (lv_at hl 4 rfl) ?_
      refine lv_iload_n hx hb dX9_copyRow_5 rfl (lv_at hl 1 rfl) ?_
      refine lv_icmp_ge (tgt := 31) hx hb dX9_copyRow_6 (by decide) (fun c4 => ?_) (fun c4 => ?_)
      ·
        have q4 : a_b.toInt ≤ x3_4.toInt := i_le c4
        have h5 : rg 7 8 x3_4 := t_ley 7 8 ha_b hhx3_4 (i_le c4) (by decide)
        exact hret _ _ _ _ _ _ dX9_copyRow_31 hT hS ⟨hR2, hF2⟩
      ·
        have q4 : x3_4.toInt < a_b.toInt := i_nle c4
        have h6 : rg 0 6 x3_4 := t_ltx 0 6 hhx3_4 ha_b (i_nle c4) (by decide)
        refine lv_aload_n hx hb dX9_copyRow_9 rfl (lv_at hl 0 rfl) ?_
        refine lv_iload_n hx hb dX9_copyRow_10 rfl (lv_at hl 1 rfl) ?_
        refine lv_iload_n hx hb dX9_copyRow_11 rfl (lv_at hl 3 rfl) ?_
        refine q_imul hx hb dX9_copyRow_12 (fun x7 ex7 => ?_)
        obtain ⟨hx7, ax7⟩ := rg_mul 0 0 ex7 ha_b ha_d (by decide)
        replace ax7 : x7.toInt = a_b.toInt * a_d.toInt := ax7
        refine lv_iload hx hb dX9_copyRow_13 (lv_at hl 4 rfl) ?_
        refine q_iadd hx hb dX9_copyRow_15 (fun x8 ex8 => ?_)
        obtain ⟨hx8, ax8⟩ := rg_add 0 6 ex8 hx7 h6 (by decide)
        replace ax8 : x8.toInt = x7.toInt + x3_4.toInt := ax8
        replace ax8 : x8.toInt = x3_4.toInt + 0 := by have := hx7.1; have := hx7.2; omega
        refine lv_aload_n hx hb dX9_copyRow_16 rfl (lv_at hl 0 rfl) ?_
        refine lv_iload_n hx hb dX9_copyRow_17 rfl (lv_at hl 1 rfl) ?_
        refine lv_iload_n hx hb dX9_copyRow_18 rfl (lv_at hl 2 rfl) ?_
        refine q_imul hx hb dX9_copyRow_19 (fun x9 ex9 => ?_)
        obtain ⟨hx9, ax9⟩ := rg_mul 14 14 ex9 ha_b ha_c (by decide)
        replace ax9 : x9.toInt = a_b.toInt * a_c.toInt := ax9
        refine lv_iload hx hb dX9_copyRow_20 (lv_at hl 4 rfl) ?_
        refine q_iadd hx hb dX9_copyRow_22 (fun x10 ex10 => ?_)
        obtain ⟨hx10, ax10⟩ := rg_add 14 20 ex10 hx9 h6 (by decide)
        replace ax10 : x10.toInt = x9.toInt + x3_4.toInt := ax10
        replace ax10 : x10.toInt = x3_4.toInt + 14 := by have := hx9.1; have := hx9.2; omega
        refine r_iald X hT 103 rfl (by decide) (v_in hx10 (by decide)) dX9_copyRow_23 ?_
        have h11 : rg 0 20 (i2 103 x10.toNatClampNeg) := Rg_ata hR2 103 x10.toNatClampNeg 0 20 (v_lt (v_in hx10 (by decide))) (aff_at (m := 1) (a := 0) (n := 7) (c := 14) (by decide) (v := x3_4.toInt) ⟨by have := h6.1; omega, by have := h6.2; omega⟩ (by have := ax10; omega))
        refine r_iast X hT hS 103 rfl (by decide) (v_in hx8 (by decide)) dX9_copyRow_24 (fun H locs i12 ei12 hT hS => ?_)
        have hR12 := Rg_mv hR2 ei12 (v_lt (v_in hx10 (by decide))) (aff_mv (T := rA) (j := 103) (m := 1) (a := 0) (n := 7) (c := 0) (c1 := 14) (by decide) (v := x3_4.toInt) ⟨by have := h6.1; omega, by have := h6.2; omega⟩ (by have := ax8; omega) (by have := ax10; omega))
        have hF12 := Fr_puti hF2 ei12 (by decide)
        obtain ⟨x13, ex13⟩ : ∃ y : Int32, y = x3_4 + 1 := ⟨_, rfl⟩
        refine lv_iinc (v := x13) (lv' := [(4, .int x13), (0, .ref (h 103)), (1, .int a_b), (2, .int a_c), (3, .int a_d)]) hx hb dX9_copyRow_25 hl (k := 4) rfl (by rw [ex13]; rfl) (by decide) rfl (fun ls hl => ?_)
        obtain ⟨hx13, ax13⟩ := rg_add 1 7 ex13 h6 (rg_k (by decide) : rg 1 1 1) (by decide)
        replace ax13 : x13.toInt = x3_4.toInt + 1 := ax13
        refine lv_goto (tgt := 3) hx hb dX9_copyRow_28 (by decide) ?_
        exact ih3_ x13 i12 g2 _ _ _ (rg_w hx13 (by decide) : rg 0 8 x13) hR12 hF12 hT hS (lv_sub hl [1, 2, 3, 4, 0] rfl) (m_up ax13 hx13 (by decide) hm3_)
  exact L3_1 _ (0) i g _ _ _ (rg_w (rg_k (by decide) : rg 0 0 0) (by decide) : rg 0 8 0) hR hF hT hS (lv_sub hl [1, 2, 3, 4, 0] rfl) (Nat.lt_succ_self _)
set_option maxRecDepth 100000 in
set_option maxHeartbeats 4000000 in
theorem m_X9_copyRow_104_18_2_0 {l : Launch} {D : va_G} {h : Nat → Nat} {cz : Nat → ClassId} {z : EZ} {i : Nat → Nat → Int32} {g : Nat → Nat → Int64} (hR : Rg rA i) (a_b : Int32) (a_c : Int32) (a_d : Int32) (ha_b : rg 18 18 a_b) (ha_c : rg 2 2 a_c) (ha_d : rg 0 0 a_d) : DtV l yX9_copyRow cX9_copyRow 5 none ({ frames := 0, cells := 0, slots := 0, locals := 0 } : Room) D h cz z i g [.ref (h 104), .int a_b, .int a_c, .int a_d] (fun u => Rg rA u.1 ∧ Fr [104] [] i g u) := by
  refine e_V pn_X9_copyRow (Nat.le_of_ble_eq_true rfl) ?_
  intro p e s m args below meth c ls Q X Y hret hT hl hS
  have hx := X.1
  have hb := X.2.1
  have hl : lv_has ls 5 [(0, .ref (h 104)), (1, .int a_b), (2, .int a_c), (3, .int a_d)] := hl
  have hF : Fr [104] [] i g (i, g) := Fr_rf _ _ _ _
  refine lv_iconst (v := 0) hx hb dX9_copyRow_0 (by decide) ?_
  refine lv_istore (lv' := [(4, .int 0), (0, .ref (h 104)), (1, .int a_b), (2, .int a_c), (3, .int a_d)]) hx hb dX9_copyRow_1 hl (by decide) rfl (fun ls hl => ?_)
  have L3_1 : ∀ (n3_ : Nat) (x3_4 : Int32) (i2 : Nat → Nat → Int32) (g2 : Nat → Nat → Int64) (H : Heap) (locs : List Loc) (ls : Array Slot), rg 0 20 x3_4 → Rg rA i2 → Fr [104] [] i g (i2, g2) → TH D h cz i2 g2 H → va_S (hA h) s.heap H locs → lv_has ls 5 [(0, .ref (h 104)), (1, .int a_b), (2, .int a_c), (3, .int a_d), (4, .int x3_4)] → (20 - x3_4.toInt).toNat < n3_ → W p l e ({ frames := 0, cells := 0, slots := 0, locals := 0 } : Room) s m args below meth c H locs 0 0 Q (F0 m 3 ls []) := by
    intro n3_
    induction n3_ with
    | zero => intro x3_4 i2 g2 H locs ls hhx3_4 hR2 hF2 hT hS hl hm3_; exact absurd hm3_ (Nat.not_lt_zero _)
    | succ n3_ ih3_ =>
      intro x3_4 i2 g2 H locs ls hhx3_4 hR2 hF2 hT hS hl hm3_
      refine lv_iload hx hb dX9_copyRow_3 (lv_at hl 4 rfl) ?_
      refine lv_iload_n hx hb dX9_copyRow_5 rfl (lv_at hl 1 rfl) ?_
      refine lv_icmp_ge (tgt := 31) hx hb dX9_copyRow_6 (by decide) (fun c4 => ?_) (fun c4 => ?_)
      ·
        have q4 : a_b.toInt ≤ x3_4.toInt := i_le c4
        have h5 : rg 18 20 x3_4 := t_ley 18 20 ha_b hhx3_4 (i_le c4) (by decide)
        exact hret _ _ _ _ _ _ dX9_copyRow_31 hT hS ⟨hR2, hF2⟩
      ·
        have q4 : x3_4.toInt < a_b.toInt := i_nle c4
        have h6 : rg 0 17 x3_4 := t_ltx 0 17 hhx3_4 ha_b (i_nle c4) (by decide)
        refine lv_aload_n hx hb dX9_copyRow_9 rfl (lv_at hl 0 rfl) ?_
        refine lv_iload_n hx hb dX9_copyRow_10 rfl (lv_at hl 1 rfl) ?_
        refine lv_iload_n hx hb dX9_copyRow_11 rfl (lv_at hl 3 rfl) ?_
        refine q_imul hx hb dX9_copyRow_12 (fun x7 ex7 => ?_)
        obtain ⟨hx7, ax7⟩ := rg_mul 0 0 ex7 ha_b ha_d (by decide)
        replace ax7 : x7.toInt = a_b.toInt * a_d.toInt := ax7
        refine lv_iload hx hb dX9_copyRow_13 (lv_at hl 4 rfl) ?_
        refine q_iadd hx hb dX9_copyRow_15 (fun x8 ex8 => ?_)
        obtain ⟨hx8, ax8⟩ := rg_add 0 17 ex8 hx7 h6 (by decide)
        replace ax8 : x8.toInt = x7.toInt + x3_4.toInt := ax8
        replace ax8 : x8.toInt = x3_4.toInt + 0 := by have := hx7.1; have := hx7.2; omega
        refine lv_aload_n hx hb dX9_copyRow_16 rfl (lv_at hl 0 rfl) ?_
        refine lv_iload_n hx hb dX9_copyRow_17 rfl (lv_at hl 1 rfl) ?_
        refine lv_iload_n hx hb dX9_copyRow_18 rfl (lv_at hl 2 rfl) ?_
        refine q_imul hx hb dX9_copyRow_19 (fun x9 ex9 => ?_)
        obtain ⟨hx9, ax9⟩ := rg_mul 36 36 ex9 ha_b ha_c (by decide)
        replace ax9 : x9.toInt = a_b.toInt * a_c.toInt := ax9
        refine lv_iload hx hb dX9_copyRow_20 (lv_at hl 4 rfl) ?_
        refine q_iadd hx hb dX9_copyRow_22 (fun x10 ex10 => ?_)
        obtain ⟨hx10, ax10⟩ := rg_add 36 53 ex10 hx9 h6 (by decide)
        replace ax10 : x10.toInt = x9.toInt + x3_4.toInt := ax10
        replace ax10 : x10.toInt = x3_4.toInt + 36 := by have := hx9.1; have := hx9.2; omega
        refine r_iald X hT 104 rfl (by decide) (v_in hx10 (by decide)) dX9_copyRow_23 ?_
        refine r_iast X hT hS 104 rfl (by decide) (v_in hx8 (by decide)) dX9_copyRow_24 (fun H locs i11 ei11 hT hS => ?_)
        have hR11 := Rg_put hR2 ei11 0 60 rfl (Rg_at hR2 104 x10.toNatClampNeg 0 60 (v_lt (v_in hx10 (by decide))) rfl) (by decide)
        have hF11 := Fr_puti hF2 ei11 (by decide)
        obtain ⟨x12, ex12⟩ : ∃ y : Int32, y = x3_4 + 1 := ⟨_, rfl⟩
        refine lv_iinc (v := x12) (lv' := [(4, .int x12), (0, .ref (h 104)), (1, .int a_b), (2, .int a_c), (3, .int a_d)]) hx hb dX9_copyRow_25 hl (k := 4) rfl (by rw [ex12]; rfl) (by decide) rfl (fun ls hl => ?_)
        obtain ⟨hx12, ax12⟩ := rg_add 1 18 ex12 h6 (rg_k (by decide) : rg 1 1 1) (by decide)
        replace ax12 : x12.toInt = x3_4.toInt + 1 := ax12
        refine lv_goto (tgt := 3) hx hb dX9_copyRow_28 (by decide) ?_
        exact ih3_ x12 i11 g2 _ _ _ (rg_w hx12 (by decide) : rg 0 20 x12) hR11 hF11 hT hS (lv_sub hl [1, 2, 3, 4, 0] rfl) (m_up ax12 hx12 (by decide) hm3_)
  exact L3_1 _ (0) i g _ _ _ (rg_w (rg_k (by decide) : rg 0 0 0) (by decide) : rg 0 20 0) hR hF hT hS (lv_sub hl [1, 2, 3, 4, 0] rfl) (Nat.lt_succ_self _)
set_option maxRecDepth 100000 in
set_option maxHeartbeats 4000000 in
theorem m_X9_copyRow_105_20_2_0 {l : Launch} {D : va_G} {h : Nat → Nat} {cz : Nat → ClassId} {z : EZ} {i : Nat → Nat → Int32} {g : Nat → Nat → Int64} (hR : Rg rA i) (a_b : Int32) (a_c : Int32) (a_d : Int32) (ha_b : rg 20 20 a_b) (ha_c : rg 2 2 a_c) (ha_d : rg 0 0 a_d) : DtV l yX9_copyRow cX9_copyRow 5 none ({ frames := 0, cells := 0, slots := 0, locals := 0 } : Room) D h cz z i g [.ref (h 105), .int a_b, .int a_c, .int a_d] (fun u => Rg rA u.1 ∧ Fr [105] [] i g u) := by
  refine e_V pn_X9_copyRow (Nat.le_of_ble_eq_true rfl) ?_
  intro p e s m args below meth c ls Q X Y hret hT hl hS
  have hx := X.1
  have hb := X.2.1
  have hl : lv_has ls 5 [(0, .ref (h 105)), (1, .int a_b), (2, .int a_c), (3, .int a_d)] := hl
  have hF : Fr [105] [] i g (i, g) := Fr_rf _ _ _ _
  refine lv_iconst (v := 0) hx hb dX9_copyRow_0 (by decide) ?_
  refine lv_istore (lv' := [(4, .int 0), (0, .ref (h 105)), (1, .int a_b), (2, .int a_c), (3, .int a_d)]) hx hb dX9_copyRow_1 hl (by decide) rfl (fun ls hl => ?_)
  have L3_1 : ∀ (n3_ : Nat) (x3_4 : Int32) (i2 : Nat → Nat → Int32) (g2 : Nat → Nat → Int64) (H : Heap) (locs : List Loc) (ls : Array Slot), rg 0 20 x3_4 → Rg rA i2 → Fr [105] [] i g (i2, g2) → TH D h cz i2 g2 H → va_S (hA h) s.heap H locs → lv_has ls 5 [(0, .ref (h 105)), (1, .int a_b), (2, .int a_c), (3, .int a_d), (4, .int x3_4)] → (20 - x3_4.toInt).toNat < n3_ → W p l e ({ frames := 0, cells := 0, slots := 0, locals := 0 } : Room) s m args below meth c H locs 0 0 Q (F0 m 3 ls []) := by
    intro n3_
    induction n3_ with
    | zero => intro x3_4 i2 g2 H locs ls hhx3_4 hR2 hF2 hT hS hl hm3_; exact absurd hm3_ (Nat.not_lt_zero _)
    | succ n3_ ih3_ =>
      intro x3_4 i2 g2 H locs ls hhx3_4 hR2 hF2 hT hS hl hm3_
      refine lv_iload hx hb dX9_copyRow_3 (lv_at hl 4 rfl) ?_
      refine lv_iload_n hx hb dX9_copyRow_5 rfl (lv_at hl 1 rfl) ?_
      refine lv_icmp_ge (tgt := 31) hx hb dX9_copyRow_6 (by decide) (fun c4 => ?_) (fun c4 => ?_)
      ·
        have q4 : a_b.toInt ≤ x3_4.toInt := i_le c4
        have h5 : rg 20 20 x3_4 := t_ley 20 20 ha_b hhx3_4 (i_le c4) (by decide)
        exact hret _ _ _ _ _ _ dX9_copyRow_31 hT hS ⟨hR2, hF2⟩
      ·
        have q4 : x3_4.toInt < a_b.toInt := i_nle c4
        have h6 : rg 0 19 x3_4 := t_ltx 0 19 hhx3_4 ha_b (i_nle c4) (by decide)
        refine lv_aload_n hx hb dX9_copyRow_9 rfl (lv_at hl 0 rfl) ?_
        refine lv_iload_n hx hb dX9_copyRow_10 rfl (lv_at hl 1 rfl) ?_
        refine lv_iload_n hx hb dX9_copyRow_11 rfl (lv_at hl 3 rfl) ?_
        refine q_imul hx hb dX9_copyRow_12 (fun x7 ex7 => ?_)
        obtain ⟨hx7, ax7⟩ := rg_mul 0 0 ex7 ha_b ha_d (by decide)
        replace ax7 : x7.toInt = a_b.toInt * a_d.toInt := ax7
        refine lv_iload hx hb dX9_copyRow_13 (lv_at hl 4 rfl) ?_
        refine q_iadd hx hb dX9_copyRow_15 (fun x8 ex8 => ?_)
        obtain ⟨hx8, ax8⟩ := rg_add 0 19 ex8 hx7 h6 (by decide)
        replace ax8 : x8.toInt = x7.toInt + x3_4.toInt := ax8
        replace ax8 : x8.toInt = x3_4.toInt + 0 := by have := hx7.1; have := hx7.2; omega
        refine lv_aload_n hx hb dX9_copyRow_16 rfl (lv_at hl 0 rfl) ?_
        refine lv_iload_n hx hb dX9_copyRow_17 rfl (lv_at hl 1 rfl) ?_
        refine lv_iload_n hx hb dX9_copyRow_18 rfl (lv_at hl 2 rfl) ?_
        refine q_imul hx hb dX9_copyRow_19 (fun x9 ex9 => ?_)
        obtain ⟨hx9, ax9⟩ := rg_mul 40 40 ex9 ha_b ha_c (by decide)
        replace ax9 : x9.toInt = a_b.toInt * a_c.toInt := ax9
        refine lv_iload hx hb dX9_copyRow_20 (lv_at hl 4 rfl) ?_
        refine q_iadd hx hb dX9_copyRow_22 (fun x10 ex10 => ?_)
        obtain ⟨hx10, ax10⟩ := rg_add 40 59 ex10 hx9 h6 (by decide)
        replace ax10 : x10.toInt = x9.toInt + x3_4.toInt := ax10
        replace ax10 : x10.toInt = x3_4.toInt + 40 := by have := hx9.1; have := hx9.2; omega
        refine r_iald X hT 105 rfl (by decide) (v_in hx10 (by decide)) dX9_copyRow_23 ?_
        refine r_iast X hT hS 105 rfl (by decide) (v_in hx8 (by decide)) dX9_copyRow_24 (fun H locs i11 ei11 hT hS => ?_)
        have hR11 := Rg_put hR2 ei11 0 5 rfl (Rg_at hR2 105 x10.toNatClampNeg 0 5 (v_lt (v_in hx10 (by decide))) rfl) (by decide)
        have hF11 := Fr_puti hF2 ei11 (by decide)
        obtain ⟨x12, ex12⟩ : ∃ y : Int32, y = x3_4 + 1 := ⟨_, rfl⟩
        refine lv_iinc (v := x12) (lv' := [(4, .int x12), (0, .ref (h 105)), (1, .int a_b), (2, .int a_c), (3, .int a_d)]) hx hb dX9_copyRow_25 hl (k := 4) rfl (by rw [ex12]; rfl) (by decide) rfl (fun ls hl => ?_)
        obtain ⟨hx12, ax12⟩ := rg_add 1 20 ex12 h6 (rg_k (by decide) : rg 1 1 1) (by decide)
        replace ax12 : x12.toInt = x3_4.toInt + 1 := ax12
        refine lv_goto (tgt := 3) hx hb dX9_copyRow_28 (by decide) ?_
        exact ih3_ x12 i11 g2 _ _ _ (rg_w hx12 (by decide) : rg 0 20 x12) hR11 hF11 hT hS (lv_sub hl [1, 2, 3, 4, 0] rfl) (m_up ax12 hx12 (by decide) hm3_)
  exact L3_1 _ (0) i g _ _ _ (rg_w (rg_k (by decide) : rg 0 0 0) (by decide) : rg 0 20 0) hR hF hT hS (lv_sub hl [1, 2, 3, 4, 0] rfl) (Nat.lt_succ_self _)
set_option maxRecDepth 100000 in
set_option maxHeartbeats 4000000 in
theorem m_X9_copyRow_106_16_2_0 {l : Launch} {D : va_G} {h : Nat → Nat} {cz : Nat → ClassId} {z : EZ} {i : Nat → Nat → Int32} {g : Nat → Nat → Int64} (hR : Rg rA i) (a_b : Int32) (a_c : Int32) (a_d : Int32) (ha_b : rg 16 16 a_b) (ha_c : rg 2 2 a_c) (ha_d : rg 0 0 a_d) : DtV l yX9_copyRow cX9_copyRow 5 none ({ frames := 0, cells := 0, slots := 0, locals := 0 } : Room) D h cz z i g [.ref (h 106), .int a_b, .int a_c, .int a_d] (fun u => Rg rA u.1 ∧ Fr [106] [] i g u) := by
  refine e_V pn_X9_copyRow (Nat.le_of_ble_eq_true rfl) ?_
  intro p e s m args below meth c ls Q X Y hret hT hl hS
  have hx := X.1
  have hb := X.2.1
  have hl : lv_has ls 5 [(0, .ref (h 106)), (1, .int a_b), (2, .int a_c), (3, .int a_d)] := hl
  have hF : Fr [106] [] i g (i, g) := Fr_rf _ _ _ _
  refine lv_iconst (v := 0) hx hb dX9_copyRow_0 (by decide) ?_
  refine lv_istore (lv' := [(4, .int 0), (0, .ref (h 106)), (1, .int a_b), (2, .int a_c), (3, .int a_d)]) hx hb dX9_copyRow_1 hl (by decide) rfl (fun ls hl => ?_)
  have L3_1 : ∀ (n3_ : Nat) (x3_4 : Int32) (i2 : Nat → Nat → Int32) (g2 : Nat → Nat → Int64) (H : Heap) (locs : List Loc) (ls : Array Slot), rg 0 20 x3_4 → Rg rA i2 → Fr [106] [] i g (i2, g2) → TH D h cz i2 g2 H → va_S (hA h) s.heap H locs → lv_has ls 5 [(0, .ref (h 106)), (1, .int a_b), (2, .int a_c), (3, .int a_d), (4, .int x3_4)] → (20 - x3_4.toInt).toNat < n3_ → W p l e ({ frames := 0, cells := 0, slots := 0, locals := 0 } : Room) s m args below meth c H locs 0 0 Q (F0 m 3 ls []) := by
    intro n3_
    induction n3_ with
    | zero => intro x3_4 i2 g2 H locs ls hhx3_4 hR2 hF2 hT hS hl hm3_; exact absurd hm3_ (Nat.not_lt_zero _)
    | succ n3_ ih3_ =>
      intro x3_4 i2 g2 H locs ls hhx3_4 hR2 hF2 hT hS hl hm3_
      refine lv_iload hx hb dX9_copyRow_3 (lv_at hl 4 rfl) ?_
      refine lv_iload_n hx hb dX9_copyRow_5 rfl (lv_at hl 1 rfl) ?_
      refine lv_icmp_ge (tgt := 31) hx hb dX9_copyRow_6 (by decide) (fun c4 => ?_) (fun c4 => ?_)
      ·
        have q4 : a_b.toInt ≤ x3_4.toInt := i_le c4
        have h5 : rg 16 20 x3_4 := t_ley 16 20 ha_b hhx3_4 (i_le c4) (by decide)
        exact hret _ _ _ _ _ _ dX9_copyRow_31 hT hS ⟨hR2, hF2⟩
      ·
        have q4 : x3_4.toInt < a_b.toInt := i_nle c4
        have h6 : rg 0 15 x3_4 := t_ltx 0 15 hhx3_4 ha_b (i_nle c4) (by decide)
        refine lv_aload_n hx hb dX9_copyRow_9 rfl (lv_at hl 0 rfl) ?_
        refine lv_iload_n hx hb dX9_copyRow_10 rfl (lv_at hl 1 rfl) ?_
        refine lv_iload_n hx hb dX9_copyRow_11 rfl (lv_at hl 3 rfl) ?_
        refine q_imul hx hb dX9_copyRow_12 (fun x7 ex7 => ?_)
        obtain ⟨hx7, ax7⟩ := rg_mul 0 0 ex7 ha_b ha_d (by decide)
        replace ax7 : x7.toInt = a_b.toInt * a_d.toInt := ax7
        refine lv_iload hx hb dX9_copyRow_13 (lv_at hl 4 rfl) ?_
        refine q_iadd hx hb dX9_copyRow_15 (fun x8 ex8 => ?_)
        obtain ⟨hx8, ax8⟩ := rg_add 0 15 ex8 hx7 h6 (by decide)
        replace ax8 : x8.toInt = x7.toInt + x3_4.toInt := ax8
        replace ax8 : x8.toInt = x3_4.toInt + 0 := by have := hx7.1; have := hx7.2; omega
        refine lv_aload_n hx hb dX9_copyRow_16 rfl (lv_at hl 0 rfl) ?_
        refine lv_iload_n hx hb dX9_copyRow_17 rfl (lv_at hl 1 rfl) ?_
        refine lv_iload_n hx hb dX9_copyRow_18 rfl (lv_at hl 2 rfl) ?_
        refine q_imul hx hb dX9_copyRow_19 (fun x9 ex9 => ?_)
        obtain ⟨hx9, ax9⟩ := rg_mul 32 32 ex9 ha_b ha_c (by decide)
        replace ax9 : x9.toInt = a_b.toInt * a_c.toInt := ax9
        refine lv_iload hx hb dX9_copyRow_20 (lv_at hl 4 rfl) ?_
        refine q_iadd hx hb dX9_copyRow_22 (fun x10 ex10 => ?_)
        obtain ⟨hx10, ax10⟩ := rg_add 32 47 ex10 hx9 h6 (by decide)
        replace ax10 : x10.toInt = x9.toInt + x3_4.toInt := ax10
        replace ax10 : x10.toInt = x3_4.toInt + 32 := by have := hx9.1; have := hx9.2; omega
        refine r_iald X hT 106 rfl (by decide) (v_in hx10 (by decide)) dX9_copyRow_23 ?_
        have h11 : rg 0 11 (i2 106 x10.toNatClampNeg) := Rg_ata hR2 106 x10.toNatClampNeg 0 11 (v_lt (v_in hx10 (by decide))) (aff_at (m := 1) (a := 0) (n := 16) (c := 32) (by decide) (v := x3_4.toInt) ⟨by have := h6.1; omega, by have := h6.2; omega⟩ (by have := ax10; omega))
        refine r_iast X hT hS 106 rfl (by decide) (v_in hx8 (by decide)) dX9_copyRow_24 (fun H locs i12 ei12 hT hS => ?_)
        have hR12 := Rg_mv hR2 ei12 (v_lt (v_in hx10 (by decide))) (aff_mv (T := rA) (j := 106) (m := 1) (a := 0) (n := 16) (c := 0) (c1 := 32) (by decide) (v := x3_4.toInt) ⟨by have := h6.1; omega, by have := h6.2; omega⟩ (by have := ax8; omega) (by have := ax10; omega))
        have hF12 := Fr_puti hF2 ei12 (by decide)
        obtain ⟨x13, ex13⟩ : ∃ y : Int32, y = x3_4 + 1 := ⟨_, rfl⟩
        refine lv_iinc (v := x13) (lv' := [(4, .int x13), (0, .ref (h 106)), (1, .int a_b), (2, .int a_c), (3, .int a_d)]) hx hb dX9_copyRow_25 hl (k := 4) rfl (by rw [ex13]; rfl) (by decide) rfl (fun ls hl => ?_)
        obtain ⟨hx13, ax13⟩ := rg_add 1 16 ex13 h6 (rg_k (by decide) : rg 1 1 1) (by decide)
        replace ax13 : x13.toInt = x3_4.toInt + 1 := ax13
        refine lv_goto (tgt := 3) hx hb dX9_copyRow_28 (by decide) ?_
        exact ih3_ x13 i12 g2 _ _ _ (rg_w hx13 (by decide) : rg 0 20 x13) hR12 hF12 hT hS (lv_sub hl [1, 2, 3, 4, 0] rfl) (m_up ax13 hx13 (by decide) hm3_)
  exact L3_1 _ (0) i g _ _ _ (rg_w (rg_k (by decide) : rg 0 0 0) (by decide) : rg 0 20 0) hR hF hT hS (lv_sub hl [1, 2, 3, 4, 0] rfl) (Nat.lt_succ_self _)
set_option maxRecDepth 100000 in
set_option maxHeartbeats 4000000 in
theorem m_X9_copyRow_107_60_2_0 {l : Launch} {D : va_G} {h : Nat → Nat} {cz : Nat → ClassId} {z : EZ} {i : Nat → Nat → Int32} {g : Nat → Nat → Int64} (hR : Rg rA i) (a_b : Int32) (a_c : Int32) (a_d : Int32) (ha_b : rg 60 60 a_b) (ha_c : rg 2 2 a_c) (ha_d : rg 0 0 a_d) : DtV l yX9_copyRow cX9_copyRow 5 none ({ frames := 0, cells := 0, slots := 0, locals := 0 } : Room) D h cz z i g [.ref (h 107), .int a_b, .int a_c, .int a_d] (fun u => Rg rA u.1 ∧ Fr [107] [] i g u) := by
  refine e_V pn_X9_copyRow (Nat.le_of_ble_eq_true rfl) ?_
  intro p e s m args below meth c ls Q X Y hret hT hl hS
  have hx := X.1
  have hb := X.2.1
  have hl : lv_has ls 5 [(0, .ref (h 107)), (1, .int a_b), (2, .int a_c), (3, .int a_d)] := hl
  have hF : Fr [107] [] i g (i, g) := Fr_rf _ _ _ _
  refine lv_iconst (v := 0) hx hb dX9_copyRow_0 (by decide) ?_
  refine lv_istore (lv' := [(4, .int 0), (0, .ref (h 107)), (1, .int a_b), (2, .int a_c), (3, .int a_d)]) hx hb dX9_copyRow_1 hl (by decide) rfl (fun ls hl => ?_)
  have L3_1 : ∀ (n3_ : Nat) (x3_4 : Int32) (i2 : Nat → Nat → Int32) (g2 : Nat → Nat → Int64) (H : Heap) (locs : List Loc) (ls : Array Slot), rg 0 60 x3_4 → Rg rA i2 → Fr [107] [] i g (i2, g2) → TH D h cz i2 g2 H → va_S (hA h) s.heap H locs → lv_has ls 5 [(0, .ref (h 107)), (1, .int a_b), (2, .int a_c), (3, .int a_d), (4, .int x3_4)] → (60 - x3_4.toInt).toNat < n3_ → W p l e ({ frames := 0, cells := 0, slots := 0, locals := 0 } : Room) s m args below meth c H locs 0 0 Q (F0 m 3 ls []) := by
    intro n3_
    induction n3_ with
    | zero => intro x3_4 i2 g2 H locs ls hhx3_4 hR2 hF2 hT hS hl hm3_; exact absurd hm3_ (Nat.not_lt_zero _)
    | succ n3_ ih3_ =>
      intro x3_4 i2 g2 H locs ls hhx3_4 hR2 hF2 hT hS hl hm3_
      refine lv_iload hx hb dX9_copyRow_3 (lv_at hl 4 rfl) ?_
      refine lv_iload_n hx hb dX9_copyRow_5 rfl (lv_at hl 1 rfl) ?_
      refine lv_icmp_ge (tgt := 31) hx hb dX9_copyRow_6 (by decide) (fun c4 => ?_) (fun c4 => ?_)
      ·
        have q4 : a_b.toInt ≤ x3_4.toInt := i_le c4
        have h5 : rg 60 60 x3_4 := t_ley 60 60 ha_b hhx3_4 (i_le c4) (by decide)
        exact hret _ _ _ _ _ _ dX9_copyRow_31 hT hS ⟨hR2, hF2⟩
      ·
        have q4 : x3_4.toInt < a_b.toInt := i_nle c4
        have h6 : rg 0 59 x3_4 := t_ltx 0 59 hhx3_4 ha_b (i_nle c4) (by decide)
        refine lv_aload_n hx hb dX9_copyRow_9 rfl (lv_at hl 0 rfl) ?_
        refine lv_iload_n hx hb dX9_copyRow_10 rfl (lv_at hl 1 rfl) ?_
        refine lv_iload_n hx hb dX9_copyRow_11 rfl (lv_at hl 3 rfl) ?_
        refine q_imul hx hb dX9_copyRow_12 (fun x7 ex7 => ?_)
        obtain ⟨hx7, ax7⟩ := rg_mul 0 0 ex7 ha_b ha_d (by decide)
        replace ax7 : x7.toInt = a_b.toInt * a_d.toInt := ax7
        refine lv_iload hx hb dX9_copyRow_13 (lv_at hl 4 rfl) ?_
        refine q_iadd hx hb dX9_copyRow_15 (fun x8 ex8 => ?_)
        obtain ⟨hx8, ax8⟩ := rg_add 0 59 ex8 hx7 h6 (by decide)
        replace ax8 : x8.toInt = x7.toInt + x3_4.toInt := ax8
        replace ax8 : x8.toInt = x3_4.toInt + 0 := by have := hx7.1; have := hx7.2; omega
        refine lv_aload_n hx hb dX9_copyRow_16 rfl (lv_at hl 0 rfl) ?_
        refine lv_iload_n hx hb dX9_copyRow_17 rfl (lv_at hl 1 rfl) ?_
        refine lv_iload_n hx hb dX9_copyRow_18 rfl (lv_at hl 2 rfl) ?_
        refine q_imul hx hb dX9_copyRow_19 (fun x9 ex9 => ?_)
        obtain ⟨hx9, ax9⟩ := rg_mul 120 120 ex9 ha_b ha_c (by decide)
        replace ax9 : x9.toInt = a_b.toInt * a_c.toInt := ax9
        refine lv_iload hx hb dX9_copyRow_20 (lv_at hl 4 rfl) ?_
        refine q_iadd hx hb dX9_copyRow_22 (fun x10 ex10 => ?_)
        obtain ⟨hx10, ax10⟩ := rg_add 120 179 ex10 hx9 h6 (by decide)
        replace ax10 : x10.toInt = x9.toInt + x3_4.toInt := ax10
        replace ax10 : x10.toInt = x3_4.toInt + 120 := by have := hx9.1; have := hx9.2; omega
        refine r_iald X hT 107 rfl (by decide) (v_in hx10 (by decide)) dX9_copyRow_23 ?_
        have h11 : rg 0 11 (i2 107 x10.toNatClampNeg) := Rg_ata hR2 107 x10.toNatClampNeg 0 11 (v_lt (v_in hx10 (by decide))) (aff_at (m := 1) (a := 0) (n := 60) (c := 120) (by decide) (v := x3_4.toInt) ⟨by have := h6.1; omega, by have := h6.2; omega⟩ (by have := ax10; omega))
        refine r_iast X hT hS 107 rfl (by decide) (v_in hx8 (by decide)) dX9_copyRow_24 (fun H locs i12 ei12 hT hS => ?_)
        have hR12 := Rg_mv hR2 ei12 (v_lt (v_in hx10 (by decide))) (aff_mv (T := rA) (j := 107) (m := 1) (a := 0) (n := 60) (c := 0) (c1 := 120) (by decide) (v := x3_4.toInt) ⟨by have := h6.1; omega, by have := h6.2; omega⟩ (by have := ax8; omega) (by have := ax10; omega))
        have hF12 := Fr_puti hF2 ei12 (by decide)
        obtain ⟨x13, ex13⟩ : ∃ y : Int32, y = x3_4 + 1 := ⟨_, rfl⟩
        refine lv_iinc (v := x13) (lv' := [(4, .int x13), (0, .ref (h 107)), (1, .int a_b), (2, .int a_c), (3, .int a_d)]) hx hb dX9_copyRow_25 hl (k := 4) rfl (by rw [ex13]; rfl) (by decide) rfl (fun ls hl => ?_)
        obtain ⟨hx13, ax13⟩ := rg_add 1 60 ex13 h6 (rg_k (by decide) : rg 1 1 1) (by decide)
        replace ax13 : x13.toInt = x3_4.toInt + 1 := ax13
        refine lv_goto (tgt := 3) hx hb dX9_copyRow_28 (by decide) ?_
        exact ih3_ x13 i12 g2 _ _ _ (rg_w hx13 (by decide) : rg 0 60 x13) hR12 hF12 hT hS (lv_sub hl [1, 2, 3, 4, 0] rfl) (m_up ax13 hx13 (by decide) hm3_)
  exact L3_1 _ (0) i g _ _ _ (rg_w (rg_k (by decide) : rg 0 0 0) (by decide) : rg 0 60 0) hR hF hT hS (lv_sub hl [1, 2, 3, 4, 0] rfl) (Nat.lt_succ_self _)
set_option maxRecDepth 100000 in
set_option maxHeartbeats 4000000 in
theorem m_X9_copyRow_102_1_3_0 {l : Launch} {D : va_G} {h : Nat → Nat} {cz : Nat → ClassId} {z : EZ} {i : Nat → Nat → Int32} {g : Nat → Nat → Int64} (hR : Rg rA i) (a_b : Int32) (a_c : Int32) (a_d : Int32) (ha_b : rg 1 1 a_b) (ha_c : rg 3 3 a_c) (ha_d : rg 0 0 a_d) : DtV l yX9_copyRow cX9_copyRow 5 none ({ frames := 0, cells := 0, slots := 0, locals := 0 } : Room) D h cz z i g [.ref (h 102), .int a_b, .int a_c, .int a_d] (fun u => Rg rA u.1 ∧ Fr [102] [] i g u) := by
  refine e_V pn_X9_copyRow (Nat.le_of_ble_eq_true rfl) ?_
  intro p e s m args below meth c ls Q X Y hret hT hl hS
  have hx := X.1
  have hb := X.2.1
  have hl : lv_has ls 5 [(0, .ref (h 102)), (1, .int a_b), (2, .int a_c), (3, .int a_d)] := hl
  have hF : Fr [102] [] i g (i, g) := Fr_rf _ _ _ _
  refine lv_iconst (v := 0) hx hb dX9_copyRow_0 (by decide) ?_
  refine lv_istore (lv' := [(4, .int 0), (0, .ref (h 102)), (1, .int a_b), (2, .int a_c), (3, .int a_d)]) hx hb dX9_copyRow_1 hl (by decide) rfl (fun ls hl => ?_)
  have L3_1 : ∀ (n3_ : Nat) (x3_4 : Int32) (i2 : Nat → Nat → Int32) (g2 : Nat → Nat → Int64) (H : Heap) (locs : List Loc) (ls : Array Slot), rg 0 1 x3_4 → Rg rA i2 → Fr [102] [] i g (i2, g2) → TH D h cz i2 g2 H → va_S (hA h) s.heap H locs → lv_has ls 5 [(0, .ref (h 102)), (1, .int a_b), (2, .int a_c), (3, .int a_d), (4, .int x3_4)] → (1 - x3_4.toInt).toNat < n3_ → W p l e ({ frames := 0, cells := 0, slots := 0, locals := 0 } : Room) s m args below meth c H locs 0 0 Q (F0 m 3 ls []) := by
    intro n3_
    induction n3_ with
    | zero => intro x3_4 i2 g2 H locs ls hhx3_4 hR2 hF2 hT hS hl hm3_; exact absurd hm3_ (Nat.not_lt_zero _)
    | succ n3_ ih3_ =>
      intro x3_4 i2 g2 H locs ls hhx3_4 hR2 hF2 hT hS hl hm3_
      refine lv_iload hx hb dX9_copyRow_3 (lv_at hl 4 rfl) ?_
      refine lv_iload_n hx hb dX9_copyRow_5 rfl (lv_at hl 1 rfl) ?_
      refine lv_icmp_ge (tgt := 31) hx hb dX9_copyRow_6 (by decide) (fun c4 => ?_) (fun c4 => ?_)
      ·
        have q4 : a_b.toInt ≤ x3_4.toInt := i_le c4
        have h5 : rg 1 1 x3_4 := t_ley 1 1 ha_b hhx3_4 (i_le c4) (by decide)
        exact hret _ _ _ _ _ _ dX9_copyRow_31 hT hS ⟨hR2, hF2⟩
      ·
        have q4 : x3_4.toInt < a_b.toInt := i_nle c4
        have h6 : rg 0 0 x3_4 := t_ltx 0 0 hhx3_4 ha_b (i_nle c4) (by decide)
        refine lv_aload_n hx hb dX9_copyRow_9 rfl (lv_at hl 0 rfl) ?_
        refine lv_iload_n hx hb dX9_copyRow_10 rfl (lv_at hl 1 rfl) ?_
        refine lv_iload_n hx hb dX9_copyRow_11 rfl (lv_at hl 3 rfl) ?_
        refine q_imul hx hb dX9_copyRow_12 (fun x7 ex7 => ?_)
        obtain ⟨hx7, ax7⟩ := rg_mul 0 0 ex7 ha_b ha_d (by decide)
        replace ax7 : x7.toInt = a_b.toInt * a_d.toInt := ax7
        refine lv_iload hx hb dX9_copyRow_13 (lv_at hl 4 rfl) ?_
        refine q_iadd hx hb dX9_copyRow_15 (fun x8 ex8 => ?_)
        obtain ⟨hx8, ax8⟩ := rg_add 0 0 ex8 hx7 h6 (by decide)
        replace ax8 : x8.toInt = x7.toInt + x3_4.toInt := ax8
        replace ax8 : x8.toInt = x7.toInt + 0 := by have := h6.1; have := h6.2; omega
        refine lv_aload_n hx hb dX9_copyRow_16 rfl (lv_at hl 0 rfl) ?_
        refine lv_iload_n hx hb dX9_copyRow_17 rfl (lv_at hl 1 rfl) ?_
        refine lv_iload_n hx hb dX9_copyRow_18 rfl (lv_at hl 2 rfl) ?_
        refine q_imul hx hb dX9_copyRow_19 (fun x9 ex9 => ?_)
        obtain ⟨hx9, ax9⟩ := rg_mul 3 3 ex9 ha_b ha_c (by decide)
        replace ax9 : x9.toInt = a_b.toInt * a_c.toInt := ax9
        refine lv_iload hx hb dX9_copyRow_20 (lv_at hl 4 rfl) ?_
        refine q_iadd hx hb dX9_copyRow_22 (fun x10 ex10 => ?_)
        obtain ⟨hx10, ax10⟩ := rg_add 3 3 ex10 hx9 h6 (by decide)
        replace ax10 : x10.toInt = x9.toInt + x3_4.toInt := ax10
        replace ax10 : x10.toInt = x9.toInt + 0 := by have := h6.1; have := h6.2; omega
        refine r_ialdc X hT 102 3 rfl (by decide) (v_in hx10 (by decide)) (cl_c hx10 3 rfl (by decide)) dX9_copyRow_23 ?_
        refine r_iastc X hT hS 102 0 rfl (by decide) (v_in hx8 (by decide)) (cl_c hx8 0 rfl (by decide)) dX9_copyRow_24 (fun H locs i11 ei11 hT hS => ?_)
        have hR11 := Rg_put hR2 ei11 (-2147483648) 2147483647 rfl (rg_top (i2 102 3)) (by decide)
        have hF11 := Fr_puti hF2 ei11 (by decide)
        obtain ⟨x12, ex12⟩ : ∃ y : Int32, y = x3_4 + 1 := ⟨_, rfl⟩
        refine lv_iinc (v := x12) (lv' := [(4, .int x12), (0, .ref (h 102)), (1, .int a_b), (2, .int a_c), (3, .int a_d)]) hx hb dX9_copyRow_25 hl (k := 4) rfl (by rw [ex12]; rfl) (by decide) rfl (fun ls hl => ?_)
        obtain ⟨hx12, ax12⟩ := rg_add 1 1 ex12 h6 (rg_k (by decide) : rg 1 1 1) (by decide)
        replace ax12 : x12.toInt = x3_4.toInt + 1 := ax12
        refine lv_goto (tgt := 3) hx hb dX9_copyRow_28 (by decide) ?_
        exact ih3_ x12 i11 g2 _ _ _ (rg_w hx12 (by decide) : rg 0 1 x12) hR11 hF11 hT hS (lv_sub hl [1, 2, 3, 4, 0] rfl) (m_up ax12 hx12 (by decide) hm3_)
  exact L3_1 _ (0) i g _ _ _ (rg_w (rg_k (by decide) : rg 0 0 0) (by decide) : rg 0 1 0) hR hF hT hS (lv_sub hl [1, 2, 3, 4, 0] rfl) (Nat.lt_succ_self _)
set_option maxRecDepth 100000 in
set_option maxHeartbeats 4000000 in
theorem m_X9_copyRow_103_7_3_0 {l : Launch} {D : va_G} {h : Nat → Nat} {cz : Nat → ClassId} {z : EZ} {i : Nat → Nat → Int32} {g : Nat → Nat → Int64} (hR : Rg rA i) (a_b : Int32) (a_c : Int32) (a_d : Int32) (ha_b : rg 7 7 a_b) (ha_c : rg 3 3 a_c) (ha_d : rg 0 0 a_d) : DtV l yX9_copyRow cX9_copyRow 5 none ({ frames := 0, cells := 0, slots := 0, locals := 0 } : Room) D h cz z i g [.ref (h 103), .int a_b, .int a_c, .int a_d] (fun u => Rg rA u.1 ∧ Fr [103] [] i g u) := by
  refine e_V pn_X9_copyRow (Nat.le_of_ble_eq_true rfl) ?_
  intro p e s m args below meth c ls Q X Y hret hT hl hS
  have hx := X.1
  have hb := X.2.1
  have hl : lv_has ls 5 [(0, .ref (h 103)), (1, .int a_b), (2, .int a_c), (3, .int a_d)] := hl
  have hF : Fr [103] [] i g (i, g) := Fr_rf _ _ _ _
  refine lv_iconst (v := 0) hx hb dX9_copyRow_0 (by decide) ?_
  refine lv_istore (lv' := [(4, .int 0), (0, .ref (h 103)), (1, .int a_b), (2, .int a_c), (3, .int a_d)]) hx hb dX9_copyRow_1 hl (by decide) rfl (fun ls hl => ?_)
  have L3_1 : ∀ (n3_ : Nat) (x3_4 : Int32) (i2 : Nat → Nat → Int32) (g2 : Nat → Nat → Int64) (H : Heap) (locs : List Loc) (ls : Array Slot), rg 0 8 x3_4 → Rg rA i2 → Fr [103] [] i g (i2, g2) → TH D h cz i2 g2 H → va_S (hA h) s.heap H locs → lv_has ls 5 [(0, .ref (h 103)), (1, .int a_b), (2, .int a_c), (3, .int a_d), (4, .int x3_4)] → (8 - x3_4.toInt).toNat < n3_ → W p l e ({ frames := 0, cells := 0, slots := 0, locals := 0 } : Room) s m args below meth c H locs 0 0 Q (F0 m 3 ls []) := by
    intro n3_
    induction n3_ with
    | zero => intro x3_4 i2 g2 H locs ls hhx3_4 hR2 hF2 hT hS hl hm3_; exact absurd hm3_ (Nat.not_lt_zero _)
    | succ n3_ ih3_ =>
      intro x3_4 i2 g2 H locs ls hhx3_4 hR2 hF2 hT hS hl hm3_
      refine lv_iload hx hb dX9_copyRow_3 (lv_at hl 4 rfl) ?_
      refine lv_iload_n hx hb dX9_copyRow_5 rfl (lv_at hl 1 rfl) ?_
      refine lv_icmp_ge (tgt := 31) hx hb dX9_copyRow_6 (by decide) (fun c4 => ?_) (fun c4 => ?_)
      ·
        have q4 : a_b.toInt ≤ x3_4.toInt := i_le c4
        have h5 : rg 7 8 x3_4 := t_ley 7 8 ha_b hhx3_4 (i_le c4) (by decide)
        exact hret _ _ _ _ _ _ dX9_copyRow_31 hT hS ⟨hR2, hF2⟩
      ·
        have q4 : x3_4.toInt < a_b.toInt := i_nle c4
        have h6 : rg 0 6 x3_4 := t_ltx 0 6 hhx3_4 ha_b (i_nle c4) (by decide)
        refine lv_aload_n hx hb dX9_copyRow_9 rfl (lv_at hl 0 rfl) ?_
        refine lv_iload_n hx hb dX9_copyRow_10 rfl (lv_at hl 1 rfl) ?_
        refine lv_iload_n hx hb dX9_copyRow_11 rfl (lv_at hl 3 rfl) ?_
        refine q_imul hx hb dX9_copyRow_12 (fun x7 ex7 => ?_)
        obtain ⟨hx7, ax7⟩ := rg_mul 0 0 ex7 ha_b ha_d (by decide)
        replace ax7 : x7.toInt = a_b.toInt * a_d.toInt := ax7
        refine lv_iload hx hb dX9_copyRow_13 (lv_at hl 4 rfl) ?_
        refine q_iadd hx hb dX9_copyRow_15 (fun x8 ex8 => ?_)
        obtain ⟨hx8, ax8⟩ := rg_add 0 6 ex8 hx7 h6 (by decide)
        replace ax8 : x8.toInt = x7.toInt + x3_4.toInt := ax8
        replace ax8 : x8.toInt = x3_4.toInt + 0 := by have := hx7.1; have := hx7.2; omega
        refine lv_aload_n hx hb dX9_copyRow_16 rfl (lv_at hl 0 rfl) ?_
        refine lv_iload_n hx hb dX9_copyRow_17 rfl (lv_at hl 1 rfl) ?_
        refine lv_iload_n hx hb dX9_copyRow_18 rfl (lv_at hl 2 rfl) ?_
        refine q_imul hx hb dX9_copyRow_19 (fun x9 ex9 => ?_)
        obtain ⟨hx9, ax9⟩ := rg_mul 21 21 ex9 ha_b ha_c (by decide)
        replace ax9 : x9.toInt = a_b.toInt * a_c.toInt := ax9
        refine lv_iload hx hb dX9_copyRow_20 (lv_at hl 4 rfl) ?_
        refine q_iadd hx hb dX9_copyRow_22 (fun x10 ex10 => ?_)
        obtain ⟨hx10, ax10⟩ := rg_add 21 27 ex10 hx9 h6 (by decide)
        replace ax10 : x10.toInt = x9.toInt + x3_4.toInt := ax10
        replace ax10 : x10.toInt = x3_4.toInt + 21 := by have := hx9.1; have := hx9.2; omega
        refine r_iald X hT 103 rfl (by decide) (v_in hx10 (by decide)) dX9_copyRow_23 ?_
        have h11 : rg 0 20 (i2 103 x10.toNatClampNeg) := Rg_ata hR2 103 x10.toNatClampNeg 0 20 (v_lt (v_in hx10 (by decide))) (aff_at (m := 1) (a := 0) (n := 7) (c := 21) (by decide) (v := x3_4.toInt) ⟨by have := h6.1; omega, by have := h6.2; omega⟩ (by have := ax10; omega))
        refine r_iast X hT hS 103 rfl (by decide) (v_in hx8 (by decide)) dX9_copyRow_24 (fun H locs i12 ei12 hT hS => ?_)
        have hR12 := Rg_mv hR2 ei12 (v_lt (v_in hx10 (by decide))) (aff_mv (T := rA) (j := 103) (m := 1) (a := 0) (n := 7) (c := 0) (c1 := 21) (by decide) (v := x3_4.toInt) ⟨by have := h6.1; omega, by have := h6.2; omega⟩ (by have := ax8; omega) (by have := ax10; omega))
        have hF12 := Fr_puti hF2 ei12 (by decide)
        obtain ⟨x13, ex13⟩ : ∃ y : Int32, y = x3_4 + 1 := ⟨_, rfl⟩
        refine lv_iinc (v := x13) (lv' := [(4, .int x13), (0, .ref (h 103)), (1, .int a_b), (2, .int a_c), (3, .int a_d)]) hx hb dX9_copyRow_25 hl (k := 4) rfl (by rw [ex13]; rfl) (by decide) rfl (fun ls hl => ?_)
        obtain ⟨hx13, ax13⟩ := rg_add 1 7 ex13 h6 (rg_k (by decide) : rg 1 1 1) (by decide)
        replace ax13 : x13.toInt = x3_4.toInt + 1 := ax13
        refine lv_goto (tgt := 3) hx hb dX9_copyRow_28 (by decide) ?_
        exact ih3_ x13 i12 g2 _ _ _ (rg_w hx13 (by decide) : rg 0 8 x13) hR12 hF12 hT hS (lv_sub hl [1, 2, 3, 4, 0] rfl) (m_up ax13 hx13 (by decide) hm3_)
  exact L3_1 _ (0) i g _ _ _ (rg_w (rg_k (by decide) : rg 0 0 0) (by decide) : rg 0 8 0) hR hF hT hS (lv_sub hl [1, 2, 3, 4, 0] rfl) (Nat.lt_succ_self _)
set_option maxRecDepth 100000 in
set_option maxHeartbeats 4000000 in
theorem m_X9_copyRow_104_18_3_0 {l : Launch} {D : va_G} {h : Nat → Nat} {cz : Nat → ClassId} {z : EZ} {i : Nat → Nat → Int32} {g : Nat → Nat → Int64} (hR : Rg rA i) (a_b : Int32) (a_c : Int32) (a_d : Int32) (ha_b : rg 18 18 a_b) (ha_c : rg 3 3 a_c) (ha_d : rg 0 0 a_d) : DtV l yX9_copyRow cX9_copyRow 5 none ({ frames := 0, cells := 0, slots := 0, locals := 0 } : Room) D h cz z i g [.ref (h 104), .int a_b, .int a_c, .int a_d] (fun u => Rg rA u.1 ∧ Fr [104] [] i g u) := by
  refine e_V pn_X9_copyRow (Nat.le_of_ble_eq_true rfl) ?_
  intro p e s m args below meth c ls Q X Y hret hT hl hS
  have hx := X.1
  have hb := X.2.1
  have hl : lv_has ls 5 [(0, .ref (h 104)), (1, .int a_b), (2, .int a_c), (3, .int a_d)] := hl
  have hF : Fr [104] [] i g (i, g) := Fr_rf _ _ _ _
  refine lv_iconst (v := 0) hx hb dX9_copyRow_0 (by decide) ?_
  refine lv_istore (lv' := [(4, .int 0), (0, .ref (h 104)), (1, .int a_b), (2, .int a_c), (3, .int a_d)]) hx hb dX9_copyRow_1 hl (by decide) rfl (fun ls hl => ?_)
  have L3_1 : ∀ (n3_ : Nat) (x3_4 : Int32) (i2 : Nat → Nat → Int32) (g2 : Nat → Nat → Int64) (H : Heap) (locs : List Loc) (ls : Array Slot), rg 0 20 x3_4 → Rg rA i2 → Fr [104] [] i g (i2, g2) → TH D h cz i2 g2 H → va_S (hA h) s.heap H locs → lv_has ls 5 [(0, .ref (h 104)), (1, .int a_b), (2, .int a_c), (3, .int a_d), (4, .int x3_4)] → (20 - x3_4.toInt).toNat < n3_ → W p l e ({ frames := 0, cells := 0, slots := 0, locals := 0 } : Room) s m args below meth c H locs 0 0 Q (F0 m 3 ls []) := by
    intro n3_
    induction n3_ with
    | zero => intro x3_4 i2 g2 H locs ls hhx3_4 hR2 hF2 hT hS hl hm3_; exact absurd hm3_ (Nat.not_lt_zero _)
    | succ n3_ ih3_ =>
      intro x3_4 i2 g2 H locs ls hhx3_4 hR2 hF2 hT hS hl hm3_
      refine lv_iload hx hb dX9_copyRow_3 (lv_at hl 4 rfl) ?_
      refine lv_iload_n hx hb dX9_copyRow_5 rfl (lv_at hl 1 rfl) ?_
      refine lv_icmp_ge (tgt := 31) hx hb dX9_copyRow_6 (by decide) (fun c4 => ?_) (fun c4 => ?_)
      ·
        have q4 : a_b.toInt ≤ x3_4.toInt := i_le c4
        have h5 : rg 18 20 x3_4 := t_ley 18 20 ha_b hhx3_4 (i_le c4) (by decide)
        exact hret _ _ _ _ _ _ dX9_copyRow_31 hT hS ⟨hR2, hF2⟩
      ·
        have q4 : x3_4.toInt < a_b.toInt := i_nle c4
        have h6 : rg 0 17 x3_4 := t_ltx 0 17 hhx3_4 ha_b (i_nle c4) (by decide)
        refine lv_aload_n hx hb dX9_copyRow_9 rfl (lv_at hl 0 rfl) ?_
        refine lv_iload_n hx hb dX9_copyRow_10 rfl (lv_at hl 1 rfl) ?_
        refine lv_iload_n hx hb dX9_copyRow_11 rfl (lv_at hl 3 rfl) ?_
        refine q_imul hx hb dX9_copyRow_12 (fun x7 ex7 => ?_)
        obtain ⟨hx7, ax7⟩ := rg_mul 0 0 ex7 ha_b ha_d (by decide)
        replace ax7 : x7.toInt = a_b.toInt * a_d.toInt := ax7
        refine lv_iload hx hb dX9_copyRow_13 (lv_at hl 4 rfl) ?_
        refine q_iadd hx hb dX9_copyRow_15 (fun x8 ex8 => ?_)
        obtain ⟨hx8, ax8⟩ := rg_add 0 17 ex8 hx7 h6 (by decide)
        replace ax8 : x8.toInt = x7.toInt + x3_4.toInt := ax8
        replace ax8 : x8.toInt = x3_4.toInt + 0 := by have := hx7.1; have := hx7.2; omega
        refine lv_aload_n hx hb dX9_copyRow_16 rfl (lv_at hl 0 rfl) ?_
        refine lv_iload_n hx hb dX9_copyRow_17 rfl (lv_at hl 1 rfl) ?_
        refine lv_iload_n hx hb dX9_copyRow_18 rfl (lv_at hl 2 rfl) ?_
        refine q_imul hx hb dX9_copyRow_19 (fun x9 ex9 => ?_)
        obtain ⟨hx9, ax9⟩ := rg_mul 54 54 ex9 ha_b ha_c (by decide)
        replace ax9 : x9.toInt = a_b.toInt * a_c.toInt := ax9
        refine lv_iload hx hb dX9_copyRow_20 (lv_at hl 4 rfl) ?_
        refine q_iadd hx hb dX9_copyRow_22 (fun x10 ex10 => ?_)
        obtain ⟨hx10, ax10⟩ := rg_add 54 71 ex10 hx9 h6 (by decide)
        replace ax10 : x10.toInt = x9.toInt + x3_4.toInt := ax10
        replace ax10 : x10.toInt = x3_4.toInt + 54 := by have := hx9.1; have := hx9.2; omega
        refine r_iald X hT 104 rfl (by decide) (v_in hx10 (by decide)) dX9_copyRow_23 ?_
        refine r_iast X hT hS 104 rfl (by decide) (v_in hx8 (by decide)) dX9_copyRow_24 (fun H locs i11 ei11 hT hS => ?_)
        have hR11 := Rg_put hR2 ei11 0 60 rfl (Rg_at hR2 104 x10.toNatClampNeg 0 60 (v_lt (v_in hx10 (by decide))) rfl) (by decide)
        have hF11 := Fr_puti hF2 ei11 (by decide)
        obtain ⟨x12, ex12⟩ : ∃ y : Int32, y = x3_4 + 1 := ⟨_, rfl⟩
        refine lv_iinc (v := x12) (lv' := [(4, .int x12), (0, .ref (h 104)), (1, .int a_b), (2, .int a_c), (3, .int a_d)]) hx hb dX9_copyRow_25 hl (k := 4) rfl (by rw [ex12]; rfl) (by decide) rfl (fun ls hl => ?_)
        obtain ⟨hx12, ax12⟩ := rg_add 1 18 ex12 h6 (rg_k (by decide) : rg 1 1 1) (by decide)
        replace ax12 : x12.toInt = x3_4.toInt + 1 := ax12
        refine lv_goto (tgt := 3) hx hb dX9_copyRow_28 (by decide) ?_
        exact ih3_ x12 i11 g2 _ _ _ (rg_w hx12 (by decide) : rg 0 20 x12) hR11 hF11 hT hS (lv_sub hl [1, 2, 3, 4, 0] rfl) (m_up ax12 hx12 (by decide) hm3_)
  exact L3_1 _ (0) i g _ _ _ (rg_w (rg_k (by decide) : rg 0 0 0) (by decide) : rg 0 20 0) hR hF hT hS (lv_sub hl [1, 2, 3, 4, 0] rfl) (Nat.lt_succ_self _)
set_option maxRecDepth 100000 in
set_option maxHeartbeats 4000000 in
theorem m_X9_copyRow_105_20_3_0 {l : Launch} {D : va_G} {h : Nat → Nat} {cz : Nat → ClassId} {z : EZ} {i : Nat → Nat → Int32} {g : Nat → Nat → Int64} (hR : Rg rA i) (a_b : Int32) (a_c : Int32) (a_d : Int32) (ha_b : rg 20 20 a_b) (ha_c : rg 3 3 a_c) (ha_d : rg 0 0 a_d) : DtV l yX9_copyRow cX9_copyRow 5 none ({ frames := 0, cells := 0, slots := 0, locals := 0 } : Room) D h cz z i g [.ref (h 105), .int a_b, .int a_c, .int a_d] (fun u => Rg rA u.1 ∧ Fr [105] [] i g u) := by
  refine e_V pn_X9_copyRow (Nat.le_of_ble_eq_true rfl) ?_
  intro p e s m args below meth c ls Q X Y hret hT hl hS
  have hx := X.1
  have hb := X.2.1
  have hl : lv_has ls 5 [(0, .ref (h 105)), (1, .int a_b), (2, .int a_c), (3, .int a_d)] := hl
  have hF : Fr [105] [] i g (i, g) := Fr_rf _ _ _ _
  refine lv_iconst (v := 0) hx hb dX9_copyRow_0 (by decide) ?_
  refine lv_istore (lv' := [(4, .int 0), (0, .ref (h 105)), (1, .int a_b), (2, .int a_c), (3, .int a_d)]) hx hb dX9_copyRow_1 hl (by decide) rfl (fun ls hl => ?_)
  have L3_1 : ∀ (n3_ : Nat) (x3_4 : Int32) (i2 : Nat → Nat → Int32) (g2 : Nat → Nat → Int64) (H : Heap) (locs : List Loc) (ls : Array Slot), rg 0 20 x3_4 → Rg rA i2 → Fr [105] [] i g (i2, g2) → TH D h cz i2 g2 H → va_S (hA h) s.heap H locs → lv_has ls 5 [(0, .ref (h 105)), (1, .int a_b), (2, .int a_c), (3, .int a_d), (4, .int x3_4)] → (20 - x3_4.toInt).toNat < n3_ → W p l e ({ frames := 0, cells := 0, slots := 0, locals := 0 } : Room) s m args below meth c H locs 0 0 Q (F0 m 3 ls []) := by
    intro n3_
    induction n3_ with
    | zero => intro x3_4 i2 g2 H locs ls hhx3_4 hR2 hF2 hT hS hl hm3_; exact absurd hm3_ (Nat.not_lt_zero _)
    | succ n3_ ih3_ =>
      intro x3_4 i2 g2 H locs ls hhx3_4 hR2 hF2 hT hS hl hm3_
      refine lv_iload hx hb dX9_copyRow_3 (lv_at hl 4 rfl) ?_
      refine lv_iload_n hx hb dX9_copyRow_5 rfl (lv_at hl 1 rfl) ?_
      refine lv_icmp_ge (tgt := 31) hx hb dX9_copyRow_6 (by decide) (fun c4 => ?_) (fun c4 => ?_)
      ·
        have q4 : a_b.toInt ≤ x3_4.toInt := i_le c4
        have h5 : rg 20 20 x3_4 := t_ley 20 20 ha_b hhx3_4 (i_le c4) (by decide)
        exact hret _ _ _ _ _ _ dX9_copyRow_31 hT hS ⟨hR2, hF2⟩
      ·
        have q4 : x3_4.toInt < a_b.toInt := i_nle c4
        have h6 : rg 0 19 x3_4 := t_ltx 0 19 hhx3_4 ha_b (i_nle c4) (by decide)
        refine lv_aload_n hx hb dX9_copyRow_9 rfl (lv_at hl 0 rfl) ?_
        refine lv_iload_n hx hb dX9_copyRow_10 rfl (lv_at hl 1 rfl) ?_
        refine lv_iload_n hx hb dX9_copyRow_11 rfl (lv_at hl 3 rfl) ?_
        refine q_imul hx hb dX9_copyRow_12 (fun x7 ex7 => ?_)
        obtain ⟨hx7, ax7⟩ := rg_mul 0 0 ex7 ha_b ha_d (by decide)
        replace ax7 : x7.toInt = a_b.toInt * a_d.toInt := ax7
        refine lv_iload hx hb dX9_copyRow_13 (lv_at hl 4 rfl) ?_
        refine q_iadd hx hb dX9_copyRow_15 (fun x8 ex8 => ?_)
        obtain ⟨hx8, ax8⟩ := rg_add 0 19 ex8 hx7 h6 (by decide)
        replace ax8 : x8.toInt = x7.toInt + x3_4.toInt := ax8
        replace ax8 : x8.toInt = x3_4.toInt + 0 := by have := hx7.1; have := hx7.2; omega
        refine lv_aload_n hx hb dX9_copyRow_16 rfl (lv_at hl 0 rfl) ?_
        refine lv_iload_n hx hb dX9_copyRow_17 rfl (lv_at hl 1 rfl) ?_
        refine lv_iload_n hx hb dX9_copyRow_18 rfl (lv_at hl 2 rfl) ?_
        refine q_imul hx hb dX9_copyRow_19 (fun x9 ex9 => ?_)
        obtain ⟨hx9, ax9⟩ := rg_mul 60 60 ex9 ha_b ha_c (by decide)
        replace ax9 : x9.toInt = a_b.toInt * a_c.toInt := ax9
        refine lv_iload hx hb dX9_copyRow_20 (lv_at hl 4 rfl) ?_
        refine q_iadd hx hb dX9_copyRow_22 (fun x10 ex10 => ?_)
        obtain ⟨hx10, ax10⟩ := rg_add 60 79 ex10 hx9 h6 (by decide)
        replace ax10 : x10.toInt = x9.toInt + x3_4.toInt := ax10
        replace ax10 : x10.toInt = x3_4.toInt + 60 := by have := hx9.1; have := hx9.2; omega
        refine r_iald X hT 105 rfl (by decide) (v_in hx10 (by decide)) dX9_copyRow_23 ?_
        refine r_iast X hT hS 105 rfl (by decide) (v_in hx8 (by decide)) dX9_copyRow_24 (fun H locs i11 ei11 hT hS => ?_)
        have hR11 := Rg_put hR2 ei11 0 5 rfl (Rg_at hR2 105 x10.toNatClampNeg 0 5 (v_lt (v_in hx10 (by decide))) rfl) (by decide)
        have hF11 := Fr_puti hF2 ei11 (by decide)
        obtain ⟨x12, ex12⟩ : ∃ y : Int32, y = x3_4 + 1 := ⟨_, rfl⟩
        refine lv_iinc (v := x12) (lv' := [(4, .int x12), (0, .ref (h 105)), (1, .int a_b), (2, .int a_c), (3, .int a_d)]) hx hb dX9_copyRow_25 hl (k := 4) rfl (by rw [ex12]; rfl) (by decide) rfl (fun ls hl => ?_)
        obtain ⟨hx12, ax12⟩ := rg_add 1 20 ex12 h6 (rg_k (by decide) : rg 1 1 1) (by decide)
        replace ax12 : x12.toInt = x3_4.toInt + 1 := ax12
        refine lv_goto (tgt := 3) hx hb dX9_copyRow_28 (by decide) ?_
        exact ih3_ x12 i11 g2 _ _ _ (rg_w hx12 (by decide) : rg 0 20 x12) hR11 hF11 hT hS (lv_sub hl [1, 2, 3, 4, 0] rfl) (m_up ax12 hx12 (by decide) hm3_)
  exact L3_1 _ (0) i g _ _ _ (rg_w (rg_k (by decide) : rg 0 0 0) (by decide) : rg 0 20 0) hR hF hT hS (lv_sub hl [1, 2, 3, 4, 0] rfl) (Nat.lt_succ_self _)
